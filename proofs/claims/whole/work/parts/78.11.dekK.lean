-- needs: 71 72 73 74 75 76 77
/-! DECLARATIONS: one is cancelled -/
section DL
variable {xs : Nat → Int32} {xl d : Nat} {M : dp_M}
theorem DBd.cancel {K : dp_M} {D A R i g : Nat} (h : DBd M D A R) (hi : i < D) (hs : dp_I M 241 i = 0 ∨ dp_I M 241 i = 1) (hg : dp_I M 233 i = nI g) (hg3 : g < 300) (k111 : dp_J K 111 = uI (dp_J M 111) (i * 23 + 7) 4) (k241 : dp_I K 241 = uI (dp_I M 241) i 4) (k110 : dp_I K 110 = uI (dp_I M 110) g 0) (sI : ∀ k ∈ [109, 196, 233, 234, 235, 236, 237, 238, 243, 244], dp_I K k = dp_I M k) (sJ : ∀ k ∈ [239, 240, 242], dp_J K k = dp_J M k) (k108 : dp_I K 108 5 = dp_I M 108 5) (f : ∀ q ∈ RelD_T, dp_I K 114 q = dp_I M 114 q)
    (hr : ∀ j, j < D → j ≠ i → dp_I M 241 j = 1 → ∀ q : Nat, dp_I M 243 j = nI q → 1 ≤ q → q ≤ R → dp_I K 215 q = dp_I M 215 q ∧ dp_J K 96 (q * 12 + 1) = dp_J M 96 (q * 12 + 1)) : DBd K D A R := by
  obtain ⟨h1, h2, h3, h4, h5, h6, h7, h8, h9, h10, h11, h12, h13, h14⟩ := h
  have s4 : ¬ dp_I M 241 i = 4 := by rcases hs with q | q <;> rw [q] <;> decide
  have t : ∀ j k, k < 23 → (j ≠ i ∨ k ≠ 7) → dp_J K 111 (j * 23 + k) = dp_J M 111 (j * 23 + k) := fun j k hk hz => by rw [k111, uI_n (by omega)]
  refine ⟨h1, by rw [k108]; exact h2, by rw [f 160 (by decide)]; exact h3, by rw [f 111 (by decide)]; exact h4, h5, by rw [f 133 (by decide)]; exact h6, h7, fun j hj => ?_, fun j hj1 hj2 => ?_, fun a ha => by rw [sI 196 (by decide)]; exact h10 a ha, fun x hx => ?_, fun j k hj hk => ?_, ?_, ?_⟩
  · obtain ⟨k1, k2, k3, k4⟩ := h8 j hj
    refine ⟨?_, ?_, fun u hu => ?_, k4.c (by rw [sI 109 (by decide)]) (fun a _ => by rw [sI 196 (by decide)])⟩
    · unfold DFa at k1 ⊢
      rw [t j 0 (by omega) (by omega), t j 1 (by omega) (by omega), t j 2 (by omega) (by omega), t j 3 (by omega) (by omega), t j 4 (by omega) (by omega), t j 5 (by omega) (by omega), t j 6 (by omega) (by omega), sI 233 (by decide), sI 234 (by decide), sI 235 (by decide), sI 236 (by decide), sI 237 (by decide), sI 238 (by decide), sJ 239 (by decide)]; exact k1
    · obtain ⟨m1, m2, m3, m4, m5, m6, m7, m8, m9⟩ := k2
      by_cases z : j = i
      · subst z
        unfold DSt
        rw [k111, k241, uI_s, uI_s, uI_n (by omega), uI_n (by omega), uI_n (by omega), sJ 242 (by decide), sI 243 (by decide), sI 244 (by decide)]
        exact ⟨rfl, by decide, m3, m4, m5, m6, ⟨m7.1, fun q => absurd q (by decide)⟩, fun q => absurd q (by decide), fun q => absurd q (by decide)⟩
      · unfold DSt
        rw [t j 7 (by omega) (Or.inl z), t j 8 (by omega) (by omega), t j 9 (by omega) (by omega), t j 10 (by omega) (by omega), k241, uI_n z, sJ 242 (by decide), sI 243 (by decide), sI 244 (by decide)]
        refine ⟨m1, m2, m3, m4, m5, m6, m7, m8, fun q => ?_⟩
        rcases m9 q with w | ⟨w1, r, r1, r2, r3, r4, r5⟩
        · exact Or.inl w
        · obtain ⟨y1, y2⟩ := hr j hj z q r r3 r1 r2
          exact Or.inr ⟨w1, r, r1, r2, r3, by rw [y1]; exact r4, by rw [y2]; exact r5⟩
    · rw [t j _ (by omega) (by omega), sJ 240 (by decide)]; exact k3 u hu
  · obtain ⟨x1, x2, x3, x4, x5, x6, x7⟩ := h9 j hj1 hj2
    unfold DNw
    rw [t j 7 (by omega) (by omega), t j 8 (by omega) (by omega), t j 9 (by omega) (by omega), k241, uI_n (by omega), sI 243 (by decide), sJ 242 (by decide), sJ 240 (by decide)]
    exact ⟨x1, x2, x3, x4, x5, x6, x7⟩
  · rw [k110, sI 233 (by decide)]
    by_cases z : x = g
    · subst z
      rw [uI_s, bI_f]
      intro q
      obtain ⟨j, j1, j2⟩ := an_iff.mp q
      obtain ⟨q1, q2⟩ := tkf_t.mp j2
      rw [k241] at q2
      by_cases w : j = i
      · subst w; rw [uI_s] at q2; exact q2 rfl
      · rw [uI_n w] at q2
        exact w (h14 j i j1 hi q2 s4 (by rw [q1, hg]))
    · rw [uI_n z, h11 x hx]
      have ea : an (tkf (dp_I M 233) (dp_I K 241) x) D = an (tkf (dp_I M 233) (dp_I M 241) x) D := an_c (fun j hj => by
        by_cases w : j = i
        · subst w
          have q1 : tkf (dp_I M 233) (dp_I K 241) x j = false := Bool.eq_false_iff.mpr (fun q => by
            have := (tkf_t.mp q).1
            rw [hg, nI_eq (by omega) (by omega)] at this
            exact z this.symm)
          have q2 : tkf (dp_I M 233) (dp_I M 241) x j = false := Bool.eq_false_iff.mpr (fun q => by
            have := (tkf_t.mp q).1
            rw [hg, nI_eq (by omega) (by omega)] at this
            exact z this.symm)
          rw [q1, q2]
        · unfold tkf; rw [k241, uI_n w])
      by_cases w : an (tkf (dp_I M 233) (dp_I M 241) x) D = true
      · rw [bI_t w, bI_t (by rw [ea]; exact w)]
      · rw [bI_f w, bI_f (by rw [ea]; exact w)]
  · rw [k241, sI 243 (by decide)]
    intro q1 q2 q3 q4
    by_cases z : j = i
    · subst z; rw [uI_s] at q1; exact absurd q1 (by decide)
    · by_cases z2 : k = i
      · subst z2; rw [uI_s] at q2; exact absurd q2 (by decide)
      · rw [uI_n z] at q1; rw [uI_n z2] at q2
        exact h12 j k hj hk q1 q2 q3 q4
  · refine Nat.le_trans h13 (ct_mono _ (fun j _ q => ?_))
    rw [decide_eq_true_eq] at q ⊢
    rw [k241]
    by_cases z : j = i
    · subst z; rw [uI_s]; decide
    · rw [uI_n z]; exact q
  · rw [k241, sI 233 (by decide)]
    intro j k hj hk q1 q2 q3
    by_cases z : j = i
    · subst z; rw [uI_s] at q1; exact absurd rfl q1
    · by_cases z2 : k = i
      · subst z2; rw [uI_s] at q2; exact absurd rfl q2
      · rw [uI_n z] at q1; rw [uI_n z2] at q2
        exact h14 j k hj hk q1 q2 q3
end DL
