-- needs: 71 72 73 74 75 76 77 78 79
/-! ASSESS: a declaration becomes secured -/
section DuL
variable {M : dp_M}
theorem DBd.roomR {D A R i : Nat} (h : DBd M D A R) (hi : i < D) (hst : dp_I M 241 i = 0) : R + 1 ≤ D := by
  obtain ⟨h1, -, -, -, -, -, -, -, -, -, -, -, h13, -⟩ := h
  have e := ct_in1 (p := fun j => decide (¬ dp_I M 241 j = 0)) (q := fun j => decide (¬ dp_I M 241 j = 0) || decide (j = i)) (i := i) (decide_eq_false (fun q => q hst)) (by rw [decide_eq_true (rfl : i = i), Bool.or_true]) D (fun j _ hj => by rw [decide_eq_false hj, Bool.or_false]) hi
  have := ct_le (fun j => decide (¬ dp_I M 241 j = 0) || decide (j = i)) D
  omega
theorem DBd.secure {K : dp_M} {D A R R2 i : Nat} {v : Int64} {r : Int32} (h : DBd M D A R) (hi : i < D) (hst : dp_I M 241 i = 0) (v0 : 0 ≤ v.toInt) (v1 : v.toInt ≤ 1000000000)
    (hr : (v = 0 ∧ r = 0 ∧ R2 = R) ∨ (¬ v = 0 ∧ r = nI (R + 1) ∧ R2 = R + 1 ∧ dp_I K 215 (R + 1) = 0 ∧ dp_J K 96 ((R + 1) * 12 + 1) = v))
    (k7 : dp_J K 111 (i * 23 + 7) = 1) (k8 : dp_J K 111 (i * 23 + 8) = v) (k9 : dp_J K 111 (i * 23 + 9) = r.toInt64) (t : ∀ j k, k < 23 → (j ≠ i ∨ (k ≠ 7 ∧ k ≠ 8 ∧ k ≠ 9)) → dp_J K 111 (j * 23 + k) = dp_J M 111 (j * 23 + k))
    (k241 : dp_I K 241 = uI (dp_I M 241) i 1) (k242 : dp_J K 242 = uI (dp_J M 242) i v) (k243 : dp_I K 243 = uI (dp_I M 243) i r) (sI : ∀ k ∈ [109, 110, 196, 233, 234, 235, 236, 237, 238, 244], dp_I K k = dp_I M k) (sJ : ∀ k ∈ [239, 240], dp_J K k = dp_J M k) (k108 : dp_I K 108 5 = dp_I M 108 5) (f : ∀ q ∈ [111, 160], dp_I K 114 q = dp_I M 114 q) (k133 : dp_I K 114 133 = nI R2)
    (hq : ∀ q, q ≤ R → dp_I K 215 q = dp_I M 215 q ∧ dp_J K 96 (q * 12 + 1) = dp_J M 96 (q * 12 + 1)) : DBd K D A R2 := by
  have rm := h.roomR hi hst
  obtain ⟨h1, h2, h3, h4, h5, h6, h7, h8, h9, h10, h11, h12, h13, h14⟩ := h
  have hst' : dp_I M 241 i = 0 := hst
  have R2' : R ≤ R2 ∧ R2 ≤ R + 1 := by rcases hr with ⟨-, -, q⟩ | ⟨-, -, q, -⟩ <;> omega
  have n4 : ∀ j, dp_I K 241 j = 4 ↔ dp_I M 241 j = 4 := fun j => by
    rw [k241]
    by_cases z : j = i
    · subst z; rw [uI_s, hst']; decide
    · rw [uI_n z]
  have tk : ∀ g, tkf (dp_I M 233) (dp_I K 241) g = tkf (dp_I M 233) (dp_I M 241) g := fun g => funext (fun j => by
    unfold tkf
    exact decide_eq_decide.mpr ⟨fun q => ⟨q.1, fun w => q.2 ((n4 j).mpr w)⟩, fun q => ⟨q.1, fun w => q.2 ((n4 j).mp w)⟩⟩)
  -- who else is secured has an older reservation, or none
  have old : ∀ j, j < D → j ≠ i → dp_I K 241 j = 1 → dp_I M 241 j = 1 ∧ dp_I K 243 j = dp_I M 243 j ∧ (dp_I M 243 j = 0 ∨ ∃ q : Nat, 1 ≤ q ∧ q ≤ R ∧ dp_I M 243 j = nI q) := fun j hj z q => by
    rw [k241, uI_n z] at q
    refine ⟨q, by rw [k243, uI_n z], ?_⟩
    obtain ⟨-, -, -, -, -, -, -, -, m9⟩ := (h8 j hj).2.1
    rcases m9 q with w | ⟨-, x, x1, x2, x3, -⟩
    · exact Or.inl w.2
    · exact Or.inr ⟨x, x1, x2, x3⟩
  refine ⟨h1, by rw [k108]; exact h2, by rw [f 160 (by decide)]; exact h3, by rw [f 111 (by decide)]; exact h4, h5, k133, by omega, fun j hj => ?_, fun j hj1 hj2 => ?_, fun a ha => by rw [sI 196 (by decide)]; exact h10 a ha, fun x hx => ?_, fun j k hj hk q1 q2 => ?_, ?_, fun j k hj hk q1 q2 => ?_⟩
  · obtain ⟨k1, k2, k3, k4⟩ := h8 j hj
    refine ⟨?_, ?_, fun u hu => ?_, k4.c (by rw [sI 109 (by decide)]) (fun a _ => by rw [sI 196 (by decide)])⟩
    · unfold DFa at k1 ⊢
      rw [t j 0 (by omega) (by omega), t j 1 (by omega) (by omega), t j 2 (by omega) (by omega), t j 3 (by omega) (by omega), t j 4 (by omega) (by omega), t j 5 (by omega) (by omega), t j 6 (by omega) (by omega), sI 233 (by decide), sI 234 (by decide), sI 235 (by decide), sI 236 (by decide), sI 237 (by decide), sI 238 (by decide), sJ 239 (by decide)]; exact k1
    · obtain ⟨m1, m2, m3, m4, m5, m6, m7, m8, m9⟩ := k2
      by_cases z : j = i
      · subst z
        unfold DSt
        rw [k7, k8, k9, t j 10 (by omega) (by omega), k241, uI_s, k242, uI_s, k243, uI_s, sI 244 (by decide)]
        refine ⟨rfl, by decide, rfl, v0, v1, rfl, ⟨m7.1, fun _ => m7.2 (Or.inl hst)⟩, fun q => absurd q (by decide), fun _ => ?_⟩
        rcases hr with ⟨a, b, -⟩ | ⟨a, b, c, e1, e2⟩
        · exact Or.inl ⟨a, b⟩
        · exact Or.inr ⟨a, R + 1, by omega, by omega, b, e1, e2⟩
      · unfold DSt
        rw [t j 7 (by omega) (Or.inl z), t j 8 (by omega) (Or.inl z), t j 9 (by omega) (Or.inl z), t j 10 (by omega) (Or.inl z), k241, uI_n z, k242, uI_n z, k243, uI_n z, sI 244 (by decide)]
        refine ⟨m1, m2, m3, m4, m5, m6, m7, m8, fun q => ?_⟩
        rcases m9 q with w | ⟨w1, x, r1, r2, r3, r4, r5⟩
        · exact Or.inl w
        · obtain ⟨y1, y2⟩ := hq x r2
          exact Or.inr ⟨w1, x, r1, by omega, r3, by rw [y1]; exact r4, by rw [y2]; exact r5⟩
    · rw [t j _ (by omega) (by omega), sJ 240 (by decide)]; exact k3 u hu
  · obtain ⟨x1, x2, x3, x4, x5, x6, x7⟩ := h9 j hj1 hj2
    unfold DNw
    rw [t j 7 (by omega) (by omega), t j 8 (by omega) (by omega), t j 9 (by omega) (by omega), k241, uI_n (by omega), k243, uI_n (by omega), k242, uI_n (by omega), sJ 240 (by decide)]
    exact ⟨x1, x2, x3, x4, x5, x6, x7⟩
  · rw [sI 110 (by decide), sI 233 (by decide), tk]; exact h11 x hx
  · intro q3 q4
    have q3' : ¬ dp_I K 243 j = 0 := q3
    have q4' : dp_I K 243 j = dp_I K 243 k := q4
    have q1' : dp_I K 241 j = 1 := q1
    have q2' : dp_I K 241 k = 1 := q2
    by_cases zj : j = i
    · by_cases zk : k = i
      · rw [zj, zk]
      · exfalso
        obtain ⟨o1, o2, o3⟩ := old k hk zk q2'
        rw [zj, k243, uI_s] at q3' q4'
        rw [uI_n zk] at q4'
        rcases hr with ⟨-, b, -⟩ | ⟨-, b, -⟩
        · exact q3' b
        · rw [b] at q4' q3'
          rcases o3 with o3 | ⟨x, x1, x2, x3⟩
          · rw [o3] at q4'; exact q3' q4'
          · rw [x3, nI_eq (by omega) (by omega)] at q4'; omega
    · obtain ⟨o1, o2, o3⟩ := old j hj zj q1'
      by_cases zk : k = i
      · exfalso
        rw [zk, k243, uI_s, uI_n zj] at q4'
        rw [k243, uI_n zj] at q3'
        rcases hr with ⟨-, b, -⟩ | ⟨-, b, -⟩
        · rw [b] at q4'; exact q3' q4'
        · rw [b] at q4'
          rcases o3 with o3 | ⟨x, x1, x2, x3⟩
          · exact q3' o3
          · rw [x3, nI_eq (by omega) (by omega)] at q4'; omega
      · obtain ⟨p1, p2, p3⟩ := old k hk zk q2'
        exact h12 j k hj hk o1 p1 (by show ¬ dp_I M 243 j = 0; rw [← o2]; exact q3') (by show dp_I M 243 j = dp_I M 243 k; rw [← o2, ← p2]; exact q4')
  · have e := ct_in1 (p := fun j => decide (¬ dp_I M 241 j = 0)) (q := fun j => decide (¬ dp_I K 241 j = 0)) (i := i) (decide_eq_false (fun q => q hst)) (decide_eq_true (by show ¬ dp_I K 241 i = 0; rw [k241, uI_s]; decide)) D (fun j _ hj => decide_eq_decide.mpr (by show ¬ dp_I K 241 j = 0 ↔ ¬ dp_I M 241 j = 0; rw [k241, uI_n hj])) hi
    omega
  · rw [sI 233 (by decide)]
    exact h14 j k hj hk (fun w => q1 ((n4 j).mpr w)) (fun w => q2 ((n4 k).mpr w))
end DuL
