-- needs: 73 74 75 76 77
/-! DECLARATIONS: a new one, seen by quotas and gate -/
section DC
variable {xs : Nat → Int32} {xl d : Nat} {M : dp_M}
theorem RelQ.decl {K : dp_M} {D A : Nat} (h : RelQ M) (hA : dp_I M 114 111 = nI A) (hA4 : A ≤ 400) (ha : ∀ a, a < A → qin (dp_I M 196 a) D) (hD : D ≤ 400) (e : ∀ k ∈ RelQ_S, k ≠ 235 → k ≠ 238 → dp_I K k = dp_I M k ∧ dp_J K k = dp_J M k) (f : ∀ i ∈ RelQ_T, dp_I K 114 i = dp_I M 114 i) (e235 : ∀ i, i < D → dp_I K 235 i = dp_I M 235 i) (e238 : ∀ i, i < D → dp_I K 238 i = dp_I M 238 i) : RelQ K := by
  obtain ⟨O, A', hO, hA', a1, a2, a3, a4, b1, b2, b3, b4, b5, b6, b7, b8, b9, b10⟩ := h
  have eA : A' = A := by
    rw [hA, nI_eq (by omega) (by omega)] at a4; exact a4.symm
  subst eA
  have z : ∀ k ∈ RelQ_S, k ≠ 235 → k ≠ 238 → dp_I K k = dp_I M k := fun k hk n1 n2 => (e k hk n1 n2).1
  have zJ : ∀ k ∈ RelQ_S, k ≠ 235 → k ≠ 238 → dp_J K k = dp_J M k := fun k hk n1 n2 => (e k hk n1 n2).2
  refine ⟨O, A', hO, hA', by rw [z 75 (by decide) (by decide) (by decide)]; exact a1, by rw [f 105 (by decide)]; exact a2, by rw [z 75 (by decide) (by decide) (by decide)]; exact a3, by rw [f 111 (by decide)]; exact a4, by rw [zJ 191 (by decide) (by decide) (by decide), zJ 76 (by decide) (by decide) (by decide)]; exact b1, by rw [z 192 (by decide) (by decide) (by decide), z 77 (by decide) (by decide) (by decide)]; exact b2, by rw [z 193 (by decide) (by decide) (by decide), z 78 (by decide) (by decide) (by decide)]; exact b3, by rw [z 194 (by decide) (by decide) (by decide), z 79 (by decide) (by decide) (by decide)]; exact b4, by rw [z 195 (by decide) (by decide) (by decide), z 80 (by decide) (by decide) (by decide)]; exact b5, by rw [zJ 198 (by decide) (by decide) (by decide), zJ 85 (by decide) (by decide) (by decide)]; exact b6, by rw [z 80 (by decide) (by decide) (by decide)]; exact b7, by rw [zJ 85 (by decide) (by decide) (by decide)]; exact b8, fun a ha' => ?_, fun o ho => ?_⟩
  · obtain ⟨c1, c2, c3, c4, c5⟩ := b9 a ha'
    have ql := ha a ha'
    obtain ⟨j, hj, ej⟩ := qin_of ql (by omega)
    unfold mdy at c4 ⊢
    unfold mdk at c5 ⊢
    rw [z 82 (by decide) (by decide) (by decide), z 83 (by decide) (by decide) (by decide), z 84 (by decide) (by decide) (by decide), z 196 (by decide) (by decide) (by decide), z 197 (by decide) (by decide) (by decide), ej, nI_cl (by omega), e235 j hj, e238 j hj]
    rw [ej, nI_cl (by omega)] at c4 c5
    rw [ej] at c3
    exact ⟨c1, c2, c3, c4, c5⟩
  · exact (b10 o ho).same (by omega) (z 82 (by decide) (by decide) (by decide)) (z 84 (by decide) (by decide) (by decide)) (z 83 (by decide) (by decide) (by decide)) (zJ 85 (by decide) (by decide) (by decide)) (fun x _ => by rw [z 80 (by decide) (by decide) (by decide)]) (by rw [zJ 76 (by decide) (by decide) (by decide)]) (by rw [z 77 (by decide) (by decide) (by decide)]) (by rw [z 78 (by decide) (by decide) (by decide)]) (by rw [z 79 (by decide) (by decide) (by decide)]) (fun a _ => by rw [z 87 (by decide) (by decide) (by decide), zJ 86 (by decide) (by decide) (by decide)]; exact ⟨rfl, rfl⟩) (fun x _ => by rw [zJ 81 (by decide) (by decide) (by decide)])
/-- the gate's goods once a declaration more -/
theorem GGd.decl {K : dp_M} {n g D : Nat} (h : GGd M n) (hD : dp_I M 114 160 = nI D) (hD4 : D < 400) (hg : ∃ G, dp_I M 114 44 = nI G ∧ G ≤ 300 ∧ g < G) (e37 : dp_I K 37 2 = dp_I M 37 2) (e : ∀ k ∈ [42, 44, 45, 46, 47, 147, 148, 241], dp_I K k = dp_I M k) (f : dp_I K 114 44 = dp_I M 114 44) (f2 : dp_I K 114 160 = nI (D + 1)) (e233 : dp_I K 233 = uI (dp_I M 233) D (nI g)) (z : dp_I M 241 D = 0) : GGd K n := by
  obtain ⟨G, D', hG, hD', g1, g2, g3, g4, g5, g6, g7, g8⟩ := h
  have eD : D' = D := by rw [hD, nI_eq (by omega) (by omega)] at g3; exact g3.symm
  subst eD
  obtain ⟨G', q1, q2, q3⟩ := hg
  have eG : G' = G := by rw [g2, nI_eq (by omega) (by omega)] at q1; exact q1.symm
  subst eG
  have fr : ∀ x, an (frf (dp_I K 233) (dp_I K 241) x) (D' + 1) = an (frf (dp_I M 233) (dp_I M 241) x) D' := fun x => by
    rw [an]
    have e1 : frf (dp_I K 233) (dp_I K 241) x D' = false := by
      unfold frf
      rw [e 241 (by decide), z]
      exact decide_eq_false (fun q => by have := q.2.1; exact absurd this (by decide))
    rw [e1, Bool.or_false]
    exact an_c (fun i hi => by unfold frf; rw [e 241 (by decide), e233, uI_n (by omega)])
  refine ⟨G', D' + 1, hG, by omega, by rw [e37]; exact g1, by rw [f]; exact g2, f2, fun x hx => by rw [e 46 (by decide), e 147 (by decide)]; exact g4 x hx, fun x hx => ?_, fun x hx => ?_, fun x h1 h2 => by rw [e 47 (by decide)]; exact g7 x h1 h2, fun i hi => ?_⟩
  · obtain ⟨k1, k2, k3⟩ := g5 x hx
    rw [e 42 (by decide), e 44 (by decide), e 45 (by decide), e 147 (by decide), e 148 (by decide)]
    refine ⟨k1, k2, ?_⟩
    rw [k3]; congr 1
    unfold mnf
    exact ct_c (fun y _ => by rw [fr])
  · rw [e 47 (by decide), g6 x hx]
    by_cases w : an (frf (dp_I M 233) (dp_I M 241) x) D' = true
    · rw [bI_t w, bI_t (by rw [fr]; exact w)]
    · rw [bI_f w, bI_f (by rw [fr]; exact w)]
  · rw [e233]
    by_cases w : i = D'
    · subst w; rw [uI_s, qin_iff, nI_toInt (by omega)]; omega
    · rw [uI_n w]; exact g8 i (by omega)
end DC
