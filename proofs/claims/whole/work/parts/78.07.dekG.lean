-- needs: 71 72 73 74 75 76 77
/-! DECLARATIONS: goods set free, or no more -/
section DH
variable {xs : Nat → Int32} {xl d : Nat} {M : dp_M}
theorem GGd.box {n g G : Nat} (h : GGd M n) (hn : n ≤ 100) (hG : dp_I M 114 44 = nI G) (hG3 : G ≤ 300) (hg : g < G) : ∃ x, x < n ∧ dp_I M 46 g = nI x ∧ dp_I M 147 g = nI x := by
  obtain ⟨G', D', hG', hD', g1, g2, g3, g4, -⟩ := h
  have eG : G' = G := by rw [hG, nI_eq (by omega) (by omega)] at g2; exact g2.symm
  subst eG
  obtain ⟨k1, k2⟩ := g4 g hg
  obtain ⟨x, hx, ex⟩ := qin_of k2 (by omega)
  exact ⟨x, hx, by rw [k1, ex], ex⟩
theorem gc_behind {n g G : Nat} (h : GGd M n) (hn : n ≤ 100) (hG : dp_I M 114 44 = nI G) (hG3 : G ≤ 300) (hg : g < G) : ∃ x, x < n ∧ dp_I M 147 g = nI x ∧ ∀ {d}, dp_den true xs xl (d + 1) 30 [.ref 37, .int (nI g)] M = iR (bI (dp_I M 11 x = 1)) M := by
  obtain ⟨x, hx, e1, e2⟩ := h.box hn hG hG3 hg
  refine ⟨x, hx, e2, fun {d} => ?_⟩
  rw [D_X1_isBehind_0_den, D_X1_isBehind_0_eq]
  simp only [nI_cl (show g < 2147483648 by omega), nI_o (show g < 300 by omega) (by omega), if_false, e1, nI_cl (show x < 2147483648 by omega), nI_o (show x < 100 by omega) (by omega), ibb]
theorem gc_setFree {n g G D : Nat} (h : GGd M n) (hn : n ≤ 100) (hG : dp_I M 114 44 = nI G) (hG3 : G ≤ 300) (hD : dp_I M 114 160 = nI D) (hD4 : D ≤ 400) (hg : g < G) {v : Int32} (hv : v = 0 ∨ v = 1) :
    ∃ C, (∀ {d}, dp_den true xs xl (d + 1) 29 [.ref 37, .int (nI g), .int v] M = vR C) ∧ Off [45, 47] [] M C ∧ Cst 0 0 M C ∧ ∀ K, (∀ k ∈ [42, 44, 46, 147, 148, 233], dp_I K k = dp_I M k) → dp_I K 45 = dp_I C 45 → dp_I K 47 = dp_I C 47 → dp_I K 37 2 = dp_I M 37 2 → dp_I K 114 44 = dp_I M 114 44 → dp_I K 114 160 = dp_I M 114 160 → (∀ q, q < G → q ≠ g → an (frf (dp_I M 233) (dp_I K 241) q) D = an (frf (dp_I M 233) (dp_I M 241) q) D) → bI (an (frf (dp_I M 233) (dp_I K 241) g) D = true) = v → GGd K n := by
  have h0 := h
  obtain ⟨x, hx, e1, e2⟩ := h.box hn hG hG3 hg
  obtain ⟨G', D', hG', hD', g1, g2, g3, g4, g5, g6, g7, g8⟩ := h
  have eG : G' = G := by rw [hG, nI_eq (by omega) (by omega)] at g2; exact g2.symm
  subst eG
  have eD : D' = D := by rw [hD, nI_eq (by omega) (by omega)] at g3; exact g3.symm
  subst eD
  have hvv : v &&& 1 = v := by rcases hv with rfl | rfl <;> rfl
  have i47 := g6 g hg
  have m300 : ∀ y, mnf (dp_I M 147) (dp_I M 233) (dp_I M 241) D' G' y ≤ 300 := fun y => Nat.le_trans (ct_le _ _) hG'
  by_cases z : dp_I M 47 g = v
  · refine ⟨M, fun {d} => ?_, Off.rr _ _ M, ⟨Nat.le_refl _, Nat.le_refl _⟩, fun K e k45 k47 kg kc kd ho hs => ?_⟩
    · rw [D_X1_setFree_0_den, D_X1_setFree_0_eq]
      simp only [nI_cl (show g < 2147483648 by omega), nI_o (show g < 300 by omega) (by omega), if_false]
      rw [if_pos z]
    · have all : ∀ q, q < G' → an (frf (dp_I M 233) (dp_I K 241) q) D' = an (frf (dp_I M 233) (dp_I M 241) q) D' := fun q hq => by
        by_cases w : q = g
        · subst w
          rw [i47, ← hs] at z
          by_cases w1 : an (frf (dp_I M 233) (dp_I M 241) q) D' = true
          · rw [bI_t w1] at z
            by_cases w2 : an (frf (dp_I M 233) (dp_I K 241) q) D' = true
            · rw [w1, w2]
            · rw [bI_f w2] at z; exact absurd z (by decide)
          · rw [bI_f w1] at z
            by_cases w2 : an (frf (dp_I M 233) (dp_I K 241) q) D' = true
            · rw [bI_t w2] at z; exact absurd z (by decide)
            · rw [Bool.eq_false_iff.mpr w1, Bool.eq_false_iff.mpr w2]
        · exact ho q hq w
      refine ⟨G', D', hG', hD', by rw [kg]; exact g1, by rw [kc]; exact g2, by rw [kd]; exact g3, fun q hq => by rw [e 46 (by decide), e 147 (by decide)]; exact g4 q hq, fun y hy => ?_, fun q hq => ?_, fun q q1 q2 => by rw [k47]; exact g7 q q1 q2, fun i hi => by rw [e 233 (by decide)]; exact g8 i hi⟩
      · obtain ⟨k1, k2, k3⟩ := g5 y hy
        rw [e 42 (by decide), e 44 (by decide), k45, e 147 (by decide), e 148 (by decide), e 233 (by decide)]
        refine ⟨k1, k2, ?_⟩
        rw [k3]; congr 1
        unfold mnf
        exact ct_c (fun q hq => by rw [all q hq])
      · rw [k47, g6 q hq, e 233 (by decide)]
        by_cases w : an (frf (dp_I M 233) (dp_I M 241) q) D' = true
        · rw [bI_t w, bI_t (by rw [all q hq]; exact w)]
        · rw [bI_f w, bI_f (by rw [all q hq]; exact w)]
  · obtain ⟨dl, hdl⟩ : ∃ dl : Int32, dl = if v = 0 then -1 else 1 := ⟨_, rfl⟩
    refine ⟨dp_setI (dp_setI M 47 g v) 45 x (dp_I M 45 x + dl), fun {d} => ?_, ((Off.rr _ _ M).I 47 (by decide) _ _).I 45 (by decide) _ _, ⟨Nat.le_refl _, Nat.le_refl _⟩, fun K e k45 k47 kg kc kd ho hs => ?_⟩
    · rw [D_X1_setFree_0_den, D_X1_setFree_0_eq]
      simp only [nI_cl (show g < 2147483648 by omega), nI_o (show g < 300 by omega) (by omega), if_false, dp_w, hvv, gII, Nat.reduceEqDiff, e1, nI_cl (show x < 2147483648 by omega), nI_o (show x < 100 by omega) (by omega)]
      rw [if_neg z, hdl]
      by_cases w : v = 0
      · rw [if_pos w, if_pos w]
      · rw [if_neg w, if_neg w]
    · rw [gII, if_pos rfl, gII, if_neg (by decide)] at k45
      rw [gII, if_neg (by decide), gII, if_pos rfl] at k47
      have nb : ∀ y, y < 100 → nI (mnf (dp_I M 147) (dp_I M 233) (dp_I K 241) D' G' y) = uI (dp_I M 45) x (dp_I M 45 x + dl) y := fun y hy => by
        obtain ⟨-, -, k3⟩ := g5 y hy
        by_cases w : y = x
        · subst w
          rw [uI_s, k3]
          rcases hv with v0 | v1
          · rw [if_pos v0] at hdl
            have a1 : an (frf (dp_I M 233) (dp_I M 241) g) D' = true := by
              by_cases q : an (frf (dp_I M 233) (dp_I M 241) g) D' = true
              · exact q
              · rw [bI_f q] at i47; exact absurd (i47.trans v0.symm) z
            have a2 : an (frf (dp_I M 233) (dp_I K 241) g) D' = false := by
              by_cases q : an (frf (dp_I M 233) (dp_I K 241) g) D' = true
              · rw [bI_t q, v0] at hs; exact absurd hs (by decide)
              · exact Bool.eq_false_iff.mpr q
            have cut := ct_cut (p := fun q => rwf (dp_I M 147) (nI y) q && an (frf (dp_I M 233) (dp_I M 241) q) D') (q := fun q => if q < G' then (rwf (dp_I M 147) (nI y) q && an (frf (dp_I M 233) (dp_I K 241) q) D') else (rwf (dp_I M 147) (nI y) q && an (frf (dp_I M 233) (dp_I M 241) q) D')) (j := g) (by rw [a1, Bool.and_true]; exact rwf_t.mpr e2) (by rw [if_pos hg, a2, Bool.and_false]) (fun q hq => by
              by_cases w : q < G'
              · rw [if_pos w, ho q w hq]
              · rw [if_neg w]) G'
            rw [if_pos hg] at cut
            have em : mnf (dp_I M 147) (dp_I M 233) (dp_I K 241) D' G' y = ct (fun q => if q < G' then (rwf (dp_I M 147) (nI y) q && an (frf (dp_I M 233) (dp_I K 241) q) D') else (rwf (dp_I M 147) (nI y) q && an (frf (dp_I M 233) (dp_I M 241) q) D')) G' := ct_c (fun q hq => by rw [if_pos hq])
            have en : mnf (dp_I M 147) (dp_I M 233) (dp_I M 241) D' G' y = mnf (dp_I M 147) (dp_I M 233) (dp_I K 241) D' G' y + 1 := by rw [em, cut]; rfl
            rw [en, hdl, ← Int32.sub_eq_add_neg, nI_pred]
          · rw [if_neg (by rw [v1]; decide)] at hdl
            have a1 : an (frf (dp_I M 233) (dp_I M 241) g) D' = false := by
              by_cases q : an (frf (dp_I M 233) (dp_I M 241) g) D' = true
              · rw [bI_t q] at i47; exact absurd (i47.trans v1.symm) z
              · exact Bool.eq_false_iff.mpr q
            have a2 : an (frf (dp_I M 233) (dp_I K 241) g) D' = true := by
              by_cases q : an (frf (dp_I M 233) (dp_I K 241) g) D' = true
              · exact q
              · rw [bI_f q, v1] at hs; exact absurd hs (by decide)
            have cut := ct_cut (q := fun q => rwf (dp_I M 147) (nI y) q && an (frf (dp_I M 233) (dp_I M 241) q) D') (p := fun q => if q < G' then (rwf (dp_I M 147) (nI y) q && an (frf (dp_I M 233) (dp_I K 241) q) D') else (rwf (dp_I M 147) (nI y) q && an (frf (dp_I M 233) (dp_I M 241) q) D')) (j := g) (by rw [if_pos hg, a2, Bool.and_true]; exact rwf_t.mpr e2) (by rw [a1, Bool.and_false]) (fun q hq => by
              by_cases w : q < G'
              · rw [if_pos w, ho q w hq]
              · rw [if_neg w]) G'
            rw [if_pos hg] at cut
            have em : mnf (dp_I M 147) (dp_I M 233) (dp_I K 241) D' G' y = ct (fun q => if q < G' then (rwf (dp_I M 147) (nI y) q && an (frf (dp_I M 233) (dp_I K 241) q) D') else (rwf (dp_I M 147) (nI y) q && an (frf (dp_I M 233) (dp_I M 241) q) D')) G' := ct_c (fun q hq => by rw [if_pos hq])
            have en : mnf (dp_I M 147) (dp_I M 233) (dp_I K 241) D' G' y = mnf (dp_I M 147) (dp_I M 233) (dp_I M 241) D' G' y + 1 := by rw [em, ← cut]; rfl
            rw [en, hdl, nI_1]
        · rw [uI_n w, k3]; congr 1
          unfold mnf
          refine ct_c (fun q hq => ?_)
          by_cases w2 : q = g
          · subst w2
            have : rwf (dp_I M 147) (nI y) q = false := Bool.eq_false_iff.mpr (fun r => w (by
              have := rwf_t.mp r
              rw [e2, nI_eq (by omega) (by omega)] at this; exact this.symm))
            rw [this, Bool.false_and, Bool.false_and]
          · rw [ho q hq w2]
      refine ⟨G', D', hG', hD', by rw [kg]; exact g1, by rw [kc]; exact g2, by rw [kd]; exact g3, fun q hq => by rw [e 46 (by decide), e 147 (by decide)]; exact g4 q hq, fun y hy => ?_, fun q hq => ?_, fun q q1 q2 => by rw [k47, uI_n (by omega)]; exact g7 q q1 q2, fun i hi => by rw [e 233 (by decide)]; exact g8 i hi⟩
      · obtain ⟨k1, k2, k3⟩ := g5 y hy
        rw [e 42 (by decide), e 44 (by decide), k45, e 147 (by decide), e 148 (by decide), e 233 (by decide)]
        exact ⟨k1, k2, (nb y hy).symm⟩
      · rw [k47, e 233 (by decide)]
        by_cases w : q = g
        · subst w; rw [uI_s]; exact hs.symm
        · rw [uI_n w, g6 q hq]
          by_cases w3 : an (frf (dp_I M 233) (dp_I M 241) q) D' = true
          · rw [bI_t w3, bI_t (by rw [ho q hq w]; exact w3)]
          · rw [bI_f w3, bI_f (by rw [ho q hq w]; exact w3)]
end DH
