/-! SECURITIES: what stays where a laying leaves no trace; a new reservation -/
theorem tbs_g {sg : Int64} {nd : Nat → Int64 → Int64} {P : Nat → Int32} {C T : Nat → Int64} {g k : Nat} (hk : k < 16) : ∀ i, (∀ j, j < i → (P j).toNatClampNeg ≠ g) → tbs sg nd P C T i (g * 16 + k) = T (g * 16 + k)
  | 0, _ => rfl
  | i + 1, h => by rw [tbs, useR_o hk (Or.inl (fun q => h i (by omega) q.symm)), tbs_g hk i (fun j hj => h j (by omega))]
def RSb (M : dp_M) (G R : Nat) : Prop := G ≤ 40 ∧ R ≤ 400 ∧ dp_I M 90 0 = nI G ∧ dp_I M 114 119 = nI G ∧ dp_I M 90 1 = nI R ∧ dp_I M 114 133 = nI R ∧ dp_I M 114 120 = dp_I M 90 3 ∧ qin (dp_I M 90 3) 100001 ∧ dp_I M 219 = dp_I M 92 ∧ (∀ i, dp_I M 92 i = 0 ∨ dp_I M 92 i = 1) ∧ dp_I M 220 = dp_I M 93 ∧
  (∀ g, 1 ≤ g → g ≤ G → SRw M R g) ∧ (∀ g k, G < g → k < 16 → dp_J M 95 (g * 16 + k) = 0) ∧ (∀ g, G < g → dp_I M 208 g = 0 ∧ dp_J M 210 g = 0 ∧ dp_J M 211 g = 0) ∧ SOr M G ∧ (∀ r, 1 ≤ r → r ≤ R → SRv M G r) ∧ (∀ r, R < r → dp_I M 215 r = 0) ∧ SLv M R ∧ SDs M R
theorem RelS.b {M : dp_M} (h : RelS M) : ∃ G R, RSb M G R := h
theorem RSb.r {M : dp_M} {G R : Nat} (h : RSb M G R) : RelS M := ⟨G, R, h⟩
def rIk : List Nat := [91, 94, 202, 204, 205, 206, 207, 208, 209, 212, 213, 215]
def rJk : List Nat := [203, 210, 211]
theorem SOr.e {M M2 : dp_M} {G : Nat} (s : SOr M G) (e : ∀ k ∈ rIk, dp_I M2 k = dp_I M k) : SOr M2 G := by
  unfold SOr at s ⊢
  rw [e 91 (by decide), e 94 (by decide), e 202 (by decide), e 213 (by decide)]; exact s
theorem RSb.lay {M M2 : dp_M} {G R : Nat} (h : RSb M G R) (e : ∀ k ∈ rIk, dp_I M2 k = dp_I M k) (e90 : dp_I M2 90 = dp_I M 90) (e214 : dp_I M2 214 = dp_I M 214) (eJ : ∀ k ∈ rJk, dp_J M2 k = dp_J M k) (e95 : dp_J M2 95 = dp_J M 95) (f : ∀ i ∈ RelS_T, dp_I M2 114 i = dp_I M 114 i) (e96 : ∀ i, i < (R + 1) * 12 → dp_J M2 96 i = dp_J M 96 i) (e216 : ∀ r, r ≤ R → dp_I M2 216 r = dp_I M 216 r) (e217 : ∀ i, i < (R + 1) * 4 → dp_I M2 217 i = dp_I M 217 i) (e218 : ∀ i, i < (R + 1) * 4 → dp_J M2 218 i = dp_J M 218 i)
    (d1 : dp_I M2 219 = dp_I M2 92) (d2 : ∀ i, dp_I M2 92 i = 0 ∨ dp_I M2 92 i = 1) (d3 : dp_I M2 220 = dp_I M2 93) : RSb M2 G R := by
  obtain ⟨hG, hR, a1, a2, a3, a4, a5, a6, a7, a8, a9, a10, a11, a12, a13, a14, a15, a16, a17⟩ := h
  have n4 : ∀ r, 1 ≤ r → r ≤ R → (dp_I M 216 r).toNatClampNeg ≤ 4 := fun r h1 h2 => (a14 r h1 h2).n4
  refine ⟨hG, hR, by rw [e90]; exact a1, by rw [f 119 (by decide)]; exact a2, by rw [e90]; exact a3, by rw [f 133 (by decide)]; exact a4, by rw [e90, f 120 (by decide)]; exact a5, by rw [e90]; exact a6, d1, d2, d3, fun g g1 g2 => ?_, fun g k hg hk => by rw [e95]; exact a11 g k hg hk, fun g hg => by rw [e 208 (by decide), eJ 210 (by decide), eJ 211 (by decide)]; exact a12 g hg, a13.e e, fun r r1 r2 => ?_, fun r hr => by rw [e 215 (by decide)]; exact a15 r hr, by unfold SLv; rw [e90, e 215 (by decide)]; exact a16, fun r r1 r2 j k hj hk => ?_⟩
  · refine (a10 g g1 g2).same (fun k _ => by rw [e95]) (by rw [e 202 (by decide)]) (by rw [e 204 (by decide)]) (by rw [e 205 (by decide)]) (by rw [eJ 203 (by decide)]) (by rw [e 206 (by decide)]) (by rw [e 207 (by decide)]) (by rw [e 212 (by decide)]) (by rw [e 208 (by decide)]) (by rw [e 209 (by decide)]) (by rw [eJ 210 (by decide)]) (by rw [eJ 211 (by decide)]) ?_ ?_
    · exact nO_c (by rw [e 204 (by decide)]) (by rw [e 205 (by decide)]) n4 (fun r _ h2 => e216 r h2) (fun r k _ h2 hk => e217 _ (by omega)) (fun r k _ h2 hk => e218 _ (by omega))
    · exact uO_p R n4 (fun r _ h2 => e216 r h2) (fun r k _ h2 hk => e217 _ (by omega))
  · exact (a14 r r1 r2).same (Nat.le_refl _) (e216 r r2) (fun k hk => e217 _ (by omega)) (by rw [e214]) (by rw [e 215 (by decide)]) (fun k hk => e218 _ (by omega)) (fun k hk => e96 _ (by omega))
  · rw [e216 r r2] at hj hk
    have := n4 r r1 r2
    rw [e217 _ (by omega), e217 _ (by omega)]
    exact a17 r r1 r2 j k hj hk
/-- a new reservation, with the parts of s -/
theorem RSb.cov {M M2 : dp_M} {G R w : Nat} {cn : Int64} {s : LyT} (h : RSb M G R) (hR4 : R < 400) (c2 : cn.toInt ≤ 1000000000) (ls : LI (dp_I M 213) cn G s) (hrest : s.2.2.1 = 0) (e : ∀ k ∈ rIk, dp_I M2 k = dp_I M k) (e90 : dp_I M2 90 = uI (uI (dp_I M 90) 1 (nI (R + 1))) 2 (dp_I M 90 2 + 1)) (e214 : dp_I M2 214 = uI (dp_I M 214) (R + 1) (nI w)) (eJ : ∀ k ∈ rJk, dp_J M2 k = dp_J M k) (e95 : dp_J M2 95 = tbs 1 (ndF M) s.2.2.2.1 s.2.2.2.2 (dp_J M 95) s.2.1) (f1 : ∀ i ∈ [119, 120], dp_I M2 114 i = dp_I M 114 i) (f2 : dp_I M2 114 133 = nI (R + 1)) (e96 : dp_J M2 96 = ovH (ovC (dp_J M 96) ((R + 1) * 12) s.2.1 s.2.2.2.1 s.2.2.2.2) ((R + 1) * 12) w cn s.2.1) (e216 : dp_I M2 216 = uI (dp_I M 216) (R + 1) (nI s.2.1)) (e217 : dp_I M2 217 = ovP (dp_I M 217) ((R + 1) * 4) s.2.1 s.2.2.2.1) (e218 : dp_J M2 218 = ovP (dp_J M 218) ((R + 1) * 4) s.2.1 s.2.2.2.2)
    (d1 : dp_I M2 219 = dp_I M2 92) (d2 : ∀ i, dp_I M2 92 i = 0 ∨ dp_I M2 92 i = 1) (d3 : dp_I M2 220 = dp_I M2 93) : RSb M2 G (R + 1) := by
  obtain ⟨hG, hR, a1, a2, a3, a4, a5, a6, a7, a8, a9, a10, a11, a12, a13, a14, a15, a16, a17⟩ := h
  obtain ⟨l1, l2, l3, l4, l5, l6⟩ := ls
  have n4 : ∀ r, 1 ≤ r → r ≤ R → (dp_I M 216 r).toNatClampNeg ≤ 4 := fun r h1 h2 => (a14 r h1 h2).n4
  have x216 : ∀ r, r ≤ R → dp_I M2 216 r = dp_I M 216 r := fun r hr => by rw [e216, uI_n (by omega)]
  have x217 : ∀ i, i < (R + 1) * 4 → dp_I M2 217 i = dp_I M 217 i := fun i hi => by rw [e217, ovP_b hi]
  have x218 : ∀ i, i < (R + 1) * 4 → dp_J M2 218 i = dp_J M 218 i := fun i hi => by rw [e218, ovP_b hi]
  have x96 : ∀ i, i < (R + 1) * 12 → dp_J M2 96 i = dp_J M 96 i := fun i hi => by
    rw [e96]; unfold ovH
    rw [uI_n (by omega), uI_n (by omega), uI_n (by omega), uI_n (by omega), ovC_b (by omega)]
  have y216 : (dp_I M2 216 (R + 1)).toNatClampNeg = s.2.1 := by rw [e216, uI_s, nI_cl (by omega)]
  have y217 : ∀ k, k < s.2.1 → dp_I M2 217 ((R + 1) * 4 + k) = s.2.2.2.1 k := fun k hk => by rw [e217, ovP_i hk]
  have y218 : ∀ k, k < s.2.1 → dp_J M2 218 ((R + 1) * 4 + k) = s.2.2.2.2 k := fun k hk => by rw [e218, ovP_i hk]
  have ps : ∀ j, j < s.2.1 → ∃ g, 1 ≤ g ∧ g ≤ G ∧ s.2.2.2.1 j = nI g := fun j hj => by
    obtain ⟨⟨i, i1, i2⟩, -⟩ := l5 j hj
    obtain ⟨g, g1, g2, eg⟩ := wi_of (a := 1) (b := G) (a13.1 i i1) (by omega)
    exact ⟨g, g1, g2, by rw [i2, eg]⟩
  have pb : ∀ j, j < s.2.1 → ∃ b, b < 2147483648 ∧ s.2.2.2.1 j = nI b := fun j hj => by
    obtain ⟨g, g1, g2, eg⟩ := ps j hj
    exact ⟨g, by omega, eg⟩
  have nF : ∀ g c, ndF M2 g c = ndF M g c := fun g c => by unfold ndF; rw [e 204 (by decide), e 205 (by decide)]
  have nOe : ∀ g, nO M2 g (R + 1) = nO M g R + sl (fun k => if s.2.2.2.1 k = nI g then 1 * ndF M g (s.2.2.2.2 k) else 0) s.2.1 := fun g => by
    have q1 : nO M2 g (R + 1) = nO M2 g R + ndR M2 g (R + 1) := rfl
    rw [q1, nO_c (M := M) (M' := M2) (by rw [e 204 (by decide)]) (by rw [e 205 (by decide)]) n4 (fun r _ h2 => x216 r h2) (fun r k _ h2 hk => x217 _ (by omega)) (fun r k _ h2 hk => x218 _ (by omega))]
    congr 1
    unfold ndR
    rw [y216]
    refine sl_c (fun k hk => ?_)
    rw [y217 k hk, y218 k hk, nF, Int64.one_mul]
  have uOe : ∀ g, uO M2 g (R + 1) = uO M g R + ct (fun k => decide (s.2.2.2.1 k = nI g)) s.2.1 := fun g => by
    have q1 : uO M2 g (R + 1) = uO M2 g R + usR M2 g (R + 1) := rfl
    rw [q1, uO_p (M := M) (M' := M2) R n4 (fun r _ h2 => x216 r h2) (fun r k _ h2 hk => x217 _ (by omega))]
    congr 1
    unfold usR
    rw [y216]
    exact ct_c (fun k hk => by rw [y217 k hk])
  refine ⟨hG, by omega, by rw [e90, uI_n (by decide), uI_n (by decide)]; exact a1, by rw [f1 119 (by decide)]; exact a2, by rw [e90, uI_n (by decide), uI_s], f2, by rw [e90, f1 120 (by decide), uI_n (by decide), uI_n (by decide)]; exact a5, by rw [e90, uI_n (by decide), uI_n (by decide)]; exact a6, d1, d2, d3, fun g g1 g2 => ?_, fun g k hg hk => ?_, fun g hg => by rw [e 208 (by decide), eJ 210 (by decide), eJ 211 (by decide)]; exact a12 g hg, a13.e e, fun r r1 r2 => ?_, fun r hr => by rw [e 215 (by decide)]; exact a15 r (by omega), ?_, fun r r1 r2 j k hj hk => ?_⟩
  · have hw := a10 g g1 g2
    have u4 := uO_le (g := g) a14 R (Nat.le_refl _)
    have c4 := ct_le (fun k => decide (s.2.2.2.1 k = nI g)) s.2.1
    obtain ⟨h, u, n, b1, b2, b3, b4, b5, b6, b7, b8, b9, b10, b11, b12, b13, b14, b15, b16, b17, b18, b19, b20, b21, b22, b23, b24, b25, b26⟩ := hw
    have o : ∀ k, k < 16 → k ≠ 2 ∧ k ≠ 5 → dp_J M2 95 (g * 16 + k) = dp_J M 95 (g * 16 + k) := fun k hk hk2 => by rw [e95, tbs_o hk hk2]
    refine ⟨h, u, n, b1, b2, b3, b4, ?_⟩
    simp only [o 0 (by omega) (by omega), o 1 (by omega) (by omega), o 6 (by omega) (by omega), o 8 (by omega) (by omega), o 9 (by omega) (by omega), o 10 (by omega) (by omega), o 11 (by omega) (by omega), o 12 (by omega) (by omega), o 13 (by omega) (by omega), o 14 (by omega) (by omega), o 15 (by omega) (by omega), e 202 (by decide), e 204 (by decide), e 205 (by decide), e 206 (by decide), e 207 (by decide), e 208 (by decide), e 209 (by decide), e 212 (by decide), eJ 203 (by decide), eJ 210 (by decide), eJ 211 (by decide)]
    refine ⟨b5, b6, b7, b8, b9, b10, b11, b12, b13, b14, b15, b16, b17, b18, b19, b20, b21, b22, b23, b24, ?_, ?_⟩
    · rw [e95, tbs_2 (by omega) s.2.1 pb, b25, nOe]
    · rw [e95, tbs_5 (by omega) s.2.1 pb, b26, uOe, ← nJ_add (by omega), ← sl_ctJ s.2.1 (by omega)]
      congr 1
      exact sl_c (fun k hk => by simp only [decide_eq_true_eq])
  · rw [e95, tbs_g hk s.2.1 (fun j hj => by
      obtain ⟨b, b1, b2, eb⟩ := ps j hj
      rw [eb, nI_cl (by omega)]; omega)]
    exact a11 g k hg hk
  · by_cases z : r = R + 1
    · subst z
      refine ⟨s.2.1, l1, by rw [e216, uI_s], ?_, ?_, ?_, ?_, fun k hk => ?_⟩
      · rw [e96, e214, uI_s]; unfold ovH
        rw [uI_n (by omega), uI_n (by omega), uI_n (by omega)]
        exact uI_s _ _ _
      · rw [sl_c (fun k hk => y218 k hk), ← Int64.zero_add (sl s.2.2.2.2 s.2.1), ← hrest, l4, e96]; unfold ovH
        rw [uI_n (by omega), uI_n (by omega), uI_s]
      · rw [e96, e 215 (by decide), a15 (R + 1) (by omega)]; unfold ovH
        rw [uI_n (by omega), uI_s]; rfl
      · rw [e96]; unfold ovH; rw [uI_s]
      · obtain ⟨g, g1, g2, eg⟩ := ps k hk
        obtain ⟨-, q1, q2⟩ := l5 k hk
        rw [y217 k hk, y218 k hk, e96]; unfold ovH
        rw [uI_n (by omega), uI_n (by omega), uI_n (by omega), uI_n (by omega), uI_n (by omega), uI_n (by omega), uI_n (by omega), uI_n (by omega)]
        unfold ovC
        rw [if_pos (show (R + 1) * 12 + 4 ≤ (R + 1) * 12 + (4 + k) ∧ (R + 1) * 12 + (4 + k) < (R + 1) * 12 + 4 + s.2.1 by omega), show (R + 1) * 12 + (4 + k) - ((R + 1) * 12 + 4) = k by omega, if_neg (show ¬ ((R + 1) * 12 + 4 ≤ (R + 1) * 12 + (8 + k) ∧ (R + 1) * 12 + (8 + k) < (R + 1) * 12 + 4 + s.2.1) by omega), if_pos (show (R + 1) * 12 + 8 ≤ (R + 1) * 12 + (8 + k) ∧ (R + 1) * 12 + (8 + k) < (R + 1) * 12 + 8 + s.2.1 by omega), show (R + 1) * 12 + (8 + k) - ((R + 1) * 12 + 8) = k by omega]
        refine ⟨rfl, rfl, ?_, q1, by omega⟩
        rw [eg]; exact wi_mk (by omega) (by omega) (by omega)
    · exact (a14 r r1 (by omega)).same (Nat.le_refl _) (x216 r (by omega)) (fun k hk => x217 _ (by omega)) (by rw [e214, uI_n (by omega)]) (by rw [e 215 (by decide)]) (fun k hk => x218 _ (by omega)) (fun k hk => x96 _ (by omega))
  · have q : dp_I M 90 2 = nI (ct (lvf (dp_I M 215)) R) := a16
    show dp_I M2 90 2 = _
    rw [e90, uI_s, q, e 215 (by decide), ct]
    have lv : lvf (dp_I M 215) R = true := by unfold lvf; rw [decide_eq_true_eq]; exact a15 (R + 1) (by omega)
    rw [if_pos lv, nI_1]
  · by_cases z : r = R + 1
    · subst z
      rw [y216] at hj hk
      rw [y217 j hj, y217 k hk]
      exact l6 j k hj hk
    · rw [x216 r (by omega)] at hj hk
      have := n4 r r1 (by omega)
      rw [x217 _ (by omega), x217 _ (by omega)]
      exact a17 r r1 (by omega) j k hj hk
