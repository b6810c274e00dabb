-- needs: 71 72 73 74 75 76 77 78 79
/-! ASSESS: what a holder's guarantees may cover is not below 0 -/
section DuJ
variable {M : dp_M}
theorem sl_bb {f : Nat → Int64} {B : Nat} : ∀ n, (∀ i, i < n → 0 ≤ (f i).toInt ∧ (f i).toInt ≤ (B : Int)) → B * n ≤ 9000000000000000000 → 0 ≤ (sl f n).toInt ∧ (sl f n).toInt ≤ ((B * n : Nat) : Int)
  | 0, _, _ => by
    show 0 ≤ (0 : Int64).toInt ∧ (0 : Int64).toInt ≤ ((B * 0 : Nat) : Int)
    rw [Nat.mul_zero]; decide
  | n + 1, h, hB => by
    rw [Nat.mul_succ] at hB
    have ih := sl_bb (f := f) (B := B) n (fun i hi => h i (by omega)) (by omega)
    have b := h n (by omega)
    rw [sl, Nat.mul_succ]
    generalize B * n = P at *
    rw [q_addJ (by omega) (by omega)]
    omega
theorem ndF_bb {R g : Nat} {x : Int64} (h : SRw M R g) (x0 : 1 ≤ x.toInt) (x1 : x.toInt ≤ 1000000000) : 0 ≤ (ndF M g x).toInt ∧ (ndF M g x).toInt ≤ 100000000100 := by
  obtain ⟨h, u, n, h1, h2, h3, h4, h5, h6, h7, h8, h9, -⟩ := h
  have o1 : (1 : Int64).toInt = 1 := by decide
  have eu : (nI u).toInt64.toInt = u := nJ64 (by omega)
  have en : (nI n).toInt64.toInt = n := nJ64 (by omega)
  have m1 : 0 ≤ x.toInt * (u : Int) := Int.mul_nonneg (by omega) (by omega)
  have m2 : x.toInt * (u : Int) ≤ 1000000000 * 100 := Int.mul_le_mul x1 (by omega) (by omega) (by omega)
  unfold ndF
  rw [h7, h9]
  have e1 : (x * (nI u).toInt64).toInt = x.toInt * u := by rw [q_mulJ (by rw [eu]; omega) (by rw [eu]; omega), eu]
  have e2 : (x * (nI u).toInt64 + (nI n).toInt64).toInt = x.toInt * u + n := by rw [q_addJ (by rw [e1, en]; omega) (by rw [e1, en]; omega), e1, en]
  have e3 : (x * (nI u).toInt64 + (nI n).toInt64 - 1).toInt = x.toInt * u + n - 1 := by rw [q_subJ (by rw [e2, o1]; omega) (by rw [e2, o1]; omega), e2, o1]
  rw [q_divJ (by rw [e3]; omega) (by rw [en]; omega), e3, en]
  generalize x.toInt * (u : Int) = P at *
  refine ⟨Int.ediv_nonneg (by omega) (by omega), ?_⟩
  have := Int.ediv_le_self (n : Int) (show 0 ≤ P + n - 1 by omega)
  omega
theorem ndR_bb {G R g r : Nat} (hg : 1 ≤ g) (hg2 : g ≤ G) (hG : G ≤ 40) (h : SRw M R g) (hr : SRv M G r) : 0 ≤ (ndR M g r).toInt ∧ (ndR M g r).toInt ≤ 400000000400 := by
  obtain ⟨n, n4, e, -, -, -, -, hk⟩ := hr
  have b := sl_bb (f := fun k => if dp_I M 217 (r * 4 + k) = nI g then ndF M g (dp_J M 218 (r * 4 + k)) else 0) (B := 100000000100) n (fun k hkn => by
    (try dsimp only)
    split
    · obtain ⟨-, -, -, c1, c2⟩ := hk k hkn
      exact ndF_bb h c1 c2
    · decide) (by omega)
  unfold ndR
  rw [e, nI_cl (by omega)]
  exact ⟨b.1, Int.le_trans b.2 (by omega)⟩
theorem nO_bb {G R g : Nat} (hR : R ≤ 400) (hg : 1 ≤ g) (hg2 : g ≤ G) (hG : G ≤ 40) (h : SRw M R g) (hr : ∀ r, 1 ≤ r → r ≤ R → SRv M G r) : 0 ≤ (nO M g R).toInt ∧ (nO M g R).toInt ≤ 200000000000000 := by
  have b := sl_bb (f := fun i => ndR M g (i + 1)) (B := 400000000400) R (fun i hi => ndR_bb hg hg2 hG h (hr (i + 1) (by omega) (by omega))) (by omega)
  unfold nO
  exact ⟨b.1, Int.le_trans b.2 (by omega)⟩
theorem mc_bb {G R g : Nat} (hR : R ≤ 400) (hg : 1 ≤ g) (hg2 : g ≤ G) (hG : G ≤ 40) (h : SRw M R g) (hr : ∀ r, 1 ≤ r → r ≤ R → SRv M G r) : 0 ≤ (mc M g R).toInt ∧ (mc M g R).toInt ≤ 100000000000 := by
  have nb := nO_bb hR hg hg2 hG h hr
  obtain ⟨h, u, n, h1, h2, h3, h4, h5, h6, h7, h8, h9, h10, h11, h12, h13, -⟩ := h
  have z0 : (0 : Int64).toInt = 0 := by decide
  have eu : (nI u).toInt64.toInt = u := nJ64 (by omega)
  have en : (nI n).toInt64.toInt = n := nJ64 (by omega)
  have fb : 0 ≤ (fr M g R).toInt ∧ (fr M g R).toInt ≤ 1000000000 := by
    have es : (dp_J M 203 g - nO M g R).toInt = (dp_J M 203 g).toInt - (nO M g R).toInt := q_subJ (by omega) (by omega)
    unfold fr
    split
    · rw [z0]; omega
    · rename_i q
      rw [Int64.lt_iff_toInt_lt, z0] at q
      omega
  unfold mc
  split
  · rw [z0]; omega
  · split
    · have : (1000000000 : Int64).toInt = 1000000000 := by decide
      rw [this]; omega
    · rename_i q
      rw [h7] at q
      have u0 : 1 ≤ u := by
        cases u with
        | zero => exact absurd rfl q
        | succ u => omega
      rw [h7, h9]
      have m1 : 0 ≤ (fr M g R).toInt * (n : Int) := Int.mul_nonneg fb.1 (by omega)
      have m2 : (fr M g R).toInt * (n : Int) ≤ 1000000000 * 100 := Int.mul_le_mul fb.2 (by omega) (by omega) (by omega)
      have e1 : (fr M g R * (nI n).toInt64).toInt = (fr M g R).toInt * n := by rw [q_mulJ (by rw [en]; omega) (by rw [en]; omega), en]
      rw [q_divJ (by rw [e1]; omega) (by rw [eu]; omega), e1, eu]
      generalize (fr M g R).toInt * (n : Int) = P at *
      refine ⟨Int.ediv_nonneg (by omega) (by omega), ?_⟩
      have := Int.ediv_le_self (u : Int) m1
      omega
theorem tgt_bb {G R w : Nat} (hR : R ≤ 400) (hG : G ≤ 40) (h : ∀ g, 1 ≤ g → g ≤ G → SRw M R g) (hr : ∀ r, 1 ≤ r → r ≤ R → SRv M G r) : 0 ≤ (tgt M w G R).toInt := by
  have b := sl_bb (f := fun i => if dp_I M 202 (i + 1) = nI w then mc M (i + 1) R else 0) (B := 100000000000) G (fun i hi => by
    (try dsimp only)
    split
    · exact mc_bb hR (by omega) (by omega) hG (h (i + 1) (by omega) (by omega)) hr
    · decide) (by omega)
  unfold tgt
  exact b.1
theorem mcc_n {t : Int64} (h : 0 ≤ t.toInt) : (-2 : Int64) - mcc t < 0 := by
  have z0 : (0 : Int64).toInt = 0 := by decide
  have m2 : (-2 : Int64).toInt = -2 := by decide
  have b : 0 ≤ (mcc t).toInt ∧ (mcc t).toInt ≤ 2000000000 := by
    have e : (2000000000 : Int64).toInt = 2000000000 := by decide
    unfold mcc
    split
    · rw [e]; omega
    · rename_i q
      rw [Int64.lt_iff_toInt_lt, e] at q
      omega
  rw [Int64.lt_iff_toInt_lt, z0, q_subJ (by rw [m2]; omega) (by rw [m2]; omega), m2]
  omega
end DuJ
section DuK
variable {xs : Nat → Int32} {xl d : Nat} {M : dp_M}
theorem lR_inj {a b : Int64} {A B : dp_M} (h : lR a A = lR b B) : a = b ∧ A = B := by
  injection h with h
  injection h with h1 h2
  injection h1 with h1
  injection h1 with h1
  injection h1 with h1
  exact ⟨h1, h2⟩
/-- cover and reservesAt; what is answered when nothing is reserved lies below 0 -/
theorem s_cover' {R w k : Nat} {cn : Int64} (h : RelS M) (hRR : dp_I M 114 133 = nI R) (hR : R < 400) (hw : w < 8) (hk : k < 4) (c1 : 0 ≤ cn.toInt) (c2 : cn.toInt ≤ 1000000000) :
    ∃ (v : Int32) (C : dp_M) (f : Int64), (∀ {d}, dp_den true xs xl (d + 5) 200 [.ref 90, .int (nI w), .int (nI k), .long cn] M = iR v C) ∧ Off [90, 92, 93, 95, 96] [] M C ∧ Cst 0 0 M C ∧ (v = 0 → ∀ {d}, dp_den true xs xl (d + 4) 195 [.ref 90, .int (nI w)] C = lR f C) ∧ (v = 0 ∨ v = -1 ∨ v = nI (R + 1)) ∧ (v = 0 → (-2 : Int64) - f < 0) ∧
    ∀ N, SameS N C → ∃ M2, (∀ {d}, dp_den true xs xl (d + 6) 529 [.ref 114, .int (nI k), .int (nI w), .long cn] N = lR (if v = 0 then -2 - f else v.toInt64) M2) ∧ RelS M2 ∧ Off [214, 216, 217, 218, 219, 220] [133] N M2 ∧ Cst 0 0 N M2 ∧ (∀ r i, r ≤ R → i < 12 → dp_J M2 96 (r * 12 + i) = dp_J M 96 (r * 12 + i)) ∧
      dp_I M2 114 133 = (if v = 0 ∨ v = -1 then nI R else nI (R + 1)) ∧ (v = nI (R + 1) → dp_J M2 96 ((R + 1) * 12 + 1) = cn ∧ dp_I M2 215 (R + 1) = 0) := by
  obtain ⟨v, C, f, a1, a2, a3, a4, a5, a6, a7⟩ := s_cover (xs := xs) (xl := xl) h hRR hR hw hk c1 c2
  refine ⟨v, C, f, a1, a2, a3, a4, a5, fun hv => ?_, a7⟩
  obtain ⟨M2, b1, b2, b3, b4, b5, b6, b7⟩ := a7 C ⟨fun k _ => ⟨rfl, rfl⟩, fun i _ => rfl⟩
  obtain ⟨G, R', hb⟩ := h.b
  have hR' : R' = R := by
    have := hb.2.2.2.2.2.1
    rw [hRR, nI_eq (by omega) (by have := hb.2.1; omega)] at this; exact this.symm
  subst hR'
  have hb0 := hb
  obtain ⟨hG, hR4, x1, x2, x3, x4, x5, x6, x7, x8, x9, x10, x11, x12, x13, x14, x15, x16, x17⟩ := hb
  have rI' : ∀ k ∈ rIk, k < 246 ∧ k ∉ [90, 92, 93, 95, 96] ∧ k ≠ 114 := by decide
  have rJ' : ∀ k ∈ rJk, k < 246 ∧ k ∉ [90, 92, 93, 95, 96] ∧ k ≠ 114 := by decide
  have sm := sm_res (xs := xs) (xl := xl) (d := 0) (M := M) (N := C) (w := w) (k := k) (cn := cn) hb0 hk c1 (fun k hk => (a2.1 k (rI' k hk).1 (rI' k hk).2.1 (rI' k hk).2.2).1) (fun k hk => (a2.1 k (rJ' k hk).1 (rJ' k hk).2.1 (rJ' k hk).2.2).2.1) (fun i _ => (a2.2.1 i (by simp)).1) (fun i hi => by
    have e1 : dp_J M2 96 = dp_J C 96 := (b3.1 96 (by decide) (by decide) (by decide)).2.1
    have e2 := b5 (i / 12) (i % 12) (by omega) (by omega)
    rw [show i / 12 * 12 + i % 12 = i by omega, e1] at e2
    exact e2) (a2.1 214 (by decide) (by decide) (by decide)).1 (a2.1 216 (by decide) (by decide) (by decide)).1 (a2.1 217 (by decide) (by decide) (by decide)).1 (a2.1 218 (by decide) (by decide) (by decide)).2.1 (a2.1 219 (by decide) (by decide) (by decide)).1 (ly M w R' cn G) rfl
  have b1' := b1 (d := 0)
  rw [if_pos hv] at b1'
  by_cases z : (ly M w R' cn G).1 = true ∨ ¬ (ly M w R' cn G).2.2.1 = 0
  · have := (lR_inj (b1'.symm.trans (sm.1 z))).1
    rw [this]
    exact mcc_n (tgt_bb (by omega) hG x10 x14)
  · have z1 : (ly M w R' cn G).1 = false := Bool.eq_false_iff.mpr (fun q => z (Or.inl q))
    have z2 : (ly M w R' cn G).2.2.1 = 0 := Classical.byContradiction (fun q => z (Or.inr q))
    by_cases z3 : dp_I M 219 k = 0
    · exfalso
      have e := (lR_inj (b1'.symm.trans (sm.2.2 z1 z2 z3))).2
      rw [if_pos (Or.inl hv), e] at b6
      have b6' : nI (R' + 1) = nI R' := by
        rw [← b6, gII, if_neg (by decide), gII, if_pos rfl, uI_s]
      rw [nI_eq (by omega) (by omega)] at b6'
      omega
    · have := (lR_inj (b1'.symm.trans (sm.2.1 z1 z2 z3))).1
      rw [this]; decide
end DuK
