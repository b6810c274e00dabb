/-! SECURITIES: what may be covered; security -/
/-- what is free; what may be covered -/
def fr (M : dp_M) (g R : Nat) : Int64 := if dp_J M 203 g - nO M g R < 0 then 0 else dp_J M 203 g - nO M g R
def mc (M : dp_M) (g R : Nat) : Int64 := if dp_I M 208 g ≠ 0 ∨ (dp_I M 206 g ≠ 0 ∧ 0 < uO M g R) then 0 else if dp_I M 204 g = 0 then 1000000000 else fr M g R * (dp_I M 205 g).toInt64 / (dp_I M 204 g).toInt64
section SE
variable {xs : Nat → Int32} {xl d : Nat} {M : dp_M}
theorem uO_le {G R g : Nat} (a14 : ∀ r, 1 ≤ r → r ≤ R → SRv M G r) : ∀ i, i ≤ R → uO M g i ≤ 4 * i
  | 0, _ => Nat.le_refl _
  | i + 1, hi => by
    have ih := uO_le (g := g) a14 i (by omega)
    obtain ⟨m, c1, c2, -⟩ := a14 (i + 1) (by omega) hi
    have ec : (dp_I M 216 (i + 1)).toNatClampNeg = m := by rw [c2, nI_cl (by omega)]
    have := ct_le (fun k => decide (dp_I M 217 ((i + 1) * 4 + k) = nI g)) m
    rw [uO, usR, ec]; omega
theorem sm_uO {G R g : Nat} (hR : R ≤ 400) (a4 : dp_I M 114 133 = nI R) (a14 : ∀ r, 1 ≤ r → r ≤ R → SRv M G r) : dp_den true xs xl (d + 1) 522 [.ref 114, .int (nI g)] M = iR (nI (uO M g R)) M := by
  rw [D_X12_usesOf_0_den, D_X12_usesOf_0_eq]
  simp only [dp_w]
  refine lpb (F := fun (a : Nat) i => D_X12_usesOf_4 xs xl d (nI g) (nI a) (nI (i + 1)) M) (s := uO M g) (N := R) ?_ (fun i hi hr => ?_)
  · (try dsimp only)
    rw [D_X12_usesOf_4_eq, a4, if_pos (nI_lt (by omega) (by omega))]
  · (try dsimp only at hr); (try dsimp only)
    obtain ⟨m, c1, c2, c3, c4, c5, c6, c7⟩ := a14 (i + 1) (by omega) (by omega)
    have ec : (dp_I M 216 (i + 1)).toNatClampNeg = m := by rw [c2, nI_cl (by omega)]
    rw [uO, usR, ec] at hr
    rw [D_X12_usesOf_4_eq, a4, if_neg (nI_nlt (by omega) (by omega))]
    simp only [dp_w, t_4']
    generalize uO M g i = S at hr
    refine lpb (F := fun (a : Nat) k => D_X12_usesOf_17 xs xl d (nI g) (nI a) (nI (i + 1)) (nI ((i + 1) * 4 + k)) M) (s := fun k => S + ct (fun k => decide (dp_I M 217 ((i + 1) * 4 + k) = nI g)) k) (N := m) ?_ (fun k hk hr2 => ?_)
    · (try dsimp only)
      rw [D_X12_usesOf_17_eq]
      simp only [nI_cl (show i + 1 < 2147483648 by omega), nI_o (show i + 1 < 402 by omega) (by omega), if_false, c2, t_4'', dp_w, nI_1]
      rw [if_pos (nI_lle (Nat.le_refl _) (by omega))]
      apply D_X12_usesOf_4_to_4_a
      exact hr
    · (try dsimp only at hr2); (try dsimp only)
      rw [ct] at hr2
      rw [D_X12_usesOf_17_eq]
      simp only [nI_cl (show i + 1 < 2147483648 by omega), nI_o (show i + 1 < 402 by omega) (by omega), if_false, c2, t_4'', nI_cl (show (i + 1) * 4 + k < 2147483648 by omega), nI_o (show (i + 1) * 4 + k < 1608 by omega) (by omega), dp_w, nI_1, Int32.add_zero]
      rw [if_neg (nI_nge (show (i + 1) * 4 + k < (i + 1) * 4 + m by omega) (by omega))]
      by_cases z : dp_I M 217 ((i + 1) * 4 + k) = nI g
      · rw [if_pos (decide_eq_true z)] at hr2
        rw [if_pos z]; exact hr2
      · rw [if_neg (by simpa using z)] at hr2
        rw [if_neg z]; exact hr2
theorem sc_free {R g : Nat} (hg : g < 41) (h : SRw M R g) : dp_den true xs xl (d + 2) 193 [.ref 90, .int (nI g)] M = lR (fr M g R) M := by
  obtain ⟨h, u, n, b1, b2, b3, b4, b5, b6, b7, b8, b9, b10, b11, b12, b13, b14, b15, b16, b17, b18, b19, b20, b21, b22, b23, b24, b25, b26⟩ := h
  rw [D_X8_freeIn_0_den, D_X8_freeIn_0_eq, sc_get (v2 := 1) (g := g) (k := 1) rfl hg (by omega), rb_bl, sc_get (v2 := 2) (g := g) (k := 2) rfl hg (by omega), rb_bl, b11, b25]
  rfl
/-- of a guarantee, what the model's reckoning needs -/
def SRm (M : dp_M) (g : Nat) : Prop := ∃ u n : Nat, u ≤ n ∧ 1 ≤ n ∧ n ≤ 100 ∧ dp_I M 204 g = nI u ∧ dp_I M 205 g = nI n
theorem SRw.m {R g : Nat} (h : SRw M R g) : SRm M g := by
  obtain ⟨h, u, n, b1, b2, b3, b4, b5, b6, b7, b8, b9, b10, -⟩ := h
  exact ⟨u, n, b2, b3, b4, b7, b9⟩
theorem sm_free {G R g : Nat} (hR : R ≤ 400) (hg : g < 41) (h : SRm M g) (a4 : dp_I M 114 133 = nI R) (a14 : ∀ r, 1 ≤ r → r ≤ R → SRv M G r) : dp_den true xs xl (d + 3) 523 [.ref 114, .int (nI g)] M = lR (fr M g R) M := by
  obtain ⟨u, n, b2, b3, b4, b7, b9⟩ := h
  rw [D_X12_freeOf_0_den, D_X12_freeOf_0_eq]
  simp only [nI_cl (show g < 2147483648 by omega), nI_o (show g < 41 by omega) (by omega), if_false, sm_nO hR hg b2 b3 b4 b7 b9 a4 a14, rb_bl, dp_w, lg_cmp_ge]
  unfold fr
  by_cases z : dp_J M 203 g - nO M g R < 0
  · rw [if_pos z, if_neg (Int64.not_le.mpr z)]
  · rw [if_neg z, if_pos (Int64.not_lt.mp z)]
theorem sc_may {G R g : Nat} (hR : R ≤ 400) (hg : g < 41) (h : SRw M R g) (a14 : ∀ r, 1 ≤ r → r ≤ R → SRv M G r) : dp_den true xs xl (d + 3) 194 [.ref 90, .int (nI g)] M = lR (mc M g R) M := by
  have hrow := h
  have hu := uO_le (g := g) a14 R (Nat.le_refl _)
  obtain ⟨h, u, n, b1, b2, b3, b4, b5, b6, b7, b8, b9, b10, b11, b12, b13, b14, b15, b16, b17, b18, b19, b20, b21, b22, b23, b24, b25, b26⟩ := h
  have gt := fun (k : Nat) (v : Int32) (hv : v = nI k) (hk : k < 16) => sc_get (xs := xs) (xl := xl) (d := d + 1) (M := M) (v2 := v) (g := g) (k := k) hv hg hk
  have e0 : (0 : Int64).toInt = 0 := by decide
  have eu : ((nI (uO M g R)).toInt64 ≤ 0) ↔ ¬ 0 < uO M g R := by
    rw [Int64.le_iff_toInt_le, e0, Int32.toInt_toInt64, nI_toInt (by omega)]; omega
  have tail : ¬ (dp_I M 206 g ≠ 0 ∧ 0 < uO M g R) → D_X8_mayCover_28 xs xl (d + 2) (nI g) 0 M = lR (mc M g R) M := fun hs => by
    rw [D_X8_mayCover_28_eq, if_pos rfl, gt 6 6 rfl (by omega), rb_bl, b20]
    unfold mc
    by_cases z : dp_I M 208 g = 0
    · rw [z, if_neg (by decide), if_neg (fun q => q.elim (fun w => w rfl) hs), gt 9 9 rfl (by omega), rb_bl, b8, b7]
      simp only [lg_cmp_gt]
      by_cases y : u = 0
      · subst y
        rw [if_neg (by decide), if_pos (show nI 0 = (0 : Int32) from rfl)]
      · have yu : (0 : Int64) < (nI u).toInt64 := by rw [Int64.lt_iff_toInt_lt, e0, Int32.toInt_toInt64, nI_toInt (by omega)]; omega
        rw [if_pos yu, sc_free hg hrow, rb_bl, gt 10 10 rfl (by omega), rb_bl, b10, if_neg (fun q => by rw [q] at yu; exact absurd yu (by decide)), if_neg (show ¬ nI (u) = (0 : Int32) from fun e => absurd ((nI_eq (a := u) (b := 0) (by omega) (by omega)).mp e) (by omega)), b9]
    · rw [b21.resolve_left z, if_pos (by decide), if_pos (Or.inl (by decide))]
  rw [D_X8_mayCover_0_den, D_X8_mayCover_0_eq, gt 11 11 rfl (by omega), rb_bl, b14]
  by_cases z : dp_I M 206 g = 0
  · rw [z, if_neg (by decide)]
    exact tail (fun q => q.1 z)
  · rw [b15.resolve_left z, if_pos (by decide), gt 5 5 rfl (by omega), rb_bl, b26]
    simp only [lg_cmp_le, eu]
    by_cases y : 0 < uO M g R
    · rw [if_neg (fun q => q y), D_X8_mayCover_28_eq, if_neg (by decide)]
      unfold mc; rw [if_pos (Or.inr ⟨z, y⟩)]
    · rw [if_pos y]; exact tail (fun q => y q.2)
theorem sm_may {G R g : Nat} (hR : R ≤ 400) (hg : g < 41) (h : SRm M g) (a4 : dp_I M 114 133 = nI R) (a14 : ∀ r, 1 ≤ r → r ≤ R → SRv M G r) : dp_den true xs xl (d + 4) 524 [.ref 114, .int (nI g)] M = lR (mc M g R) M := by
  have hrow := h
  have hu := uO_le (g := g) a14 R (Nat.le_refl _)
  have tail : dp_I M 208 g = 0 → ¬ (dp_I M 206 g ≠ 0 ∧ 0 < uO M g R) → D_X12_mayCover_28 xs xl (d + 3) (nI g) M = lR (mc M g R) M := fun hz hs => by
    rw [D_X12_mayCover_28_eq]
    simp only [nI_cl (show g < 2147483648 by omega), nI_o (show g < 41 by omega) (by omega), if_false, sm_free hR hg hrow a4 a14, rb_bl]
    unfold mc
    rw [if_neg (show ¬ (dp_I M 208 g ≠ 0 ∨ (dp_I M 206 g ≠ 0 ∧ 0 < uO M g R)) from fun q => q.elim (fun w => w hz) hs)]
    by_cases y : dp_I M 204 g = 0
    · rw [if_pos y, if_pos y]
    · rw [if_neg y, if_neg y, if_neg]
      intro q
      apply y
      rw [← Int32.toInt_inj, ← Int32.toInt_toInt64, q]; decide
  rw [D_X12_mayCover_0_den, D_X12_mayCover_0_eq]
  simp only [nI_cl (show g < 2147483648 by omega), nI_o (show g < 41 by omega) (by omega), if_false]
  by_cases z : dp_I M 208 g = 0
  · rw [if_pos z]
    by_cases y : dp_I M 206 g = 0
    · rw [if_pos y]; exact tail z (fun q => q.1 y)
    · rw [if_neg y, sm_uO hR a4 a14, rb_bi]
      by_cases w : 0 < uO M g R
      · rw [if_neg (show ¬ nI (uO M g R) ≤ (0 : Int32) from nI_ge (a := 0) (b := uO M g R) (by omega) (by omega))]
        unfold mc; rw [if_pos (Or.inr ⟨y, w⟩)]
      · rw [if_pos (show nI (uO M g R) ≤ (0 : Int32) from nI_le (a := uO M g R) (b := 0) (by omega) (by omega))]; exact tail z (fun q => w q.2)
  · rw [if_neg z]
    unfold mc; rw [if_pos (Or.inl z)]
end SE
