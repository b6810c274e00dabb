-- needs: 75 76
/-! GATE: looks at a box -/
def frf (go sa : Nat → Int32) (g i : Nat) : Bool := decide (go i = nI g ∧ wi (sa i) 1 3)
theorem frf_t {go sa : Nat → Int32} {g i : Nat} : frf go sa g i = true ↔ go i = nI g ∧ wi (sa i) 1 3 := decide_eq_true_iff
def wgt (gb gw : Nat → Int32) (K x : Nat) : Int32 := sm (fun g => if gb g = nI x then gw g else 0) K
def mny (gb : Nat → Int32) (K x : Nat) : Nat := ct (rwf gb (nI x)) K
def mnf (gb go sa : Nat → Int32) (D K x : Nat) : Nat := ct (fun g => rwf gb (nI x) g && an (frf go sa g) D) K
/-- what bars a box by itself -/
def obv (gb go sa : Nat → Int32) (D K x : Nat) : Int32 := if mny gb K x = 0 then 10 else if mny gb K x ≤ mnf gb go sa D K x then 0 else 11
def vdv (ru li wt : Nat → Int32) (many s x : Nat) : Int32 := if ru s = 1 then (if 1000 * wt x ≤ li s then 0 else 13) else if ru s = 2 then (if nI x - nI x / 2 * 2 = 1 then 13 else 0) else if ru s = 3 then (if many = 0 then 0 else 14) else if ru s = 4 then 14 else 0
def brf (cn : Nat → Int32) (x i : Nat) : Bool := decide (0 < cn (x * 40 + i))
theorem brf_t {cn : Nat → Int32} {x i : Nat} : brf cn x i = true ↔ 0 < cn (x * 40 + i) := decide_eq_true_iff
/-- the goods -/
def GGd (M : dp_M) (n : Nat) : Prop := ∃ K D : Nat, K ≤ 300 ∧ D ≤ 400 ∧ dp_I M 37 2 = nI K ∧ dp_I M 114 44 = nI K ∧ dp_I M 114 160 = nI D ∧
  (∀ g, g < K → dp_I M 46 g = dp_I M 147 g ∧ qin (dp_I M 147 g) n) ∧
  (∀ x, x < 100 → dp_I M 42 x = nI (mny (dp_I M 147) K x) ∧ dp_I M 44 x = wgt (dp_I M 147) (dp_I M 148) K x ∧ dp_I M 45 x = nI (mnf (dp_I M 147) (dp_I M 233) (dp_I M 241) D K x)) ∧
  (∀ g, g < K → dp_I M 47 g = bI (an (frf (dp_I M 233) (dp_I M 241) g) D = true)) ∧ (∀ g, K ≤ g → g < 300 → dp_I M 47 g = 0) ∧ ∀ i, i < D → qin (dp_I M 233 i) K
def GBr (M : dp_M) (c : Nat) : Prop := dp_I M 149 = dp_I M 48 ∧ dp_I M 150 = dp_I M 49 ∧ ∀ k, 0 ≤ (dp_I M 48 k).toInt ∧ (dp_I M 48 k).toInt ≤ c
def GLd (M : dp_M) (n : Nat) : Prop := (∀ x, x < n → dp_I M 146 x = dp_I M 43 x) ∧ ∀ x, n ≤ x → x < 100 → dp_I M 43 x = nI x
def GRl (M : dp_M) (n : Nat) : Prop := dp_I M 145 = dp_I M 41 ∧ (∀ x, x < n → 0 ≤ (dp_I M 41 x).toInt ∧ (dp_I M 41 x).toInt ≤ 40000 ∧ (dp_I M 11 x = 1 → dp_I M 41 x = 1000 * dp_I M 5 x)) ∧ ∀ x, n ≤ x → x < 100 → dp_I M 41 x = 0
def GRu (M : dp_M) : Prop := dp_I M 151 = dp_I M 38 ∧ dp_I M 152 = dp_I M 39 ∧ dp_I M 153 = dp_I M 40
theorem ct_all {P F : Nat → Bool} : ∀ K, ct P K ≤ ct (fun g => P g && F g) K ↔ ∀ g, g < K → P g = true → F g = true
  | 0 => ⟨fun _ g hg => by omega, fun _ => Nat.le_refl _⟩
  | K + 1 => by
    have ih := ct_all (P := P) (F := F) K
    have hm : ct (fun g => P g && F g) K ≤ ct P K := ct_mono K (fun i _ q => by simp only [Bool.and_eq_true] at q; exact q.1)
    rw [ct, ct]
    constructor
    · intro h g hg hP
      by_cases z : g = K
      · subst z
        cases hF : F g with
        | true => rfl
        | false => simp only [hP, hF, Bool.and_false, if_true] at h; simp at h; omega
      · refine ih.mp ?_ g (by omega) hP
        split at h
        · split at h <;> omega
        · split at h
          · rename_i q1 q2; simp only [Bool.and_eq_true] at q2; exact absurd q2.1 q1
          · omega
    · intro h
      have h1 := ih.mpr (fun g hg => h g (by omega))
      by_cases hP : P K = true
      · have hF := h K (by omega) hP
        simp only [hP, hF, Bool.and_true, if_true]; omega
      · simp only [Bool.eq_false_iff.mpr hP, Bool.false_and]; simp; omega
section GB
variable {xs : Nat → Int32} {xl d : Nat} {M : dp_M}
theorem gc_kg {x : Nat} (hx : x < 100) : dp_den true xs xl (d + 1) 26 [.ref 37, .int (nI x)] M = iR (1000 * dp_I M 5 x) M := by
  rw [D_X1_kilograms_0_den, D_X1_kilograms_0_eq]
  simp only [nI_cl (show x < 2147483648 by omega), nI_o hx (by omega), if_false]
theorem gm_kg {x : Nat} (hx : x < 100) : dp_den true xs xl (d + 1) 421 [.ref 114, .int (nI x)] M = iR (1000 * dp_I M 137 x) M := by
  rw [D_X12_kilograms_0_den, D_X12_kilograms_0_eq]
  simp only [nI_cl (show x < 2147483648 by omega), nI_o hx (by omega), if_false]
theorem gm_wi {K x : Nat} (hK : K ≤ 300) (h : dp_I M 114 44 = nI K) : dp_den true xs xl (d + 1) 423 [.ref 114, .int (nI x)] M = iR (wgt (dp_I M 147) (dp_I M 148) K x) M := by
  rw [D_X12_weightIn_0_den, D_X12_weightIn_0_eq]
  simp only [dp_w]
  refine lp_sm (F := fun (a : Int32) i => D_X12_weightIn_4 xs xl d (nI x) a (nI i) M) (fun g => if dp_I M 147 g = nI x then dp_I M 148 g else 0) (N := K) (fun a => ?_) (fun i a r hi hr => ?_)
  · (try dsimp only)
    rw [D_X12_weightIn_4_eq, h, if_pos (nI_lle (Nat.le_refl _) (by omega))]
  · (try dsimp only at hr); (try dsimp only)
    rw [D_X12_weightIn_4_eq, h, if_neg (nI_nge hi (by omega))]
    simp only [nI_cl (show i < 2147483648 by omega), nI_o (show i < 300 by omega) (by omega), if_false, dp_w, nI_1]
    by_cases z : dp_I M 147 i = nI x
    · rw [if_pos z] at hr
      rw [if_pos z]; exact hr
    · rw [if_neg z] at hr
      rw [if_neg z]; exact hr
theorem gm_many {K x : Nat} (hK : K ≤ 300) (h : dp_I M 114 44 = nI K) : dp_den true xs xl (d + 1) 425 [.ref 114, .int (nI x)] M = iR (nI (mny (dp_I M 147) K x)) M := by
  rw [D_X12_manyIn_0_den, D_X12_manyIn_0_eq]
  simp only [dp_w]
  refine lpb (F := fun (a : Nat) i => D_X12_manyIn_4 xs xl d (nI x) (nI a) (nI i) M) (s := ct (rwf (dp_I M 147) (nI x))) (N := K) ?_ (fun i hi hr => ?_)
  · (try dsimp only)
    rw [D_X12_manyIn_4_eq, h, if_pos (nI_lle (Nat.le_refl _) (by omega))]; rfl
  · (try dsimp only at hr); (try dsimp only)
    rw [ct] at hr
    rw [D_X12_manyIn_4_eq, h, if_neg (nI_nge hi (by omega))]
    simp only [nI_cl (show i < 2147483648 by omega), nI_o (show i < 300 by omega) (by omega), if_false, dp_w, nI_1, Int32.add_zero]
    by_cases z : dp_I M 147 i = nI x
    · rw [if_pos (rwf_t.mpr z)] at hr
      rw [if_pos z]; exact hr
    · rw [if_neg (fun q => z (rwf_t.mp q))] at hr
      rw [if_neg z]; exact hr
theorem gm_free {D g : Nat} (hD : D ≤ 400) (h : dp_I M 114 160 = nI D) : dp_den true xs xl (d + 2) 426 [.ref 114, .int (nI g)] M = iR (bI (an (frf (dp_I M 233) (dp_I M 241) g) D = true)) M := by
  rw [D_X12_isFree_0_den, D_X12_isFree_0_eq]
  simp only [dp_w]
  refine lpb (F := fun (a : Int32) i => D_X12_isFree_4 xs xl (d + 1) (nI g) a (nI i) M) (s := fun i => bI (an (frf (dp_I M 233) (dp_I M 241) g) i = true)) (N := D) ?_ (fun i hi hr => ?_)
  · (try dsimp only)
    rw [D_X12_isFree_4_eq, h, if_pos (nI_lle (Nat.le_refl _) (by omega)), if_pos (by rw [bI_01]; trivial)]
  · (try dsimp only at hr); (try dsimp only)
    have cw : ∀ v : Int32, ((1 : Int64) ≤ v.toInt64 ∧ v.toInt64 ≤ (3 : Int64)) = wi v 1 3 := fun v => wi_64 1 3 (by decide) (by decide)
    rw [an_s] at hr
    rw [D_X12_isFree_4_eq, h, if_neg (nI_nge hi (by omega)), ibz]
    simp only [nI_cl (show i < 2147483648 by omega), nI_o (show i < 400 by omega) (by omega), if_false, dp_w, nI_1, q_min, rb_bi, ibz, cw]
    by_cases y : an (frf (dp_I M 233) (dp_I M 241) g) i = true
    · rw [if_pos y] at hr
      rw [if_pos y]; exact hr
    · rw [if_neg y] at hr
      rw [if_neg y]
      by_cases z1 : dp_I M 233 i = nI g
      · rw [if_pos z1]
        by_cases z2 : wi (dp_I M 241 i) 1 3
        · rw [bI_t (frf_t.mpr ⟨z1, z2⟩)] at hr
          rw [if_pos z2]; exact hr
        · rw [bI_f (fun q => z2 (frf_t.mp q).2)] at hr
          rw [if_neg z2]; exact hr
      · rw [bI_f (fun q => z1 (frf_t.mp q).1)] at hr
        rw [if_neg z1]; exact hr
theorem gc_own {n x : Nat} (h : GGd M n) (hx : x < 100) : ∃ K D, dp_I M 114 44 = nI K ∧ dp_I M 114 160 = nI D ∧ dp_den true xs xl (d + 1) 37 [.ref 37, .int (nI x)] M = iR (obv (dp_I M 147) (dp_I M 233) (dp_I M 241) D K x) M := by
  obtain ⟨K, D, hK, hD, g1, g2, g3, g4, g5, g6, g7, g8⟩ := h
  obtain ⟨q1, q2, q3⟩ := g5 x hx
  have l1 : mny (dp_I M 147) K x ≤ K := ct_le _ _
  have l2 : mnf (dp_I M 147) (dp_I M 233) (dp_I M 241) D K x ≤ K := ct_le _ _
  refine ⟨K, D, g2, g3, ?_⟩
  rw [D_X1_ownBar_0_den, D_X1_ownBar_0_eq]
  simp only [nI_cl (show x < 2147483648 by omega), nI_o hx (by omega), if_false, q1, q3]
  unfold obv
  by_cases z : mny (dp_I M 147) K x = 0
  · rw [if_pos (show nI (mny (dp_I M 147) K x) = 0 by rw [z]; rfl), if_pos z]
  · rw [if_neg (nI_n0 (by omega) z), if_neg z]
    by_cases y : mny (dp_I M 147) K x ≤ mnf (dp_I M 147) (dp_I M 233) (dp_I M 241) D K x
    · rw [if_pos (nI_lle y (by omega)), if_pos y]
    · rw [if_neg (nI_nge (by omega) (by omega)), if_neg y]
theorem gm_own {K D x : Nat} (hK : K ≤ 300) (hD : D ≤ 400) (h2 : dp_I M 114 44 = nI K) (h3 : dp_I M 114 160 = nI D) : dp_den true xs xl (d + 3) 427 [.ref 114, .int (nI x)] M = iR (obv (dp_I M 147) (dp_I M 233) (dp_I M 241) D K x) M := by
  have l1 : mny (dp_I M 147) K x ≤ K := ct_le _ _
  obtain ⟨bad, hbad⟩ : ∃ bad : Nat → Bool, bad = fun g => rwf (dp_I M 147) (nI x) g && !(an (frf (dp_I M 233) (dp_I M 241) g) D) := ⟨_, rfl⟩
  have hall : (mny (dp_I M 147) K x ≤ mnf (dp_I M 147) (dp_I M 233) (dp_I M 241) D K x) ↔ ¬ an bad K = true := by
    unfold mny mnf
    rw [ct_all, an_iff, hbad]
    constructor
    · rintro h ⟨g, g1, g2⟩
      simp only [Bool.and_eq_true, Bool.not_eq_true'] at g2
      rw [h g g1 g2.1] at g2; exact absurd g2.2 (by decide)
    · intro h g hg hp
      cases hF : an (frf (dp_I M 233) (dp_I M 241) g) D with
      | true => rfl
      | false => exact absurd ⟨g, hg, by simp only [hp, hF]; rfl⟩ h
  rw [D_X12_ownBar_0_den, D_X12_ownBar_0_eq]
  simp only [dp_w]
  refine lpb (F := fun (a : Int32) i => D_X12_ownBar_4 xs xl (d + 2) (nI x) a (nI i) M) (s := fun i => bI (¬ an bad i = true)) (N := K) ?_ (fun i hi hr => ?_)
  · (try dsimp only)
    rw [D_X12_ownBar_4_eq, h2, if_pos (nI_lle (Nat.le_refl _) (by omega)), gm_many hK h2, rb_bi]
    unfold obv
    by_cases z : mny (dp_I M 147) K x = 0
    · rw [if_pos (show nI (mny (dp_I M 147) K x) = 0 by rw [z]; rfl), if_pos z]
    · rw [if_neg (nI_n0 (by omega) z), if_neg z, ibz]
      by_cases y : ¬ an bad K = true
      · rw [if_pos y, if_pos (hall.mpr y)]
      · rw [if_neg y, if_neg (fun q => y (hall.mp q))]
  · (try dsimp only at hr); (try dsimp only)
    rw [D_X12_ownBar_4_eq, h2, if_neg (nI_nge hi (by omega)), ibz]
    simp only [nI_cl (show i < 2147483648 by omega), nI_o (show i < 300 by omega) (by omega), if_false, dp_w, nI_1, gm_free hD h3, rb_bi, ibz]
    have e : (¬ an bad (i + 1) = true) ↔ (¬ an bad i = true) ∧ ¬ bad i = true := by
      rw [an, Bool.or_eq_true]; constructor
      · intro q; exact ⟨fun w => q (Or.inl w), fun w => q (Or.inr w)⟩
      · rintro ⟨q1, q2⟩ (w | w); exact q1 w; exact q2 w
    rw [bI_c e] at hr
    by_cases y : ¬ an bad i = true
    · rw [if_pos y]
      have hb : bad i = true ↔ dp_I M 147 i = nI x ∧ ¬ an (frf (dp_I M 233) (dp_I M 241) i) D = true := by
        rw [hbad]; simp only [Bool.and_eq_true, Bool.not_eq_true', rwf_t, Bool.not_eq_true]
      by_cases z1 : dp_I M 147 i = nI x
      · rw [if_pos z1]
        by_cases z2 : an (frf (dp_I M 233) (dp_I M 241) i) D = true
        · rw [if_pos z2]
          rw [bI_t ⟨y, fun q => (hb.mp q).2 z2⟩] at hr; exact hr
        · rw [if_neg z2]
          rw [bI_f (fun q => q.2 (hb.mpr ⟨z1, z2⟩))] at hr; exact hr
      · rw [if_neg z1]
        rw [bI_t ⟨y, fun q => z1 (hb.mp q).1⟩] at hr; exact hr
    · rw [if_neg y]
      rw [bI_f (fun q => y q.1)] at hr; exact hr
theorem gc_vd {n s x : Nat} (h : GGd M n) (hs : s < 4) (hx : x < 100) : ∃ K, dp_I M 114 44 = nI K ∧ dp_den true xs xl (d + 2) 38 [.ref 37, .int (nI s), .int (nI x)] M = iR (vdv (dp_I M 38) (dp_I M 39) (dp_I M 5) (mny (dp_I M 147) K x) s x) M := by
  obtain ⟨K, D, hK, hD, g1, g2, g3, g4, g5, g6, g7, g8⟩ := h
  have l1 : mny (dp_I M 147) K x ≤ K := ct_le _ _
  refine ⟨K, g2, ?_⟩
  rw [D_X1_verdict_0_den, D_X1_verdict_0_eq]
  simp only [nI_cl (show s < 2147483648 by omega), nI_o hs (by omega), if_false, gc_kg hx, rb_bi, nI_cl (show x < 2147483648 by omega), nI_o hx (by omega), (g5 x hx).1]
  unfold vdv
  by_cases z1 : dp_I M 38 s = 1
  · rw [if_pos z1, if_pos z1]; split <;> rfl
  rw [if_neg z1, if_neg z1]
  by_cases z2 : dp_I M 38 s = 2
  · rw [if_pos z2, if_pos z2]; split <;> rfl
  rw [if_neg z2, if_neg z2]
  by_cases z3 : dp_I M 38 s = 3
  · rw [if_pos z3, if_pos z3]
    by_cases y : mny (dp_I M 147) K x = 0
    · rw [if_pos y, if_pos (show nI (mny (dp_I M 147) K x) ≤ 0 by rw [y]; decide)]
    · rw [if_neg y, if_neg (show ¬ nI (mny (dp_I M 147) K x) ≤ (0 : Int32) from nI_nge (i := 0) (n := mny (dp_I M 147) K x) (by omega) (by omega))]
  rw [if_neg z3, if_neg z3]
  split <;> rfl
theorem gm_vd {K s x : Nat} (hK : K ≤ 300) (h2 : dp_I M 114 44 = nI K) (hs : s < 4) (hx : x < 100) : dp_den true xs xl (d + 2) 432 [.ref 114, .int (nI s), .int (nI x)] M = iR (vdv (dp_I M 151) (dp_I M 152) (dp_I M 137) (mny (dp_I M 147) K x) s x) M := by
  have l1 : mny (dp_I M 147) K x ≤ K := ct_le _ _
  rw [D_X12_ruled_0_den, D_X12_ruled_0_eq]
  simp only [nI_cl (show s < 2147483648 by omega), nI_o hs (by omega), if_false, gm_kg hx, gm_many hK h2, rb_bi]
  unfold vdv
  by_cases z1 : dp_I M 151 s = 1
  · rw [if_pos z1, if_pos z1]; split <;> rfl
  rw [if_neg z1, if_neg z1]
  by_cases z2 : dp_I M 151 s = 2
  · rw [if_pos z2, if_pos z2]; split <;> rfl
  rw [if_neg z2, if_neg z2]
  by_cases z3 : dp_I M 151 s = 3
  · rw [if_pos z3, if_pos z3]
    by_cases y : mny (dp_I M 147) K x = 0
    · rw [if_pos y, if_pos (show nI (mny (dp_I M 147) K x) ≤ 0 by rw [y]; decide)]
    · rw [if_neg y, if_neg (show ¬ nI (mny (dp_I M 147) K x) ≤ (0 : Int32) from nI_nge (i := 0) (n := mny (dp_I M 147) K x) (by omega) (by omega))]
  rw [if_neg z3, if_neg z3]
  split <;> rfl
theorem gc_obs {x : Nat} (hx : x < 100) : dp_den true xs xl (d + 1) 34 [.ref 37, .int (nI x)] M = iR (nI (ct (brf (dp_I M 48) x) 40)) M := by
  rw [D_X1_ownBars_0_den, D_X1_ownBars_0_eq]
  simp only [dp_w]
  have e40 : ∀ i, nI x * (4 : Int32) * (10 : Int32) + nI i = nI (x * 40 + i) := fun i => by
    rw [show (4 : Int32) = nI 4 from rfl, show (10 : Int32) = nI 10 from rfl, pk_mul, pk_mul, nI_add]; congr 1; omega
  refine lpb (F := fun (a : Nat) i => D_X1_ownBars_4 xs xl d (nI x) (nI a) (nI i) M) (s := ct (brf (dp_I M 48) x)) (N := 40) ?_ (fun i hi hr => ?_)
  · (try dsimp only)
    rw [D_X1_ownBars_4_eq, if_pos (by decide)]
  · (try dsimp only at hr); (try dsimp only)
    rw [ct] at hr
    rw [D_X1_ownBars_4_eq, if_neg (show ¬ (40 : Int32) ≤ nI (i) from nI_ge (a := i) (b := 40) (by omega) (by omega)), e40]
    simp only [nI_cl (show x * 40 + i < 2147483648 by omega), nI_o (show x * 40 + i < 4000 by omega) (by omega), if_false, dp_w, nI_1, Int32.add_zero]
    by_cases z : dp_I M 48 (x * 40 + i) ≤ 0
    · rw [if_neg (fun q => Int32.not_lt.mpr z (brf_t.mp q))] at hr
      rw [if_pos z]; exact hr
    · rw [if_pos (brf_t.mpr (Int32.not_le.mp z))] at hr
      rw [if_neg z]; exact hr
end GB
