-- needs: 71 72 73 74 75 76 77 78 79
/-! DUTY: the class: base, parts, what is wanting, cents of a row -/
def akB (M : dp_M) (i : Nat) : Bool := decide (¬ dp_I M 109 i = -1)
def hsD (M : dp_M) (i : Nat) : Int64 := if dp_I M 109 i = -1 then 0 else dp_J M 86 (dp_I M 109 i).toNatClampNeg
def wnD (M : dp_M) (i : Nat) : Int64 := if dp_I M 109 i = -1 then 0 else dp_J M 85 (dp_I M 109 i).toNatClampNeg
def AkO (M : dp_M) (i : Nat) : Prop := dp_I M 109 i = -1 ∨ ∃ a, a < 400 ∧ dp_I M 109 i = nI a
/-- the class's name of a part -/
def bs (w : Nat) : Int32 := if w = 3 then 0 else nI (w + 1)
section DuC
variable {xs : Nat → Int32} {xl d : Nat} {M : dp_M} {q : Nat} {l : List Nd}
theorem ak_off {S T : List Nat} {N : dp_M} {i : Nat} (o : Off S T M N) (hS : ∀ k ∈ [85, 86, 109], k ∉ S) : akB N i = akB M i ∧ hsD N i = hsD M i ∧ wnD N i = wnD M i ∧ (AkO M i → AkO N i) := by
  have e85 := (o.1 85 (by decide) (hS 85 (by decide)) (by decide)).2.1
  have e86 := (o.1 86 (by decide) (hS 86 (by decide)) (by decide)).2.1
  have e109 := (o.1 109 (by decide) (hS 109 (by decide)) (by decide)).1
  unfold akB hsD wnD AkO
  rw [e85, e86, e109]
  exact ⟨rfl, rfl, rfl, id⟩
theorem akB_f {i : Nat} (h : akB M i = false) : hsD M i = 0 ∧ wnD M i = 0 := by
  unfold akB at h
  have h' : dp_I M 109 i = -1 := Classical.byContradiction (fun q => absurd h (by rw [decide_eq_true q]; decide))
  unfold hsD wnD
  rw [if_pos h', if_pos h']
  exact ⟨rfl, rfl⟩
theorem c_base {i k : Nat} (hi : i < 400) (hk : k < 8) (ha : AkO M i) : dp_den true xs xl (d + 1) 14 [.ref 108, .int (nI i), .int (nI k)] M = iR (bs (wch k (akB M i) (hsD M i) (wnD M i))) M := by
  rw [D_X0_baseOf_0_den, D_X0_baseOf_0_eq, nI_cl (by omega), if_neg (by rw [nI_o hi (by omega)]; exact id), dpw]
  have k1 : nI k ≤ (1 : Int32) ↔ ¬ 1 < k := by
    rw [show (1 : Int32) = nI 1 from rfl, Int32.le_iff_toInt_le, nI_toInt (by omega), nI_toInt (by omega)]; omega
  have k2 : nI k = (1 : Int32) ↔ k = 1 := by rw [show (1 : Int32) = nI 1 from rfl, nI_eq (by omega) (by omega)]
  unfold wch
  by_cases z : 1 < k
  · rw [if_neg (fun w => k1.mp w z), if_pos z]
    rfl
  rw [if_pos (k1.mpr z), if_neg z]
  rcases ha with e | ⟨a, a4, e⟩
  · have b0 : akB M i = false := by unfold akB; rw [e]; decide
    have h0 := (akB_f b0).1
    rw [b0, h0, e]
    by_cases z1 : k = 1
    · rw [if_pos (k2.mpr z1), if_pos rfl, if_pos z1, if_neg (by decide)]
      rfl
    · rw [if_neg (fun w => z1 (k2.mp w)), if_pos rfl, if_neg z1, if_neg (by decide)]
      rfl
  · have ne : ¬ nI a = (-1 : Int32) := m1n (by omega)
    have b1 : akB M i = true := by unfold akB; rw [e]; exact decide_eq_true ne
    have h1 : hsD M i = dp_J M 86 a := by unfold hsD; rw [e, if_neg ne, nI_cl (by omega)]
    have w1 : wnD M i = dp_J M 85 a := by unfold wnD; rw [e, if_neg ne, nI_cl (by omega)]
    have no : ¬ (nI a < 0 ∨ 400 ≤ a) := by rw [nI_o a4 (by omega)]; exact id
    rw [b1, h1, w1, e]
    by_cases z1 : k = 1
    · rw [if_pos (k2.mpr z1), if_neg ne, nI_cl (by omega), if_neg no, if_pos z1]
      by_cases z2 : 0 < dp_J M 86 a
      · rw [if_neg (fun w => Int64.not_le.mpr z2 ((lg_cmp_le _ _).mp w)), if_pos z2]; rfl
      · rw [if_pos ((lg_cmp_le _ _).mpr (Int64.not_lt.mp z2)), if_neg z2]; rfl
    · rw [if_neg (fun w => z1 (k2.mp w)), if_neg ne, nI_cl (by omega), if_neg no, if_neg no, if_neg z1, if_pos rfl]
      by_cases z2 : dp_J M 86 a < dp_J M 85 a
      · rw [if_neg (fun w => Int64.not_le.mpr z2 ((lg_cmp_ge _ _).mp w)), if_pos z2]; rfl
      · rw [if_pos ((lg_cmp_ge _ _).mpr (Int64.not_lt.mp z2)), if_neg z2]; rfl
theorem c_onb {i wc : Nat} {v : Int64} (hi : i < 400) (ha : AkO M i) (h3 : wc < 3) (hw : ¬ wc = 0 → 0 < (wnD M i).toInt ∧ akB M i = true) : dp_den true xs xl (d + 1) 17 [.ref 108, .int (nI i), .long v, .int (nI (wc + 1))] M = lR (pt (hsD M i) (wnD M i) wc v) M := by
  rw [D_X0_onBase_0_den, D_X0_onBase_0_eq, nI_cl (by omega), if_neg (by rw [nI_o hi (by omega)]; exact id), dpw]
  have k1 : nI (wc + 1) = (1 : Int32) ↔ wc = 0 := by rw [show (1 : Int32) = nI 1 from rfl, nI_eq (by omega) (by omega)]; omega
  have k2 : nI (wc + 1) = (2 : Int32) ↔ wc = 1 := by rw [show (2 : Int32) = nI 2 from rfl, nI_eq (by omega) (by omega)]; omega
  unfold pt
  by_cases z : wc = 0
  · rw [if_pos (k1.mpr z), if_pos z]
  rw [if_neg (fun w => z (k1.mp w)), if_neg z]
  obtain ⟨w1, w2⟩ := hw z
  rcases ha with e | ⟨a, a4, e⟩
  · unfold akB at w2; rw [e] at w2; exact absurd w2 (by decide)
  have ne : ¬ nI a = (-1 : Int32) := m1n (by omega)
  have h1 : hsD M i = dp_J M 86 a := by unfold hsD; rw [e, if_neg ne, nI_cl (by omega)]
  have wn1 : wnD M i = dp_J M 85 a := by unfold wnD; rw [e, if_neg ne, nI_cl (by omega)]
  have no : ¬ (nI a < 0 ∨ 400 ≤ a) := by rw [nI_o a4 (by omega)]; exact id
  rw [wn1] at w1
  have e0 : (0 : Int64).toInt = 0 := by decide
  have p0 : (0 : Int64) < dp_J M 85 a := by rw [Int64.lt_iff_toInt_lt, e0]; exact w1
  have n0 : ¬ dp_J M 85 a = 0 := fun q => by rw [q, e0] at w1; omega
  rw [h1, wn1, e, if_neg ne, nI_cl (by omega), if_neg no, if_pos ((lg_cmp_gt _ _).mpr p0), if_neg no, if_neg no, if_neg n0, dpw]
  by_cases z1 : wc = 1
  · rw [if_pos (k2.mpr z1), if_pos z1]
  · rw [if_neg (fun w => z1 (k2.mp w)), if_neg z1]
/-- is an amount wanting: the class looks at the units -/
theorem c_lks {i : Nat} (hR : RtO M q l) (hi : i < 400) : ((∃ u, u < 8 ∧ tb (umk l) u = true ∧ dp_J M 111 (i * 23 + (15 + u)) = -1) → dp_den true xs xl (d + 2) 15 [.ref 108, .int (nI i), .ref q] M = iR 1 M) ∧ ((∀ u, u < 8 → tb (umk l) u = true → ¬ dp_J M 111 (i * 23 + (15 + u)) = -1) → dp_den true xs xl (d + 2) 15 [.ref 108, .int (nI i), .ref q] M = iR 0 M) := by
  have T : dp_t true M q = 16 := by rw [bg_t hR.1]; exact hR.2.2.1
  have eu : dp_I M q 1 = umk l := hR.2.2.2.2.1
  have st : ∀ u, u < 8 → D_X0_lacksAmount_2 xs xl (d + 1) (nI i) q (nI u) M = if tb (umk l) u = true ∧ dp_J M 111 (i * 23 + (15 + u)) = -1 then iR 1 M else D_X0_lacksAmount_2 xs xl (d + 1) (nI i) q (nI (u + 1)) M := fun u hu => by
    rw [D_X0_lacksAmount_2_eq, if_neg (show ¬ (8 : Int32) ≤ nI u from nI_nge (n := 8) hu (by omega)), if_pos T, eu]
    have b := tb_sh (v := umk l) (j := u) (by omega)
    by_cases z : tb (umk l) u = true
    · rw [if_pos (b.mpr z), show (15 : Int32) = nI 15 from rfl, nI_add, dc_get (d := d) rfl hi (by omega), rb_bl, dpw, nI_1]
      by_cases z2 : dp_J M 111 (i * 23 + (15 + u)) = -1
      · rw [if_pos ((lg_cmp_eq _ _).mpr z2), if_pos ⟨z, z2⟩]
      · rw [if_neg (fun w => z2 ((lg_cmp_eq _ _).mp w)), if_neg (fun w => z2 w.2)]
    · rw [if_neg (fun w => z (b.mp w)), if_neg (fun w => z w.1), dpw, nI_1]
  have no : ∀ k u, u + k = 8 → (∀ u', u ≤ u' → u' < 8 → tb (umk l) u' = true → ¬ dp_J M 111 (i * 23 + (15 + u')) = -1) → D_X0_lacksAmount_2 xs xl (d + 1) (nI i) q (nI u) M = iR 0 M := by
    intro k
    induction k with
    | zero =>
      intro u e _
      rw [D_X0_lacksAmount_2_eq, show u = 8 by omega, if_pos (by decide)]
    | succ k ih =>
      intro u e h
      rw [st u (by omega), if_neg (fun w => h u (Nat.le_refl _) (by omega) w.1 w.2), ih (u + 1) (by omega) (fun u' h1 h2 => h u' (by omega) h2)]
  have yes : ∀ k u, u + k = 8 → (∃ u', u ≤ u' ∧ u' < 8 ∧ tb (umk l) u' = true ∧ dp_J M 111 (i * 23 + (15 + u')) = -1) → D_X0_lacksAmount_2 xs xl (d + 1) (nI i) q (nI u) M = iR 1 M := by
    intro k
    induction k with
    | zero => intro u e ⟨u', h1, h2, _⟩; omega
    | succ k ih =>
      intro u e ⟨u', h1, h2, h3⟩
      rw [st u (by omega)]
      by_cases z : tb (umk l) u = true ∧ dp_J M 111 (i * 23 + (15 + u)) = -1
      · rw [if_pos z]
      · rw [if_neg z]
        refine ih (u + 1) (by omega) ⟨u', ?_, h2, h3⟩
        have : ¬ u' = u := fun w => z (by rw [← w]; exact h3)
        omega
  constructor
  · rintro ⟨u, h1, h2⟩
    rw [D_X0_lacksAmount_0_den, D_X0_lacksAmount_0_eq, dpw]
    exact yes 8 0 rfl ⟨u, Nat.zero_le _, h1, h2⟩
  · intro h
    rw [D_X0_lacksAmount_0_den, D_X0_lacksAmount_0_eq, dpw]
    exact no 8 0 rfl (fun u' _ h2 => h u' h2)
/-- it is the same as what the reckoning finds wanting -/
theorem lkB_u {am : Nat → Int64} {tbl : Nat → Int64} (hk : ndl l) (h : ∀ u, u < 8 → (am u = -1 ↔ tbl u = -1)) : lkB l am = true ↔ ∃ u, u < 8 ∧ tb (umk l) u = true ∧ tbl u = -1 := by
  rw [lkB_t]
  constructor
  · rintro ⟨j, hj, h1, h2⟩
    have mem : l.getD j v0 ∈ l := by rw [gE hj]; exact List.getElem_mem hj
    obtain ⟨u, u8, hu⟩ : ∃ u, u < 8 ∧ (l.getD j v0).2.2.1 = nI u := by
      rcases hk _ mem with k0 | k1 | ⟨-, hu⟩ | kb | ⟨k7, -⟩
      · rw [k0] at h1; exact absurd h1 (by decide)
      · rw [k1] at h1; exact absurd h1 (by decide)
      · exact hu
      · rw [h1] at kb; exact absurd kb (by decide)
      · rw [k7] at h1; exact absurd h1 (by decide)
    rw [hu, nI_cl (by omega)] at h2
    exact ⟨u, u8, (tb_umk u8 l hk).mpr ⟨_, mem, h1, hu⟩, (h u u8).mp h2⟩
  · rintro ⟨u, u8, h1, h2⟩
    obtain ⟨v, hv, v2, vu⟩ := (tb_umk u8 l hk).mp h1
    obtain ⟨j, hj, e⟩ := List.mem_iff_getElem.mp hv
    have e' : l.getD j v0 = v := by rw [gE hj]; exact e
    refine ⟨j, hj, by rw [e']; exact v2, ?_⟩
    rw [e', vu, nI_cl (by omega)]
    exact (h u u8).mpr h2
/-- the cents of a row -/
theorem c_cents {i wc : Nat} (hR : RtO M q l) (hk : ndl l) (hi : i < 400) (ha : AkO M i) (h3 : wc < 3) (hw : ¬ wc = 0 → 0 < (wnD M i).toInt ∧ akB M i = true) : ∃ N am, dp_den true xs xl (d + 6) 16 [.ref 108, .int (nI i), .ref q, .int (nI (wc + 1))] M = lR ((rval l (pt (hsD M i) (wnD M i) wc (dp_J M 111 (i * 23 + 6))) am + 500000) / 1000000) N ∧ Off [112, 113] [] M N ∧ Cst 0 0 M N ∧ dp_I N = dp_I M ∧ ∀ u, u < 8 → am u = pt (hsD M i) (wnD M i) wc (if dp_J M 111 (i * 23 + (15 + u)) < 0 then 0 else dp_J M 111 (i * 23 + (15 + u))) := by
  obtain ⟨g, hg⟩ : ∃ g : Nat → Int64, g = fun u => pt (hsD M i) (wnD M i) wc (if dp_J M 111 (i * 23 + (15 + u)) < 0 then 0 else dp_J M 111 (i * 23 + (15 + u))) := ⟨_, rfl⟩
  have oK : ∀ u, Off [112, 113] [] M (rJ M 112 (fN (dp_J M 112) 0 u g)) := fun u => Off.rJ 112 (by decide) _ (Off.rr _ _ M)
  have tb' : ∀ u, dp_J (rJ M 112 (fN (dp_J M 112) 0 u g)) 111 = dp_J M 111 := fun u => by rw [rJ_J, if_neg (by decide)]
  have key := lp (fun (_ : Nat) u => D_X0_centsOf_3 xs xl (d + 5) (nI i) q (nI (wc + 1)) (nI u) (rJ M 112 (fN (dp_J M 112) 0 u g))) (fun _ => 0) 8 (fun u hu => ?_)
  · (try dsimp only at key)
    rw [fN_0, rJ_id] at key
    have ob := ak_off (i := i) (oK 8) (by decide)
    obtain ⟨N0, hN0⟩ : ∃ N0, N0 = rJ M 112 (fN (dp_J M 112) 0 8 g) := ⟨_, rfl⟩
    have oN : Off [112, 113] [] M N0 := by rw [hN0]; exact oK 8
    rw [← hN0] at key ob
    have hR' : RtO N0 q l := hR.off oN
    have T : dp_t true N0 q = 16 := by rw [bg_t hR'.1]; exact hR'.2.2.1
    have e111 : dp_J N0 111 = dp_J M 111 := by rw [hN0, tb']
    refine ⟨rJ N0 113 (vrow l (pt (hsD M i) (wnD M i) wc (dp_J M 111 (i * 23 + 6))) (dp_J N0 112) (dp_J N0 113) l.length), dp_J N0 112, ?_, Off.rJ 113 (by decide) _ oN, by rw [hN0]; exact Cst.r _, by rw [hN0]; rfl, fun u hu => ?_⟩
    · rw [D_X0_centsOf_0_den, D_X0_centsOf_0_eq, dpw]
      show D_X0_centsOf_3 xs xl (d + 5) (nI i) q (nI (wc + 1)) (nI 0) M = _
      rw [key, D_X0_centsOf_3_eq, if_pos (by decide), dc_get (d := d + 4) (v2 := 6) (k := 6) rfl hi (by omega), rb_bl]
      show dp_bl (dp_den true xs xl (d + 5) 17 [.ref 108, .int (nI i), .long (dp_J N0 111 (i * 23 + 6)), .int (nI (wc + 1))] N0) _ = _
      rw [e111, c_onb (d := d + 4) hi (ob.2.2.2 ha) h3 (by rw [ob.2.2.1, ob.1]; exact hw), rb_bl, if_pos T, ob.2.1, ob.2.2.1, c_value (d := d) hR' hk, rb_bl]
    · have := fN_in (f := dp_J M 112) (a := 0) (n := 8) (g := g) hu
      rw [Nat.zero_add] at this
      rw [hN0, rJ_J, if_pos rfl, this, hg]
  · (try dsimp only)
    have ob := ak_off (i := i) (oK u) (by decide)
    have fs := fN_s (dp_J M 112) 0 u g
    rw [Nat.zero_add] at fs
    have no : ¬ (nI u < 0 ∨ 8 ≤ u) := by rw [nI_o hu (by omega)]; exact id
    rw [D_X0_centsOf_3_eq, if_neg (show ¬ (8 : Int32) ≤ nI u from nI_nge (n := 8) hu (by omega)), show (15 : Int32) = nI 15 from rfl, nI_add, dc_get (d := d + 4) rfl hi (by omega), rb_bl]
    show dp_bl (dp_den true xs xl (d + 5) 17 [.ref 108, .int (nI i), .long (if dp_J (rJ M 112 (fN (dp_J M 112) 0 u g)) 111 (i * 23 + (15 + u)) < 0 then 0 else dp_J (rJ M 112 (fN (dp_J M 112) 0 u g)) 111 (i * 23 + (15 + u))), .int (nI (wc + 1))] (rJ M 112 (fN (dp_J M 112) 0 u g))) _ = _
    rw [tb', c_onb (d := d + 4) hi (ob.2.2.2 ha) h3 (by rw [ob.2.2.1, ob.1]; exact hw), rb_bl, nI_cl (by omega), if_neg no, dpw, dpw, nI_1, rJ_set, ob.2.1, ob.2.2.1, ← fs, hg]
end DuC
