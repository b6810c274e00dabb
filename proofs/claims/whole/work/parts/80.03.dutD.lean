-- needs: 71 72 73 74 75 76 77 78 79
/-! DUTY: the model goes through the rows found -/
section DuE
variable {xs : Nat → Int32} {xl d : Nat} {M : dp_M} {i : Nat}
theorem m_part {h w v : Int64} {wc : Nat} {v2 : Int32} (h3 : wc < 3) (e2 : v2 = nI wc) (hw : ¬ wc = 0 → 0 < w.toInt) : dp_den true xs xl (d + 1) 574 [.long v, .int v2, .long h, .long w] M = lR (pt h w wc v) M := by
  have e0 : (0 : Int64).toInt = 0 := by decide
  have k0 : v2 = (0 : Int32) ↔ wc = 0 := by rw [e2, show (0 : Int32) = nI 0 from rfl, nI_eq (by omega) (by omega)]
  have k1 : v2 = (1 : Int32) ↔ wc = 1 := by rw [e2, show (1 : Int32) = nI 1 from rfl, nI_eq (by omega) (by omega)]
  rw [D_X12_partOfSum_0_den, D_X12_partOfSum_0_eq]
  unfold pt
  by_cases z : wc = 0
  · by_cases z2 : w = 0
    · rw [if_pos ((lg_cmp_eq _ _).mpr z2), D_X12_partOfSum_17_eq, if_pos (k0.mpr z), if_pos z]
    · rw [if_neg (fun w => z2 ((lg_cmp_eq _ _).mp w)), if_neg z2, D_X12_partOfSum_17_eq, if_pos (k0.mpr z), if_pos z]
  · have z2 : ¬ w = 0 := fun q => by have := hw z; rw [q, e0] at this; omega
    rw [if_neg (fun w => z2 ((lg_cmp_eq _ _).mp w)), if_neg z2, D_X12_partOfSum_17_eq, if_neg (fun q => z (k0.mp q)), if_neg z]
    by_cases z1 : wc = 1
    · rw [if_pos (k1.mpr z1), if_pos z1]
    · rw [if_neg (fun q => z1 (k1.mp q)), if_neg z1]
theorem r221_a {v1 v2 v3 v10 v11 v12 v13 : Int32} {v4 v6 v8 v14 : Int64} {N : dp_M} : D_X12_reckonsDuty_221_a xs xl d v1 v2 v3 v4 v6 v8 v10 v11 v12 v13 v14 N = D_X12_reckonsDuty_221 xs xl d v1 v2 v3 v4 v6 v8 v10 v11 v12 v13 N := by
  rw [D_X12_reckonsDuty_221_a_eq, D_X12_reckonsDuty_221_eq]
/-- the amounts are laid out -/
theorem m_amt {v2 v3 v10 v11 : Int32} {v8 : Int64} {wc : Nat} {N : dp_M} (hi : i < 400) (h3 : wc < 3) (hw : ¬ wc = 0 → 0 < (wnD M i).toInt) (e240 : dp_J N 240 = dp_J M 240) : D_X12_reckonsDuty_221 xs xl (d + 1) (nI i) v2 v3 (wnD M i) (hsD M i) v8 v10 v11 (nI wc) 0 N = D_X12_reckonsDuty_221 xs xl (d + 1) (nI i) v2 v3 (wnD M i) (hsD M i) v8 v10 v11 (nI wc) (nI 8) (rJ N 188 (fN (dp_J N 188) 0 8 (amD M i wc))) := by
  have key := lp (fun (_ : Nat) u => D_X12_reckonsDuty_221 xs xl (d + 1) (nI i) v2 v3 (wnD M i) (hsD M i) v8 v10 v11 (nI wc) (nI u) (rJ N 188 (fN (dp_J N 188) 0 u (amD M i wc)))) (fun _ => 0) 8 (fun u hu => ?_)
  · (try dsimp only at key)
    rw [fN_0, rJ_id] at key
    exact key
  · (try dsimp only)
    have fs := fN_s (dp_J N 188) 0 u (amD M i wc)
    rw [Nat.zero_add] at fs
    have no : ¬ (nI u < 0 ∨ 8 ≤ u) := by rw [nI_o hu (by omega)]; exact id
    have nj : ¬ (nI (i * 8 + u) < 0 ∨ 3200 ≤ i * 8 + u) := by rw [nI_o (show i * 8 + u < 3200 by omega) (by omega)]; exact id
    have tb' : dp_J (rJ N 188 (fN (dp_J N 188) 0 u (amD M i wc))) 240 = dp_J M 240 := by rw [rJ_J, if_neg (by decide)]; exact e240
    rw [D_X12_reckonsDuty_221_eq, if_neg (show ¬ (8 : Int32) ≤ nI u from nI_nge (n := 8) hu (by omega)), t_8d, nI_cl (by omega), if_neg nj, dpw, tb', nI_cl (by omega)]
    by_cases z : dp_J M 240 (i * 8 + u) = -1
    · have ev : amD M i wc u = -1 := by unfold amD; rw [if_pos z]
      rw [if_pos ((lg_cmp_eq _ _).mpr z), if_neg no, dpw, dpw, nI_1, r221_a, rJ_set, ← fs, ev]
    · have ev : amD M i wc u = pt (hsD M i) (wnD M i) wc (dp_J M 240 (i * 8 + u)) := by unfold amD; rw [if_neg z]
      rw [if_neg (fun w => z ((lg_cmp_eq _ _).mp w)), m_part (d := d) h3 rfl hw, rb_bl, if_neg no, dpw, dpw, nI_1, r221_a, rJ_set, ← fs, ev]
def Mr_S : List Nat := 167 :: 169 :: 188 :: 189 :: 199 :: 200 :: Rt_B
def Mr_T : List Nat := [70, 79, 80, 81, 90, 91, 92, 97, 100, 118]
/-- what the model reads of M is the same in N -/
def Mk_A : List Nat := [159, 171, 172, 239, 240]
def AgM (M N : dp_M) : Prop := ∀ k ∈ Mk_A, dp_I N k = dp_I M k ∧ dp_J N k = dp_J M k
theorem AgM.step {S T : List Nat} {N N' : dp_M} (h : AgM M N) (o : Off S T N N') (hS : ∀ k ∈ Mk_A, k ∉ S) : AgM M N' := fun k hk => by
  have q : ∀ k ∈ Mk_A, k < 246 ∧ k ≠ 114 := by decide
  obtain ⟨e1, e2, -⟩ := o.1 k (q k hk).1 (hS k hk) (q k hk).2
  rw [e1, e2]; exact h k hk
def Ms_S : List Nat := 188 :: 189 :: Rt_B
def Ms_T : List Nat := [79, 80, 81, 90, 91, 92, 97, 100]
/-- which part, the model's way -/
theorem m_wch {k : Nat} {v3 : Int32} {b : Bool} {h w : Int64} (hk : k < 8) (hb : (0 : Int32) ≤ v3 ↔ b = true) {α : Type} (F : Int32 → α) : (if nI k ≤ (1 : Int32) then (if nI k = (1 : Int32) then (if (lg_cmp h (0 : Int64)) ≤ 0 then F 3 else F 1) else (if 0 ≤ v3 then (if 0 ≤ (lg_cmp h w) then F 3 else F 2) else F 0)) else F 0) = F (nI (wch k b h w)) := by
  have k1 : nI k ≤ (1 : Int32) ↔ ¬ 1 < k := by
    rw [show (1 : Int32) = nI 1 from rfl, Int32.le_iff_toInt_le, nI_toInt (by omega), nI_toInt (by omega)]; omega
  have k2 : nI k = (1 : Int32) ↔ k = 1 := by rw [show (1 : Int32) = nI 1 from rfl, nI_eq (by omega) (by omega)]
  unfold wch
  by_cases z : 1 < k
  · rw [if_neg (fun q => k1.mp q z), if_pos z]; rfl
  rw [if_pos (k1.mpr z), if_neg z]
  by_cases z1 : k = 1
  · rw [if_pos (k2.mpr z1), if_pos z1]
    by_cases z2 : 0 < h
    · rw [if_neg (fun w => Int64.not_le.mpr z2 ((lg_cmp_le _ _).mp w)), if_pos z2]; rfl
    · rw [if_pos ((lg_cmp_le _ _).mpr (Int64.not_lt.mp z2)), if_neg z2]; rfl
  · rw [if_neg (fun q => z1 (k2.mp q)), if_neg z1]
    by_cases z2 : b = true
    · rw [if_pos (hb.mpr z2), if_pos z2]
      by_cases z3 : h < w
      · rw [if_neg (fun w => Int64.not_le.mpr z3 ((lg_cmp_ge _ _).mp w)), if_pos z3]; rfl
      · rw [if_pos ((lg_cmp_ge _ _).mpr (Int64.not_lt.mp z3)), if_neg z3]; rfl
    · rw [if_neg (fun q => z2 (hb.mp q)), if_neg z2]; rfl
theorem m_rloop {n : Nat} {on v3 : Int32} {fd : Nat → Nat} (hD : DyO M i) (hb : (0 : Int32) ≤ v3 ↔ akB M i = true) (hr : ∀ r, r < 301 → RtR M r) (hn : n ≤ 300) (hT : ∀ j, j < n → fd j < 301 ∧ TRw M (fd j)) : ∀ k j s N, j + k = n → AgM M N → (∀ x, x < n → dp_I N 167 x = nI (fd x)) → dp_I N 114 70 = nI n → ∃ N', (D_X12_reckonsDuty_92 xs xl (d + 10) (nI i) on v3 (wnD M i) (hsD M i) s (nI j) N = lR (dfn (fun x => rvD M i (fd x)) j k s) N' ∧ (∀ v11 v12, D_X12_reckonsDuty_92_a xs xl (d + 10) (nI i) on v3 (wnD M i) (hsD M i) s (nI j) v11 v12 N = lR (dfn (fun x => rvD M i (fd x)) j k s) N') ∧ (∀ v11 v12 v13, D_X12_reckonsDuty_92_b xs xl (d + 10) (nI i) on v3 (wnD M i) (hsD M i) s (nI j) v11 v12 v13 N = lR (dfn (fun x => rvD M i (fd x)) j k s) N')) ∧ Off Ms_S Ms_T N N' ∧ Cst 0 0 N N' := by
  intro k
  induction k with
  | zero =>
    intro j s N e o hf h70
    refine ⟨N, ?_, Off.rr _ _ _, Cst.r _⟩
    have en : ∀ {α : Type} (a b : α), (if dp_I N 114 70 ≤ nI j then a else b) = a := fun a b => by rw [h70, if_pos (nI_lle (by omega) (by omega))]
    have ed : (if (lg_cmp s (1000000000 : Int64)) ≤ 0 then (some (.inl (some (.long s)), N) : Option dp_Res) else (some (.inl (some (.long (-1 : Int64))), N))) = lR (dfn (fun x => rvD M i (fd x)) j 0 s) N := by
      unfold dfn
      by_cases z : s ≤ 1000000000
      · rw [if_pos ((lg_cmp_le _ _).mpr z), if_pos z]
      · rw [if_neg (fun w => z ((lg_cmp_le _ _).mp w)), if_neg z]
    refine ⟨?_, fun v11 v12 => ?_, fun v11 v12 v13 => ?_⟩
    · rw [D_X12_reckonsDuty_92_eq, en, ed]
    · rw [D_X12_reckonsDuty_92_a_eq, en, ed]
    · rw [D_X12_reckonsDuty_92_b_eq, en, ed]
  | succ k ih =>
    intro j s N e o hf h70
    have jn : j < n := by omega
    obtain ⟨r3, hTr⟩ := hT j jn
    obtain ⟨kd, -, k8⟩ := TRw_kf hTr
    have i4 := hD.1
    have e159 : dp_I N 159 = dp_I M 159 := (o 159 (by decide)).1
    have e171 : dp_I N 171 = dp_I M 171 := (o 171 (by decide)).1
    have e172 : dp_I N 172 = dp_I M 172 := (o 172 (by decide)).1
    have kd' : dp_I N 159 (fd j) = nI (kf M (fd j)) := by rw [e159]; exact kd
    have no : ¬ (nI j < 0 ∨ 300 ≤ j) := by rw [nI_o (show j < 300 by omega) (by omega)]; exact id
    have nr : ¬ (nI (fd j) < 0 ∨ 301 ≤ fd j) := by rw [nI_o r3 (by omega)]; exact id
    have ni : ¬ (nI i < 0 ∨ 400 ≤ i) := by rw [nI_o i4 (by omega)]; exact id
    obtain ⟨wc, hwc⟩ : ∃ wc, wc = wcD M i (fd j) := ⟨_, rfl⟩
    have st0 : D_X12_reckonsDuty_92 xs xl (d + 10) (nI i) on v3 (wnD M i) (hsD M i) s (nI j) N = D_X12_reckonsDuty_172 xs xl (d + 10) (nI i) on v3 (wnD M i) (hsD M i) s (nI j) (nI (fd j)) (nI wc) N := by
      rw [D_X12_reckonsDuty_92_eq, h70, if_neg (nI_nge jn (by omega)), nI_cl (by omega), if_neg no, hf j jn, dpw, nI_cl (by omega), if_neg nr, if_neg nr, kd', hwc]
      exact m_wch k8 hb (fun w => D_X12_reckonsDuty_172 xs xl (d + 10) (nI i) on v3 (wnD M i) (hsD M i) s (nI j) (nI (fd j)) w N)
    have st1 : ∀ v11 v12, D_X12_reckonsDuty_92_a xs xl (d + 10) (nI i) on v3 (wnD M i) (hsD M i) s (nI j) v11 v12 N = D_X12_reckonsDuty_172_a xs xl (d + 10) (nI i) on v3 (wnD M i) (hsD M i) s (nI j) (nI (fd j)) v12 (nI wc) N := fun v11 v12 => by
      rw [D_X12_reckonsDuty_92_a_eq, h70, if_neg (nI_nge jn (by omega)), nI_cl (by omega), if_neg no, hf j jn, dpw, nI_cl (by omega), if_neg nr, if_neg nr, kd', hwc]
      exact m_wch k8 hb (fun w => D_X12_reckonsDuty_172_a xs xl (d + 10) (nI i) on v3 (wnD M i) (hsD M i) s (nI j) (nI (fd j)) v12 w N)
    have st2 : ∀ v11 v12 v13, D_X12_reckonsDuty_92_b xs xl (d + 10) (nI i) on v3 (wnD M i) (hsD M i) s (nI j) v11 v12 v13 N = D_X12_reckonsDuty_172_b xs xl (d + 10) (nI i) on v3 (wnD M i) (hsD M i) s (nI j) (nI (fd j)) v12 v13 (nI wc) N := fun v11 v12 v13 => by
      rw [D_X12_reckonsDuty_92_b_eq, h70, if_neg (nI_nge jn (by omega)), nI_cl (by omega), if_neg no, hf j jn, dpw, nI_cl (by omega), if_neg nr, if_neg nr, kd', hwc]
      exact m_wch k8 hb (fun w => D_X12_reckonsDuty_172_b xs xl (d + 10) (nI i) on v3 (wnD M i) (hsD M i) s (nI j) (nI (fd j)) v12 v13 w N)
    have skip : (dp_I M 172 (fd j) = 0 ∨ wcD M i (fd j) = 3) → ∃ N', (D_X12_reckonsDuty_92 xs xl (d + 10) (nI i) on v3 (wnD M i) (hsD M i) s (nI j) N = lR (dfn (fun x => rvD M i (fd x)) j (k + 1) s) N' ∧ (∀ v11 v12, D_X12_reckonsDuty_92_a xs xl (d + 10) (nI i) on v3 (wnD M i) (hsD M i) s (nI j) v11 v12 N = lR (dfn (fun x => rvD M i (fd x)) j (k + 1) s) N') ∧ (∀ v11 v12 v13, D_X12_reckonsDuty_92_b xs xl (d + 10) (nI i) on v3 (wnD M i) (hsD M i) s (nI j) v11 v12 v13 N = lR (dfn (fun x => rvD M i (fd x)) j (k + 1) s) N')) ∧ Off Ms_S Ms_T N N' ∧ Cst 0 0 N N' := fun sk => by
      have rv0 : rvD M i (fd j) = none := by unfold rvD; rw [if_pos sk]
      obtain ⟨N', ⟨-, c2, c3⟩, c4⟩ := ih (j + 1) s N (by omega) o hf h70
      have sk' : dp_I N 172 (fd j) = 0 ∨ nI wc = (3 : Int32) := sk.imp (fun q => by rw [e172]; exact q) (fun q => by rw [hwc, q]; rfl)
      have fo : ∀ {α : Type} (a b : α), (if dp_I N 172 (fd j) = 0 then a else (if nI wc = (3 : Int32) then a else b)) = a := fun a b => by
        rcases sk' with q | q
        · rw [if_pos q]
        · rw [if_pos q]; exact ite_self _
      refine ⟨N', ⟨?_, fun v11 v12 => ?_, fun v11 v12 v13 => ?_⟩, c4⟩
      · rw [st0, D_X12_reckonsDuty_172_eq, nI_cl (by omega), if_neg nr, fo, dpw, nI_1, c2, dfn_n (rv := fun x => rvD M i (fd x)) (j := j) rv0]
      · rw [st1, D_X12_reckonsDuty_172_a_eq, nI_cl (by omega), if_neg nr, fo, dpw, nI_1, c2, dfn_n (rv := fun x => rvD M i (fd x)) (j := j) rv0]
      · rw [st2, D_X12_reckonsDuty_172_b_eq, nI_cl (by omega), if_neg nr, fo, dpw, nI_1, c3, dfn_n (rv := fun x => rvD M i (fd x)) (j := j) rv0]
    rcases hr (fd j) r3 with ⟨-, h172⟩ | ⟨q, l, L, -, hR, h172, L1, L4, h171, hrd⟩
    · exact skip (Or.inl h172)
    by_cases z3 : wcD M i (fd j) = 3
    · exact skip (Or.inr z3)
    have lo := lOf_eq h172 L4 hrd
    have hk := rdR_ok hrd
    have sh := hR.shp
    have n172 : ¬ dp_I M 172 (fd j) = 0 := by rw [h172]; exact nI_n0' (by omega) (by omega)
    have w4 : wcD M i (fd j) < 4 := wch_lt _ _ _ _
    have ww := wc_w hD z3
    have ww' : ¬ wc = 0 → 0 < (wnD M i).toInt := fun q => (ww (by rw [← hwc]; exact q)).1
    have wn3 : ¬ nI wc = (3 : Int32) := fun q => by rw [show (3 : Int32) = nI 3 from rfl, nI_eq (by omega) (by omega)] at q; omega
    obtain ⟨N1, g1, g2, g3, g4, g5⟩ := m_rr (xs := xs) (xl := xl) (d := d) (M := N) (r := fd j) (L := L) (l := l) (by omega) (by rw [e172]; exact h172) L1 L4 (by rw [e171]; exact h171) (by rw [e171]; exact hrd)
    obtain ⟨pr, hpr⟩ : ∃ pr, pr = pt (hsD M i) (wnD M i) wc (dp_J M 239 i) := ⟨_, rfl⟩
    have pb := pt_b (h := hsD M i) (w := wnD M i) (wc := wc) hD.2.2.1.1 hD.2.2.1.2.1 hD.2.2.1.2.2 ww' hD.2.2.2.2.2.1 hD.2.2.2.2.2.2
    have pr0 : 0 ≤ pr := by rw [Int64.le_iff_toInt_le, hpr]; exact pb.1
    have oN1 : AgM M N1 := o.step g2 (by decide)
    have e239 : dp_J N1 239 = dp_J M 239 := (oN1 239 (by decide)).2
    obtain ⟨N2, hN2⟩ : ∃ N2, N2 = dp_setJ N1 114 100 pr := ⟨_, rfl⟩
    have e240 : dp_J N2 240 = dp_J M 240 := by rw [hN2, gJJ, if_neg (by decide)]; exact (oN1 240 (by decide)).2
    obtain ⟨am, hAm⟩ : ∃ am, am = fN (dp_J N2 188) 0 8 (amD M i wc) := ⟨_, rfl⟩
    obtain ⟨N3, hN3⟩ : ∃ N3, N3 = rJ N2 188 am := ⟨_, rfl⟩
    have amu : ∀ u, u < 8 → am u = amD M i wc u := fun u hu => by
      have := fN_in (f := dp_J N2 188) (a := 0) (n := 8) (g := amD M i wc) hu
      rw [Nat.zero_add] at this
      rw [hAm, this]
    have o3 : Off Ms_S Ms_T N N3 := by
      rw [hN3, hN2]
      exact Off.rJ 188 (by decide) _ (Off.G 100 (by decide) _ (g2.mono (by decide) (by decide)))
    have cs3 : Cst 0 0 N N3 := by rw [hN3, hN2]; exact g3
    have h2 : FnM N3 l := by rw [hN3, hN2]; exact g4
    have h92 : dp_I N3 114 92 = nI l.length := by rw [hN3, hN2]; exact g5
    have p2 : dp_J N3 114 100 = pr := by rw [hN3, rJ_J, if_neg (by decide), hN2, gJJ, if_pos rfl, uI_s]
    have a188 : dp_J N3 188 = am := by rw [hN3, rJ_J, if_pos rfl]
    obtain ⟨rk1, rk2⟩ := m_reck (xs := xs) (xl := xl) (d := d + 8) h2 h92 hk sh p2 pr0 a188
    -- what the three ways come to
    have go : D_X12_reckonsDuty_92 xs xl (d + 10) (nI i) on v3 (wnD M i) (hsD M i) s (nI j) N = D_X12_reckonsDuty_221 xs xl (d + 10) (nI i) on v3 (wnD M i) (hsD M i) s (nI j) (nI (fd j)) (nI wc) (nI 8) N3 ∧ (∀ v11 v12, D_X12_reckonsDuty_92_a xs xl (d + 10) (nI i) on v3 (wnD M i) (hsD M i) s (nI j) v11 v12 N = D_X12_reckonsDuty_221 xs xl (d + 10) (nI i) on v3 (wnD M i) (hsD M i) s (nI j) (nI (fd j)) (nI wc) (nI 8) N3) ∧ (∀ v11 v12 v13, D_X12_reckonsDuty_92_b xs xl (d + 10) (nI i) on v3 (wnD M i) (hsD M i) s (nI j) v11 v12 v13 N = D_X12_reckonsDuty_221 xs xl (d + 10) (nI i) on v3 (wnD M i) (hsD M i) s (nI j) (nI (fd j)) (nI wc) (nI 8) N3) := by
      have n172' : ¬ dp_I N 172 (fd j) = 0 := by rw [e172]; exact n172
      refine ⟨?_, fun v11 v12 => ?_, fun v11 v12 v13 => ?_⟩
      · rw [st0, D_X12_reckonsDuty_172_eq, nI_cl (by omega), if_neg nr, if_neg n172', if_neg wn3, g1, rb_bv, nI_cl (by omega), if_neg ni, e239, m_part (d := d + 9) (by omega) rfl ww', rb_bl, dpw, dpw, ← hpr, ← hN2, m_amt i4 (by omega) ww' e240, ← hAm, ← hN3]
      · rw [st1, D_X12_reckonsDuty_172_a_eq, nI_cl (by omega), if_neg nr, if_neg n172', if_neg wn3, g1, rb_bv, nI_cl (by omega), if_neg ni, e239, m_part (d := d + 9) (by omega) rfl ww', rb_bl, dpw, dpw, ← hpr, ← hN2, m_amt i4 (by omega) ww' e240, ← hAm, ← hN3]
      · rw [st2, D_X12_reckonsDuty_172_b_eq, nI_cl (by omega), if_neg nr, if_neg n172', if_neg wn3, g1, rb_bv, nI_cl (by omega), if_neg ni, e239, m_part (d := d + 9) (by omega) rfl ww', rb_bl, dpw, dpw, ← hpr, ← hN2, m_amt i4 (by omega) ww' e240, ← hAm, ← hN3]
    have une : ∀ x, x < l.length → (l.getD x v0).1 = 2 → ∃ u, u < 8 ∧ (l.getD x v0).2.2.1.toNatClampNeg = u := fun x hx x2 => by
      have mem : l.getD x v0 ∈ l := by rw [gE hx]; exact List.getElem_mem hx
      rcases hk _ mem with k0 | k1 | ⟨-, u, u8, hu⟩ | kb | ⟨k7, -⟩
      · rw [k0] at x2; exact absurd x2 (by decide)
      · rw [k1] at x2; exact absurd x2 (by decide)
      · exact ⟨u, u8, by rw [hu, nI_cl (by omega)]⟩
      · rw [x2] at kb; exact absurd kb (by decide)
      · rw [k7] at x2; exact absurd x2 (by decide)
    have lka : ∀ x, x < l.length → (lack l am x ↔ lack l (amD M i wc) x) := fun x hx => by
      unfold lack
      constructor
      · rintro ⟨a, b⟩
        obtain ⟨u, u8, hu⟩ := une x hx a
        rw [hu, amu u u8] at b
        exact ⟨a, by rw [hu]; exact b⟩
      · rintro ⟨a, b⟩
        obtain ⟨u, u8, hu⟩ := une x hx a
        rw [hu] at b
        exact ⟨a, by rw [hu, amu u u8]; exact b⟩
    by_cases zl : lkB l (amD M i wc) = true
    · have rv1 : rvD M i (fd j) = some none := by unfold rvD; rw [if_neg (fun q => q.elim n172 z3), lo, ← hwc, if_pos zl]
      obtain ⟨x, hx, lx⟩ := lkB_t.mp zl
      obtain ⟨w, ew⟩ := rk2 ⟨x, hx, (lka x hx).mpr lx⟩
      have en : D_X12_reckonsDuty_221 xs xl (d + 10) (nI i) on v3 (wnD M i) (hsD M i) s (nI j) (nI (fd j)) (nI wc) (nI 8) N3 = lR (dfn (fun x => rvD M i (fd x)) j (k + 1) s) (rJ N3 189 w) := by
        rw [D_X12_reckonsDuty_221_eq, if_pos (by decide), ew, rb_bl, if_neg (by decide), dfn_w (rv := fun x => rvD M i (fd x)) (j := j) rv1]
      exact ⟨rJ N3 189 w, ⟨by rw [go.1, en], fun v11 v12 => by rw [go.2.1, en], fun v11 v12 v13 => by rw [go.2.2, en]⟩, o3.rJ 189 (by decide) _, cs3⟩
    · obtain ⟨w, ew⟩ := rk1 (fun x hx lx => zl (lkB_t.mpr ⟨x, hx, (lka x hx).mp lx⟩))
      have ev : rval l pr am = rval l pr (amD M i wc) := rval_am (fun x hx x2 => by
        obtain ⟨u, u8, hu⟩ := une x hx x2
        rw [hu, amu u u8])
      have nn : (0 : Int64) ≤ rval l pr (amD M i wc) := by
        unfold rval
        split
        · exact Int64.le_refl _
        · rename_i q; exact Int64.not_lt.mp q
      have rv2 : rvD M i (fd j) = some (some ((rval l pr (amD M i wc) + 500000) / 1000000)) := by unfold rvD; rw [if_neg (fun q => q.elim n172 z3), lo, ← hwc, if_neg zl, hpr]
      have o4 : Off Ms_S Ms_T N (rJ N3 189 w) := o3.rJ 189 (by decide) _
      have hf4 : ∀ x, x < n → dp_I (rJ N3 189 w) 167 x = nI (fd x) := fun x hx => by
        rw [(o4.1 167 (by decide) (by decide) (by decide)).1]; exact hf x hx
      obtain ⟨N', ⟨-, -, c3⟩, c4, c5⟩ := ih (j + 1) (s + (rval l pr (amD M i wc) + 500000) / 1000000) (rJ N3 189 w) (by omega) (o.step o4 (by decide)) hf4 (by rw [(o4.2.1 70 (by decide)).1]; exact h70)
      have en : D_X12_reckonsDuty_221 xs xl (d + 10) (nI i) on v3 (wnD M i) (hsD M i) s (nI j) (nI (fd j)) (nI wc) (nI 8) N3 = lR (dfn (fun x => rvD M i (fd x)) j (k + 1) s) N' := by
        rw [D_X12_reckonsDuty_221_eq, if_pos (by decide), ew, rb_bl, ev, if_pos (by rw [lg_cmp_ge]; exact nn), dpw, dpw, nI_1, c3, dfn_c (rv := fun x => rvD M i (fd x)) (j := j) rv2]
      have csr : Cst 0 0 N3 (rJ N3 189 w) := Cst.r _
      refine ⟨N', ⟨by rw [go.1, en], fun v11 v12 => by rw [go.2.1, en], fun v11 v12 v13 => by rw [go.2.2, en]⟩, o4.tr c4, ⟨?_, ?_⟩⟩
      · have := cs3.1; have := csr.1; have := c5.1; omega
      · have := cs3.2; have := csr.2; have := c5.2; omega
end DuE
