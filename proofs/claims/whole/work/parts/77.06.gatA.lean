-- needs: 75 76
/-! GATE: away, look -/
section GG
variable {xs : Nat → Int32} {xl d : Nat} {M : dp_M}
theorem PHY.stay {K : dp_M} {S T : List Nat} {n B t x : Nat} {v : Int32} (h : HY M n B t ∧ ZR M n) (o : Off S T M K) (hS : ∀ k ∈ PHY_S, k ≠ 11 → k ≠ 144 → k ∉ S) (hT : ∀ i ∈ PHY_T, i ∉ T) (hx : x < n) (e11 : dp_I K 11 = uI (dp_I M 11) x v) (e144 : dp_I K 144 = uI (dp_I M 144) x v) (hv : v = 0 ∨ (dp_I M 9 x = 3 ∧ dp_I M 29 x = -1)) : HY K n B t ∧ ZR K n := by
  obtain ⟨⟨hr, W, H, G, R, L, hh, m, cy, my, yi, y4, y5⟩, zr⟩ := h
  have s1 : ∀ k ∈ HR_S, k ∈ PHY_S ∧ k ≠ 11 ∧ k ≠ 144 := by decide
  have s2 : ∀ k ∈ HR_T, k ∈ PHY_T := by decide
  have s3 : ∀ k ∈ CY_S, k ∈ PHY_S ∧ k ≠ 11 ∧ k ≠ 144 := by decide
  have s4 : ∀ k ∈ MY_S, k ∈ PHY_S ∧ k ≠ 11 ∧ k ≠ 144 := by decide
  have s5 : ∀ k ∈ MY_T, k ∈ PHY_T := by decide
  have e : ∀ k, k ∈ [9, 34, 35, 133, 134] → dp_I K k = dp_I M k := fun k hk => (o.1 k (by simp only [List.mem_cons, List.not_mem_nil, or_false] at hk; omega) (hS k (by
    have q : ∀ k ∈ [9, 34, 35, 133, 134], k ∈ PHY_S := by decide
    exact q k hk) (by simp only [List.mem_cons, List.not_mem_nil, or_false] at hk; omega) (by simp only [List.mem_cons, List.not_mem_nil, or_false] at hk; omega)) (by simp only [List.mem_cons, List.not_mem_nil, or_false] at hk; omega)).1
  obtain ⟨a1, a2, a3, a4, a5, a6, a7, a8, a9, a10, a11, a12⟩ := yi
  refine ⟨⟨HR_off hr o (fun k hk => hS k (s1 k hk).1 (s1 k hk).2.1 (s1 k hk).2.2) (fun i hi => hT i (s2 i hi)), W, H, G, R, L, hh, m, CY_off cy o (fun k hk => hS k (s3 k hk).1 (s3 k hk).2.1 (s3 k hk).2.2), MY_off my o (fun k hk => hS k (s4 k hk).1 (s4 k hk).2.1 (s4 k hk).2.2) (fun i hi => hT i (s5 i hi)), ⟨a1, a2, a3, a4, a5, a6, a7, a8, a9, a10, fun i hi q => ?_, fun q hq => by rw [e 9 (by decide)]; exact a12 q hq⟩, ?_, fun r hr1 => by rw [e 133 (by decide), e 134 (by decide), e 34 (by decide), e 35 (by decide)]; exact y5 r hr1⟩, fun i hi q => ?_⟩
  · rw [e 9 (by decide), e11]
    refine ⟨(a11 i hi q).1, ?_⟩
    by_cases z : i = x
    · subst z
      rw [uI_s]
      rcases hv with w | w
      · exact w
      · rw [(cy.2.2.2.2.2.2.2.1 i hi).1] at w; exact absurd w.2 q
    · rw [uI_n z]; exact (a11 i hi q).2
  · rw [e144, e11, y4]
  · rw [e11]
    rw [e 9 (by decide)] at q
    by_cases z : i = x
    · subst z
      rw [uI_s]
      rcases hv with w | w
      · exact w
      · rcases q with q | q
        · omega
        · exact absurd w.1 q
    · rw [uI_n z]; exact zr i hi q
theorem PR.row {n B t c : Nat} (h : PR M n B t c) {x : Nat} (hx : x < n) : dp_I M 140 x = dp_I M 29 x ∧ (dp_I M 140 x < 0 ↔ dp_I M 29 x = -1) := by
  obtain ⟨⟨⟨hr, W, H, G, R, L, hh, m, cy, my, yi, y4, y5⟩, zr⟩, -⟩ := h
  have w := yi.2.2.2.2.2.2.2.2.1
  have e1 := (cy.2.2.2.2.2.2.2.1 x hx).1
  have e2 := (my.2.2.2.1 x hx).1
  rw [e1, e2]
  exact ⟨rfl, w.neg yi.2.1 hx⟩
theorem gc_may {n x : Nat} (hx : x < n) (hn : n ≤ 100) : dp_den true xs xl (d + 2) 47 [.ref 37, .int (nI x)] M = iR (bI ((dp_I M 9 x = 3 ∧ dp_I M 11 x = 0) ∧ dp_I M 29 x = -1)) M := by
  rw [D_X1_mayLeave_0_den, D_X1_mayLeave_0_eq, hc_here hx hn, rb_bi, ibz]
  simp only [nI_cl (show x < 2147483648 by omega), nI_o (show x < 100 by omega) (by omega), if_false]
  by_cases z1 : dp_I M 9 x = 3 ∧ dp_I M 11 x = 0
  · rw [if_pos z1]
    by_cases z2 : dp_I M 29 x = -1
    · rw [if_pos z2, bI_t ⟨z1, z2⟩]
    · rw [if_neg z2, bI_f (fun q => z2 q.2)]
  · rw [if_neg z1, bI_f (fun q => z1 q.1)]
theorem s_away {n B t c : Nat} (h : PR M n B t c) (v1 v2 v3 : Int32) : ∃ v M1 M2, dp_den true xs xl (d + 4) 293 [.ref 0, .int v1, .int v2, .int v3] M = iR v M1 ∧ dp_den true xs xl (d + 4) 440 [.ref 114, .int v1, .int v2, .int v3] M1 = iR v M2 ∧ PR M2 n B t c ∧ Off PR_W (0 :: PR_V) M M2 ∧ Cst 0 0 M M2 := by
  have h0 := h
  obtain ⟨p1, p2, p3, p4, p5, p6, p7⟩ := h0.bx
  obtain ⟨h1, h2, h3, h4, h5, h6, h7⟩ := h
  obtain ⟨bt, hbt⟩ : ∃ bt, bt = (v2 >>> ((15 : Int32) &&& 31)) &&& (1 : Int32) := ⟨_, rfl⟩
  have hb : bt = 1 ↔ ¬ bt = 0 := by
    rw [hbt]
    have : (v2 >>> ((15 : Int32) &&& 31)) &&& (1 : Int32) = 0 ∨ (v2 >>> ((15 : Int32) &&& 31)) &&& (1 : Int32) = 1 := by
      generalize v2 >>> ((15 : Int32) &&& 31) = w
      have e : (1 : Int32).toBitVec = 1#32 := rfl
      rw [← Int32.toBitVec_inj, ← Int32.toBitVec_inj, Int32.toBitVec_and, e, BitVec.and_one_eq_setWidth_ofBool_getLsbD]
      cases w.toBitVec.getLsbD 0
      · left; rfl
      · right; rfl
    rcases this with q | q <;> rw [q] <;> decide
  rw [D_X11_away_0_den, D_X11_away_0_eq, pc_box p2 p1, rb_bi, ibz, ← hbt]
  have e3 : ∀ N : dp_M, dp_I N 114 3 = nI n → dp_I (dp_setI N 114 0 0) 114 3 = nI n := fun N q => by rw [gII, if_pos rfl, uI_n (by decide)]; exact q
  by_cases g1 : qin v1 n
  case neg =>
    refine ⟨0, M, dp_setI M 114 0 0, by rw [if_neg g1], ?_, h0.same⟩
    rw [D_X12_away_0_den, D_X12_away_0_eq]
    simp only [dp_w]
    rw [pm_box (e3 M p3) p1, rb_bi, ibz, if_neg g1]
  rw [if_pos g1]
  have g1' := g1
  obtain ⟨x, hx, rfl⟩ := qin_of g1 (by omega)
  obtain ⟨w1, w2⟩ := h0.row hx
  have hm : ∀ N : dp_M, dp_I N 114 3 = nI n → dp_I N 144 = dp_I M 11 → dp_I N 117 = dp_I M 9 → dp_I N 140 = dp_I M 140 → dp_den true xs xl (d + 4) 440 [.ref 114, .int (nI x), .int v2, .int v3] N = if bt = 0 then iR 0 (dp_setI N 114 0 0) else (if v3 = 0 then (if dp_I M 11 x = 2 then iR 1 (dp_setI (dp_setI N 114 0 0) 144 x 0) else iR 0 (dp_setI N 114 0 0)) else (if (dp_I M 9 x = 3 ∧ dp_I M 11 x = 0) ∧ dp_I M 29 x = -1 then iR 1 (dp_setI (dp_setI N 114 0 0) 144 x 2) else iR 0 (dp_setI N 114 0 0))) := fun N q1 q2 q3 q4 => by
    rw [D_X12_away_0_den, D_X12_away_0_eq]
    simp only [dp_w]
    rw [pm_box (e3 N q1) p1, rb_bi, ibz, if_pos g1', ← hbt]
    by_cases z0 : bt = 0
    · rw [if_pos z0, if_pos z0]
    rw [if_neg z0, if_neg z0]
    simp only [nI_cl (show x < 2147483648 by omega), nI_o (show x < 100 by omega) (by omega), if_false]
    by_cases z1 : v3 = 0
    · simp only [if_pos z1]
      rw [show dp_I (dp_setI N 114 0 0) 144 = dp_I M 11 from by rw [gII, if_neg (by decide)]; exact q2]
    · simp only [if_neg z1]
      rw [hm_here hx p1, rb_bi, ibz]
      rw [show dp_I (dp_setI N 114 0 0) 144 = dp_I M 11 from by rw [gII, if_neg (by decide)]; exact q2, show dp_I (dp_setI N 114 0 0) 117 = dp_I M 9 from by rw [gII, if_neg (by decide)]; exact q3, show dp_I (dp_setI N 114 0 0) 140 = dp_I M 140 from by rw [gII, if_neg (by decide)]; exact q4]
      by_cases z2 : dp_I M 9 x = 3 ∧ dp_I M 11 x = 0
      · rw [if_pos z2]
        by_cases z3 : dp_I M 29 x = -1
        · rw [if_pos (w2.mpr z3), if_pos ⟨z2, z3⟩]
        · rw [if_neg (fun q => z3 (w2.mp q)), if_neg (fun q => z3 q.2)]
      · rw [if_neg z2, if_neg (fun q => z2 q.1)]
  by_cases z0 : bt = 0
  · refine ⟨0, M, dp_setI M 114 0 0, by rw [if_neg (fun q => hb.mp q z0)], by rw [hm M p3 p6 p7 rfl, if_pos z0], h0.same⟩
  rw [if_pos (hb.mpr z0)]
  have fin : ∀ v : Int32, (v = 0 ∨ v = 2) → (v = 0 ∨ (dp_I M 9 x = 3 ∧ dp_I M 29 x = -1)) → PR (dp_setI (dp_setI (dp_setI M 11 x v) 114 0 0) 144 x v) n B t c ∧ Off PR_W (0 :: PR_V) M (dp_setI (dp_setI (dp_setI M 11 x v) 114 0 0) 144 x v) ∧ Cst 0 0 M (dp_setI (dp_setI (dp_setI M 11 x v) 114 0 0) 144 x v) := fun v hv1 hv => by
    obtain ⟨K, hK⟩ : ∃ K, K = dp_setI (dp_setI (dp_setI M 11 x v) 114 0 0) 144 x v := ⟨_, rfl⟩
    rw [← hK]
    have oK : Off [11, 144] [0] M K := by rw [hK]; exact (((Off.rr _ _ M).I 11 (by decide) _ _).F 0 (by decide) _).I 144 (by decide) _ _
    have e11 : dp_I K 11 = uI (dp_I M 11) x v := by rw [hK]; simp only [gII, Nat.reduceEqDiff, if_false, if_true]
    have e144 : dp_I K 144 = uI (dp_I M 144) x v := by rw [hK]; simp only [gII, Nat.reduceEqDiff, if_false, if_true]
    refine ⟨⟨PHY.stay h1 oK (by decide) (by decide) hx e11 e144 hv, GTl_off h2 oK (by decide) (by decide), GGd_off h3 oK (by decide) (by decide), GBr_off h4 oK (by decide), GLd_off h5 oK (by decide), ?_, GRu_off h7 oK (by decide)⟩, oK.mono (by decide) (by decide), by rw [hK]; exact ⟨Nat.le_refl _, Nat.le_refl _⟩⟩
    obtain ⟨u1, u2, u3⟩ := h6
    refine ⟨?_, fun y hy => ?_, fun y q1 q2 => ?_⟩
    · rw [(oK.1 145 (by decide) (by decide) (by decide)).1, (oK.1 41 (by decide) (by decide) (by decide)).1]; exact u1
    · rw [(oK.1 41 (by decide) (by decide) (by decide)).1, (oK.1 5 (by decide) (by decide) (by decide)).1, e11]
      refine ⟨(u2 y hy).1, (u2 y hy).2.1, fun q => ?_⟩
      by_cases w : y = x
      · subst w
        rw [uI_s] at q
        rcases hv1 with e | e <;> rw [e] at q <;> exact absurd q (by decide)
      · rw [uI_n w] at q; exact (u2 y hy).2.2 q
    · rw [(oK.1 41 (by decide) (by decide) (by decide)).1]; exact u3 y q1 q2
  have c30 : ∀ v3 : Int32, D_X1_bond_30 xs xl (d + 2) (nI x) v3 M = iR 1 (dp_setI M 11 x (if v3 = 0 then 0 else 2)) := fun v3 => by
    rw [D_X1_bond_30_eq]
    simp only [nI_cl (show x < 2147483648 by omega), nI_o (show x < 100 by omega) (by omega), if_false, dp_w]
    split <;> rfl
  have cb : dp_den true xs xl (d + 3) 49 [.ref 37, .int (nI x), .int v3] M = if v3 = 0 then (if dp_I M 11 x = 2 then iR 1 (dp_setI M 11 x 0) else iR 0 M) else (if (dp_I M 9 x = 3 ∧ dp_I M 11 x = 0) ∧ dp_I M 29 x = -1 then iR 1 (dp_setI M 11 x 2) else iR 0 M) := by
    rw [D_X1_bond_0_den, D_X1_bond_0_eq]
    simp only [nI_cl (show x < 2147483648 by omega), nI_o (show x < 100 by omega) (by omega), if_false, c30, gc_may hx p1, rb_bi, ibz]
    by_cases z1 : v3 = 0
    · simp only [if_pos z1]
    · simp only [if_neg z1]
  rw [cb]
  have hmm : ∀ v, dp_den true xs xl (d + 4) 440 [.ref 114, .int (nI x), .int v2, .int v3] (dp_setI M 11 x v) = _ := fun v => hm (dp_setI M 11 x v) (by rw [gII, if_neg (by decide)]; exact p3) (by rw [gII, if_neg (by decide)]; exact p6) (by rw [gII, if_neg (by decide)]; exact p7) (by rw [gII, if_neg (by decide)])
  by_cases z1 : v3 = 0
  · rw [if_pos z1]
    by_cases z2 : dp_I M 11 x = 2
    · refine ⟨1, dp_setI M 11 x 0, _, by rw [if_pos z2, rb_bi, if_neg one_ne], ?_, fin 0 (Or.inl rfl) (Or.inl rfl)⟩
      rw [hmm, if_neg z0, if_pos z1, if_pos z2]
    · refine ⟨0, M, dp_setI M 114 0 0, by rw [if_neg z2, rb_bi, if_pos rfl], by rw [hm M p3 p6 p7 rfl, if_neg z0, if_pos z1, if_neg z2], h0.same⟩
  · rw [if_neg z1]
    by_cases z2 : (dp_I M 9 x = 3 ∧ dp_I M 11 x = 0) ∧ dp_I M 29 x = -1
    · refine ⟨1, dp_setI M 11 x 2, _, by rw [if_pos z2, rb_bi, if_neg one_ne], ?_, fin 2 (Or.inr rfl) (Or.inr ⟨z2.1.1, z2.2⟩)⟩
      rw [hmm, if_neg z0, if_neg z1, if_pos z2]
    · refine ⟨0, M, dp_setI M 114 0 0, by rw [if_neg z2, rb_bi, if_pos rfl], by rw [hm M p3 p6 p7 rfl, if_neg z0, if_neg z1, if_neg z2], h0.same⟩
/-- look -/
def grf (L : Nat → Int32) (x i : Nat) : Bool := decide (L i = L x)
theorem grf_t {L : Nat → Int32} {x i : Nat} : grf L x i = true ↔ L i = L x := decide_eq_true_iff
theorem gc_grp {n x : Nat} (p2 : dp_I M 1 2 = nI n) (hn : n ≤ 100) (hx : x < n) : dp_den true xs xl (d + 1) 36 [.ref 37, .int (nI x)] M = iR (nI (ct (grf (dp_I M 43) x) n)) M := by
  rw [D_X1_groupSize_0_den, D_X1_groupSize_0_eq]
  simp only [dp_w]
  refine lpb (F := fun (a : Nat) i => D_X1_groupSize_4 xs xl d (nI x) (nI a) (nI i) M) (s := ct (grf (dp_I M 43) x)) (N := n) ?_ (fun i hi hr => ?_)
  · (try dsimp only)
    rw [D_X1_groupSize_4_eq, p2, if_pos (nI_lle (Nat.le_refl _) (by omega))]
  · (try dsimp only at hr); (try dsimp only)
    rw [ct] at hr
    rw [D_X1_groupSize_4_eq, p2, if_neg (nI_nge hi (by omega))]
    simp only [nI_cl (show i < 2147483648 by omega), nI_o (show i < 100 by omega) (by omega), nI_cl (show x < 2147483648 by omega), nI_o (show x < 100 by omega) (by omega), if_false, dp_w, nI_1, Int32.add_zero]
    by_cases z : dp_I M 43 i = dp_I M 43 x
    · rw [if_pos (grf_t.mpr z)] at hr
      rw [if_pos z]; exact hr
    · rw [if_neg (fun q => z (grf_t.mp q))] at hr
      rw [if_neg z]; exact hr
theorem s_look {n B t c : Nat} (h : PR M n B t c) (hn : 246 ≤ dp_n M) (v1 v2 : Int32) : ∃ k b M1 M2, dp_den true xs xl (d + 5) 618 [.ref 0, .int v1, .int v2, .ref 245] M = iR k M1 ∧ dp_den true xs xl (d + 5) 442 [.ref 114, .int v1, .int v2] M1 = iR b M2 ∧
    dp_I M2 114 0 = k ∧ (k = 0 → dp_J M2 245 0 = b.toInt64) ∧ PR M2 n B t c ∧ Off (245 :: PR_W) (0 :: PR_V) M M2 ∧ Cst 1 6 M M2 := by
  have h0 := h
  obtain ⟨p1, p2, p3, p4, p5, p6, p7⟩ := h0.bx
  obtain ⟨h1, h2, h3, h4, h5, h6, h7⟩ := h
  obtain ⟨K, D, hK, hD, g1, g2, g3, g4, g5, g6, g7, g8⟩ := h3
  by_cases g : qin v1 n ∧ qin v2 6
  case neg =>
    refine ⟨1, 0, dp_new M 0 0 6, _, wL_look_x2 ?_, ?_, rfl, (fun e => by cases e), h0.refused hn 1⟩
    · rw [D_X11_look_0_den, D_X11_look_0_eq, pc_box p2 p1, rb_bi, ibz]
      simp only [q_win, rb_bi, ibz, q_nk hn, w_5]
      by_cases z1 : qin v1 n
      · rw [if_pos z1, if_neg (fun q => g ⟨z1, q⟩)]
      · rw [if_neg z1]
    · rw [D_X12_look_0_den, D_X12_look_0_eq, pm_box (n := n) (by rw [gIN (by omega)]; exact p3) p1, rb_bi, ibz]
      simp only [q_min, rb_bi, ibz, q_ref, w_5]
      by_cases z1 : qin v1 n
      · rw [if_pos z1, if_neg (fun q => g ⟨z1, q⟩)]
      · rw [if_neg z1]
  obtain ⟨gx, gw⟩ := g
  have gx' := gx
  have gw' := gw
  obtain ⟨x, hx, rfl⟩ := qin_of gx (by omega)
  obtain ⟨w, hw, rfl⟩ := qin_of gw (by omega)
  obtain ⟨V, hV⟩ : ∃ V : Int32, V = if w = 0 then dp_I M 11 x else if w = 1 then dp_I M 41 x else if w = 2 then nI (ct (brf (dp_I M 48) x) 40) else if w = 3 then nI (mny (dp_I M 147) K x) else if w = 4 then dp_I M 43 x else nI (ct (grf (dp_I M 43) x) n) := ⟨_, rfl⟩
  have hcl : dp_den true xs xl (d + 4) 295 [.ref 0, .int (nI x), .int (nI w)] M = iR V M := by
    rw [D_X11_look_0_den, D_X11_look_0_eq, pc_box p2 p1, rb_bi, ibz, if_pos gx']
    simp only [q_win, rb_bi, ibz, w_5, if_pos gw', nI_cl (show x < 2147483648 by omega), nI_o (show x < 100 by omega) (by omega), if_false, gc_obs (show x < 100 by omega), gc_grp p2 p1 hx, (g5 x (by omega)).1]
    rw [hV]
    have : w = 0 ∨ w = 1 ∨ w = 2 ∨ w = 3 ∨ w = 4 ∨ w = 5 := by omega
    rcases this with rfl | rfl | rfl | rfl | rfl | rfl <;> rfl
  refine ⟨0, V, _, dp_setI (dp_setJ M 245 0 V.toInt64) 114 0 0, wL_look_ok hcl, ?_, by simp [gII, uI], fun _ => by simp [gJI, gJJ, uI], h0.looked _⟩
  obtain ⟨N, hN⟩ : ∃ N, N = dp_setI (dp_setJ M 245 0 V.toInt64) 114 0 0 := ⟨_, rfl⟩
  have e : ∀ k, k ≠ 114 → dp_I N k = dp_I M k := fun k q => by rw [hN, gII, if_neg q, gIJ]
  have f : ∀ i, i ≠ 0 → dp_I N 114 i = dp_I M 114 i := fun i q => by rw [hN, gII, if_pos rfl, uI_n q, gIJ]
  rw [D_X12_look_0_den, D_X12_look_0_eq, pm_box (n := n) (by rw [gIJ]; exact p3) p1, rb_bi, ibz, if_pos gx']
  simp only [q_min, rb_bi, ibz, w_5, if_pos gw', dp_w]
  rw [← hN]
  have e40 : ∀ i, (40 : Int32) * nI x + nI i = nI (x * 40 + i) := fun i => by rw [show (40 : Int32) = nI 40 from rfl, pk_mul, nI_add, Nat.mul_comm]
  have e40' : (40 : Int32) * nI x = nI (x * 40) := by rw [show (40 : Int32) = nI 40 from rfl, pk_mul, Nat.mul_comm]
  have lead : ∀ i, i < n → dp_I N 146 i = dp_I M 43 i := fun i hi => by rw [e 146 (by decide)]; exact h5.1 i hi
  have tail : D_X12_look_81 xs xl (d + 4) (nI x) (nI w) (nI (ct (brf (dp_I M 48) x) 40)) 0 0 N = iR V N := by
    refine lpb (F := fun (a : Nat) i => D_X12_look_81 xs xl (d + 4) (nI x) (nI w) (nI (ct (brf (dp_I M 48) x) 40)) (nI a) (nI i) N) (s := ct (grf (dp_I M 43) x)) (N := n) ?_ (fun i hi hr => ?_)
    · (try dsimp only)
      rw [D_X12_look_81_eq, f 3 (by decide), p3, if_pos (nI_lle (Nat.le_refl _) (by omega))]
      simp only [nI_cl (show x < 2147483648 by omega), nI_o (show x < 100 by omega) (by omega), if_false, e 144 (by decide), e 145 (by decide), gm_many hK (show dp_I N 114 44 = nI K by rw [f 44 (by decide)]; exact g2), rb_bi, e 147 (by decide), lead x hx, p6, h6.1]
      rw [hV]
      have : w = 0 ∨ w = 1 ∨ w = 2 ∨ w = 3 ∨ w = 4 ∨ w = 5 := by omega
      rcases this with rfl | rfl | rfl | rfl | rfl | rfl <;> rfl
    · (try dsimp only at hr); (try dsimp only)
      rw [show ct (grf (dp_I M 43) x) (i + 1) = ct (grf (dp_I M 43) x) i + (if grf (dp_I M 43) x i then 1 else 0) from rfl] at hr
      rw [D_X12_look_81_eq, f 3 (by decide), p3, if_neg (nI_nge hi (by omega))]
      simp only [nI_cl (show i < 2147483648 by omega), nI_o (show i < 100 by omega) (by omega), nI_cl (show x < 2147483648 by omega), nI_o (show x < 100 by omega) (by omega), if_false, dp_w, nI_1, Int32.add_zero, lead i hi, lead x hx]
      by_cases z : dp_I M 43 i = dp_I M 43 x
      · rw [if_pos (grf_t.mpr z)] at hr
        rw [if_pos z]; exact hr
      · rw [if_neg (fun q => z (grf_t.mp q))] at hr
        rw [if_neg z]; exact hr
  rw [e40']
  refine lpb (F := fun (a : Nat) i => D_X12_look_39 xs xl (d + 4) (nI x) (nI w) (nI a) (nI (x * 40 + i)) N) (s := ct (brf (dp_I M 48) x)) (N := 40) ?_ (fun i hi hr => ?_)
  · (try dsimp only)
    rw [D_X12_look_39_eq, show (40 : Int32) * nI x + 40 = nI (x * 40 + 40) from e40 40, if_pos (nI_lle (Nat.le_refl _) (by omega))]
    simp only [dp_w]
    exact tail
  · (try dsimp only at hr); (try dsimp only)
    rw [ct] at hr
    rw [D_X12_look_39_eq, show (40 : Int32) * nI x + 40 = nI (x * 40 + 40) from e40 40, if_neg (nI_nge (by omega) (by omega))]
    simp only [nI_cl (show x * 40 + i < 2147483648 by omega), nI_o (show x * 40 + i < 4000 by omega) (by omega), if_false, dp_w, nI_1, Int32.add_zero, e 149 (by decide), h4.1]
    by_cases z : dp_I M 48 (x * 40 + i) ≤ 0
    · rw [if_neg (fun q => Int32.not_lt.mpr z (brf_t.mp q))] at hr
      rw [if_pos z]; exact hr
    · rw [if_pos (brf_t.mpr (Int32.not_le.mp z))] at hr
      rw [if_neg z]; exact hr
end GG
