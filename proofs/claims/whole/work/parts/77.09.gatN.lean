-- needs: 75 76
/-! GATE: bars, release -/
def fx (vd f : Nat → Int32) (q : Nat) : Nat → Int32 := fun s => if s < q then f s + (if vd s = 14 then 1 else 0) else f s
def fy (G : Nat → Bool) (vd : Nat → Nat → Int32) (f : Nat → Int32) : Nat → (Nat → Int32)
  | 0 => f
  | b + 1 => if G b = true then fx (vd b) (fy G vd f b) 4 else fy G vd f b
theorem fx_0 (vd f : Nat → Int32) : fx vd f 0 = f := by funext s; unfold fx; rw [if_neg (by omega)]
theorem fx_q (vd f : Nat → Int32) (q : Nat) : fx vd f q q = f q := by unfold fx; rw [if_neg (by omega)]
theorem fx_s (vd f : Nat → Int32) (q : Nat) : uI (fx vd f q) q (f q + (if vd q = 14 then 1 else 0)) = fx vd f (q + 1) := by
  funext s
  by_cases z : s = q
  · subst z; rw [uI_s]; unfold fx; rw [if_pos (show s < s + 1 by omega)]
  · rw [uI_n z]; unfold fx
    by_cases y : s < q
    · rw [if_pos y, if_pos (show s < q + 1 by omega)]
    · rw [if_neg y, if_neg (show ¬ s < q + 1 by omega)]
section GJ
variable {xs : Nat → Int32} {xl d : Nat} {M : dp_M}
theorem PR.gk {n B t c : Nat} (h : PR M n B t c) : ∃ K D, GGk M n K D ∧ ∀ N, (∀ k ∈ [147, 149, 151, 152, 137, 146, 233, 241], dp_I N k = dp_I M k) → (∀ i ∈ [3, 44, 160], dp_I N 114 i = dp_I M 114 i) → GMk N M n K D := by
  have h0 := h
  obtain ⟨p1, p2, p3, p4, p5, p6, p7⟩ := h0.bx
  obtain ⟨h1, h2, h3, h4, h5, h6, h7⟩ := h
  obtain ⟨K, D, hk⟩ := h3.k
  refine ⟨K, D, hk, fun N e f => ⟨⟨p1, hk.1, hk.2.1⟩, by rw [f 3 (by decide)]; exact p3, by rw [f 44 (by decide)]; exact hk.2.2.1, by rw [f 160 (by decide)]; exact hk.2.2.2.1, fun i hi => by rw [e 146 (by decide)]; exact h5.1 i hi, by rw [e 149 (by decide)]; exact h4.1, ⟨by rw [e 151 (by decide)]; exact h7.1, by rw [e 152 (by decide)]; exact h7.2.1, by rw [e 137 (by decide)]; exact p4⟩, e 147 (by decide), e 233 (by decide), e 241 (by decide)⟩⟩
theorem vdF_40 (f : Nat → Int32) (K x s : Nat) : vdF (rI M 40 f) K x s = vdF M K x s := by
  unfold vdF; simp only [rI_I, Nat.reduceEqDiff, if_false]
theorem ownF_40 (f : Nat → Int32) (K D x : Nat) : ownF (rI M 40 f) K D x = ownF M K D x := by
  unfold ownF; simp only [rI_I, Nat.reduceEqDiff, if_false]
theorem GGk_40 {n K D : Nat} (f : Nat → Int32) (h : GGk M n K D) : GGk (rI M 40 f) n K D := by
  unfold GGk at h ⊢; simp only [rI_I, Nat.reduceEqDiff, if_false]; exact h
theorem gc_rules {n K D x : Nat} (h : GGk M n K D) (hx : x < 100) (f : Nat → Int32) : dp_den true xs xl (d + 3) 40 [.ref 37, .int (nI x)] (rI M 40 f) = iR (bI (ct (vnz (vdF M K x)) 4 = 0)) (rI M 40 (fx (vdF M K x) f 4)) := by
  rw [D_X1_askRules_0_den, D_X1_askRules_0_eq]
  simp only [dp_w]
  have key := lpb (F := fun (_ : Nat) i => D_X1_askRules_4 xs xl (d + 2) (nI x) (bI (ct (vnz (vdF M K x)) i = 0)) (nI i) (rI M 40 (fx (vdF M K x) f i))) (s := fun _ => 0) (N := 4) (r := (.inl (some (.int (bI (ct (vnz (vdF M K x)) 4 = 0)))), rI M 40 (fx (vdF M K x) f 4))) ?_ (fun i hi hr => ?_)
  · (try dsimp only at key)
    rw [fx_0, bI_t (show ct (vnz (vdF M K x)) 0 = 0 from rfl)] at key; exact key
  · (try dsimp only)
    rw [D_X1_askRules_4_eq, if_pos (by decide), rb_ok]
  · (try dsimp only at hr); (try dsimp only)
    have hs : ct (vnz (vdF M K x)) (i + 1) = ct (vnz (vdF M K x)) i + (if vnz (vdF M K x) i = true then 1 else 0) := rfl
    have e36 : ∀ v : Int32, v = (if vdF M K x i = 14 then 1 else 0) → D_X1_askRules_36 xs xl (d + 2) (nI x) (bI (ct (vnz (vdF M K x)) i = 0)) (nI i) (vdF M K x i) v (f i) (nI i) (rI M 40 (fx (vdF M K x) f i)) = some (.inl (some (.int (bI (ct (vnz (vdF M K x)) 4 = 0)))), rI M 40 (fx (vdF M K x) f 4)) := fun v hv => by
      rw [D_X1_askRules_36_eq]
      simp only [nI_cl (show i < 2147483648 by omega), nI_o hi (by omega), if_false, dp_w, rI_set, hv, fx_s, nI_1]
      by_cases z : ct (vnz (vdF M K x)) i = 0
      · rw [bI_t z, if_neg one_ne]
        by_cases y : vdF M K x i = 0
        · rw [if_neg (fun q => vnz_t.mp q y)] at hs
          rw [bI_t (by omega)] at hr
          rw [if_pos y]; exact D_X1_askRules_4_to_4_a _ _ _ _ hr
        · rw [if_pos (vnz_t.mpr y)] at hs
          rw [bI_f (by omega)] at hr
          rw [if_neg y]; exact D_X1_askRules_4_to_4_a _ _ _ _ hr
      · rw [bI_f z, if_pos rfl]
        rw [bI_f (by omega)] at hr
        exact D_X1_askRules_4_to_4_a _ _ _ _ hr
    rw [D_X1_askRules_4_eq, if_neg (show ¬ (4 : Int32) ≤ nI (i) from nI_ge (a := i) (b := 4) (by omega) (by omega)), gc_vd2 (GGk_40 _ h) hi hx, rb_bi, vdF_40]
    simp only [nI_cl (show i < 2147483648 by omega), nI_o hi (by omega), if_false]
    rw [show dp_I (rI M 40 (fx (vdF M K x) f i)) 40 i = f i by rw [rI_I, if_pos rfl, fx_q]]
    by_cases z : vdF M K x i = 14
    · rw [if_pos z]; exact e36 1 (by rw [if_pos z])
    · rw [if_neg z]; exact e36 0 (by rw [if_neg z])
theorem gc_ask {n K D x : Nat} (h : GGk M n K D) (p2 : dp_I M 1 2 = nI n) (hn : n ≤ 100) (hx : x < n) : dp_den true xs xl (d + 4) 39 [.ref 37, .int (nI x)] M = iR (bI (ttb (grf (dp_I M 43) x) (nbF M K D) n = 0)) (rI M 40 (fy (grf (dp_I M 43) x) (vdF M K) (dp_I M 40) n)) := by
  rw [D_X1_askRelease_0_den, D_X1_askRelease_0_eq]
  simp only [dp_w]
  obtain ⟨T, hT⟩ : ∃ T, T = ttb (grf (dp_I M 43) x) (nbF M K D) := ⟨_, rfl⟩
  obtain ⟨Y, hY⟩ : ∃ Y, Y = fy (grf (dp_I M 43) x) (vdF M K) (dp_I M 40) := ⟨_, rfl⟩
  rw [← hT, ← hY]
  have key := lpb (F := fun (_ : Nat) i => D_X1_askRelease_4 xs xl (d + 3) (nI x) (bI (T i = 0)) (nI i) (rI M 40 (Y i))) (s := fun _ => 0) (N := n) (r := (.inl (some (.int (bI (T n = 0)))), rI M 40 (Y n))) ?_ (fun i hi hr => ?_)
  · (try dsimp only at key)
    rw [show Y 0 = dp_I M 40 by rw [hY, fy], rI_id, bI_t (show T 0 = 0 by rw [hT, ttb])] at key; exact key
  · (try dsimp only)
    rw [D_X1_askRelease_4_eq, show dp_I (rI M 40 (Y n)) 1 2 = nI n by rw [rI_I, if_neg (by decide)]; exact p2, if_pos (nI_lle (Nat.le_refl _) (by omega)), rb_ok]
  · (try dsimp only at hr); (try dsimp only)
    have hs : T (i + 1) = T i + (if grf (dp_I M 43) x i = true then nbF M K D i else 0) := by rw [hT, ttb]
    have hy : Y (i + 1) = if grf (dp_I M 43) x i = true then fx (vdF M K i) (Y i) 4 else Y i := by rw [hY, fy]
    rw [D_X1_askRelease_4_eq, show dp_I (rI M 40 (Y i)) 1 2 = nI n by rw [rI_I, if_neg (by decide)]; exact p2, if_neg (nI_nge (by omega) (by omega))]
    simp only [nI_cl (show i < 2147483648 by omega), nI_o (show i < 100 by omega) (by omega), nI_cl (show x < 2147483648 by omega), nI_o (show x < 100 by omega) (by omega), if_false, dp_w, nI_1]
    rw [show dp_I (rI M 40 (Y i)) 43 = dp_I M 43 by rw [rI_I, if_neg (by decide)]]
    by_cases z : dp_I M 43 i = dp_I M 43 x
    · rw [if_pos (grf_t.mpr z)] at hs hy
      rw [hy] at hr
      have hb := nbF_e M K D i
      rw [if_pos z, gc_rules h (by omega), rb_bi]
      by_cases z1 : T i = 0
      · rw [bI_t z1, if_neg one_ne, ibz]
        by_cases z2 : ct (vnz (vdF M K i)) 4 = 0
        · rw [if_pos z2, gc_own2 (GGk_40 _ h) (by omega), rb_bi, ownF_40]
          by_cases z3 : ownF M K D i = 0
          · rw [if_pos z3] at hb
            rw [if_pos z3, gc_obs (by omega), rb_bi, show dp_I (rI M 40 (fx (vdF M K i) (Y i) 4)) 48 = dp_I M 48 by rw [rI_I, if_neg (by decide)]]
            have l := ct_le (brf (dp_I M 48) i) 40
            by_cases z4 : ct (brf (dp_I M 48) i) 40 = 0
            · rw [bI_t (by omega)] at hr
              rw [if_pos (by rw [z4]; rfl)]; exact D_X1_askRelease_4_to_4_a _ _ _ _ hr
            · rw [bI_f (by omega)] at hr
              rw [if_neg (nI_n0 (by omega) z4)]; exact D_X1_askRelease_4_to_4_a _ _ _ _ hr
          · rw [if_neg z3] at hb
            rw [bI_f (by omega)] at hr
            rw [if_neg z3]; exact D_X1_askRelease_4_to_4_a _ _ _ _ hr
        · rw [bI_f (by omega)] at hr
          rw [if_neg z2]; exact D_X1_askRelease_4_to_4_a _ _ _ _ hr
      · rw [bI_f (by omega)] at hr
        rw [bI_f z1, if_pos rfl]; exact D_X1_askRelease_4_to_4_a _ _ _ _ hr
    · rw [if_neg (fun q => z (grf_t.mp q))] at hs hy
      rw [hy, hs, Nat.add_zero] at hr
      rw [if_neg z]; exact hr
/-- the model -/
theorem GMk_153 {N : dp_M} {n K D : Nat} (f : Nat → Int32) (h : GMk N M n K D) : GMk (rI N 153 f) M n K D := by
  unfold GMk at h ⊢; simp only [rI_I, Nat.reduceEqDiff, if_false]; exact h
theorem gm_ask {N : dp_M} {n K D x : Nat} (h : GMk N M n K D) (hx : x < n) : dp_den true xs xl (d + 6) 434 [.ref 114, .int (nI x)] N = iR (bI (ttb (grf (dp_I M 43) x) (nbF M K D) n = 0)) (rI N 153 (fy (grf (dp_I M 43) x) (vdF M K) (dp_I N 153) n)) := by
  rw [D_X12_isReleased_0_den, D_X12_isReleased_0_eq]
  simp only [dp_w]
  have hn := h.1.1
  obtain ⟨Y, hY⟩ : ∃ Y, Y = fy (grf (dp_I M 43) x) (vdF M K) (dp_I N 153) := ⟨_, rfl⟩
  rw [← hY]
  have e3 : ∀ f, dp_I (rI N 153 f) 114 3 = nI n := fun f => (GMk_153 f h).2.1
  have e146 : ∀ f, ∀ i, i < n → dp_I (rI N 153 f) 146 i = dp_I M 43 i := fun f => (GMk_153 f h).2.2.2.2.1
  have key := lpb (F := fun (_ : Nat) i => D_X12_isReleased_2 xs xl (d + 5) (nI x) (nI i) (rI N 153 (Y i))) (s := fun _ => 0) (N := n) (r := (.inl (some (.int (bI (ttb (grf (dp_I M 43) x) (nbF M K D) n = 0)))), rI N 153 (Y n))) ?_ (fun i hi hr => ?_)
  · (try dsimp only at key)
    rw [show Y 0 = dp_I N 153 by rw [hY, fy], rI_id] at key; exact key
  · (try dsimp only)
    rw [D_X12_isReleased_2_eq, e3, if_pos (nI_lle (Nat.le_refl _) (by omega))]
    simp only [nI_cl (show x < 2147483648 by omega), nI_o (show x < 100 by omega) (by omega), if_false]
    rw [e146 _ x hx]
    by_cases z : ttb (grf (dp_I M 43) x) (nbF M K D) n = 0
    · rw [show (0 : Int32) = nI 0 from rfl, gm_gnone (GMk_153 _ h) (by omega) (by omega), rb_bi, if_pos rfl, bI_t z]
    · obtain ⟨b, b1, b2, b3, b4⟩ := ttb_f (j := 0) n (Nat.pos_of_ne_zero z)
      obtain ⟨k, k1, k2, k3⟩ := ctd (p := sp M K D b) 45 0 (by
        have : nbF M K D b = ct (sp M K D b) 45 := rfl
        omega)
      rw [show (0 : Int32) = nI 0 from rfl, gm_gbar (GMk_153 _ h) (by omega) b1 b2 b3 k1 k2 (by omega), rb_bi, bI_f z]
      have : ¬ sw M K D b k = -1 := by
        by_cases k0 : k = 0
        · subst k0
          have q : decide (¬ ownF M K D b = 0) = true := k2
          rw [decide_eq_true_eq] at q
          have e : sw M K D b 0 = ownF M K D b := rfl
          rw [e]; intro q2
          have := (ownF_p M K D b).1.mpr q
          rw [q2] at this; exact absurd this (by decide)
        · exact sw_ne k1 k0
      rw [if_neg this]; rfl
  · (try dsimp only at hr); (try dsimp only)
    have hy : Y (i + 1) = if grf (dp_I M 43) x i = true then fx (vdF M K i) (Y i) 4 else Y i := by rw [hY, fy]
    rw [D_X12_isReleased_2_eq, e3, if_neg (nI_nge (by omega) (by omega))]
    simp only [dp_w]
    by_cases z : dp_I M 43 i = dp_I M 43 x
    · rw [if_pos (grf_t.mpr z)] at hy
      have k2 := lpb (F := fun (_ : Nat) s => D_X12_isReleased_12 xs xl (d + 5) (nI x) (nI i) (nI s) (rI N 153 (fx (vdF M K i) (Y i) s))) (s := fun _ => 0) (N := 4) (r := (.inl (some (.int (bI (ttb (grf (dp_I M 43) x) (nbF M K D) n = 0)))), rI N 153 (Y n))) ?_ (fun s hs hr2 => ?_)
      · (try dsimp only at k2)
        rw [fx_0] at k2; exact k2
      · (try dsimp only)
        rw [D_X12_isReleased_12_eq, if_pos (by decide)]
        simp only [dp_w, nI_1]
        rw [hy] at hr
        exact D_X12_isReleased_2_to_2_a _ _ _ hr
      · (try dsimp only at hr2); (try dsimp only)
        have g := GMk_153 (fx (vdF M K i) (Y i) s) h
        obtain ⟨⟨-, hK, hD⟩, -, g2, -, -, -, ⟨g6, g7, g8⟩, g9, -, -⟩ := g
        rw [D_X12_isReleased_12_eq, if_neg (show ¬ (4 : Int32) ≤ nI (s) from nI_ge (a := s) (b := 4) (by omega) (by omega))]
        simp only [nI_cl (show i < 2147483648 by omega), nI_o (show i < 100 by omega) (by omega), nI_cl (show x < 2147483648 by omega), nI_o (show x < 100 by omega) (by omega), nI_cl (show s < 2147483648 by omega), nI_o hs (by omega), if_false, dp_w, nI_1]
        rw [e146 _ i hi, e146 _ x hx, if_pos z, gm_vd hK g2 hs (by omega), rb_bi, g6, g7, g8, g9]
        rw [show vdv (dp_I M 38) (dp_I M 39) (dp_I M 5) (mny (dp_I M 147) K i) s i = vdF M K i s from rfl]
        rw [show dp_I (rI N 153 (fx (vdF M K i) (Y i) s)) 153 s = Y i s by rw [rI_I, if_pos rfl, fx_q]]
        have es := fx_s (vdF M K i) (Y i) s
        by_cases y : vdF M K i s = 14
        · rw [if_pos y] at es
          rw [if_pos y, rI_set, es]; exact hr2
        · rw [if_neg y] at es
          rw [if_neg y, rI_set, es]; exact hr2
    · rw [if_neg (fun q => z (grf_t.mp q))] at hy
      rw [hy] at hr
      rw [D_X12_isReleased_12_eq, if_neg (by decide)]
      simp only [nI_cl (show i < 2147483648 by omega), nI_o (show i < 100 by omega) (by omega), nI_cl (show x < 2147483648 by omega), nI_o (show x < 100 by omega) (by omega), if_false, dp_w, nI_1]
      rw [e146 _ i hi, e146 _ x hx, if_neg z]
      exact D_X12_isReleased_2_to_2_a _ _ _ hr
/-- bars -/
theorem s_bars {n B t c : Nat} (h : PR M n B t c) (hn : 246 ≤ dp_n M) (v1 v2 : Int32) : ∃ k b M1 M2, dp_den true xs xl (d + 7) 614 [.ref 0, .int v1, .int v2, .ref 245] M = iR k M1 ∧ dp_den true xs xl (d + 7) 436 [.ref 114, .int v1, .int v2] M1 = iR b M2 ∧
    dp_I M2 114 0 = k ∧ (k = 0 → dp_J M2 245 0 = b.toInt64) ∧ PR M2 n B t c ∧ Off (245 :: PR_W) (0 :: PR_V) M M2 ∧ Cst 1 6 M M2 := by
  have h0 := h
  obtain ⟨p1, p2, p3, p4, p5, p6, p7⟩ := h0.bx
  obtain ⟨K, D, gk, gm⟩ := h0.gk
  by_cases g : qin v1 n
  case neg =>
    refine ⟨1, 0, dp_new M 0 0 6, _, wL_bars_x0 ?_, ?_, rfl, (fun e => by cases e), h0.refused hn 1⟩
    · rw [D_X11_bars_0_den, D_X11_bars_0_eq, pc_box p2 p1, rb_bi, ibz, if_neg g, q_nk hn]
    · rw [D_X12_bars_0_den, D_X12_bars_0_eq, pm_box (n := n) (by rw [gIN (by omega)]; exact p3) p1, rb_bi, ibz, if_neg g, D_X12_bars_14_eq]
      simp only [dp_w, gII, if_true, uI_s]
      rw [if_neg (by decide)]
  have g' := g
  obtain ⟨x, hx, rfl⟩ := qin_of g (by omega)
  have c1 : dp_den true xs xl (d + 6) 289 [.ref 0, .int (nI x), .int v2] M = dp_bi (dp_den true xs xl (d + 5) 41 [.ref 37, .int (nI x), .int v2] M) (fun r4 M3 => iR r4 M3) := by
    rw [D_X11_bars_0_den, D_X11_bars_0_eq, pc_box p2 p1, rb_bi, ibz, if_pos g']
  have m1 : ∀ V, dp_den true xs xl (d + 7) 436 [.ref 114, .int (nI x), .int v2] (dp_setJ M 245 0 V) = if 0 ≤ v2 then dp_bi (dp_den true xs xl (d + 6) 433 [.ref 114, .int (dp_I M 43 x), .int v2] (dp_setI (dp_setJ M 245 0 V) 114 0 0)) (fun r M2 => iR r M2) else iR (-1) (dp_setI (dp_setJ M 245 0 V) 114 0 0) := fun V => by
    rw [D_X12_bars_0_den, D_X12_bars_0_eq, pm_box (n := n) (by rw [gIJ]; exact p3) p1, rb_bi, ibz, if_pos g', D_X12_bars_14_eq]
    simp only [dp_w, nI_cl (show x < 2147483648 by omega), nI_o (show x < 100 by omega) (by omega), if_false]
    rw [show dp_I (dp_setI (dp_setJ M 245 0 V) 114 0 0) 114 0 = 0 by rw [gII, if_pos rfl, uI_s], if_pos (by decide), show dp_I (dp_setI (dp_setJ M 245 0 V) 114 0 0) 146 x = dp_I M 43 x by rw [gII, if_neg (by decide), gIJ]; exact h.2.2.2.2.1.1 x hx]
  have gN : ∀ V, GMk (dp_setI (dp_setJ M 245 0 V) 114 0 0) M n K D := fun V => gm _ (fun k hk => by rw [gII, if_neg (fun q => by subst q; revert hk; decide), gIJ]) (fun i hi => by rw [gII, if_pos rfl, uI_n (fun q => by subst q; revert hi; decide), gIJ])
  have fin : ∀ v : Int32, dp_den true xs xl (d + 5) 41 [.ref 37, .int (nI x), .int v2] M = iR v M → (dp_den true xs xl (d + 7) 436 [.ref 114, .int (nI x), .int v2] (dp_setJ M 245 0 v.toInt64) = iR v (dp_setI (dp_setJ M 245 0 v.toInt64) 114 0 0)) → ∃ k b M1 M2, dp_den true xs xl (d + 7) 614 [.ref 0, .int (nI x), .int v2, .ref 245] M = iR k M1 ∧ dp_den true xs xl (d + 7) 436 [.ref 114, .int (nI x), .int v2] M1 = iR b M2 ∧
    dp_I M2 114 0 = k ∧ (k = 0 → dp_J M2 245 0 = b.toInt64) ∧ PR M2 n B t c ∧ Off (245 :: PR_W) (0 :: PR_V) M M2 ∧ Cst 1 6 M M2 := fun v a1 a2 =>
    ⟨0, v, _, _, wL_bars_ok (M1 := M) (x := v) (by rw [c1, a1, rb_bi]), a2, by simp [gII, uI], fun _ => by simp [gJI, gJJ, uI], h0.looked _⟩
  by_cases z : 0 ≤ v2
  case neg =>
    refine fin (-1) ?_ ?_
    · rw [D_X1_barOfGroup_0_den, D_X1_barOfGroup_0_eq]
      simp only [dp_w]
      rw [D_X1_barOfGroup_5_eq, p2, if_neg (show ¬ nI n ≤ 0 from nI_nge (i := 0) (n := n) (by omega) (by omega)), if_pos (Int32.not_le.mp z)]
    · rw [m1, if_neg z]
  obtain ⟨j, hj, rfl⟩ : ∃ j : Nat, j < 2147483648 ∧ v2 = nI j := ⟨v2.toInt.toNat, by have := Int32.toInt_lt v2; omega, by
    rw [Int32.le_iff_toInt_le] at z
    have e : (0 : Int32).toInt = 0 := rfl
    have := Int32.toInt_lt v2
    rw [← Int32.toInt_inj, nI_toInt (by omega)]; omega⟩
  by_cases y : ttb (grf (dp_I M 43) x) (nbF M K D) n ≤ j
  · refine fin (-1) (gc_gnone gk p2 p1 hj hx y) ?_
    rw [m1, if_pos z, gm_gnone (gN _) hj y, rb_bi]
  · obtain ⟨b, b1, b2, b3, b4⟩ := ttb_f (j := j) n (Nat.lt_of_not_le y)
    obtain ⟨k, k1, k2, k3⟩ := ctd (p := sp M K D b) 45 (j - ttb (grf (dp_I M 43) x) (nbF M K D) b) (by
      have : nbF M K D b = ct (sp M K D b) 45 := rfl
      omega)
    refine fin (sw M K D b k) (gc_gbar gk p2 p1 hj hx b1 b2 b3 k1 k2 k3) ?_
    rw [m1, if_pos z, gm_gbar (gN _) hj b1 b2 b3 k1 k2 k3, rb_bi]
end GJ
