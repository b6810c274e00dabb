/-! HOLD: counts; least; move -/
section HB
variable {xs : Nat → Int32} {xl d : Nat} {M : dp_M}
theorem hc_hgt {n : Nat} (h : dp_I M 1 2 = nI n) (hn : n ≤ 100) (v1 v2 : Int32) : dp_den true xs xl (d + 1) 58 [.ref 1, .int v1, .int v2] M = iR (nI (ct (hbf (dp_I M 8) (dp_I M 9) v1 v2) n)) M := by
  rw [D_X2_heightOf_0_den, D_X2_heightOf_0_eq]
  simp only [dp_w]
  refine lpb (F := fun (a : Nat) i => D_X2_heightOf_5 xs xl d v1 v2 (nI a) (nI i) M) (s := ct (hbf (dp_I M 8) (dp_I M 9) v1 v2)) (N := n) ?_ (fun i hi hr => ?_)
  · (try dsimp only)
    rw [D_X2_heightOf_5_eq, h, if_pos (nI_lle (Nat.le_refl _) (by omega))]
  · (try dsimp only at hr); (try dsimp only)
    rw [ct] at hr
    rw [D_X2_heightOf_5_eq, h, if_neg (nI_nge hi (by omega))]
    simp only [nI_cl (show i < 2147483648 by omega), nI_o (show i < 100 by omega) (by omega), if_false, dp_w, nI_1, Int32.add_zero]
    by_cases z1 : dp_I M 8 i = v1
    · rw [if_pos z1]
      by_cases z2 : dp_I M 9 i = v2
      · rw [if_pos z2]
        rw [if_pos (hbf_t.mpr ⟨z1, z2⟩)] at hr; exact hr
      · rw [if_neg z2]
        rw [if_neg (fun q => z2 (hbf_t.mp q).2)] at hr; exact hr
    · rw [if_neg z1]
      rw [if_neg (fun q => z1 (hbf_t.mp q).1)] at hr; exact hr
theorem hm_hgt {n : Nat} (h : dp_I M 114 3 = nI n) (hn : n ≤ 100) (v1 v2 : Int32) : dp_den true xs xl (d + 1) 372 [.ref 114, .int v1, .int v2] M = iR (nI (ct (hbf (dp_I M 116) (dp_I M 117) v1 v2) n)) M := by
  rw [D_X12_deckHeight_0_den, D_X12_deckHeight_0_eq]
  simp only [dp_w]
  refine lpb (F := fun (a : Nat) i => D_X12_deckHeight_5 xs xl d v1 v2 (nI a) (nI i) M) (s := ct (hbf (dp_I M 116) (dp_I M 117) v1 v2)) (N := n) ?_ (fun i hi hr => ?_)
  · (try dsimp only)
    rw [D_X12_deckHeight_5_eq, h, if_pos (nI_lle (Nat.le_refl _) (by omega))]
  · (try dsimp only at hr); (try dsimp only)
    rw [ct] at hr
    rw [D_X12_deckHeight_5_eq, h, if_neg (nI_nge hi (by omega))]
    simp only [nI_cl (show i < 2147483648 by omega), nI_o (show i < 100 by omega) (by omega), if_false, dp_w, nI_1, Int32.add_zero]
    by_cases z1 : dp_I M 116 i = v1
    · rw [if_pos z1]
      by_cases z2 : dp_I M 117 i = v2
      · rw [if_pos z2]
        rw [if_pos (hbf_t.mpr ⟨z1, z2⟩)] at hr; exact hr
      · rw [if_neg z2]
        rw [if_neg (fun q => z2 (hbf_t.mp q).2)] at hr; exact hr
    · rw [if_neg z1]
      rw [if_neg (fun q => z1 (hbf_t.mp q).1)] at hr; exact hr
theorem hc_ly {n : Nat} (h : dp_I M 1 2 = nI n) (hn : n ≤ 100) (v1 : Int32) : dp_den true xs xl (d + 1) 57 [.ref 1, .int v1] M = iR (nI (ct (lyf (dp_I M 8) (dp_I M 9) v1) n)) M := by
  rw [D_X2_lyingIn_0_den, D_X2_lyingIn_0_eq]
  simp only [dp_w]
  refine lpb (F := fun (a : Nat) i => D_X2_lyingIn_4 xs xl d v1 (nI a) (nI i) M) (s := ct (lyf (dp_I M 8) (dp_I M 9) v1)) (N := n) ?_ (fun i hi hr => ?_)
  · (try dsimp only)
    rw [D_X2_lyingIn_4_eq, h, if_pos (nI_lle (Nat.le_refl _) (by omega))]
  · (try dsimp only at hr); (try dsimp only)
    rw [ct] at hr
    rw [D_X2_lyingIn_4_eq, h, if_neg (nI_nge hi (by omega))]
    simp only [nI_cl (show i < 2147483648 by omega), nI_o (show i < 100 by omega) (by omega), if_false, dp_w, nI_1, Int32.add_zero]
    by_cases z1 : dp_I M 8 i = v1
    · rw [if_pos z1]
      by_cases z2 : dp_I M 9 i = 3
      · rw [if_pos z2]
        rw [if_neg (fun q => (lyf_t.mp q).2 z2)] at hr; exact hr
      · rw [if_neg z2]
        rw [if_pos (lyf_t.mpr ⟨z1, z2⟩)] at hr; exact hr
    · rw [if_neg z1]
      rw [if_neg (fun q => z1 (lyf_t.mp q).1)] at hr; exact hr
theorem hm_ly {n : Nat} (h : dp_I M 114 3 = nI n) (hn : n ≤ 100) (v1 : Int32) : dp_den true xs xl (d + 1) 373 [.ref 114, .int v1] M = iR (nI (ct (lyf (dp_I M 116) (dp_I M 117) v1) n)) M := by
  rw [D_X12_lyingIn_0_den, D_X12_lyingIn_0_eq]
  simp only [dp_w]
  refine lpb (F := fun (a : Nat) i => D_X12_lyingIn_4 xs xl d v1 (nI a) (nI i) M) (s := ct (lyf (dp_I M 116) (dp_I M 117) v1)) (N := n) ?_ (fun i hi hr => ?_)
  · (try dsimp only)
    rw [D_X12_lyingIn_4_eq, h, if_pos (nI_lle (Nat.le_refl _) (by omega))]
  · (try dsimp only at hr); (try dsimp only)
    rw [ct] at hr
    rw [D_X12_lyingIn_4_eq, h, if_neg (nI_nge hi (by omega))]
    simp only [nI_cl (show i < 2147483648 by omega), nI_o (show i < 100 by omega) (by omega), if_false, dp_w, nI_1, Int32.add_zero]
    by_cases z1 : dp_I M 116 i = v1
    · rw [if_pos z1]
      by_cases z2 : dp_I M 117 i = 3
      · rw [if_pos z2]
        rw [if_neg (fun q => (lyf_t.mp q).2 z2)] at hr; exact hr
      · rw [if_neg z2]
        rw [if_pos (lyf_t.mpr ⟨z1, z2⟩)] at hr; exact hr
    · rw [if_neg z1]
      rw [if_neg (fun q => z1 (lyf_t.mp q).1)] at hr; exact hr
/-- who lies above one that leaves -/
def laf (port bay S D : Nat → Int32) (x i : Nat) : Bool := decide (bay i = bay x ∧ S i = S x ∧ D i < D x ∧ port i = 0)
theorem laf_t {port bay S D : Nat → Int32} {x i : Nat} : laf port bay S D x i = true ↔ bay i = bay x ∧ S i = S x ∧ D i < D x ∧ port i = 0 := decide_eq_true_iff
theorem hc_above {n x : Nat} (h : dp_I M 1 2 = nI n) (hn : n ≤ 100) (hx : x < n) : dp_den true xs xl (d + 1) 72 [.ref 1, .int (nI x)] M = iR (bI (an (laf (dp_I M 2) (dp_I M 8) (dp_I M 9) (dp_I M 10) x) n = true)) M := by
  rw [D_X2_liesAboveLeaving_0_den, D_X2_liesAboveLeaving_0_eq]
  simp only [dp_w]
  refine lp_ex (F := fun i => D_X2_liesAboveLeaving_2 xs xl d (nI x) (nI i) M) (laf (dp_I M 2) (dp_I M 8) (dp_I M 9) (dp_I M 10) x) (N := n) ?_ (fun i hi hp => ?_) (fun i r hi hp hr => ?_)
  · (try dsimp only)
    rw [D_X2_liesAboveLeaving_2_eq, h, if_pos (nI_lle (Nat.le_refl _) (by omega))]
  · (try dsimp only)
    obtain ⟨p1, p2, p3, p4⟩ := laf_t.mp hp
    rw [D_X2_liesAboveLeaving_2_eq, h, if_neg (nI_nge hi (by omega))]
    simp only [nI_cl (show i < 2147483648 by omega), nI_o (show i < 100 by omega) (by omega), nI_cl (show x < 2147483648 by omega), nI_o (show x < 100 by omega) (by omega), if_false]
    rw [if_pos p1, if_pos p2, if_neg (Int32.not_le.mpr p3), if_pos p4]
  · (try dsimp only at hr); (try dsimp only)
    have hp' : ¬ (dp_I M 8 i = dp_I M 8 x ∧ dp_I M 9 i = dp_I M 9 x ∧ dp_I M 10 i < dp_I M 10 x ∧ dp_I M 2 i = 0) := fun q => by rw [laf_t.mpr q] at hp; cases hp
    rw [D_X2_liesAboveLeaving_2_eq, h, if_neg (nI_nge hi (by omega))]
    simp only [nI_cl (show i < 2147483648 by omega), nI_o (show i < 100 by omega) (by omega), nI_cl (show x < 2147483648 by omega), nI_o (show x < 100 by omega) (by omega), if_false, dp_w, nI_1]
    by_cases z1 : dp_I M 8 i = dp_I M 8 x
    · rw [if_pos z1]
      by_cases z2 : dp_I M 9 i = dp_I M 9 x
      · rw [if_pos z2]
        by_cases z3 : dp_I M 10 x ≤ dp_I M 10 i
        · rw [if_pos z3]; exact hr
        · rw [if_neg z3, if_neg (fun q => hp' ⟨z1, z2, Int32.not_le.mp z3, q⟩)]; exact hr
      · rw [if_neg z2]; exact hr
    · rw [if_neg z1]; exact hr
theorem hm_above {n x : Nat} (h : dp_I M 114 3 = nI n) (hn : n ≤ 100) (hx : x < n) : dp_den true xs xl (d + 1) 390 [.ref 114, .int (nI x)] M = iR (if (3 : Int32) ≤ dp_I M 117 x then 0 else bI (an (laf (dp_I M 115) (dp_I M 116) (dp_I M 117) (dp_I M 118) x) n = true)) M := by
  rw [D_X12_isAboveLeaving_0_den, D_X12_isAboveLeaving_0_eq]
  simp only [dp_w]
  by_cases g : (3 : Int32) ≤ dp_I M 117 x
  · rw [if_pos g, D_X12_isAboveLeaving_4_eq, h, if_neg (show ¬ nI n ≤ (0 : Int32) from nI_nge (i := 0) (n := n) (by omega) (by omega))]
    simp only [nI_cl (show x < 2147483648 by omega), nI_o (show x < 100 by omega) (by omega), if_false]
    rw [if_pos g, if_pos (Or.inl trivial)]
  rw [if_neg g]
  refine lpb (F := fun (a : Int32) i => D_X12_isAboveLeaving_4 xs xl d (nI x) a (nI i) M) (s := fun i => bI (an (laf (dp_I M 115) (dp_I M 116) (dp_I M 117) (dp_I M 118) x) i = true)) (N := n) ?_ (fun i hi hr => ?_)
  · (try dsimp only)
    rw [D_X12_isAboveLeaving_4_eq, h, if_pos (nI_lle (Nat.le_refl _) (by omega)), if_pos (by rw [bI_01]; trivial)]
  · (try dsimp only at hr); (try dsimp only)
    rw [D_X12_isAboveLeaving_4_eq, h, if_neg (nI_nge hi (by omega))]
    simp only [nI_cl (show i < 2147483648 by omega), nI_o (show i < 100 by omega) (by omega), nI_cl (show x < 2147483648 by omega), nI_o (show x < 100 by omega) (by omega), if_false, dp_w, nI_1]
    rw [if_neg g, ibz]
    have e : bI (an (laf (dp_I M 115) (dp_I M 116) (dp_I M 117) (dp_I M 118) x) (i + 1) = true) = if an (laf (dp_I M 115) (dp_I M 116) (dp_I M 117) (dp_I M 118) x) i = true then 1 else bI (laf (dp_I M 115) (dp_I M 116) (dp_I M 117) (dp_I M 118) x i = true) := by
      rw [an]
      by_cases y : an (laf (dp_I M 115) (dp_I M 116) (dp_I M 117) (dp_I M 118) x) i = true
      · rw [if_pos y, y, Bool.true_or, bI_t rfl]
      · rw [if_neg y, Bool.eq_false_iff.mpr y, Bool.false_or]
    rw [e] at hr
    by_cases y : an (laf (dp_I M 115) (dp_I M 116) (dp_I M 117) (dp_I M 118) x) i = true
    · rw [if_pos y] at hr
      rw [if_pos y]; exact hr
    · rw [if_neg y] at hr
      rw [if_neg y]
      by_cases p : laf (dp_I M 115) (dp_I M 116) (dp_I M 117) (dp_I M 118) x i = true
      · rw [bI_t p] at hr
        obtain ⟨p1, p2, p3, p4⟩ := laf_t.mp p
        rw [if_pos p1, if_pos p2, if_neg (Int32.not_le.mpr p3), if_pos p4]; exact hr
      · rw [bI_f p] at hr
        have hp' : ¬ (dp_I M 116 i = dp_I M 116 x ∧ dp_I M 117 i = dp_I M 117 x ∧ dp_I M 118 i < dp_I M 118 x ∧ dp_I M 115 i = 0) := fun q => p (laf_t.mpr q)
        by_cases z1 : dp_I M 116 i = dp_I M 116 x
        · rw [if_pos z1]
          by_cases z2 : dp_I M 117 i = dp_I M 117 x
          · rw [if_pos z2]
            by_cases z3 : dp_I M 118 x ≤ dp_I M 118 i
            · rw [if_pos z3]; exact hr
            · rw [if_neg z3, if_neg (fun q => hp' ⟨z1, z2, Int32.not_le.mp z3, q⟩)]; exact hr
          · rw [if_neg z2]; exact hr
        · rw [if_neg z1]; exact hr
/-- what counts for the least number of moves -/
def lef (port bay S D : Nat → Int32) (n : Nat) (b : Int32) (i : Nat) : Bool := decide (bay i = b ∧ ¬ S i = 3 ∧ (port i = 0 ∨ an (laf port bay S D i) n = true))
theorem lef_t {port bay S D : Nat → Int32} {n : Nat} {b : Int32} {i : Nat} : lef port bay S D n b i = true ↔ bay i = b ∧ ¬ S i = 3 ∧ (port i = 0 ∨ an (laf port bay S D i) n = true) := decide_eq_true_iff
theorem s_least {n B T : Nat} (h : HR M n B T) (hn : 246 ≤ dp_n M) (v1 : Int32) : ∃ k b M1 M2, dp_den true xs xl (d + 5) 599 [.ref 0, .int v1, .ref 245] M = iR k M1 ∧ dp_den true xs xl (d + 5) 391 [.ref 114, .int v1] M1 = iR b M2 ∧
    dp_I M2 114 0 = k ∧ (k = 0 → dp_J M2 245 0 = b.toInt64) ∧ HR M2 n B T ∧ Off [245] [0] M M2 ∧ Cst 1 6 M M2 := by
  have h0 := h
  obtain ⟨a1, a2, a3, a4, a5, a6, a7, a8, a9, a10, a11, a12, a13, a14, a15, b1, b2, b3, b4, b5, b6, b7, b8, b9, b10, c1, c2, c3⟩ := h
  by_cases g : qin v1 B
  case neg =>
    refine ⟨1, 0, dp_new M 0 0 6, _, wL_least_x0 ?_, ?_, rfl, (fun e => by cases e), h0.refused hn 1⟩
    · rw [D_X11_least_0_den, D_X11_least_0_eq, pc_bay a8 a3, rb_bi, ibz, if_neg g, q_nk hn]
    · rw [D_X12_least_0_den, D_X12_least_0_eq, pm_bay (n := B) (by rw [gIN (by omega)]; exact a9) a3, rb_bi, ibz, if_neg g, q_ref, rb_bi]
  obtain ⟨f, hf⟩ : ∃ f, f = lef (dp_I M 2) (dp_I M 8) (dp_I M 9) (dp_I M 10) n v1 := ⟨_, rfl⟩
  have hcl : dp_den true xs xl (d + 4) 269 [.ref 0, .int v1] M = iR (nI (ct f n)) M := by
    rw [D_X11_least_0_den, D_X11_least_0_eq, pc_bay a8 a3, rb_bi, ibz, if_pos g, D_X2_boundOf_0_den, D_X2_boundOf_0_eq]
    simp only [dp_w]
    have key : D_X2_boundOf_4 xs xl (d + 2) v1 0 0 M = iR (nI (ct f n)) M := by
      refine lpb (F := fun (a : Nat) i => D_X2_boundOf_4 xs xl (d + 2) v1 (nI a) (nI i) M) (s := ct f) (N := n) ?_ (fun i hi hr => ?_)
      · (try dsimp only)
        rw [D_X2_boundOf_4_eq, a6, if_pos (nI_lle (Nat.le_refl _) (by omega))]
      · (try dsimp only at hr); (try dsimp only)
        rw [ct, hf] at hr
        rw [D_X2_boundOf_4_eq, a6, if_neg (nI_nge hi (by omega))]
        simp only [nI_cl (show i < 2147483648 by omega), nI_o (show i < 100 by omega) (by omega), if_false, dp_w, nI_1, Int32.add_zero]
        by_cases z1 : dp_I M 8 i = v1
        · rw [if_pos z1]
          by_cases z2 : dp_I M 9 i = 3
          · rw [if_pos z2]
            rw [if_neg (fun q => (lef_t.mp q).2.1 z2)] at hr
            rw [hf]; exact hr
          · rw [if_neg z2]
            by_cases z3 : dp_I M 2 i = 0
            · rw [if_pos z3]
              rw [if_pos (lef_t.mpr ⟨z1, z2, Or.inl z3⟩)] at hr
              rw [hf]; exact hr
            · rw [if_neg z3, hc_above a6 a1 hi, rb_bi, ibz]
              by_cases z4 : an (laf (dp_I M 2) (dp_I M 8) (dp_I M 9) (dp_I M 10) i) n = true
              · rw [if_pos z4]
                rw [if_pos (lef_t.mpr ⟨z1, z2, Or.inr z4⟩)] at hr
                rw [hf]; exact hr
              · rw [if_neg z4]
                rw [if_neg (fun q => (lef_t.mp q).2.2.elim z3 z4)] at hr
                rw [hf]; exact hr
        · rw [if_neg z1]
          rw [if_neg (fun q => z1 (lef_t.mp q).1)] at hr
          rw [hf]; exact hr
    rw [key, rb_bi]
  obtain ⟨N, hN⟩ : ∃ N, N = dp_setI (dp_setJ M 245 0 (nI (ct f n)).toInt64) 114 0 0 := ⟨_, rfl⟩
  have e115 : dp_I N 115 = dp_I M 2 := by rw [hN, gII, if_neg (by decide), gIJ, b1]
  have e116 : dp_I N 116 = dp_I M 8 := by rw [hN, gII, if_neg (by decide), gIJ, b2]
  have e117 : dp_I N 117 = dp_I M 9 := by rw [hN, gII, if_neg (by decide), gIJ, b3]
  have e118 : dp_I N 118 = dp_I M 10 := by rw [hN, gII, if_neg (by decide), gIJ, b4]
  have e3 : dp_I N 114 3 = nI n := by rw [hN, gII, if_pos rfl, uI_n (by decide), gIJ]; exact a7
  refine ⟨0, nI (ct f n), _, N, wL_least_ok hcl, ?_, by rw [hN]; simp [gII, uI], fun _ => by rw [hN]; simp [gJI, gJJ, uI], by rw [hN]; exact h0.looked _⟩
  rw [D_X12_least_0_den, D_X12_least_0_eq, pm_bay (n := B) (by rw [gIJ]; exact a9) a3, rb_bi, ibz, if_pos g]
  simp only [dp_w]
  rw [← hN]
  refine lpb (F := fun (a : Nat) i => D_X12_least_23 xs xl (d + 4) v1 (nI a) (nI i) N) (s := ct f) (N := n) ?_ (fun i hi hr => ?_)
  · (try dsimp only)
    rw [D_X12_least_23_eq, e3, if_pos (nI_lle (Nat.le_refl _) (by omega))]
  · (try dsimp only at hr); (try dsimp only)
    rw [ct, hf] at hr
    rw [D_X12_least_23_eq, e3, if_neg (nI_nge hi (by omega))]
    simp only [nI_cl (show i < 2147483648 by omega), nI_o (show i < 100 by omega) (by omega), if_false, e116, e117, D_X12_least_56_eq, dp_w, nI_1, Int32.add_zero, if_true, if_neg (show ¬ (1 : Int32) = 0 by decide), e115]
    by_cases z1 : dp_I M 8 i = v1
    · rw [if_pos z1]
      by_cases z2 : dp_I M 9 i = 3
      · rw [if_pos z2]
        rw [if_neg (fun q => (lef_t.mp q).2.1 z2)] at hr
        apply D_X12_least_23_to_23_a
        rw [hf]; exact hr
      · rw [if_neg z2]
        by_cases z3 : dp_I M 2 i = 0
        · rw [if_pos z3]
          rw [if_pos (lef_t.mpr ⟨z1, z2, Or.inl z3⟩)] at hr
          apply D_X12_least_23_to_23_a
          rw [hf]; exact hr
        · rw [if_neg z3, hm_above e3 a1 hi, rb_bi, e115, e116, e117, e118]
          by_cases z5 : (3 : Int32) ≤ dp_I M 9 i
          · rw [if_pos z5, if_pos rfl]
            apply D_X12_least_23_to_23_a
            rw [if_neg] at hr
            · rw [hf]; exact hr
            · intro q
              rcases (lef_t.mp q).2.2 with w | w
              · exact z3 w
              · obtain ⟨j, hj, q2⟩ := an_iff.mp w
                obtain ⟨p1, p2, p3, p4⟩ := laf_t.mp q2
                obtain ⟨s, hs, es⟩ := qin_of (c2.1 i hi).2.2 (by omega)
                have s3 : 3 ≤ s := by
                  rw [es, Int32.le_iff_toInt_le, nI_toInt (by omega)] at z5
                  have : (3 : Int32).toInt = 3 := by decide
                  omega
                rw [(c2.2.1 i hi s hs es).1 s3, (c2.2.1 j hj s hs (by rw [p2, es])).1 s3] at p3
                exact absurd p3 (by decide)
          · rw [if_neg z5, ibz]
            by_cases z4 : an (laf (dp_I M 2) (dp_I M 8) (dp_I M 9) (dp_I M 10) i) n = true
            · rw [if_pos z4]
              rw [if_pos (lef_t.mpr ⟨z1, z2, Or.inr z4⟩)] at hr
              apply D_X12_least_23_to_23_a
              rw [hf]; exact hr
            · rw [if_neg z4]
              rw [if_neg (fun q => (lef_t.mp q).2.2.elim z3 z4)] at hr
              apply D_X12_least_23_to_23_a
              rw [hf]; exact hr
    · rw [if_neg z1]
      rw [if_neg (fun q => z1 (lef_t.mp q).1)] at hr
      apply D_X12_least_23_to_23_a
      rw [hf]; exact hr
end HB
