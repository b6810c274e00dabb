-- needs: 71 72 73 74 75 76 77
/-! DECLARATIONS: declare, side by side -/
section DF
variable {xs : Nat → Int32} {xl d : Nat} {M : dp_M}
def Dc_S : List Nat := [245, 108, 109, 110, 111, 233, 234, 235, 236, 237, 238, 239, 244]
theorem s_declare {n B T c : Nat} (hp : PR M n B T c) (hq : RelQ M) (hd : RelD M) (hn : 246 ≤ dp_n M) (v1 v2 v3 v4 v5 v6 : Int32) (v7 : Int64) : ∃ k b M1 M2, dp_den true xs xl (d + 5) 645 [.ref 0, .int v1, .int v2, .int v3, .int v4, .int v5, .int v6, .long v7, .ref 245] M = iR k M1 ∧ dp_den true xs xl (d + 5) 568 [.ref 114, .int v1, .int v2, .int v3, .int v4, .int v5, .int v6, .long v7] M1 = iR b M2 ∧
    dp_I M2 114 0 = k ∧ (k = 0 → dp_J M2 245 0 = b.toInt64) ∧ (PR M2 n B T c ∧ RelQ M2 ∧ RelD M2) ∧ Off Dc_S [0, 160] M M2 ∧ Cst 1 6 M M2 := by
  have hp0 := hp
  have hq0 := hq
  obtain ⟨D, A, R, hb⟩ := hd
  have hb0 := hb
  obtain ⟨h1, h2, h3, h4, h5, h6, h7, h8, h9, h10, h11, h12, h13⟩ := hb
  obtain ⟨p1, p2, p3, p4, p5, p6, p7⟩ := hp
  obtain ⟨G, D', hG, hD', g1, g2, g3, g4, g5, g6, g7, g8⟩ := p3
  have eD : D' = D := by rw [h3, nI_eq (by omega) (by omega)] at g3; exact g3.symm
  subst eD
  have wg : ((0 : Int64) ≤ v1.toInt64 ∧ v1.toInt64 ≤ (nI G - 1).toInt64) = qin v1 G := propext (q_w (by omega))
  have refd : ∀ k : Int32, (PR (dp_setI (dp_new M 0 0 6) 114 0 k) n B T c ∧ RelQ (dp_setI (dp_new M 0 0 6) 114 0 k) ∧ RelD (dp_setI (dp_new M 0 0 6) 114 0 k)) ∧ Off Dc_S [0, 160] M (dp_setI (dp_new M 0 0 6) 114 0 k) ∧ Cst 1 6 M (dp_setI (dp_new M 0 0 6) 114 0 k) := fun k =>
    ⟨⟨(hp0.refused hn k).1, (hq0.refused hn k).1, (RelD.refused ⟨D', A, R, hb0⟩ hn k).1⟩, ((Off.rr _ _ M).N hn 0 0 6).F 0 (by decide) k, ⟨Nat.le_refl _, Nat.le_refl _⟩⟩
  -- the class's tests
  have ct1 : ∀ {Y : Option dp_Res}, (qin v1 G ∧ qin v2 8 ∧ qin v3 4 ∧ wi v4 100000 999999 ∧ qin v5 16 ∧ qin v6 10001 ∧ ((0 : Int64) ≤ v7 ∧ v7 ≤ 100000000) → (if v1 < 0 ∨ 300 ≤ v1.toNatClampNeg then none else (if dp_I M 110 v1.toNatClampNeg = 0 then (if dp_I M 108 5 < 400 then (dp_bi (dp_den true xs xl (d + 3) 4 [.ref 108, .int v1, .int v2, .int v3, .int v4, .int v5, .int v6, .long v7] M) (fun r16 M15 => some (.inl (some (.int r16)), M15))) else some (.inr 1, dp_new M 0 0 6)) else some (.inr 1, dp_new M 0 0 6))) = Y) → (¬ (qin v1 G ∧ qin v2 8 ∧ qin v3 4 ∧ wi v4 100000 999999 ∧ qin v5 16 ∧ qin v6 10001 ∧ ((0 : Int64) ≤ v7 ∧ v7 ≤ 100000000)) → some (.inr 0, dp_new M 0 0 6) = Y) → dp_den true xs xl (d + 4) 348 [.ref 0, .int v1, .int v2, .int v3, .int v4, .int v5, .int v6, .long v7] M = Y := fun {Y} y1 y2 => by
    rw [D_X11_declare_0_den, D_X11_declare_0_eq, g1]
    simp only [q_win, rb_bi, ibz, wg, dc_hold, dc_desk, tc_full, dc_land, dc_day, q_nk hn]
    by_cases z : qin v1 G ∧ qin v2 8 ∧ qin v3 4 ∧ wi v4 100000 999999 ∧ qin v5 16 ∧ qin v6 10001 ∧ ((0 : Int64) ≤ v7 ∧ v7 ≤ 100000000)
    · rw [if7' z]; exact y1 z
    · rw [if7 z]; exact y2 z
  -- the model's
  have mt1 : ∀ N : dp_M, dp_I N 114 44 = nI G → dp_den true xs xl (d + 5) 568 [.ref 114, .int v1, .int v2, .int v3, .int v4, .int v5, .int v6, .long v7] N = if qin v1 G ∧ qin v2 8 ∧ qin v3 4 ∧ wi v4 100000 999999 ∧ qin v5 16 ∧ qin v6 10001 ∧ ((0 : Int64) ≤ v7 ∧ v7 ≤ 100000000) then D_X12_declare_79 xs xl (d + 4) v1 v2 v3 v4 v5 v6 v7 0 0 N else iR 0 (dp_setI N 114 0 1) := fun N eN => by
    rw [D_X12_declare_0_den, D_X12_declare_0_eq, eN, qmx (n := G) rfl (by omega)]
    simp only [q_ref, rb_bi, q_min, ibz, dm_hold, w_3, tm_six, dm_land, dm_day, dp_w]
    by_cases z : qin v1 G ∧ qin v2 8 ∧ qin v3 4 ∧ wi v4 100000 999999 ∧ qin v5 16 ∧ qin v6 10001 ∧ ((0 : Int64) ≤ v7 ∧ v7 ≤ 100000000)
    · rw [if7' z, if_pos z]
    · rw [if7 z, if_neg z]
  by_cases z : qin v1 G ∧ qin v2 8 ∧ qin v3 4 ∧ wi v4 100000 999999 ∧ qin v5 16 ∧ qin v6 10001 ∧ ((0 : Int64) ≤ v7 ∧ v7 ≤ 100000000)
  case neg =>
    obtain ⟨r1, r2, r3⟩ := refd 1
    refine ⟨1, 0, dp_new M 0 0 6, _, wL_declare_x0 (ct1 (fun q => absurd q z) (fun _ => rfl)), ?_, rfl, (fun e => by cases e), r1, r2, r3⟩
    rw [mt1 _ (by rw [gIN (by omega)]; exact g2), if_neg z]
  have z0 := z
  obtain ⟨z1, z2, z3, z4, z5, z6, z7⟩ := z
  obtain ⟨g, hg, rfl⟩ := qin_of z1 (by omega)
  have e110 : dp_I M 110 g = bI (an (tkf (dp_I M 233) (dp_I M 241) g) D' = true) := h11 g (by omega)
  have mt2 : ∀ N : dp_M, dp_I N 114 44 = nI G → dp_I N 114 160 = nI D' → dp_I N 233 = dp_I M 233 → dp_I N 241 = dp_I M 241 → dp_den true xs xl (d + 5) 568 [.ref 114, .int (nI g), .int v2, .int v3, .int v4, .int v5, .int v6, .long v7] N = if an (tkf (dp_I M 233) (dp_I M 241) g) D' = true ∨ D' = 400 then iR 0 (dp_setI N 114 0 2) else iR (nI D') (dmN N D' (nI g) v2 v3 v4 v5 v6 v7) := fun N e1 e2 e3 e4 => by
    rw [mt1 N e1, if_pos z0, dm_loop (by omega) e2, e3, e4]
  by_cases y : an (tkf (dp_I M 233) (dp_I M 241) g) D' = true ∨ D' = 400
  · obtain ⟨r1, r2, r3⟩ := refd 2
    refine ⟨2, 0, dp_new M 0 0 6, _, wL_declare_x1 (ct1 (fun _ => ?_) (fun q => absurd z0 q)), ?_, rfl, (fun e => by cases e), r1, r2, r3⟩
    · simp only [nI_cl (show g < 2147483648 by omega), nI_o (show g < 300 by omega) (by omega), if_false, e110, ibz, h2]
      by_cases w : an (tkf (dp_I M 233) (dp_I M 241) g) D' = true
      · rw [if_pos w]
      · rw [if_neg w, if_neg (show ¬ nI D' < 400 by rw [y.resolve_left w]; decide)]
    · rw [mt2 _ (by rw [gIN (by omega)]; exact g2) (by rw [gIN (by omega)]; exact h3) (gIN (by omega)) (gIN (by omega)), if_pos y]
  have w1 : ¬ an (tkf (dp_I M 233) (dp_I M 241) g) D' = true := fun q => y (Or.inl q)
  have w2 : D' < 400 := by
    have : ¬ D' = 400 := fun q => y (Or.inr q)
    omega
  obtain ⟨C, hC⟩ : ∃ C, C = adC M D' g v2 v3 v4 v5 v6 v7 := ⟨_, rfl⟩
  have cI : ∀ k, k ≠ 108 → k ≠ 109 → k ≠ 110 → dp_I C k = dp_I M k := fun k q1 q2 q3 => by rw [hC]; unfold adC; rw [gII, if_neg q1, gII, if_neg q3, gII, if_neg q2, rJ_I]
  have cJ : ∀ k, k ≠ 111 → dp_J C k = dp_J M k := fun k q1 => by rw [hC]; unfold adC; rw [gJI, gJI, gJI, rJ_J, if_neg q1]
  have c108 : dp_I C 108 = uI (dp_I M 108) 5 (nI (D' + 1)) := by rw [hC]; unfold adC; rw [gII, if_pos rfl, gII, if_neg (by decide), gII, if_neg (by decide), rJ_I]
  have c109 : dp_I C 109 = uI (dp_I M 109) D' (-1) := by rw [hC]; unfold adC; rw [gII, if_neg (by decide), gII, if_neg (by decide), gII, if_pos rfl, rJ_I]
  have c110 : dp_I C 110 = uI (dp_I M 110) g 1 := by rw [hC]; unfold adC; rw [gII, if_neg (by decide), gII, if_pos rfl, gII, if_neg (by decide), rJ_I]
  have c111 : dp_J C 111 = adR (dp_J M 111) D' (nI g) v2 v3 v4 v5 v6 v7 := by rw [hC]; unfold adC; rw [gJI, gJI, gJI, rJ_J, if_pos rfl]
  obtain ⟨N, hN⟩ : ∃ N, N = dp_setJ C 245 0 (nI D').toInt64 := ⟨_, rfl⟩
  have nI' : ∀ k, dp_I N k = dp_I C k := fun k => by rw [hN, gIJ]
  have nJ' : ∀ k, k ≠ 245 → dp_J N k = dp_J C k := fun k q => by rw [hN, gJJ, if_neg q]
  obtain ⟨K, hK⟩ : ∃ K, K = dmN N D' (nI g) v2 v3 v4 v5 v6 v7 := ⟨_, rfl⟩
  have kI : ∀ k, k ≠ 114 → k ≠ 233 → k ≠ 234 → k ≠ 235 → k ≠ 236 → k ≠ 237 → k ≠ 238 → k ≠ 244 → dp_I K k = dp_I C k := fun k q0 q1 q2 q3 q4 q5 q6 q7 => by
    rw [hK]; unfold dmN
    rw [gII, if_neg q0, gII, if_neg q7, gIJ, gII, if_neg q6, gII, if_neg q5, gII, if_neg q4, gII, if_neg q3, gII, if_neg q2, gII, if_neg q1, gII, if_neg q0, nI']
  have kJ : ∀ k, k ≠ 239 → dp_J K k = dp_J N k := fun k q => by rw [hK]; unfold dmN; rw [gJI, gJI, gJJ, if_neg q, gJI, gJI, gJI, gJI, gJI, gJI, gJI]
  have k114 : dp_I K 114 = uI (uI (dp_I M 114) 0 0) 160 (nI (D' + 1)) := by rw [hK]; unfold dmN; simp only [gII, gIJ, Nat.reduceEqDiff, if_false, if_true, nI', cI 114 (by decide) (by decide) (by decide)]
  have k233 : dp_I K 233 = uI (dp_I M 233) D' (nI g) := by rw [hK]; unfold dmN; simp only [gII, gIJ, Nat.reduceEqDiff, if_false, if_true, nI', cI 233 (by decide) (by decide) (by decide)]
  have k234 : dp_I K 234 = uI (dp_I M 234) D' v2 := by rw [hK]; unfold dmN; simp only [gII, gIJ, Nat.reduceEqDiff, if_false, if_true, nI', cI 234 (by decide) (by decide) (by decide)]
  have k235 : dp_I K 235 = uI (dp_I M 235) D' v3 := by rw [hK]; unfold dmN; simp only [gII, gIJ, Nat.reduceEqDiff, if_false, if_true, nI', cI 235 (by decide) (by decide) (by decide)]
  have k236 : dp_I K 236 = uI (dp_I M 236) D' v4 := by rw [hK]; unfold dmN; simp only [gII, gIJ, Nat.reduceEqDiff, if_false, if_true, nI', cI 236 (by decide) (by decide) (by decide)]
  have k237 : dp_I K 237 = uI (dp_I M 237) D' v5 := by rw [hK]; unfold dmN; simp only [gII, gIJ, Nat.reduceEqDiff, if_false, if_true, nI', cI 237 (by decide) (by decide) (by decide)]
  have k238 : dp_I K 238 = uI (dp_I M 238) D' v6 := by rw [hK]; unfold dmN; simp only [gII, gIJ, Nat.reduceEqDiff, if_false, if_true, nI', cI 238 (by decide) (by decide) (by decide)]
  have k239 : dp_J K 239 = uI (dp_J M 239) D' v7 := by rw [hK]; unfold dmN; simp only [gJJ, gJI, Nat.reduceEqDiff, if_false, if_true, nJ' 239 (by decide), cJ 239 (by decide)]
  have k244 : dp_I K 244 = uI (dp_I M 244) D' (-1) := by rw [hK]; unfold dmN; simp only [gII, gIJ, Nat.reduceEqDiff, if_false, if_true, nI', cI 244 (by decide) (by decide) (by decide)]
  have oC : Off Dc_S [0, 160] M C := by rw [hC]; unfold adC; exact ((((Off.rr _ _ M).rJ 111 (by decide) _).I 109 (by decide) _ _).I 110 (by decide) _ _).I 108 (by decide) _ _
  have oK : Off Dc_S [0, 160] M K := by rw [hK, hN]; unfold dmN; exact (((((((((((oC.J 245 (by decide) _ _).F 0 (by decide) _).I 233 (by decide) _ _).I 234 (by decide) _ _).I 235 (by decide) _ _).I 236 (by decide) _ _).I 237 (by decide) _ _).I 238 (by decide) _ _).J 239 (by decide) _ _).I 244 (by decide) _ _).F 160 (by decide) _)
  have k7 : dp_I M 241 D' = 0 := (h9 D' (Nat.le_refl _) w2).2.2.2.1
  have v7b : 0 ≤ v7.toInt ∧ v7.toInt ≤ 100000000 := by
    have q1 := z7.1
    have q2 := z7.2
    rw [Int64.le_iff_toInt_le] at q1 q2
    exact ⟨q1, q2⟩
  refine ⟨0, nI D', N, K, ?_, ?_, by rw [k114, uI_n (by decide), uI_s], fun _ => ?_, ⟨⟨?_, ?_, ?_, ?_, ?_, ?_, ?_⟩, ?_, ⟨D' + 1, A, R, ?_⟩⟩, oK, by rw [hK, hN, hC]; exact ⟨Nat.le_add_right _ _, Nat.le_add_right _ _⟩⟩
  · rw [hN]
    refine wL_declare_ok (M1 := C) (x := nI D') (ct1 (fun _ => ?_) (fun q => absurd z0 q))
    simp only [nI_cl (show g < 2147483648 by omega), nI_o (show g < 300 by omega) (by omega), if_false, e110, ibz, h2]
    rw [if_neg w1, if_pos (show nI (D') < (400 : Int32) from nI_lt (a := D') (b := 400) (by omega) (by omega)), dc_add w2 (by omega) h2, rb_bi, ← hC]
  · rw [mt2 N (by rw [nI', cI 114 (by decide) (by decide) (by decide)]; exact g2) (by rw [nI', cI 114 (by decide) (by decide) (by decide)]; exact h3) (by rw [nI', cI 233 (by decide) (by decide) (by decide)]) (by rw [nI', cI 241 (by decide) (by decide) (by decide)]), if_neg y, hK]
  · rw [kJ 245 (by decide), hN, gJJ, if_pos rfl, uI_s]
  · exact PHY_off p1 oK (by decide) (by decide)
  · exact GTl_off p2 oK (by decide) (by decide)
  · exact GGd.decl (g := g) (D := D') ⟨G, D', hG, hD', g1, g2, g3, g4, g5, g6, g7, g8⟩ h3 w2 ⟨G, g2, hG, hg⟩ (by rw [kI 37 (by decide) (by decide) (by decide) (by decide) (by decide) (by decide) (by decide) (by decide), cI 37 (by decide) (by decide) (by decide)]) (fun k hk => by
      have w : ∀ k ∈ [42, 44, 45, 46, 47, 147, 148, 241], k < 246 ∧ k ∉ Dc_S ∧ k ≠ 114 := by decide
      exact (oK.1 k (w k hk).1 (w k hk).2.1 (w k hk).2.2).1) (oK.2.1 44 (by decide)).1 (by rw [k114, uI_s]) k233 k7
  · exact GBr_off p4 oK (by decide)
  · exact GLd_off p5 oK (by decide)
  · exact GRl_off p6 oK (by decide)
  · exact GRu_off p7 oK (by decide)
  · refine RelQ.decl (D := D') (A := A) hq0 h4 h5 h10 (by omega) (fun k hk q1 q2 => ?_) (fun i hi => ?_) (fun i hi => by rw [k235, uI_n (by omega)]) (fun i hi => by rw [k238, uI_n (by omega)])
    · have w : ∀ k ∈ RelQ_S, k ≠ 235 → k ≠ 238 → k < 246 ∧ k ∉ Dc_S ∧ k ≠ 114 := by decide
      obtain ⟨w1, w2, w3⟩ := w k hk q1 q2
      exact ⟨(oK.1 k w1 w2 w3).1, (oK.1 k w1 w2 w3).2.1⟩
    · have w : ∀ i ∈ RelQ_T, i ∉ [0, 160] := by decide
      exact (oK.2.1 i (w i hi)).1
  · refine hb0.decl (g := g) w2 z2 z3 z4 z5 z6 v7b.1 v7b.2 (by omega) w1 ?_ (by rw [k114, uI_s]) (oK.2.1 111 (by decide)).1 (oK.2.1 133 (by decide)).1 (by rw [kJ 111 (by decide), nJ' 111 (by decide), c111]) ?_ ?_ k233 k234 k235 k236 k237 k238 k239 k244 (fun k hk => ?_) (fun k hk => ?_)
    · rw [kI 108 (by decide) (by decide) (by decide) (by decide) (by decide) (by decide) (by decide) (by decide), c108, uI_s]
    · rw [kI 109 (by decide) (by decide) (by decide) (by decide) (by decide) (by decide) (by decide) (by decide), c109]
    · rw [kI 110 (by decide) (by decide) (by decide) (by decide) (by decide) (by decide) (by decide) (by decide), c110]
    · have w : ∀ k ∈ [196, 215, 241, 243], k < 246 ∧ k ∉ Dc_S ∧ k ≠ 114 := by decide
      exact (oK.1 k (w k hk).1 (w k hk).2.1 (w k hk).2.2).1
    · have w : ∀ k ∈ [96, 240, 242], k < 246 ∧ k ∉ Dc_S ∧ k ≠ 114 := by decide
      exact (oK.1 k (w k hk).1 (w k hk).2.1 (w k hk).2.2).2.1
end DF
