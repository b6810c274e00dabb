/-! SECURITIES: free -/
section SN
variable {xs : Nat → Int32} {xl d : Nat} {M : dp_M}
theorem mc_z {g R : Nat} : mc (dp_setI M 114 0 0) g R = mc M g R := by
  have u := uO_c (M := M) (M' := dp_setI M 114 0 0) (by simp only [gII, Nat.reduceEqDiff, if_false]) (by simp only [gII, Nat.reduceEqDiff, if_false]) g R
  unfold mc fr nO ndR ndF
  simp only [gII, gJI, Nat.reduceEqDiff, if_false, u]
/-- what a holder's guarantees may cover together -/
def tgt (M : dp_M) (w G R : Nat) : Int64 := sl (fun i => if dp_I M 202 (i + 1) = nI w then mc M (i + 1) R else 0) G
theorem sc_freeOf {G R w : Nat} (hG : G ≤ 40) (hR : R ≤ 400) (hw : w < 8) (a10 : ∀ g, 1 ≤ g → g ≤ G → SRw M R g) (a13 : SOr M G) (a14 : ∀ r, 1 ≤ r → r ≤ R → SRv M G r) : dp_den true xs xl (d + 4) 195 [.ref 90, .int (nI w)] M = lR (if 2000000000 < tgt M w G R then 2000000000 else tgt M w G R) M := by
  obtain ⟨s1, s2, s3⟩ := a13
  obtain ⟨t1, t2⟩ := s3 w hw
  have t1' : dp_I M 91 w = nI (ct (hp M (nI w)) G) := t1
  have hc := ct_le (hp M (nI w)) G
  have e40 : ∀ i, nI w * (40 : Int32) + nI i = nI (w * 40 + i) := fun i => by rw [show (40 : Int32) = nI 40 from rfl, pk_mul, nI_add]
  have ex : ∀ k, k < G → ∃ g, 1 ≤ g ∧ g ≤ G ∧ dp_I M 213 k = nI g := fun k hk => wi_of (a := 1) (b := G) (s1 k hk) (by omega)
  have sum : sl (fun i => mc M (dp_I M 94 (w * 40 + i)).toNatClampNeg R) (ct (hp M (nI w)) G) = tgt M w G R := by
    rw [sl_ct (P := hp M (nI w)) (ψ := fun k => mc M (dp_I M 213 k).toNatClampNeg R) G (fun k hk hP => by
      have := t2 k hk (by unfold hp at hP; exact decide_eq_true_eq.mp hP)
      have e2 : dp_I M 94 (w * 40 + ct (hp M (nI w)) k) = dp_I M 213 k := this
      rw [e2])]
    unfold tgt
    rw [← sl_perm (f := fun i => if dp_I M 202 (i + 1) = nI w then mc M (i + 1) R else 0) G (fun k => (dp_I M 213 k).toNatClampNeg - 1) (fun k hk => by
      obtain ⟨g, g1, g2, eg⟩ := ex k hk
      show (dp_I M 213 k).toNatClampNeg - 1 < G
      rw [eg, nI_cl (by omega)]; omega) (fun i j hi hj e => by
      obtain ⟨g, g1, g2, eg⟩ := ex i hi
      obtain ⟨g', g1', g2', eg'⟩ := ex j hj
      have e' : (dp_I M 213 i).toNatClampNeg - 1 = (dp_I M 213 j).toNatClampNeg - 1 := e
      rw [eg, eg', nI_cl (by omega), nI_cl (by omega)] at e'
      exact s2 i j hi hj (by rw [eg, eg', show g = g' by omega]))]
    refine sl_c (fun k hk => ?_)
    obtain ⟨g, g1, g2, eg⟩ := ex k hk
    unfold hp
    simp only [eg, nI_cl (show g < 2147483648 by omega), decide_eq_true_eq, show g - 1 + 1 = g by omega]
  rw [D_X8_freeOf_0_den, D_X8_freeOf_0_eq]
  simp only [dp_w]
  refine lpb (F := fun a i => D_X8_freeOf_5 xs xl (d + 3) (nI w) a (nI i) M) (s := sl (fun i => mc M (dp_I M 94 (w * 40 + i)).toNatClampNeg R)) (N := ct (hp M (nI w)) G) ?_ (fun i hi hr => ?_)
  · (try dsimp only)
    rw [sum, D_X8_freeOf_5_eq]
    simp only [nI_cl (show w < 2147483648 by omega), nI_o (show w < 8 by omega) (by omega), if_false, t1']
    rw [if_pos (nI_lle (Nat.le_refl _) (by omega))]
  · (try dsimp only at hr); (try dsimp only)
    rw [sl] at hr
    obtain ⟨j, j1, j2, j3⟩ := ct_fd G i hi
    have ej : dp_I M 94 (w * 40 + i) = dp_I M 213 j := by
      have := t2 j j1 (by unfold hp at j2; exact decide_eq_true_eq.mp j2)
      have e2 : ct (fun k => decide (dp_I M 202 (dp_I M 213 k).toNatClampNeg = nI w)) j = i := j3
      rw [e2] at this; exact this
    obtain ⟨g, g1, g2, eg⟩ := ex j j1
    rw [ej, eg, nI_cl (by omega)] at hr
    rw [D_X8_freeOf_5_eq]
    simp only [nI_cl (show w < 2147483648 by omega), nI_o (show w < 8 by omega) (by omega), if_false, t1']
    rw [if_neg (nI_nge hi (by omega)), D_X8_inTurn_0_den, D_X8_inTurn_0_eq]
    simp only [e40, nI_cl (show w * 40 + i < 2147483648 by omega), nI_o (show w * 40 + i < 320 by omega) (by omega), if_false, ej, eg, rb_bi]
    rw [sc_may hR (by omega) (a10 g g1 g2) a14, rb_bl]
    simp only [dp_w, nI_1]
    exact hr
theorem sm_tgt {G R w : Nat} (hG : G ≤ 40) (hR : R ≤ 400) (a2 : dp_I M 114 119 = nI G) (a4 : dp_I M 114 133 = nI R) (a10 : ∀ g, 1 ≤ g → g ≤ G → SRm M g) (a14 : ∀ r, 1 ≤ r → r ≤ R → SRv M G r) : dp_den true xs xl (d + 5) 525 [.ref 114, .int (nI w)] M = lR (if 2000000000 < tgt M w G R then 2000000000 else tgt M w G R) M := by
  rw [D_X12_togetherOf_0_den, D_X12_togetherOf_0_eq]
  simp only [dp_w]
  refine lpb (F := fun a i => D_X12_togetherOf_5 xs xl (d + 4) (nI w) a (nI (i + 1)) M) (s := sl (fun i => if dp_I M 202 (i + 1) = nI w then mc M (i + 1) R else 0)) (N := G) ?_ (fun i hi hr => ?_)
  · (try dsimp only)
    rw [D_X12_togetherOf_5_eq, a2, if_pos (nI_lt (by omega) (by omega))]
    unfold tgt
    simp only [lg_cmp_le]
    by_cases z : sl (fun i => if dp_I M 202 (i + 1) = nI w then mc M (i + 1) R else 0) G ≤ 2000000000
    · rw [if_pos z, if_neg (Int64.not_lt.mpr z)]
    · rw [if_neg z, if_pos (Int64.not_le.mp z)]
  · (try dsimp only at hr); (try dsimp only)
    rw [sl] at hr
    rw [D_X12_togetherOf_5_eq, a2, if_neg (nI_nlt (by omega) (by omega))]
    simp only [nI_cl (show i + 1 < 2147483648 by omega), nI_o (show i + 1 < 41 by omega) (by omega), if_false, dp_w, nI_1]
    by_cases z : dp_I M 202 (i + 1) = nI w
    · rw [if_pos z] at hr
      rw [if_pos z, sm_may hR (by omega) (a10 (i + 1) (by omega) (by omega)) a4 a14, rb_bl]
      exact hr
    · rw [if_neg z] at hr
      rw [if_neg z]; exact hr
theorem s_free (h : RelS M) (v1 : Int32) : ∃ v M1 M2, dp_den true xs xl (d + 6) 328 [.ref 0, .int v1] M = lR v M1 ∧ dp_den true xs xl (d + 6) 526 [.ref 114, .int v1] M1 = lR v M2 ∧ RelS M2 ∧ Off RelS_W (0 :: RelS_V) M M2 ∧ Cst 0 0 M M2 := by
  have h0 := h
  obtain ⟨G, R, hG, hR, a1, a2, a3, a4, a5, a6, a7, a8, a9, a10, a11, a12, a13, a14, a15⟩ := h
  have hh : ∀ N : dp_M, dp_den true xs xl (d + 5) 321 [.int v1] N = iR (bI (qin v1 8)) N := fun N => by
    rw [D_X11_isHolder_0_den, D_X11_isHolder_0_eq]; exact q_cr (by decide)
  have hm : ∀ N : dp_M, dp_den true xs xl (d + 5) 516 [.int v1] N = iR (bI (qin v1 8)) N := fun N => by
    rw [D_X12_isHolder_0_den, D_X12_isHolder_0_eq]
    exact q_mr (v := v1) (c := 8) (n := 8) rfl (by omega)
  rw [D_X11_free_0_den, D_X11_free_0_eq, hh, rb_bi, ibz]
  by_cases g1 : qin v1 8
  case neg =>
    refine ⟨-1, M, dp_setI M 114 0 0, by rw [if_neg g1], ?_, h0.same⟩
    rw [D_X12_free_0_den, D_X12_free_0_eq]
    simp only [dp_w, hm, rb_bi, ibz, if_neg g1]
  obtain ⟨w, hw, rfl⟩ := qin_of g1 (by omega)
  refine ⟨if 2000000000 < tgt M w G R then 2000000000 else tgt M w G R, M, dp_setI M 114 0 0, ?_, ?_, h0.same⟩
  · rw [if_pos g1, sc_freeOf hG hR hw a10 a13 a14, rb_bl]
  · rw [D_X12_free_0_den, D_X12_free_0_eq]
    simp only [dp_w, hm, rb_bi, ibz, if_pos g1]
    obtain ⟨e, -, -⟩ := h0.same
    have c10 : ∀ g, 1 ≤ g → g ≤ G → SRw (dp_setI M 114 0 0) R g := fun g p1 p2 => by
      have uu := uO_c (M := M) (M' := dp_setI M 114 0 0) (by simp only [gII, Nat.reduceEqDiff, if_false]) (by simp only [gII, Nat.reduceEqDiff, if_false]) g R
      refine (a10 g p1 p2).same (fun k _ => ?_) ?_ ?_ ?_ ?_ ?_ ?_ ?_ ?_ ?_ ?_ ?_ ?_ uu
      all_goals first | (unfold nO ndR ndF; simp only [gII, gJI, Nat.reduceEqDiff, if_false]) | simp only [gII, gJI, Nat.reduceEqDiff, if_false]
    have c14 : ∀ r, 1 ≤ r → r ≤ R → SRv (dp_setI M 114 0 0) G r := fun r p1 p2 => by
      refine (a14 r p1 p2).same (Nat.le_refl _) ?_ (fun k _ => ?_) ?_ ?_ (fun k _ => ?_) (fun k _ => ?_)
      all_goals simp only [gII, gJI, Nat.reduceEqDiff, if_false]
    have et : tgt (dp_setI M 114 0 0) w G R = tgt M w G R := by
      unfold tgt
      simp only [mc_z, gII, Nat.reduceEqDiff, if_false]
    rw [sm_tgt hG hR (by simp [gII, gIJ, gIR, gJI, gJJ, gJR, gRI, gRJ, glI, glJ, glR, uI, a2]) (by simp [gII, gIJ, gIR, gJI, gJJ, gJR, gRI, gRJ, glI, glJ, glR, uI, a4]) (fun g g1 g2 => (c10 g g1 g2).m) c14, rb_bl, et]
end SN
