/-! QUOTAS: transfer -/
section QX
variable {xs : Nat → Int32} {xl d : Nat} {M : dp_M}
/-- an order that was not run: only its volume may have changed -/
theorem QRw.vol {M M' : dp_M} {A o : Nat} (h : QRw M A o) (hr : dp_I M 79 o < dp_I M 77 o) (h1 : dp_I M' 82 = dp_I M 82) (h6 : 1 ≤ (dp_J M' 76 o).toInt ∧ (dp_J M' 76 o).toInt ≤ 1000000000)
    (h7 : dp_I M' 77 o = dp_I M 77 o) (h8 : dp_I M' 78 o = dp_I M 78 o) (h9 : dp_I M' 79 o = dp_I M 79 o) (h10 : ∀ a, qp M A o a = true → dp_I M' 87 a = dp_I M 87 a ∧ dp_J M' 86 a = dp_J M 86 a) : QRw M' A o := by
  obtain ⟨f, e, r, q1, q2, q3, q4, q5, q6, q7, q8, q9, q10, q11⟩ := h
  have hz : nd f e r = 0 := by
    rw [Int32.lt_iff_toInt_lt, q5, nI_toInt (by omega), q7] at hr
    unfold nd; split <;> omega
  refine ⟨f, e, r, q1, q2, q3, q4, by rw [h7]; exact q5, by rw [h8]; exact q6, by rw [h9]; exact q7, h6.1, h6.2, fun a ha => ?_, fun i hi => by rw [hz] at hi; omega⟩
  rw [qp_c h1] at ha
  have := q10 a ha
  rw [hz] at this ⊢
  rw [(h10 a ha).1, (h10 a ha).2]
  exact this
theorem s_transfer (h : RelQ M) (hn : 246 ≤ dp_n M) (v1 v2 : Int32) (v3 : Int64) : ∃ k b M1 M2, dp_den true xs xl (d + 5) 630 [.ref 0, .int v1, .int v2, .long v3, .ref 245] M = iR k M1 ∧ dp_den true xs xl (d + 5) 512 [.ref 114, .int v1, .int v2, .long v3] M1 = iR b M2 ∧
    dp_I M2 114 0 = k ∧ (k = 0 → dp_J M2 245 0 = if b = 0 then 0 else 1) ∧ RelQ M2 ∧ Off (245 :: RelQ_W) (0 :: RelQ_V) M M2 ∧ Cst 1 6 M M2 := by
  have h0 := h
  obtain ⟨O, A, hO, hA, a1, a2, a3, a4, b1, b2, b3, b4, b5, b6, b7, b8, b9, b10⟩ := h
  by_cases g : qin v1 O ∧ qin v2 O
  case neg =>
    refine ⟨1, 0, dp_new M 0 0 6, _, wL_transfer_x2 ?_, ?_, rfl, (fun e => by cases e), h0.refused hn 1⟩
    · rw [D_X11_transfer_0_den, D_X11_transfer_0_eq]
      simp only [qc_ord a1 hO, rb_bi, ibz, q_nk hn]
      by_cases z : qin v1 O
      · rw [if_pos z, if_neg (fun w => g ⟨z, w⟩)]
      · rw [if_neg z]
    · have e : ∀ N : dp_M, D_X12_transfer_22 xs xl (d + 4) v1 v2 v3 1 N = iR 0 (dp_setI N 114 0 1) := fun N => by
        rw [D_X12_transfer_22_eq]
        simp only [dp_w, gII, if_true, uI_s]
        rw [if_pos (by decide)]
      have mo : ∀ v, dp_den true xs xl (d + 4) 505 [.ref 114, .int v] (dp_new M 0 0 6) = iR (bI (qin v O)) (dp_new M 0 0 6) := fun v => qm_ord (by rw [gIN (by omega)]; exact a2) hO
      rw [D_X12_transfer_0_den, D_X12_transfer_0_eq]
      simp only [mo, rb_bi, ibz, e]
      by_cases z : qin v1 O
      · rw [if_pos z, if_neg (fun w => g ⟨z, w⟩)]
      · rw [if_neg z]
  obtain ⟨g1, g2⟩ := g
  obtain ⟨o, ho, rfl⟩ := qin_of g1 (by omega)
  obtain ⟨p, hp, rfl⟩ := qin_of g2 (by omega)
  obtain ⟨f, e, r, q1, q2, q3, q4, q5, q6, q7, q8, q9, q10, q11⟩ := b10 o ho
  obtain ⟨f', e', r', p1, p2, p3, p4, p5, p6, p7, p8, p9, p10, p11⟩ := b10 p hp
  have c1 : (1 : Int64).toInt = 1 := by decide
  have c9 : (1000000000 : Int64).toInt = 1000000000 := by decide
  obtain ⟨P, hP⟩ : ∃ P : Prop, P = (o ≠ p ∧ dp_I M 79 o < dp_I M 77 o ∧ dp_I M 79 p < dp_I M 77 p ∧ 1 ≤ v3.toInt ∧ v3.toInt < (dp_J M 76 o).toInt ∧ v3.toInt + (dp_J M 76 p).toInt ≤ 1000000000) := ⟨_, rfl⟩
  have k1 : (v3 < 1) ↔ v3.toInt < 1 := by rw [Int64.lt_iff_toInt_lt, c1]
  have k2 : (dp_J M 76 o ≤ v3) ↔ (dp_J M 76 o).toInt ≤ v3.toInt := Int64.le_iff_toInt_le
  have k3 : (v3 ≤ 1000000000 - dp_J M 76 p) ↔ v3.toInt + (dp_J M 76 p).toInt ≤ 1000000000 := by
    rw [Int64.le_iff_toInt_le, q_subJ (by rw [c9]; omega) (by rw [c9]; omega), c9]; omega
  have k4 : 1 ≤ v3.toInt → v3.toInt < (dp_J M 76 o).toInt → ((dp_J M 76 p + v3 ≤ 1000000000) ↔ v3.toInt + (dp_J M 76 p).toInt ≤ 1000000000) := fun z1 z2 => by
    rw [Int64.le_iff_toInt_le, q_addJ (by omega) (by omega), c9]; omega
  have run : ∀ x, x < 16 → dp_den true xs xl (d + 2) 123 [.ref 75, .int (nI x)] M = iR (bI (¬ dp_I M 79 x < dp_I M 77 x)) M := fun x hx => by
    rw [D_X5_wasRun_0_den, D_X5_wasRun_0_eq]
    simp only [nI_cl (show x < 2147483648 by omega), nI_o (show x < 16 by omega) (by omega), if_false]
    by_cases z : dp_I M 79 x < dp_I M 77 x
    · rw [if_pos z, bI_f (fun w => w z)]
    · rw [if_neg z, bI_t z]
  obtain ⟨W, hW⟩ : ∃ W, W = dp_setJ (dp_setJ M 76 o (dp_J M 76 o - v3)) 76 p (dp_J M 76 p + v3) := ⟨_, rfl⟩
  have hcl : (¬ P → dp_den true xs xl (d + 4) 317 [.ref 0, .int (nI o), .int (nI p), .long v3] M = iR 0 M) ∧ (P → dp_den true xs xl (d + 4) 317 [.ref 0, .int (nI o), .int (nI p), .long v3] M = iR 1 W) := by
    have key : (¬ P → dp_den true xs xl (d + 3) 124 [.ref 75, .int (nI o), .int (nI p), .long v3] M = iR 0 M) ∧ (P → dp_den true xs xl (d + 3) 124 [.ref 75, .int (nI o), .int (nI p), .long v3] M = iR 1 W) := by
      rw [D_X5_carryOver_0_den, D_X5_carryOver_0_eq]
      simp only [run o (by omega), run p (by omega), rb_bi, ibz, nI_eq (show o < 2147483648 by omega) (show p < 2147483648 by omega), lg_cmp_lt, lg_cmp_ge, lg_cmp_le, nI_cl (show o < 2147483648 by omega), nI_o (show o < 16 by omega) (by omega), nI_cl (show p < 2147483648 by omega), nI_o (show p < 16 by omega) (by omega), if_false, D_X5_carryOver_43_eq, if_true, if_neg (show ¬ (1 : Int32) = 0 by decide), dp_w, k1, k2, k3]
      constructor
      · intro hN
        rw [hP] at hN
        by_cases z1 : o = p
        · rw [if_pos z1]
        rw [if_neg z1]
        by_cases z2 : dp_I M 79 o < dp_I M 77 o
        case neg => rw [if_pos z2]
        rw [if_neg (fun w => w z2)]
        by_cases z3 : dp_I M 79 p < dp_I M 77 p
        case neg => rw [if_pos z3]
        rw [if_neg (fun w => w z3)]
        by_cases z4 : v3.toInt < 1
        · rw [if_pos z4]
        rw [if_neg z4]
        by_cases z5 : (dp_J M 76 o).toInt ≤ v3.toInt
        · rw [if_pos z5]
        rw [if_neg z5, if_neg (fun w => hN ⟨z1, z2, z3, by omega, by omega, w⟩)]
      · intro hY
        rw [hP] at hY
        obtain ⟨z1, z2, z3, z4, z5, z6⟩ := hY
        rw [if_neg z1, if_neg (fun w => w z2), if_neg (fun w => w z3), if_neg (by omega), if_neg (by omega), if_pos z6, hW]
        simp only [gJJ, if_true, uI_n (show p ≠ o from fun w => z1 w.symm)]
    rw [D_X11_transfer_0_den, D_X11_transfer_0_eq]
    simp only [qc_ord a1 hO, rb_bi, ibz, if_pos g1, if_pos g2]
    constructor
    · intro hN; rw [key.1 hN, rb_bi, if_pos (Or.inl rfl)]
    · intro hY; rw [key.2 hY, rb_bi, if_pos (Or.inr rfl)]
  have hmo : ∀ N : dp_M, dp_I N 114 105 = nI O → dp_I N 192 = dp_I M 77 → dp_I N 194 = dp_I M 79 → dp_J N 191 = dp_J M 76 → (¬ P → dp_den true xs xl (d + 5) 512 [.ref 114, .int (nI o), .int (nI p), .long v3] N = iR 0 (dp_setI N 114 0 0)) ∧ (P → dp_den true xs xl (d + 5) 512 [.ref 114, .int (nI o), .int (nI p), .long v3] N = iR 1 (dp_setJ (dp_setJ (dp_setI N 114 0 0) 191 o (dp_J M 76 o - v3)) 191 p (dp_J M 76 p + v3))) := fun N n1 n2 n3 n4 => by
    rw [D_X12_transfer_0_den, D_X12_transfer_0_eq, qm_ord n1 hO, rb_bi, ibz, if_pos g1, qm_ord n1 hO, rb_bi, ibz, if_pos g2, D_X12_transfer_22_eq]
    simp only [dp_w, gII, gJI, Nat.reduceEqDiff, if_true, if_false, uI_s, n2, n3, n4, nI_eq (show o < 2147483648 by omega) (show p < 2147483648 by omega), lg_cmp_lt, lg_cmp_ge, lg_cmp_le, nI_cl (show o < 2147483648 by omega), nI_o (show o < 16 by omega) (by omega), nI_cl (show p < 2147483648 by omega), nI_o (show p < 16 by omega) (by omega), k1, k2, if_neg (show ¬ (0 : Int32) < 0 by decide)]
    have nle : ∀ x y : Int32, ¬ x ≤ y ↔ y < x := fun x y => Int32.not_le
    constructor
    · intro hN
      rw [hP] at hN
      by_cases z1 : o = p
      · rw [if_pos z1]
      rw [if_neg z1]
      by_cases z2 : dp_I M 77 o ≤ dp_I M 79 o
      · rw [if_pos z2]
      rw [if_neg z2]
      by_cases z3 : dp_I M 77 p ≤ dp_I M 79 p
      · rw [if_pos z3]
      rw [if_neg z3]
      by_cases z4 : v3.toInt < 1
      · rw [if_pos z4]
      rw [if_neg z4]
      by_cases z5 : (dp_J M 76 o).toInt ≤ v3.toInt
      · rw [if_pos z5]
      rw [if_neg z5, if_neg (fun w => hN ⟨z1, Int32.not_le.mp z2, Int32.not_le.mp z3, by omega, by omega, (k4 (by omega) (by omega)).mp w⟩)]
    · intro hY
      rw [hP] at hY
      obtain ⟨z1, z2, z3, z4, z5, z6⟩ := hY
      rw [if_neg z1, if_neg (Int32.not_le.mpr z2), if_neg (Int32.not_le.mpr z3), if_neg (by omega), if_neg (by omega), if_pos ((k4 z4 z5).mpr z6)]
      simp only [gJJ, gJI, if_true, n4, uI_n (show p ≠ o from fun w => z1 w.symm)]
  by_cases hY : P
  case neg =>
    refine ⟨0, 0, dp_setJ M 245 0 0, _, wL_transfer_ok (hcl.1 hY), (hmo _ (by rw [gIJ]; exact a2) (by rw [gIJ]; exact b2) (by rw [gIJ]; exact b4) (by rw [gJJ, if_neg (by decide)]; exact b1)).1 hY, by simp [gII, uI], fun _ => by simp [gJI, gJJ, uI], h0.looked 0⟩
  have hY' := hY
  rw [hP] at hY'
  obtain ⟨z1, z2, z3, z4, z5, z6⟩ := hY'
  have vo : (dp_J M 76 o - v3).toInt = (dp_J M 76 o).toInt - v3.toInt := q_subJ (by omega) (by omega)
  have vp : (dp_J M 76 p + v3).toInt = (dp_J M 76 p).toInt + v3.toInt := q_addJ (by omega) (by omega)
  refine ⟨0, 1, dp_setJ W 245 0 1, dp_setJ (dp_setJ (dp_setI (dp_setJ W 245 0 1) 114 0 0) 191 o (dp_J M 76 o - v3)) 191 p (dp_J M 76 p + v3), wL_transfer_ok (hcl.2 hY), (hmo _ (by rw [hW]; exact a2) (by rw [hW]; exact b2) (by rw [hW]; exact b4) (by rw [hW]; simp only [gJJ, Nat.reduceEqDiff, if_false]; exact b1)).2 hY, by simp [gII, gIJ, uI], fun _ => by simp [gJI, gJJ, uI], ?_, ?_, ?_⟩
  · rw [hW]
    refine ⟨O, A, hO, hA, by simp [gII, gIJ, gIR, gJI, gJJ, gJR, gRI, gRJ, glI, glJ, glR, uI, a1], by simp [gII, gIJ, gIR, gJI, gJJ, gJR, gRI, gRJ, glI, glJ, glR, uI, a2], by simp [gII, gIJ, gIR, gJI, gJJ, gJR, gRI, gRJ, glI, glJ, glR, uI]; exact a3, by simp [gII, gIJ, gIR, gJI, gJJ, gJR, gRI, gRJ, glI, glJ, glR, uI]; exact a4, by simp only [gJI, gJJ, Nat.reduceEqDiff, if_false, if_true, b1], by simp only [gII, gIJ, Nat.reduceEqDiff, if_false]; exact b2, by simp only [gII, gIJ, Nat.reduceEqDiff, if_false]; exact b3, by simp only [gII, gIJ, Nat.reduceEqDiff, if_false]; exact b4, by simp only [gII, gIJ, Nat.reduceEqDiff, if_false]; exact b5, by simp only [gJI, gJJ, Nat.reduceEqDiff, if_false]; exact b6, by simp only [gII, gIJ, Nat.reduceEqDiff, if_false]; exact b7, by simp only [gJI, gJJ, Nat.reduceEqDiff, if_false]; exact b8, fun a ha => by unfold mdy mdk; simp only [gII, gIJ, Nat.reduceEqDiff, if_false]; exact b9 a ha, fun x hx => ?_⟩
    by_cases eo : x = o
    · subst eo
      refine (b10 x hx).vol z2 ?_ ?_ ?_ ?_ ?_ (fun a _ => ?_)
      all_goals simp only [gII, gIJ, gJI, gJJ, Nat.reduceEqDiff, if_false, if_true, uI_n z1, uI_s]
      · rw [vo]; omega
      · exact ⟨trivial, trivial⟩
    · by_cases ep : x = p
      · subst ep
        refine (b10 x hx).vol z3 ?_ ?_ ?_ ?_ ?_ (fun a _ => ?_)
        all_goals simp only [gII, gIJ, gJI, gJJ, Nat.reduceEqDiff, if_false, if_true, uI_s]
        · rw [vp]; omega
        · exact ⟨trivial, trivial⟩
      · refine (b10 x hx).same (by omega) ?_ ?_ ?_ ?_ (fun y _ => ?_) ?_ ?_ ?_ ?_ (fun a _ => ?_) (fun y _ => ?_)
        all_goals simp only [gII, gIJ, gJI, gJJ, Nat.reduceEqDiff, if_false, if_true, uI_n eo, uI_n ep]
        exact ⟨trivial, trivial⟩
  · rw [hW]
    repeat first | apply Off.F _ (by decide) | apply Off.I _ (by decide) | apply Off.J _ (by decide)
    exact Off.rr _ _ _
  · rw [hW]; exact ⟨Nat.le_add_right _ _, Nat.le_add_right _ _⟩
end QX
