/-! SECURITIES: reservation -/
section SI
variable {xs : Nat → Int32} {xl d : Nat} {M : dp_M}
theorem s_reservation (h : RelS M) (hn : 246 ≤ dp_n M) (v1 v2 : Int32) : ∃ k b M1 M2, dp_den true xs xl (d + 5) 636 [.ref 0, .int v1, .int v2, .ref 245] M = iR k M1 ∧ dp_den true xs xl (d + 5) 539 [.ref 114, .int v1, .int v2] M1 = lR b M2 ∧
    dp_I M2 114 0 = k ∧ (k = 0 → dp_J M2 245 0 = b) ∧ RelS M2 ∧ Off (245 :: RelS_W) (0 :: RelS_V) M M2 ∧ Cst 1 6 M M2 := by
  have h0 := h
  obtain ⟨G, R, hG, hR, a1, a2, a3, a4, a5, a6, a7, a8, a9, a10, a11, a12, a13, a14, a15⟩ := h
  have e1 : (1 : Int32).toInt = 1 := by decide
  have m0 : ∀ (N : dp_M) (w : Int32), D_X12_reservation_45 xs xl (d + 4) v1 v2 0 w N = lR 0 (dp_setI N 114 0 1) := fun N w => by
    rw [D_X12_reservation_45_eq, if_pos rfl, q_ref, rb_bi]; rfl
  have bad : ∀ N : dp_M, dp_I N 114 133 = nI R → ¬ (wi v1 1 R ∧ qin v2 12) → dp_den true xs xl (d + 5) 539 [.ref 114, .int v1, .int v2] N = lR 0 (dp_setI N 114 0 1) := fun N hN hb => by
    rw [D_X12_reservation_0_den, D_X12_reservation_0_eq, hN]
    simp only [dp_w, m0, q_min, w_11, rb_bi, ibz, ite_self]
    by_cases z1 : v1 < 1
    · rw [if_pos z1]
    · rw [if_neg z1]
      by_cases z2 : nI R < v1
      · rw [if_pos z2]
      · rw [if_neg z2]
        rw [Int32.lt_iff_toInt_lt, e1] at z1
        rw [Int32.lt_iff_toInt_lt, nI_toInt (by omega)] at z2
        rw [if_neg (fun q => hb ⟨⟨by omega, by omega⟩, q⟩)]
  have hcr : dp_den true xs xl (d + 3) 251 [.long v1.toInt64, .long 1, .long (dp_I M 90 1).toInt64] M = iR (bI (wi v1 1 R)) M := by
    rw [a3, q_win]; simp only [wi_nI (a := 1) 1 (by decide) (show R < 2147483648 by omega)]
  by_cases g1 : wi v1 1 R
  case neg =>
    refine ⟨1, 0, dp_new M 0 0 6, _, wL_reservation_x2 ?_, bad _ (by rw [gIN (by omega)]; exact a4) (fun q => g1 q.1), rfl, (fun e => by cases e), h0.refused hn 1⟩
    rw [D_X11_reservation_0_den, D_X11_reservation_0_eq, hcr, rb_bi, ibz, if_neg g1, q_nk hn]
  obtain ⟨r, hr1, hr2, rfl⟩ := wi_of (a := 1) (b := R) g1 (by omega)
  obtain ⟨n, c1, c2, c3, c4, c5, c6, c7⟩ := a14 r hr1 hr2
  by_cases g2 : qin v2 12
  case neg =>
    refine ⟨1, 0, dp_new M 0 0 6, _, wL_reservation_x2 ?_, bad _ (by rw [gIN (by omega)]; exact a4) (fun q => g2 q.2), rfl, (fun e => by cases e), h0.refused hn 1⟩
    rw [D_X11_reservation_0_den, D_X11_reservation_0_eq, hcr, rb_bi, ibz, if_pos g1, sc_hasN (by omega) c1 g2 c6, rb_bi, if_pos rfl, q_nk hn]
  obtain ⟨k, hk, rfl⟩ := qin_of g2 (by omega)
  obtain ⟨b, f1, f2, f3⟩ := sc_has (xs := xs) (xl := xl) (d := d + 1) (M := M) (r := r) (n := n) (k := k) (by omega) c1 hk c6
  obtain ⟨j, hj⟩ : ∃ j, j = if k < 4 then 0 else (k - 4) % 4 := ⟨_, rfl⟩
  have hj4 : j < 4 := by rw [hj]; split <;> omega
  have m1 : ∀ N : dp_M, dp_I N 114 133 = nI R → dp_den true xs xl (d + 5) 539 [.ref 114, .int (nI r), .int (nI k)] N = D_X12_reservation_45 xs xl (d + 4) (nI r) (nI k) 1 (nI j) N := fun N hN => by
    rw [D_X12_reservation_0_den, D_X12_reservation_0_eq, hN, if_neg (show ¬ nI (r) < (1 : Int32) from nI_nlt (a := r) (b := 1) (by omega) (by omega)), if_neg (nI_nlt (by omega) (by omega)), q_min]
    simp only [w_11, rb_bi, ibz, if_pos g2, dp_w]
    by_cases z : k < 4
    · rw [if_neg (show ¬ (4 : Int32) ≤ nI (k) from nI_ge (a := k) (b := 4) (by omega) (by omega)), hj, if_pos z]; rfl
    · rw [if_pos (show (4 : Int32) ≤ nI (k) from nI_le (a := 4) (b := k) (by omega) (by omega)), hj, if_neg z]
      have : k = 4 ∨ k = 5 ∨ k = 6 ∨ k = 7 ∨ k = 8 ∨ k = 9 ∨ k = 10 ∨ k = 11 := by omega
      rcases this with rfl | rfl | rfl | rfl | rfl | rfl | rfl | rfl <;> rfl
  by_cases g3 : hf n k
  case neg =>
    have fb : b = 0 := f2.resolve_right (fun q => g3 (f3.mp q))
    refine ⟨1, 0, dp_new M 0 0 6, _, wL_reservation_x2 ?_, ?_, rfl, (fun e => by cases e), h0.refused hn 1⟩
    · rw [D_X11_reservation_0_den, D_X11_reservation_0_eq, hcr, rb_bi, ibz, if_pos g1, f1, rb_bi, if_pos fb, q_nk hn]
    · have k4 : ¬ k < 4 := fun q => g3 (Or.inl q)
      have nj : n ≤ j := by
        unfold hf at g3
        rw [hj, if_neg k4]
        by_cases z : k < 8
        · have : (k - 4) % 4 = k - 4 := Nat.mod_eq_of_lt (by omega)
          omega
        · have : (k - 4) % 4 = k - 8 := by omega
          omega
      rw [m1 _ (by rw [gIN (by omega)]; exact a4), D_X12_reservation_45_eq, if_neg (by decide), if_neg (show ¬ nI (k) ≤ (3 : Int32) from nI_ge (a := 3) (b := k) (by omega) (by omega)), if_neg (by decide), D_X12_reservation_71_eq]
      simp only [nI_cl (show r < 2147483648 by omega), nI_o (show r < 402 by omega) (by omega), if_false, gIN (show 216 < dp_n M by omega), c2]
      rw [if_neg (nI_nlt (by omega) (by omega)), q_ref, rb_bi]; rfl
  have fb : b = 1 := f3.mpr g3
  have hcl : dp_den true xs xl (d + 4) 331 [.ref 0, .int (nI r), .int (nI k)] M = lR (dp_J M 96 (r * 12 + k)) M := by
    rw [D_X11_reservation_0_den, D_X11_reservation_0_eq, hcr, rb_bi, ibz, if_pos g1, f1, rb_bi, fb, if_neg (by decide), D_X8_factOfReservation_0_den, D_X8_factOfReservation_0_eq]
    simp only [t_12, nI_cl (show r * 12 + k < 2147483648 by omega), nI_o (show r * 12 + k < 4812 by omega) (by omega), if_false, rb_bl]
  generalize hW : dp_J M 96 (r * 12 + k) = W at hcl
  refine ⟨0, W, _, dp_setI (dp_setJ M 245 0 W) 114 0 0, wL_reservation_ok hcl, ?_, by simp [gII, uI], fun _ => by simp [gJI, gJJ, uI], h0.looked W⟩
  obtain ⟨N, hN⟩ : ∃ N, N = dp_setI (dp_setJ M 245 0 W) 114 0 0 := ⟨_, rfl⟩
  have eI : ∀ k, k ≠ 114 → dp_I N k = dp_I M k := fun k hk => by rw [hN, gII, if_neg hk, gIJ]
  have eJ : ∀ k, k ≠ 245 → dp_J N k = dp_J M k := fun k hk => by rw [hN, gJI, gJJ, if_neg hk]
  have loop : D_X12_reservation_95 xs xl (d + 4) (nI r) (nI k) 1 (nI j) 0 (nI (r * 4)) N = lR W N := by
    refine lpb (F := fun a i => D_X12_reservation_95 xs xl (d + 4) (nI r) (nI k) 1 (nI j) a (nI (r * 4 + i)) N) (s := sl (fun i => dp_J M 218 (r * 4 + i))) (N := n) ?_ (fun i hi hr => ?_)
    · (try dsimp only)
      rw [D_X12_reservation_95_eq]
      simp only [nI_cl (show r < 2147483648 by omega), nI_o (show r < 402 by omega) (by omega), if_false, eI 216 (by decide), eI 214 (by decide), eI 215 (by decide), eI 217 (by decide), eJ 218 (by decide), c2, t_4'', nI_cl (show r * 4 + j < 2147483648 by omega), nI_o (show r * 4 + j < 1608 by omega) (by omega)]
      rw [if_pos (nI_lle (Nat.le_refl _) (by omega)), ← hW]
      unfold hf at g3
      have hk' : k = 0 ∨ k = 1 ∨ k = 2 ∨ k = 3 ∨ (4 ≤ k ∧ k < 8) ∨ (8 ≤ k ∧ k < 12) := by omega
      rcases hk' with rfl | rfl | rfl | rfl | hk' | hk'
      · rw [if_pos (by rfl), c3]
      · rw [if_neg (by decide), if_pos (by rfl), c4]
      · rw [if_neg (by decide), if_neg (by decide), if_pos (by rfl), c5]
      · rw [if_neg (by decide), if_neg (by decide), if_neg (by decide), if_pos (by rfl), c6]
      · have ej : k = 4 + j := by rw [hj, if_neg (by omega)]; omega
        rw [if_neg (show ¬ nI (k) = (0 : Int32) from fun e => absurd ((nI_eq (a := k) (b := 0) (by omega) (by omega)).mp e) (by omega)), if_neg (show ¬ nI (k) = (1 : Int32) from fun e => absurd ((nI_eq (a := k) (b := 1) (by omega) (by omega)).mp e) (by omega)), if_neg (show ¬ nI (k) = (2 : Int32) from fun e => absurd ((nI_eq (a := k) (b := 2) (by omega) (by omega)).mp e) (by omega)), if_neg (show ¬ nI (k) = (3 : Int32) from fun e => absurd ((nI_eq (a := k) (b := 3) (by omega) (by omega)).mp e) (by omega)), if_neg (show ¬ (8 : Int32) ≤ nI (k) from nI_ge (a := k) (b := 8) (by omega) (by omega)), ej, (c7 j (by omega)).1]
      · have ej : k = 8 + j := by rw [hj, if_neg (by omega)]; omega
        rw [if_neg (show ¬ nI (k) = (0 : Int32) from fun e => absurd ((nI_eq (a := k) (b := 0) (by omega) (by omega)).mp e) (by omega)), if_neg (show ¬ nI (k) = (1 : Int32) from fun e => absurd ((nI_eq (a := k) (b := 1) (by omega) (by omega)).mp e) (by omega)), if_neg (show ¬ nI (k) = (2 : Int32) from fun e => absurd ((nI_eq (a := k) (b := 2) (by omega) (by omega)).mp e) (by omega)), if_neg (show ¬ nI (k) = (3 : Int32) from fun e => absurd ((nI_eq (a := k) (b := 3) (by omega) (by omega)).mp e) (by omega)), if_pos (show (8 : Int32) ≤ nI (k) from nI_le (a := 8) (b := k) (by omega) (by omega)), ej, (c7 j (by omega)).2.1]
    · (try dsimp only at hr); (try dsimp only)
      rw [D_X12_reservation_95_eq]
      simp only [nI_cl (show r < 2147483648 by omega), nI_o (show r < 402 by omega) (by omega), if_false, eI 216 (by decide), c2, t_4'', nI_cl (show r * 4 + i < 2147483648 by omega), nI_o (show r * 4 + i < 1608 by omega) (by omega), dp_w, nI_1, eJ 218 (by decide)]
      rw [if_neg (nI_nge (show r * 4 + i < r * 4 + n by omega) (by omega))]
      exact hr
  rw [m1 _ (by rw [gIJ]; exact a4), D_X12_reservation_45_eq, if_neg (by decide)]
  simp only [dp_w, t_4', D_X12_reservation_71_eq]
  rw [← hN]
  by_cases z : k < 4
  · rw [if_pos (show nI (k) ≤ (3 : Int32) from nI_le (a := k) (b := 3) (by omega) (by omega))]; exact loop
  · rw [if_neg (show ¬ nI (k) ≤ (3 : Int32) from nI_ge (a := 3) (b := k) (by omega) (by omega)), if_neg (by decide)]
    simp only [nI_cl (show r < 2147483648 by omega), nI_o (show r < 402 by omega) (by omega), if_false, gIJ, c2]
    rw [if_pos]
    · exact loop
    · apply nI_lt
      · unfold hf at g3
        rw [hj, if_neg z]; omega
      · omega
end SI
