/-! THE LEDGER: reverse, side by side -/
theorem q_neg0 {x : Int64} (h : x ≠ 0) : -x ≠ 0 := fun e => h (by
  have : - -x = -0 := by rw [e]
  rw [Int64.neg_neg] at this
  rw [this]; rfl)
theorem q_neg32 {x : Int32} (h1 : -1000000000 ≤ x.toInt) (h2 : x.toInt ≤ 1000000000) : (Int32.toInt64 (-x)).toInt32.toInt = -x.toInt ∧ (Int32.toInt64 (-x)).toInt32.toInt64 = -(x.toInt64) := by
  have e : (-x).toInt = -x.toInt := by
    rw [Int32.toInt_neg]
    apply Int.bmod_eq_of_le <;> omega
  obtain ⟨n1, n2⟩ := q_narrow (x := Int32.toInt64 (-x)) (by rw [Int32.toInt_toInt64]; omega) (by rw [Int32.toInt_toInt64]; omega)
  refine ⟨by rw [n1, Int32.toInt_toInt64, e], ?_⟩
  rw [n2, ← Int64.toInt_inj, Int32.toInt_toInt64, e, Int64.toInt_neg, Int32.toInt_toInt64]
  symm
  apply Int.bmod_eq_of_le <;> omega
section LEX
variable {xs : Nat → Int32} {xl d : Nat} {M : dp_M}
theorem lm_rloop {P : dp_M} {v2 : Int32} {b n B : Nat} (hb : b < B) (hB8 : B < 800) (hn : dp_I P 227 b = nI n) (h20 : n ≤ 20) (hz : dp_I P 227 B = 0) (hc : ∀ k, k < n → dp_J P 229 (b * 20 + k) ≠ 0) :
    ∃ N, (Off [227, 228, 229] [] P N ∧ dp_n N = dp_n P ∧ dp_z N = dp_z P ∧ dp_I N 227 = uI (dp_I P 227) B (nI n) ∧ dp_I N 228 = fN (dp_I P 228) (B * 20) n (fun k => dp_I P 228 (b * 20 + k)) ∧ dp_J N 229 = fN (dp_J P 229) (B * 20) n (fun k => -(dp_J P 229 (b * 20 + k)))) ∧
      ∀ r, D_X12_reverse_120 xs xl (d + 1) (nI b) v2 1 (nI B) (nI (b * 20 + n)) N = some r → D_X12_reverse_120 xs xl (d + 1) (nI b) v2 1 (nI B) (nI (b * 20)) P = some r := by
  refine lpt (F := fun i N => D_X12_reverse_120 xs xl (d + 1) (nI b) v2 1 (nI B) (nI (b * 20 + i)) N) (a := 0) (N := n)
    (Inv := fun i N => Off [227, 228, 229] [] P N ∧ dp_n N = dp_n P ∧ dp_z N = dp_z P ∧ dp_I N 227 = uI (dp_I P 227) B (nI i) ∧ dp_I N 228 = fN (dp_I P 228) (B * 20) i (fun k => dp_I P 228 (b * 20 + k)) ∧ dp_J N 229 = fN (dp_J P 229) (B * 20) i (fun k => -(dp_J P 229 (b * 20 + k))))
    (Nat.zero_le _) ?_ P ?_
  · rintro i N - hi ⟨o, i1, i2, i3, i4, i5⟩
    have g1 : dp_I N 228 (b * 20 + i) = dp_I P 228 (b * 20 + i) := by rw [i4, fN_lt (by omega)]
    have g2 : dp_J N 229 (b * 20 + i) = dp_J P 229 (b * 20 + i) := by rw [i5, fN_lt (by omega)]
    refine ⟨dp_setI (dp_setJ (dp_setI N 228 (B * 20 + i) (dp_I P 228 (b * 20 + i))) 229 (B * 20 + i) (-(dp_J P 229 (b * 20 + i)))) 227 B (nI (i + 1)), ⟨Off.I 227 (by decide) _ _ (Off.J 229 (by decide) _ _ (Off.I 228 (by decide) _ _ o)), i1, i2, ?_, ?_, ?_⟩, fun r hr => ?_⟩
    · simp only [gII, gIJ, if_true, Nat.reduceEqDiff, if_false]; rw [i3]; funext z; unfold uI; split <;> rfl
    · simp only [gII, gIJ, if_true, Nat.reduceEqDiff, if_false]; rw [i4]; exact fN_s _ _ _ (fun k => dp_I P 228 (b * 20 + k))
    · simp only [gJI, gJJ, if_true]; rw [i5]; exact fN_s _ _ _ (fun k => -(dp_J P 229 (b * 20 + k)))
    · (try dsimp only at hr); (try dsimp only)
      rw [D_X12_reverse_120_eq]
      simp only [nI_cl (show b < 2147483648 by omega), nI_o (show b < 801 by omega) (by omega), if_false, lm_ix20]
      rw [show dp_I N 227 b = nI n by rw [i3, uI_n (by omega)]; exact hn, lm_ix20, if_neg (nI_nge (by omega) (by omega))]
      simp only [nI_cl (show b * 20 + i < 2147483648 by omega), nI_o (show b * 20 + i < 16020 by omega) (by omega), if_false, g1, g2, dp_w, nI_1]
      rw [lm_enters rfl (by omega) (n := i) (by rw [i3, uI_s]) (by omega) (q_neg0 (hc i hi)), rb_bv]
      rw [← Nat.add_assoc] at hr
      exact hr
  · refine ⟨Off.rr _ _ _, rfl, rfl, ?_, by rw [fN_0], by rw [fN_0]⟩
    funext z; unfold uI; split
    · rename_i e; rw [e, hz, nI_0]
    · rfl
theorem sl_neg (f : Nat → Int64) : ∀ n, sl (fun k => -(f k)) n = -(sl f n)
  | 0 => by simp [sl]
  | n + 1 => by rw [sl, sl, sl_neg f n, Int64.neg_add, Int64.sub_eq_add_neg]
/-- reverse -/
theorem s_reverse (h : RelL M) (hn : 246 ≤ dp_n M) (v1 v2 : Int32) : ∃ k b M1 M2, dp_den true xs xl (d + 8) 639 [.ref 0, .int v1, .int v2, .ref 245] M = iR k M1 ∧ dp_den true xs xl (d + 8) 554 [.ref 114, .int v1, .int v2] M1 = iR b M2 ∧
    dp_I M2 114 0 = k ∧ (k = 0 → dp_J M2 245 0 = b.toInt64) ∧ RelL M2 ∧ Off (245 :: RelL_S) (0 :: RelL_T) M M2 ∧ Cst 1 6 M M2 := by
  have h0 := h
  obtain ⟨B, E, hB8, hE4, a1, a2, a3, a4, a5, a6, a7, a8, a9, a10, a11, a12, a13, a14, a15, a16⟩ := h
  have f1 : ∀ N, D_X12_reverse_50 xs xl (d + 7) v1 v2 0 N = iR 0 (dp_setI N 114 0 1) := fun N => by rw [D_X12_reverse_50_eq, if_pos rfl, q_ref, rb_bi]
  have m0 : ∀ N, dp_I N 114 141 = nI B → dp_den true xs xl (d + 8) 554 [.ref 114, .int v1, .int v2] N = if qin v1 B ∧ dp_I N 221 v1.toNatClampNeg = 1 ∧ qin v2 100001 then D_X12_reverse_50 xs xl (d + 7) v1 v2 1 N else iR 0 (dp_setI N 114 0 1) := fun N q => by
    rw [D_X12_reverse_0_den, D_X12_reverse_0_eq, q]
    simp only [lm_day, rb_bi, ibz, f1]
    rcases pk_ix v1 (show B < 2 ^ 31 by omega) with q | q | ⟨j, q, rfl⟩
    · rw [if_pos q, if_neg (fun z => z.1 (Or.inl q))]
    · rw [if_neg (q_ge0 q (by omega)), if_pos q, if_neg (fun z => q_nin q (by omega) z.1)]
    · have g := qin_nI q (show B < 2147483648 by omega)
      rw [if_neg (nI_pos (by omega)), if_neg (nI_nge q (by omega)), if_neg (nI_pos (by omega)), if_neg (nI_nge q (by omega))]
      simp only [nI_cl (show j < 2147483648 by omega), nI_o (show j < 801 by omega) (by omega), if_false]
      by_cases c1 : dp_I N 221 j = 1
      · rw [if_pos c1]
        by_cases c2 : qin v2 100001
        · rw [if_pos c2, if_pos ⟨g, c1, c2⟩]
        · rw [if_neg c2, if_neg (fun z => c2 z.2.2)]
      · rw [if_neg c1, if_neg (fun z => c1 z.2.1)]
  by_cases g : qin v1 B ∧ dp_I M 221 v1.toNatClampNeg = 1 ∧ qin v2 100001
  case neg =>
    refine ⟨1, 0, dp_new M 0 0 6, _, wL_reverse_x0 ?_, ?_, rfl, (fun e => by cases e), h0.refused hn 1⟩
    · rw [D_X11_reverse_0_den, D_X11_reverse_0_eq, lc_isB a1 hB8, rb_bi, ibz]
      by_cases k1 : qin v1 B
      · obtain ⟨j, hj, rfl⟩ := qin_of k1 (by omega)
        obtain ⟨n, c1, c2, c3, -⟩ := a14 j hj
        rw [if_pos k1, lc_state rfl (by omega), rb_bi, c3]
        by_cases k2 : dp_I M 221 j = 1
        · rw [if_pos k2, lc_day, rb_bi, ibz, if_neg (fun k3 => g ⟨k1, by rw [nI_cl (by omega)]; exact k2, k3⟩), q_nk hn]
        · rw [if_neg k2, q_nk hn]
      · rw [if_neg k1, q_nk hn]
    · rw [m0 _ (by rw [gIN (by omega)]; exact a2), if_neg]
      rw [gIN (by omega)]; exact g
  obtain ⟨k1, k2, k3⟩ := g
  obtain ⟨j, hj, rfl⟩ := qin_of k1 (by omega)
  rw [nI_cl (by omega)] at k2
  obtain ⟨n, c1, c2, c3, c4, c5, c6, c7, c8, c9, c10, c11, c12, c13, c14, c15, c16⟩ := a14 j hj
  obtain ⟨n1, ns⟩ := c16 k2
  have hnn : dp_I M 100 (j * 7 + 1) = nI n := c5 (by rw [k2]; decide)
  have clsX : ¬ (dp_I M 224 j = -1 ∧ dp_I M 225 j = -1 ∧ B < 800 ∧ dp_I M 97 2 < v2 ∧ dp_I M 97 3 ≤ v2 ∧ E + n ≤ 4000) → dp_den true xs xl (d + 7) 338 [.ref 0, .int (nI j), .int v2] M = xR 1 (dp_new M 0 0 6) := fun q => by
    rw [D_X11_reverse_0_den, D_X11_reverse_0_eq, lc_isB a1 hB8, rb_bi, ibz, if_pos k1, lc_state rfl (by omega), rb_bi, c3, if_pos k2, lc_day, rb_bi, ibz, if_pos k3, lc_mayRev rfl (by omega), rb_bi, ibz, c7, c8]
    by_cases k4 : dp_I M 224 j = -1 ∧ dp_I M 225 j = -1
    · rw [if_pos k4, lc_entries rfl (by omega), rb_bi, lc_take hnn a1 hB8 a3 hE4 c1, rb_bi, ibz, if_neg (fun z => q ⟨k4.1, k4.2, z⟩), q_nk hn]
    · rw [if_neg k4, q_nk hn]
  have ge : ∀ x : Int32, (x = -1 ∨ qin x 800) → (0 ≤ x ↔ x ≠ -1) := fun x hx => by
    rcases hx with hx | hx
    · rw [hx]; decide
    · obtain ⟨z, hz, rfl⟩ := qin_of hx (by omega)
      exact ⟨fun _ e => by have := nI_pos (show z < 2 ^ 31 by omega); rw [e] at this; exact this (by decide), fun _ => nI_pos' (by omega)⟩
  have mdl : ∀ N, dp_I N 114 141 = nI B → (∀ k, (k = 221 ∨ k = 222 ∨ k = 224 ∨ k = 225) → dp_I N k = dp_I M k) → dp_den true xs xl (d + 8) 554 [.ref 114, .int (nI j), .int v2] N = if dp_I M 224 j = -1 ∧ dp_I M 225 j = -1 ∧ B ≠ 800 then dp_bv (dp_den true xs xl (d + 7) 544 [.ref 114, .int (nI B), .int (dp_I M 222 j), .int v2] N) (fun M10 => D_X12_reverse_120 xs xl (d + 7) (nI j) v2 1 (nI B) (nI (j * 20)) M10) else iR 0 (dp_setI N 114 0 2) := fun N q1 q2 => by
    rw [m0 N q1, if_pos ⟨k1, by rw [nI_cl (by omega), q2 221 (by omega)]; exact k2, k3⟩, D_X12_reverse_50_eq, if_neg (by decide)]
    simp only [nI_cl (show j < 2147483648 by omega), nI_o (show j < 801 by omega) (by omega), if_false, q2 225 (by omega), q2 224 (by omega), q2 222 (by omega), q1, q_ref, rb_bi, dp_w, ge _ c13, ge _ c14, lm_20]
    by_cases z1 : dp_I M 225 j = -1
    · rw [if_neg (fun z => z z1)]
      by_cases z2 : dp_I M 224 j = -1
      · rw [if_neg (fun z => z z2)]
        by_cases z3 : B = 800
        · rw [if_pos (by rw [z3]; rfl), if_neg (fun z => z.2.2 z3)]
        · rw [if_neg (show ¬ nI (B) = (800 : Int32) from fun e => absurd ((nI_eq (a := B) (b := 800) (by omega) (by omega)).mp e) (by omega)), if_pos ⟨z2, z1, z3⟩]
      · rw [if_pos z2, if_neg (fun z => z2 z.1)]
    · rw [if_pos z1, if_neg (fun z => z1 z.2.1)]
  by_cases g2 : dp_I M 224 j = -1 ∧ dp_I M 225 j = -1 ∧ B ≠ 800
  case neg =>
    refine ⟨2, 0, dp_new M 0 0 6, _, wL_reverse_x1 (clsX (fun q => g2 ⟨q.1, q.2.1, by omega⟩)), ?_, rfl, (fun e => by cases e), h0.refused hn 2⟩
    rw [mdl _ (by rw [gIN (by omega)]; exact a2) (fun k hk => by rw [gIN (by omega)]), if_neg g2]
  have hB : B < 800 := by omega
  by_cases g3 : dp_I M 97 2 < v2 ∧ dp_I M 97 3 ≤ v2 ∧ E + n ≤ 4000
  case neg =>
    -- the reversal can't be posted: the model leaves what it wrote beyond the batches
    have nN : ∀ k, k < 246 → k < dp_n M := fun k hk => by omega
    generalize hP : dp_setI (dp_setI (dp_setI (dp_setI (dp_setI (dp_setI (dp_setI (dp_new M 0 0 6) 221 B 0) 222 B (dp_I M 222 j)) 223 B v2) 224 B (-1)) 225 B (-1)) 226 B 0) 227 B 0 = P
    have pI : ∀ k, k < 246 → (k < 221 ∨ 227 < k) → dp_I P k = dp_I M k := fun k h1 h2 => by
      rw [← hP, gII, if_neg (by omega), gII, if_neg (by omega), gII, if_neg (by omega), gII, if_neg (by omega), gII, if_neg (by omega), gII, if_neg (by omega), gII, if_neg (by omega), gIN (nN k h1)]
    have pJ : dp_J P 229 = dp_J M 229 := by rw [← hP]; simp only [gJI]; rw [gJN (by omega)]
    have pc : ∀ k z, 221 ≤ k → k ≤ 227 → z ≠ B → dp_I P k z = dp_I M k z := fun k z h1 h2 h3 => by
      rw [← hP]
      have hk : k = 221 ∨ k = 222 ∨ k = 223 ∨ k = 224 ∨ k = 225 ∨ k = 226 ∨ k = 227 := by omega
      rcases hk with rfl | rfl | rfl | rfl | rfl | rfl | rfl <;> (simp only [gII, if_true, Nat.reduceEqDiff, if_false]; rw [uI_n h3, gIN (by omega)])
    have p227 : dp_I P 227 B = 0 := by rw [← hP]; simp only [gII, if_true]; rw [uI_s]
    have p223 : dp_I P 223 B = v2 := by rw [← hP]; simp only [gII, if_true, Nat.reduceEqDiff, if_false]; rw [uI_s]
    have oP : Off (245 :: RelL_S) (0 :: RelL_T) M P := by
      rw [← hP]
      repeat first | apply Off.F _ (by decide) | apply Off.I _ (by decide) | apply Off.J _ (by decide)
      exact (Off.rr _ _ M).N hn 0 0 6
    obtain ⟨N, ⟨o, i1, i2, i3, i4, i5⟩, tr⟩ := lm_rloop (xs := xs) (xl := xl) (d := d + 6) (P := P) (v2 := v2) (b := j) (n := n) (B := B) hj hB (by rw [pc 227 j (by omega) (by omega) (by omega)]; exact c2) c1 p227 (fun k hk => by
      rw [pJ, ← (c15 k hk).2.2.1]
      intro e
      apply (c15 k hk).2.2.2.2.2
      rw [← Int32.toInt_inj, ← Int32.toInt_toInt64, e]; decide)
    have nI' : ∀ k, k < 246 → k ≠ 227 → k ≠ 228 → k ≠ 229 → dp_I N k = dp_I P k := fun k h1 h2 h3 h4 => by
      by_cases e : k = 114
      · subst e; funext i; exact (o.2.1 i (by simp)).1
      · exact (o.1 k h1 (by simp [h2, h3, h4]) e).1
    have wm : dp_den true xs xl (d + 7) 550 [.ref 114, .int (nI B)] N = iR (wrg n 0 v2 (dp_I M 97 2) (dp_I M 97 3) E) N := by
      rw [lm_wrong rfl (by omega) (n := n) (E := E) (by rw [i3, uI_s]) c1 (by rw [nI' _ (by omega) (by omega) (by omega) (by omega), pI _ (by omega) (by omega)]; exact a4) hE4, nI' 114 (by omega) (by omega) (by omega) (by omega), pI 114 (by omega) (by omega), a5, a6, nI' 223 (by omega) (by omega) (by omega) (by omega), p223]
      have e : sl (fun i => dp_J N 229 (B * 20 + i)) n = 0 := by
        rw [sl_c (g := fun k => -(dp_J M 229 (j * 20 + k))) (fun k hk => by rw [i5, fN_in hk, pJ]), sl_neg, ns]; decide
      rw [e]
    have wne : wrg n 0 v2 (dp_I M 97 2) (dp_I M 97 3) E ≠ 0 := fun q => g3 ⟨(wrg_0 q).2.2.1, (wrg_0 q).2.2.2.1, (wrg_0 q).2.2.2.2⟩
    refine ⟨2, 0, dp_new M 0 0 6, dp_setI N 114 0 2, wL_reverse_x1 (clsX (fun q => g3 q.2.2.2)), ?_, by simp [gII, uI], (fun e => by cases e), ?_, ?_, ?_⟩
    · rw [mdl _ (by rw [gIN (by omega)]; exact a2) (fun k hk => by rw [gIN (by omega)]), if_pos g2, lm_begins rfl (by omega), rb_bv, hP]
      apply tr
      rw [D_X12_reverse_120_eq]
      simp only [nI_cl (show j < 2147483648 by omega), nI_o (show j < 801 by omega) (by omega), if_false]
      rw [show dp_I N 227 j = nI n by rw [i3, uI_n (by omega), pc 227 j (by omega) (by omega) (by omega)]; exact c2, lm_ix20, if_pos (nI_lle (Nat.le_refl _) (by omega)), wm, rb_bi, if_neg (wrg_pos wne), q_ref, rb_bi]
    · refine h0.beyond (B := B) a2 hB8 (fun k hk => ?_) (fun i hi => ?_) (fun b hb => ?_) (fun i hi => ?_)
      · rw [gII, if_neg (by omega), nI' k (by omega) (by omega) (by omega) (by omega), pI k (by omega) (by omega)]
      · rw [gII, if_pos rfl, uI_n hi, nI' 114 (by omega) (by omega) (by omega) (by omega), pI 114 (by omega) (by omega)]
      · simp only [gII, Nat.reduceEqDiff, if_false]
        rw [nI' 221 (by omega) (by omega) (by omega) (by omega), nI' 222 (by omega) (by omega) (by omega) (by omega), nI' 223 (by omega) (by omega) (by omega) (by omega), nI' 224 (by omega) (by omega) (by omega) (by omega), nI' 225 (by omega) (by omega) (by omega) (by omega), nI' 226 (by omega) (by omega) (by omega) (by omega), i3, uI_n (by omega)]
        exact ⟨pc _ _ (by omega) (by omega) (by omega), pc _ _ (by omega) (by omega) (by omega), pc _ _ (by omega) (by omega) (by omega), pc _ _ (by omega) (by omega) (by omega), pc _ _ (by omega) (by omega) (by omega), pc _ _ (by omega) (by omega) (by omega), pc _ _ (by omega) (by omega) (by omega)⟩
      · simp only [gII, gJI, Nat.reduceEqDiff, if_false]
        rw [i4, i5, fN_lt hi, fN_lt hi, pI 228 (by omega) (by omega), pJ]; exact ⟨rfl, rfl⟩
    · exact Off.F 0 (by decide) _ (Off.tr oP (o.mono (by decide) (by decide)))
    · refine ⟨?_, ?_⟩
      · show dp_n N ≤ dp_n M + 1; rw [i1, ← hP]; exact Nat.le_refl _
      · show dp_z N ≤ dp_z M + 6; rw [i2, ← hP]; exact Nat.le_refl _
  -- it is reversed
  obtain ⟨g31, g32, g33⟩ := g3
  obtain ⟨M', f1, f2, f3, f4, f5, f6, f7, f8, f9, f10, f11, f12, f13, f14, f15, f16, f17, f18⟩ := lc_turn (xs := xs) (xl := xl) (d := d + 1) (M := M) (v1 := nI j) (v2 := v2) (b := j) (n := n) (B := B) (E := E) rfl hj a1 hB hnn c1 a3 g33 (a15 B 1 (Nat.le_refl _) hB (by omega))
  have rI : ∀ k, k < 246 → (k < 97 ∨ k = 98 ∨ k = 99 ∨ 104 < k) → dp_I (dp_setJ M' 245 0 (nI B).toInt64) k = dp_I M k := fun k h1 h2 => by
    rw [gIJ]
    by_cases e : k = 114
    · subst e; funext i; exact (f2.2.1 i (by simp)).1
    · exact (f2.1 k h1 (by simp only [List.mem_cons, List.not_mem_nil, or_false]; omega) e).1
  have rJ : dp_J (dp_setJ M' 245 0 (nI B).toInt64) 229 = dp_J M 229 := by rw [gJJ, if_neg (by omega)]; exact (f2.1 229 (by omega) (by decide) (by omega)).2.1
  generalize hP : dp_setI (dp_setI (dp_setI (dp_setI (dp_setI (dp_setI (dp_setI (dp_setJ M' 245 0 (nI B).toInt64) 221 B 0) 222 B (dp_I M 222 j)) 223 B v2) 224 B (-1)) 225 B (-1)) 226 B 0) 227 B 0 = P
  have pI : ∀ k, (k < 221 ∨ 227 < k) → dp_I P k = dp_I (dp_setJ M' 245 0 (nI B).toInt64) k := fun k h2 => by
    rw [← hP, gII, if_neg (by omega), gII, if_neg (by omega), gII, if_neg (by omega), gII, if_neg (by omega), gII, if_neg (by omega), gII, if_neg (by omega), gII, if_neg (by omega)]
  have pJ : dp_J P 229 = dp_J M 229 := by rw [← hP]; simp only [gJI]; exact rJ
  have pJ5 : dp_J P 245 0 = (nI B).toInt64 := by rw [← hP]; simp only [gJI, gJJ, if_true]; rw [uI_s]
  have pc : ∀ k z, 221 ≤ k → k ≤ 227 → z ≠ B → dp_I P k z = dp_I M k z := fun k z h1 h2 h3 => by
    rw [← hP]
    have hk : k = 221 ∨ k = 222 ∨ k = 223 ∨ k = 224 ∨ k = 225 ∨ k = 226 ∨ k = 227 := by omega
    rcases hk with rfl | rfl | rfl | rfl | rfl | rfl | rfl <;> (simp only [gII, if_true, Nat.reduceEqDiff, if_false]; rw [uI_n h3, rI _ (by omega) (by omega)])
  have p221 : dp_I P 221 B = 0 := by rw [← hP]; simp only [gII, if_true, Nat.reduceEqDiff, if_false]; rw [uI_s]
  have p222 : dp_I P 222 B = dp_I M 222 j := by rw [← hP]; simp only [gII, if_true, Nat.reduceEqDiff, if_false]; rw [uI_s]
  have p223 : dp_I P 223 B = v2 := by rw [← hP]; simp only [gII, if_true, Nat.reduceEqDiff, if_false]; rw [uI_s]
  have p224 : dp_I P 224 B = -1 := by rw [← hP]; simp only [gII, if_true, Nat.reduceEqDiff, if_false]; rw [uI_s]
  have p225 : dp_I P 225 B = -1 := by rw [← hP]; simp only [gII, if_true, Nat.reduceEqDiff, if_false]; rw [uI_s]
  have p226 : dp_I P 226 B = 0 := by rw [← hP]; simp only [gII, if_true, Nat.reduceEqDiff, if_false]; rw [uI_s]
  have p227 : dp_I P 227 B = 0 := by rw [← hP]; simp only [gII, if_true]; rw [uI_s]
  have oP : Off (245 :: RelL_S) (0 :: RelL_T) M P := by
    rw [← hP]
    repeat first | apply Off.F _ (by decide) | apply Off.I _ (by decide) | apply Off.J _ (by decide)
    exact f2.mono (by decide) (by decide)
  have nzP : dp_n P = dp_n M ∧ dp_z P = dp_z M := by rw [← hP]; exact ⟨f3, f4⟩
  obtain ⟨N, ⟨o, i1, i2, i3, i4, i5⟩, tr⟩ := lm_rloop (xs := xs) (xl := xl) (d := d + 6) (P := P) (v2 := v2) (b := j) (n := n) (B := B) hj hB (by rw [pc 227 j (by omega) (by omega) (by omega)]; exact c2) c1 p227 (fun k hk => by
    rw [pJ, ← (c15 k hk).2.2.1]
    intro e
    apply (c15 k hk).2.2.2.2.2
    rw [← Int32.toInt_inj, ← Int32.toInt_toInt64, e]; decide)
  have nI' : ∀ k, k < 246 → k ≠ 227 → k ≠ 228 → k ≠ 229 → dp_I N k = dp_I P k := fun k h1 h2 h3 h4 => by
    by_cases e : k = 114
    · subst e; funext i; exact (o.2.1 i (by simp)).1
    · exact (o.1 k h1 (by simp [h2, h3, h4]) e).1
  have n114 : dp_I N 114 = dp_I M 114 := by rw [nI' 114 (by omega) (by omega) (by omega) (by omega), pI 114 (by omega), rI 114 (by omega) (by omega)]
  have wm : dp_den true xs xl (d + 7) 550 [.ref 114, .int (nI B)] N = iR 0 N := by
    rw [lm_wrong rfl (by omega) (n := n) (E := E) (by rw [i3, uI_s]) c1 (by rw [n114]; exact a4) hE4, n114, a5, a6, nI' 223 (by omega) (by omega) (by omega) (by omega), p223]
    have e : sl (fun i => dp_J N 229 (B * 20 + i)) n = 0 := by
      rw [sl_c (g := fun k => -(dp_J M 229 (j * 20 + k))) (fun k hk => by rw [i5, fN_in hk, pJ]), sl_neg, ns]; decide
    rw [e]
    unfold wrg
    rw [if_neg (by omega), if_neg (fun z => z rfl), if_neg (Int32.not_le.mpr g31), if_neg (Int32.not_lt.mpr g32), if_pos g33]
  have n0I : ∀ k, dp_I (dp_setI N 114 0 0) k = if k = 114 then uI (dp_I M 114) 0 0 else dp_I N k := fun k => by rw [gII, n114]
  obtain ⟨M3, h1, h2, h3, h4, h5, h6, h7, h8⟩ := lm_posts (xs := xs) (xl := xl) (d := d + 6) (M := dp_setI N 114 0 0) (v1 := nI B) (b := B) (n := n) (E := E) rfl (by omega) (by rw [n0I, if_neg (by omega), i3, uI_s]) c1 (by rw [n0I, if_pos rfl, uI_n (by omega)]; exact a4) g33
  have qI : ∀ k, k < 246 → k ≠ 221 → k ≠ 230 → k ≠ 114 → dp_I M3 k = dp_I N k := fun k y1 y2 y3 y4 => by
    rw [(h2.1 k y1 (by simp [y2, y3]) y4).1, n0I, if_neg y4]
  have q114 : ∀ i, i ≠ 142 → i ≠ 144 → dp_I M3 114 i = uI (dp_I M 114) 0 0 i := fun i y1 y2 => by
    rw [(h2.2.1 i (by simp [y1, y2])).1, n0I, if_pos rfl]
  have qJ : ∀ k, k < 246 → k ≠ 221 → k ≠ 230 → k ≠ 114 → dp_J M3 k = dp_J N k := fun k y1 y2 y3 y4 => by
    rw [(h2.1 k y1 (by simp [y2, y3]) y4).2.1, gJI]
  refine ⟨0, nI B, _, dp_setI (dp_setI (dp_setI M3 114 141 (nI (B + 1))) 224 B (nI j)) 225 j (nI B), wL_reverse_ok (x := nI B) (M1 := M') ?_, ?_, ?_, fun _ => ?_, ?_, ?_, ?_⟩
  · rw [D_X11_reverse_0_den, D_X11_reverse_0_eq, lc_isB a1 hB8, rb_bi, ibz, if_pos k1, lc_state rfl (by omega), rb_bi, c3, if_pos k2, lc_day, rb_bi, ibz, if_pos k3, lc_mayRev rfl (by omega), rb_bi, ibz, c7, c8, if_pos ⟨g2.1, g2.2.1⟩, lc_entries rfl (by omega), rb_bi, lc_take hnn a1 hB8 a3 hE4 c1, rb_bi, ibz, if_pos ⟨hB, g31, g32, g33⟩, f1, rb_bi]
  · rw [mdl _ (by rw [rI _ (by omega) (by omega)]; exact a2) (fun k hk => by rw [rI _ (by omega) (by omega)]), if_pos g2, lm_begins rfl (by omega), rb_bv, hP]
    apply tr
    rw [D_X12_reverse_120_eq]
    simp only [nI_cl (show j < 2147483648 by omega), nI_o (show j < 801 by omega) (by omega), nI_cl (show B < 2147483648 by omega), nI_o (show B < 801 by omega) (by omega), if_false]
    rw [show dp_I N 227 j = nI n by rw [i3, uI_n (by omega), pc 227 j (by omega) (by omega) (by omega)]; exact c2, lm_ix20, if_pos (nI_lle (Nat.le_refl _) (by omega)), wm, rb_bi, if_pos (by decide)]
    simp only [dp_w]
    rw [h1, rb_bv, q114 141 (by omega) (by omega), uI_n (by omega), a2, nI_1]
  · simp only [gII, Nat.reduceEqDiff, if_false, if_true]; rw [uI_n (by omega), q114 0 (by omega) (by omega), uI_s]
  · simp only [gJI]; rw [qJ 245 (by omega) (by omega) (by omega) (by omega), (o.1 245 (by omega) (by decide) (by omega)).2.1]; exact pJ5
  · have X : ∀ k, k < 246 → k ≠ 114 → k ≠ 221 → k ≠ 224 → k ≠ 225 → k ≠ 230 → dp_I (dp_setI (dp_setI (dp_setI M3 114 141 (nI (B + 1))) 224 B (nI j)) 225 j (nI B)) k = dp_I N k := fun k y1 y2 y3 y4 y5 y6 => by
      rw [gII, if_neg y5, gII, if_neg y4, gII, if_neg y2, qI k y1 y3 y6 y2]
    have Y : ∀ k, k < 221 → k ≠ 114 → dp_I (dp_setI (dp_setI (dp_setI M3 114 141 (nI (B + 1))) 224 B (nI j)) 225 j (nI B)) k = dp_I M' k := fun k y1 y2 => by
      rw [X k (by omega) y2 (by omega) (by omega) (by omega) (by omega), nI' k (by omega) (by omega) (by omega) (by omega), pI k (by omega), gIJ]
    have Z : ∀ i, i ≠ 141 → dp_I (dp_setI (dp_setI (dp_setI M3 114 141 (nI (B + 1))) 224 B (nI j)) 225 j (nI B)) 114 i = dp_I M3 114 i := fun i y1 => by
      rw [gII, if_neg (by omega), gII, if_neg (by omega), gII, if_pos rfl, uI_n y1]
    refine h0.book (B := B) (E := E) (n := n) (rb := j) (va := dp_I M 222 j) (kn := v2) (rv := nI j) (ac := fun k => dp_I M 228 (j * 20 + k)) (ce := fun k => (Int32.toInt64 (-(dp_I M 102 (j * 20 + k)))).toInt32) a2 hB a4 hE4 c1 (by omega) g33 (fun k hk => (c15 k hk).2.1) (fun k hk => ?_) ?_ (Or.inr (qin_nI (by omega) (by omega))) ?_ ?_ ?_ (fun i y1 y2 y3 => ?_) (fun b k y1 y2 y3 => ?_) (fun _ => ⟨?_, ?_⟩) ?_ ?_ ?_ ?_ ?_ ?_ ?_ (fun b k y1 y2 y3 => ?_) (fun i hi => ?_) (fun k hk => ?_) ?_ ?_ ?_ ?_ ?_ ?_ (fun i hi => ?_) (fun b hb => ?_) ?_ (fun k hk => ?_)
    · obtain ⟨d1, d2, d3, d4, d5, d6⟩ := c15 k hk
      obtain ⟨y1, y2⟩ := q_neg32 d4 d5
      refine ⟨by omega, by omega, fun e => d6 ?_⟩
      rw [e] at y1
      rw [← Int32.toInt_inj]
      have : (0 : Int32).toInt = 0 := by decide
      omega
    · rw [sl_c (g := fun k => -(dp_J M 229 (j * 20 + k))) (fun k hk => by
        obtain ⟨d1, d2, d3, d4, d5, d6⟩ := c15 k hk
        rw [(q_neg32 d4 d5).2, d3]), sl_neg, ns]; decide
    · rw [Y 97 (by omega) (by omega), f5, uI_n (by omega), uI_n (by omega), uI_s]
    · rw [Y 97 (by omega) (by omega), f5, uI_n (by omega), uI_s]
    · rw [Y 97 (by omega) (by omega), f5, uI_s]
    · rw [Y 97 (by omega) (by omega), f5, uI_n y3, uI_n y2, uI_n y1]
    · rw [Y 100 (by omega) (by omega)]; exact f6 b k y2 (by omega) y3
    · rw [Y 100 (by omega) (by omega)]; exact f7
    · rw [gII, if_pos rfl, uI_s]
    · rw [Y 100 (by omega) (by omega)]; exact f8
    · rw [Y 100 (by omega) (by omega)]; exact f9
    · rw [Y 100 (by omega) (by omega)]; exact f10
    · rw [Y 100 (by omega) (by omega)]; exact f11
    · rw [Y 100 (by omega) (by omega), f12]; exact a15 B 4 (Nat.le_refl _) hB (by omega)
    · rw [Y 100 (by omega) (by omega), f13, c10]
    · rw [Y 100 (by omega) (by omega)]; exact f14
    · rw [Y 100 (by omega) (by omega)]; exact f6 b k y3 (by omega) (by omega)
    · rw [Y 101 (by omega) (by omega), Y 102 (by omega) (by omega), f15, f16, fN_lt hi, fN_lt hi, X 228 (by omega) (by omega) (by omega) (by omega) (by omega) (by omega), i4, fN_lt hi, pI 228 (by omega), rI 228 (by omega) (by omega)]
      refine ⟨rfl, rfl, rfl, ?_⟩
      simp only [gJI]; rw [qJ 229 (by omega) (by omega) (by omega) (by omega), i5, fN_lt hi, pJ]
    · obtain ⟨d1, d2, d3, d4, d5, d6⟩ := c15 k hk
      rw [Y 101 (by omega) (by omega), Y 102 (by omega) (by omega), f15, f16, fN_in hk, fN_in hk, X 228 (by omega) (by omega) (by omega) (by omega) (by omega) (by omega), i4, fN_in hk, pI 228 (by omega), rI 228 (by omega) (by omega)]
      refine ⟨d1, rfl, rfl, ?_⟩
      simp only [gJI]; rw [qJ 229 (by omega) (by omega) (by omega) (by omega), i5, fN_in hk, pJ, (q_neg32 d4 d5).2, d3]
    · rw [Y 103 (by omega) (by omega)]; exact f17
    · rw [Y 104 (by omega) (by omega)]; exact f18
    · simp only [gII, Nat.reduceEqDiff, if_false]; rw [h8, n0I, if_neg (by omega), nI' 230 (by omega) (by omega) (by omega) (by omega), pI 230 (by omega), rI 230 (by omega) (by omega)]
    · simp only [gII, Nat.reduceEqDiff, if_false, if_true]; rw [uI_s]
    · rw [Z 142 (by omega)]; exact h5
    · rw [Z 144 (by omega), h6, n0I, if_neg (by omega), nI' 223 (by omega) (by omega) (by omega) (by omega), p223]
    · rw [Z i (by omega), q114 i (by omega) (by omega), uI_n (by omega)]
    · rw [X 222 (by omega) (by omega) (by omega) (by omega) (by omega) (by omega), X 223 (by omega) (by omega) (by omega) (by omega) (by omega) (by omega), X 226 (by omega) (by omega) (by omega) (by omega) (by omega) (by omega), X 227 (by omega) (by omega) (by omega) (by omega) (by omega) (by omega), nI' 222 (by omega) (by omega) (by omega) (by omega), nI' 223 (by omega) (by omega) (by omega) (by omega), nI' 226 (by omega) (by omega) (by omega) (by omega), i3, uI_n (by omega), pc 222 b (by omega) (by omega) (by omega), pc 223 b (by omega) (by omega) (by omega), pc 226 b (by omega) (by omega) (by omega), pc 227 b (by omega) (by omega) (by omega)]
      simp only [gII, Nat.reduceEqDiff, if_false, if_true]
      refine ⟨?_, trivial, trivial, ?_, fun er => ?_, trivial, trivial⟩
      · rw [h7, uI_n (by omega), n0I, if_neg (by omega), nI' 221 (by omega) (by omega) (by omega) (by omega), pc 221 b (by omega) (by omega) (by omega)]
      · rw [uI_n (by omega), qI 224 (by omega) (by omega) (by omega) (by omega), nI' 224 (by omega) (by omega) (by omega) (by omega), pc 224 b (by omega) (by omega) (by omega)]
      · rw [uI_n er, qI 225 (by omega) (by omega) (by omega) (by omega), nI' 225 (by omega) (by omega) (by omega) (by omega), pc 225 b (by omega) (by omega) (by omega)]
    · rw [X 222 (by omega) (by omega) (by omega) (by omega) (by omega) (by omega), X 223 (by omega) (by omega) (by omega) (by omega) (by omega) (by omega), X 226 (by omega) (by omega) (by omega) (by omega) (by omega) (by omega), X 227 (by omega) (by omega) (by omega) (by omega) (by omega) (by omega), nI' 222 (by omega) (by omega) (by omega) (by omega), nI' 223 (by omega) (by omega) (by omega) (by omega), nI' 226 (by omega) (by omega) (by omega) (by omega), i3, uI_s]
      simp only [gII, Nat.reduceEqDiff, if_false, if_true]
      refine ⟨?_, p222, p223, ?_, ?_, p226, trivial⟩
      · rw [h7, uI_s]
      · rw [uI_s]
      · rw [uI_n (by omega), qI 225 (by omega) (by omega) (by omega) (by omega), nI' 225 (by omega) (by omega) (by omega) (by omega)]; exact p225
    · rw [X k (by omega) (by omega) (by omega) (by omega) (by omega) (by omega), nI' k (by omega) (by omega) (by omega) (by omega), pI k (by omega), rI k (by omega) (by omega)]
  · exact Off.I 225 (by decide) _ _ (Off.I 224 (by decide) _ _ (Off.F 141 (by decide) _ (Off.tr (Off.F 0 (by decide) _ (Off.tr oP (o.mono (by decide) (by decide)))) (h2.mono (by decide) (by decide)))))
  · refine ⟨?_, ?_⟩
    · show dp_n M3 ≤ dp_n M + 1; rw [h3]; show dp_n N ≤ dp_n M + 1; rw [i1, nzP.1]; omega
    · show dp_z M3 ≤ dp_z M + 6; rw [h4]; show dp_z N ≤ dp_z M + 6; rw [i2, nzP.2]; omega
end LEX
