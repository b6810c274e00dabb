/-! THE LEDGER: post, side by side -/
section LEU
variable {xs : Nat → Int32} {xl d : Nat} {M : dp_M}
theorem lc_fail {v1 : Int32} {b : Nat} (h1 : v1 = nI b) (hb : b < 800) : dp_den true xs xl (d + 2) 92 [.ref 97, .int v1] M = if dp_I M 100 (b * 7 + 4) = 0 then iR 0 M else iR 1 (dp_setI (dp_setI M 100 (b * 7 + 4) 0) 97 6 (dp_I M 97 6 + 1)) := by
  subst h1
  rw [D_X3_failIfTold_0_den, D_X3_failIfTold_0_eq, lc_fact rfl (v2 := 4) (k := 4) rfl hb (by omega), rb_bi]
  split
  · rfl
  · rw [lc_set rfl (v2 := 4) (k := 4) rfl hb (by omega), rb_bv]
    simp only [dp_w, gII, Nat.reduceEqDiff, if_false]
/-- a batch goes into the books -/
theorem RelL.posted {M M2 : dp_M} {B E j n : Nat} (h : RelL M) (hB : dp_I M 114 141 = nI B) (hB8 : B ≤ 800) (hj : j < B) (hE : dp_I M 114 142 = nI E) (hE4 : E ≤ 4000) (hst : dp_I M 221 j = 0) (hn : dp_I M 227 j = nI n) (hn20 : n ≤ 20) (h1 : n ≠ 0) (hs : sl (fun k => dp_J M 229 (j * 20 + k)) n = 0) (hEn : E + n ≤ 4000)
    (r97 : dp_I M2 97 = uI (uI (dp_I M 97) 1 (nI (E + n))) 3 (dp_I M 223 j)) (r100 : dp_I M2 100 = uI (dp_I M 100) (j * 7 + 0) 1) (r103 : dp_I M2 103 = fN (dp_I M 103) E n (fun _ => nI j)) (r104 : dp_I M2 104 = fN (dp_I M 104) E n (fun k => nI (j * 20 + k)))
    (r221 : dp_I M2 221 = uI (dp_I M 221) j 1) (r230 : dp_I M2 230 = fN (dp_I M 230) E n (fun k => nI (j * 20 + k))) (q142 : dp_I M2 114 142 = nI (E + n)) (q144 : dp_I M2 114 144 = dp_I M 223 j) (q114 : ∀ i, i ≠ 0 → i ≠ 142 → i ≠ 144 → dp_I M2 114 i = dp_I M 114 i)
    (rest : ∀ k, (k = 98 ∨ k = 99 ∨ k = 101 ∨ k = 102 ∨ k = 222 ∨ k = 223 ∨ k = 224 ∨ k = 225 ∨ k = 226 ∨ k = 227 ∨ k = 228 ∨ k = 231 ∨ k = 232) → dp_I M2 k = dp_I M k) (rJ : dp_J M2 229 = dp_J M 229) : RelL M2 := by
  obtain ⟨B', E', hB8', hE4', a1, a2, a3, a4, a5, a6, a7, a8, a9, a10, a11, a12, a13, a14, a15, a16⟩ := h
  have eB : B' = B := by rw [a2, nI_eq (by omega) (by omega)] at hB; exact hB
  have eE : E' = E := by rw [a4, nI_eq (by omega) (by omega)] at hE; exact hE
  subst eB eE
  refine ⟨B', E' + n, hB8, hEn, by simp [r97, uI, a1], by rw [q114 141 (by omega) (by omega) (by omega)]; exact a2, by simp [r97, uI], q142, ?_, ?_, ?_, ?_, ?_, ?_, ?_, ?_, ?_, fun b hb => ?_, fun b k q1 q2 q3 => ?_, fun i hi => ?_⟩
  · rw [q114 143 (by omega) (by omega) (by omega)]; simp [r97, uI, a5]
  · rw [q144]; simp [r97, uI]
  · rw [q114 145 (by omega) (by omega) (by omega)]; simp [r97, uI, a7]
  · rw [q114 146 (by omega) (by omega) (by omega)]; simp [r97, uI, a8]
  · rw [q114 147 (by omega) (by omega) (by omega)]; simp [r97, uI, a9]
  · rw [rest 231 (by omega), rest 98 (by omega)]; exact a10
  · rw [rest 232 (by omega), rest 99 (by omega)]; exact a11
  · rw [rest 98 (by omega)]; exact a12
  · rw [rest 99 (by omega)]; exact a13
  · by_cases e : b = j
    · subst e
      obtain ⟨n', c1, c2, c3, c4, c5, c6, c7, c8, c9, c10, c11, c12, c13, c14, c15, c16⟩ := a14 b hj
      have en : n' = n := by rw [c2, nI_eq (by omega) (by omega)] at hn; exact hn
      subst en
      refine ⟨n', c1, by rw [rest 227 (by omega)]; exact c2, by rw [r100, r221, uI_s, uI_s], by rw [r221, uI_s]; exact Or.inr (Or.inl rfl), ?_, ?_, ?_, ?_, ?_, ?_, ?_, by rw [rest 226 (by omega)]; exact c12, by rw [rest 224 (by omega)]; exact c13, by rw [rest 225 (by omega)]; exact c14, ?_, ?_⟩
      · intro _; rw [r100, uI_n (by omega)]; exact c5 (by rw [hst]; decide)
      · rw [r221, uI_s]; intro q; cases q
      · rw [r100, uI_n (by omega), rest 224 (by omega)]; exact c7
      · rw [r100, uI_n (by omega), rest 225 (by omega)]; exact c8
      · rw [r100, uI_n (by omega), rest 226 (by omega)]; exact c9
      · rw [r100, uI_n (by omega), rest 222 (by omega)]; exact c10
      · rw [r100, uI_n (by omega), rest 223 (by omega)]; exact c11
      · rw [rest 101 (by omega), rest 102 (by omega), rest 228 (by omega), rJ]; exact c15
      · intro _; rw [rJ]; exact ⟨by omega, hs⟩
    · refine (a14 b hb).same (fun k hk => ?_) (fun k hk => ?_) ?_
      · rw [r100, u2 hk (by omega), if_neg (fun z => e z.1)]
      · rw [rest 101 (by omega), rest 102 (by omega), rest 228 (by omega), rJ]; exact ⟨rfl, rfl, rfl, rfl⟩
      · rw [rest 222 (by omega), rest 223 (by omega), rest 224 (by omega), rest 225 (by omega), rest 226 (by omega), rest 227 (by omega), r221, uI_n e]; exact ⟨rfl, rfl, rfl, rfl, rfl, rfl, rfl⟩
  · rw [r100, u2 q3 (by omega), if_neg (by omega)]; exact a15 b k q1 q2 q3
  · by_cases hi' : i < E'
    · obtain ⟨b, k, n', q1, q2, q3, q4, q5, q6, q7, q8⟩ := a16 i hi'
      have e : b ≠ j := fun e => by rw [e, hst] at q2; cases q2
      refine ⟨b, k, n', q1, by rw [r221, uI_n e]; exact q2, by rw [rest 227 (by omega)]; exact q3, q4, q5, ?_, ?_, ?_⟩
      · rw [r230, fN_lt hi']; exact q6
      · rw [r104, fN_lt hi']; exact q7
      · rw [r103, fN_lt hi']; exact q8
    · obtain ⟨k, rfl⟩ : ∃ k, i = E' + k := ⟨i - E', by omega⟩
      refine ⟨j, k, n, hj, by rw [r221, uI_s], by rw [rest 227 (by omega)]; exact hn, by omega, hn20, ?_, ?_, ?_⟩
      · rw [r230, fN_in (by omega)]
      · rw [r104, fN_in (by omega)]
      · rw [r103, fN_in (by omega)]
/-- post -/
theorem s_post (h : RelL M) (hn : 246 ≤ dp_n M) (v1 : Int32) : ∃ k b M1 M2, dp_den true xs xl (d + 8) 638 [.ref 0, .int v1, .ref 245] M = iR k M1 ∧ dp_den true xs xl (d + 8) 553 [.ref 114, .int v1] M1 = iR b M2 ∧
    dp_I M2 114 0 = k ∧ (k = 0 → dp_J M2 245 0 = b.toInt64) ∧ RelL M2 ∧ Off (245 :: 105 :: RelL_S) (0 :: RelL_T) M M2 ∧ Cst 1 6 M M2 := by
  have h0 := h
  obtain ⟨B, E, hB8, hE4, a1, a2, a3, a4, a5, a6, a7, a8, a9, a10, a11, a12, a13, a14, a15, a16⟩ := h
  by_cases g : qin v1 B ∧ dp_I M 100 (v1.toNatClampNeg * 7 + 0) = 0
  case neg =>
    have g' : ¬ (qin v1 B ∧ dp_I (dp_new M 0 0 6) 221 v1.toNatClampNeg = 0) := fun q => by
      obtain ⟨j, hj, rfl⟩ := qin_of q.1 (by omega)
      apply g
      refine ⟨q.1, ?_⟩
      obtain ⟨n, c1, c2, c3, -⟩ := a14 j hj
      rw [nI_cl (by omega)]
      rw [c3]
      have := q.2
      rw [nI_cl (by omega), gIN (by omega)] at this
      exact this
    have r := h0.refused hn 1
    refine ⟨1, 0, dp_new M 0 0 6, _, wL_post_x0 ?_, ?_, rfl, (fun e => by cases e), r.1, r.2.1.mono (by decide) (by decide), r.2.2⟩
    · rw [D_X11_post_0_den, D_X11_post_0_eq, lc_open a1 hB8, rb_bi, ibz, if_neg g, q_nk hn]
    · rw [D_X12_post_0_den, D_X12_post_0_eq, lm_open (B := B) (by rw [gIN (by omega)]; exact a2) hB8, rb_bi, ibz, if_neg g', q_ref, rb_bi]
  obtain ⟨j, hj, rfl⟩ := qin_of g.1 (by omega)
  have g2 := g.2
  rw [nI_cl (by omega)] at g2
  obtain ⟨n, c1, c2, c3, c4, c5, c6, c7, c8, c9, c10, c11, c12, c13, c14, c15, c16⟩ := a14 j hj
  have hst : dp_I M 221 j = 0 := by rw [← c3]; exact g2
  have hnn : dp_I M 100 (j * 7 + 1) = nI n := c5 (by rw [hst]; decide)
  have ws := wrg_same (M := M) (b := j) (n := n) (E := E) (fun k hk => (c15 k hk).2.2.1) c11 a5 a6
  generalize hw : wrg n (sl (fun i => dp_J M 229 (j * 20 + i)) n) (dp_I M 223 j) (dp_I M 114 143) (dp_I M 114 144) E = w at ws
  by_cases hw0 : w = 0
  case neg =>
    -- the batch is void
    obtain ⟨M', f1, f2, f3, f4, f5, f6⟩ := lc_void (xs := xs) (xl := xl) (d := d + 1) (M := M) (v1 := nI j) (w := w) rfl (by omega) hnn c1 a3 hE4 (fun k hk => by rw [(c15 k hk).1]; exact (c15 k hk).2.1) ws hw0
    have hn' : 246 ≤ dp_n M' := by omega
    have rowI : ∀ k, k < 246 → k ≠ 97 → k ≠ 100 → k ≠ 105 → dp_I (dp_new M' 0 0 6) k = dp_I M k := fun k h1 h2 h3 h4 => by
      rw [gIN (by omega)]
      by_cases e : k = 114
      · subst e; funext i; exact (f2.2.1 i (by simp)).1
      · exact (f2.1 k h1 (by simp [h2, h3, h4]) e).1
    have rowJ : dp_J (dp_new M' 0 0 6) 229 = dp_J M 229 := by
      rw [gJN (by omega)]
      exact (f2.1 229 (by omega) (by decide) (by omega)).2.1
    have nm : ∃ x, (if w = 2 then nI (gA (fun a => sl (fun k => if dp_I M 101 (j * 20 + k) = nI a then (dp_I M 102 (j * 20 + k)).toInt64 else 0) n) 11) else -1) = x ∧ dp_den true xs xl (d + 8) 553 [.ref 114, .int (nI j)] (dp_new M' 0 0 6) = iR 0 (dp_setI (dp_setI (dp_setI (dp_setI (dp_new M' 0 0 6) 114 145 w) 114 146 x) 221 j 2) 114 0 2) := by
      refine ⟨_, rfl, ?_⟩
      have wm : dp_den true xs xl (d + 7) 550 [.ref 114, .int (nI j)] (dp_new M' 0 0 6) = iR w (dp_new M' 0 0 6) := by
        rw [lm_wrong rfl (by omega) (n := n) (E := E) (by rw [rowI _ (by omega) (by omega) (by omega) (by omega)]; exact c2) c1 (by rw [rowI _ (by omega) (by omega) (by omega) (by omega)]; exact a4) hE4]
        rw [rowI 114 (by omega) (by omega) (by omega) (by omega), rowI 223 (by omega) (by omega) (by omega) (by omega), rowJ, hw]
      rw [D_X12_post_0_den, D_X12_post_0_eq, lm_open (B := B) (by rw [rowI _ (by omega) (by omega) (by omega) (by omega)]; exact a2) hB8, rb_bi, ibz, if_pos ⟨g.1, by rw [nI_cl (by omega), rowI _ (by omega) (by omega) (by omega) (by omega)]; exact hst⟩, wm, rb_bi]
      have w5 : ¬ w ≤ 0 := by
        rw [← hw] at hw0 ⊢
        exact wrg_pos hw0
      rw [if_neg w5]
      simp only [dp_w, nI_cl (show j < 2147483648 by omega), nI_o (show j < 801 by omega) (by omega), if_false]
      by_cases c : w = 2
      · rw [if_pos c, lm_greatest rfl (by omega) (n := n) (by simp only [gII, Nat.reduceEqDiff, if_false]; rw [rowI _ (by omega) (by omega) (by omega) (by omega)]; exact c2) c1, rb_bi, q_ref, rb_bi, if_pos c]
        have e := named_same (M := M) (b := j) c1 c15 (by rw [c] at hw; exact wrg_2 hw)
        simp only [gII, gJI, Nat.reduceEqDiff, if_false]
        rw [rowI 228 (by omega) (by omega) (by omega) (by omega), rowJ, e]
      · rw [if_neg c, q_ref, rb_bi, if_neg c]
    obtain ⟨x, hx, nm⟩ := nm
    rw [hx] at f5
    refine ⟨2, 0, dp_new M' 0 0 6, _, wL_post_x1 ?_, nm, by simp [gII, gIJ, gIR, gJI, gJJ, gJR, gRI, gRJ, glI, glJ, glR, uI], (fun e => by cases e), ?_, ?_, ?_⟩
    · rw [D_X11_post_0_den, D_X11_post_0_eq, lc_open a1 hB8, rb_bi, ibz, if_pos g, f1, rb_bi, if_neg (by decide), q_nk hn']
    · have r97 : dp_I (dp_new M' 0 0 6) 97 = uI (uI (dp_I M 97) 4 w) 5 x := by rw [gIN (by omega), f5]
      have r100 : dp_I (dp_new M' 0 0 6) 100 = uI (uI (dp_I M 100) (j * 7 + 0) 2) (j * 7 + 1) 0 := by rw [gIN (by omega), f6]
      have r114 : dp_I (dp_new M' 0 0 6) 114 = dp_I M 114 := rowI 114 (by omega) (by omega) (by omega) (by omega)
      have rr : ∀ k, k < 246 → k ≠ 97 → k ≠ 100 → k ≠ 105 → k ≠ 114 → k ≠ 221 → dp_I (dp_setI (dp_setI (dp_setI (dp_setI (dp_new M' 0 0 6) 114 145 w) 114 146 x) 221 j 2) 114 0 2) k = dp_I M k := fun k h1 h2 h3 h4 h5 h6 => by
        rw [gII, if_neg h5, gII, if_neg h6, gII, if_neg h5, gII, if_neg h5, rowI k h1 h2 h3 h4]
      refine ⟨B, E, hB8, hE4, ?_, ?_, ?_, ?_, ?_, ?_, ?_, ?_, ?_, ?_, ?_, ?_, ?_, fun b hb => ?_, fun b k q1 q2 q3 => ?_, fun i hi => ?_⟩
      · simp [gII, r97, uI, a1]
      · simp [gII, r114, uI, a2]
      · simp [gII, r97, uI, a3]
      · simp [gII, r114, uI, a4]
      · simp [gII, r97, r114, uI, a5]
      · simp [gII, r97, r114, uI, a6]
      · simp [gII, r97, r114, uI]
      · simp [gII, r97, r114, uI]
      · simp [gII, r97, r114, uI, a9]
      · rw [rr 231 (by omega) (by omega) (by omega) (by omega) (by omega) (by omega), rr 98 (by omega) (by omega) (by omega) (by omega) (by omega) (by omega)]; exact a10
      · rw [rr 232 (by omega) (by omega) (by omega) (by omega) (by omega) (by omega), rr 99 (by omega) (by omega) (by omega) (by omega) (by omega) (by omega)]; exact a11
      · rw [rr 98 (by omega) (by omega) (by omega) (by omega) (by omega) (by omega)]; exact a12
      · rw [rr 99 (by omega) (by omega) (by omega) (by omega) (by omega) (by omega)]; exact a13
      · have cols : ∀ k, (k = 222 ∨ k = 223 ∨ k = 224 ∨ k = 225 ∨ k = 226 ∨ k = 227 ∨ k = 228 ∨ k = 101 ∨ k = 102) → dp_I (dp_setI (dp_setI (dp_setI (dp_setI (dp_new M' 0 0 6) 114 145 w) 114 146 x) 221 j 2) 114 0 2) k = dp_I M k := fun k hk => rr k (by omega) (by omega) (by omega) (by omega) (by omega) (by omega)
        by_cases e : b = j
        · subst e
          refine ⟨n, c1, by rw [cols 227 (by omega)]; exact c2, ?_, Or.inr (Or.inr ?_), ?_, ?_, ?_, ?_, ?_, ?_, ?_, by rw [cols 226 (by omega)]; exact c12, by rw [cols 224 (by omega)]; exact c13, by rw [cols 225 (by omega)]; exact c14, fun k hk => ?_, ?_⟩
          · simp only [gII, Nat.reduceEqDiff, if_true, if_false, r100]; rw [uI_s, uI_n (by omega), uI_s]
          · simp [gII, uI]
          · intro q; simp [gII, uI] at q
          · intro q; simp only [gII, Nat.reduceEqDiff, if_true, if_false, r100]; rw [uI_s]
          · rw [cols 224 (by omega)]; simp only [gII, Nat.reduceEqDiff, if_true, if_false, r100]; rw [uI_n (by omega), uI_n (by omega)]; exact c7
          · rw [cols 225 (by omega)]; simp only [gII, Nat.reduceEqDiff, if_true, if_false, r100]; rw [uI_n (by omega), uI_n (by omega)]; exact c8
          · rw [cols 226 (by omega)]; simp only [gII, Nat.reduceEqDiff, if_true, if_false, r100]; rw [uI_n (by omega), uI_n (by omega)]; exact c9
          · rw [cols 222 (by omega)]; simp only [gII, Nat.reduceEqDiff, if_true, if_false, r100]; rw [uI_n (by omega), uI_n (by omega)]; exact c10
          · rw [cols 223 (by omega)]; simp only [gII, Nat.reduceEqDiff, if_true, if_false, r100]; rw [uI_n (by omega), uI_n (by omega)]; exact c11
          · rw [cols 101 (by omega), cols 102 (by omega), cols 228 (by omega)]; simp only [gJI, rowJ]; exact c15 k hk
          · intro q; simp [gII, uI] at q
        · refine (a14 b hb).same (fun k hk => ?_) (fun k hk => ?_) ?_
          · simp only [gII, Nat.reduceEqDiff, if_true, if_false, r100]; rw [u2 hk (by omega), if_neg (fun z => e z.1), u2 hk (by omega), if_neg (fun z => e z.1)]
          · rw [cols 101 (by omega), cols 102 (by omega), cols 228 (by omega)]; refine ⟨rfl, rfl, rfl, ?_⟩; simp only [gJI, rowJ]
          · rw [cols 222 (by omega), cols 223 (by omega), cols 224 (by omega), cols 225 (by omega), cols 226 (by omega), cols 227 (by omega)]
            refine ⟨?_, rfl, rfl, rfl, rfl, rfl, rfl⟩
            simp only [gII, Nat.reduceEqDiff, if_true, if_false]; rw [uI_n e, rowI 221 (by omega) (by omega) (by omega) (by omega)]
      · simp only [gII, Nat.reduceEqDiff, if_true, if_false, r100]; rw [u2 q3 (by omega), if_neg (by omega), u2 q3 (by omega), if_neg (by omega)]; exact a15 b k q1 q2 q3
      · obtain ⟨b, k, n', q1, q2, q3, q4⟩ := a16 i hi
        have e : b ≠ j := fun e => by rw [e, hst] at q2; cases q2
        refine ⟨b, k, n', q1, ?_, ?_, ?_⟩
        · simp only [gII, Nat.reduceEqDiff, if_true, if_false]; rw [uI_n e, rowI 221 (by omega) (by omega) (by omega) (by omega)]; exact q2
        · rw [rr 227 (by omega) (by omega) (by omega) (by omega) (by omega) (by omega)]; exact q3
        · rw [rr 230 (by omega) (by omega) (by omega) (by omega) (by omega) (by omega), rr 103 (by omega) (by omega) (by omega) (by omega) (by omega) (by omega), rr 104 (by omega) (by omega) (by omega) (by omega) (by omega) (by omega)]; exact q4
    · refine Off.F 0 (by decide) _ (Off.I 221 (by decide) _ _ (Off.F 146 (by decide) _ (Off.F 145 (by decide) _ (Off.N hn 0 0 6 (f2.mono (by decide) (by decide))))))
    · refine ⟨?_, ?_⟩
      · show dp_n M' + 1 ≤ dp_n M + 1; omega
      · show dp_z M' + 6 ≤ dp_z M + 6; omega
  subst hw0
  obtain ⟨z1, z2, z3, z4, z5⟩ := wrg_0 hw
  have wm : ∀ N, dp_I N 227 j = nI n → dp_I N 114 142 = nI E → dp_J N 229 = dp_J M 229 → dp_I N 223 = dp_I M 223 → dp_I N 114 143 = dp_I M 114 143 → dp_I N 114 144 = dp_I M 114 144 → dp_den true xs xl (d + 7) 550 [.ref 114, .int (nI j)] N = iR 0 N := fun N q1 q2 q3 q4 q5 q6 => by
    rw [lm_wrong rfl (by omega) (n := n) (E := E) q1 c1 q2 hE4, q3, q4, q5, q6, hw]
  by_cases hf : dp_I M 226 j = 0
  case neg =>
    -- it fails as told
    have hf1 : dp_I M 226 j = 1 := c12.resolve_left hf
    have m1 : dp_den true xs xl (d + 8) 553 [.ref 114, .int (nI j)] (dp_new (dp_setI (dp_setI M 100 (j * 7 + 4) 0) 97 6 (dp_I M 97 6 + 1)) 0 0 6) = iR 0 (dp_setI (dp_setI (dp_setI (dp_new (dp_setI (dp_setI M 100 (j * 7 + 4) 0) 97 6 (dp_I M 97 6 + 1)) 0 0 6) 226 j 0) 114 147 (dp_I M 114 147 + 1)) 114 0 3) := by
      have rowI : ∀ k, k < 246 → k ≠ 97 → k ≠ 100 → dp_I (dp_new (dp_setI (dp_setI M 100 (j * 7 + 4) 0) 97 6 (dp_I M 97 6 + 1)) 0 0 6) k = dp_I M k := fun k h1 h2 h3 => by
        rw [gIN (by simp only [gnI]; omega), gII, if_neg h2, gII, if_neg h3]
      rw [D_X12_post_0_den, D_X12_post_0_eq, lm_open (B := B) (by rw [rowI _ (by omega) (by omega) (by omega)]; exact a2) hB8, rb_bi, ibz, if_pos ⟨g.1, by rw [nI_cl (by omega), rowI _ (by omega) (by omega) (by omega)]; exact hst⟩, wm _ (by rw [rowI _ (by omega) (by omega) (by omega)]; exact c2) (by rw [rowI _ (by omega) (by omega) (by omega)]; exact a4) (by rw [gJN (by simp only [gnI]; omega), gJI, gJI]) (by rw [rowI _ (by omega) (by omega) (by omega)]) (by rw [rowI _ (by omega) (by omega) (by omega)]) (by rw [rowI _ (by omega) (by omega) (by omega)]), rb_bi, if_pos (by decide)]
      simp only [nI_cl (show j < 2147483648 by omega), nI_o (show j < 801 by omega) (by omega), if_false, rowI 226 (by omega) (by omega) (by omega), if_neg hf, dp_w, gII, Nat.reduceEqDiff, rowI 114 (by omega) (by omega) (by omega), q_ref, rb_bi]
      rfl
    refine ⟨3, 0, _, _, wL_post_x3 ?_, m1, by simp [gII, gIJ, gIR, gJI, gJJ, gJR, gRI, gRJ, glI, glJ, glR, uI], (fun e => by cases e), ?_, ?_, ⟨Nat.le_refl _, Nat.le_refl _⟩⟩
    · rw [D_X11_post_0_den, D_X11_post_0_eq, lc_open a1 hB8, rb_bi, ibz, if_pos g, lc_void0 rfl (by omega) hnn c1 a3 hE4 ws, rb_bi, if_pos rfl, lc_fail rfl (by omega), c9, if_neg hf, rb_bi, if_neg (by decide), q_nk (by simp only [gnI]; exact hn)]
    · have hN : ∀ k, k < 246 → k < dp_n (dp_setI (dp_setI M 100 (j * 7 + 4) 0) 97 6 (dp_I M 97 6 + 1)) := fun k hk => by simp only [gnI]; omega
      have rr : ∀ k, k < 246 → k ≠ 97 → k ≠ 100 → k ≠ 114 → k ≠ 226 → dp_I (dp_setI (dp_setI (dp_setI (dp_new (dp_setI (dp_setI M 100 (j * 7 + 4) 0) 97 6 (dp_I M 97 6 + 1)) 0 0 6) 226 j 0) 114 147 (dp_I M 114 147 + 1)) 114 0 3) k = dp_I M k := fun k h1 h2 h3 h4 h5 => by
        rw [gII, if_neg h4, gII, if_neg h4, gII, if_neg h5, gIN (hN k h1), gII, if_neg h2, gII, if_neg h3]
      have r97 : dp_I (dp_setI (dp_setI (dp_setI (dp_new (dp_setI (dp_setI M 100 (j * 7 + 4) 0) 97 6 (dp_I M 97 6 + 1)) 0 0 6) 226 j 0) 114 147 (dp_I M 114 147 + 1)) 114 0 3) 97 = uI (dp_I M 97) 6 (dp_I M 97 6 + 1) := by
        rw [gII, if_neg (by omega), gII, if_neg (by omega), gII, if_neg (by omega), gIN (hN _ (by omega)), gII, if_pos rfl, gII, if_neg (by omega)]
      have r100 : dp_I (dp_setI (dp_setI (dp_setI (dp_new (dp_setI (dp_setI M 100 (j * 7 + 4) 0) 97 6 (dp_I M 97 6 + 1)) 0 0 6) 226 j 0) 114 147 (dp_I M 114 147 + 1)) 114 0 3) 100 = uI (dp_I M 100) (j * 7 + 4) 0 := by
        rw [gII, if_neg (by omega), gII, if_neg (by omega), gII, if_neg (by omega), gIN (hN _ (by omega)), gII, if_neg (by omega), gII, if_pos rfl]
      have r226 : dp_I (dp_setI (dp_setI (dp_setI (dp_new (dp_setI (dp_setI M 100 (j * 7 + 4) 0) 97 6 (dp_I M 97 6 + 1)) 0 0 6) 226 j 0) 114 147 (dp_I M 114 147 + 1)) 114 0 3) 226 = uI (dp_I M 226) j 0 := by
        rw [gII, if_neg (by omega), gII, if_neg (by omega), gII, if_pos rfl, gIN (hN _ (by omega)), gII, if_neg (by omega), gII, if_neg (by omega)]
      have r114 : dp_I (dp_setI (dp_setI (dp_setI (dp_new (dp_setI (dp_setI M 100 (j * 7 + 4) 0) 97 6 (dp_I M 97 6 + 1)) 0 0 6) 226 j 0) 114 147 (dp_I M 114 147 + 1)) 114 0 3) 114 = uI (uI (dp_I M 114) 147 (dp_I M 114 147 + 1)) 0 3 := by
        rw [gII, if_pos rfl, gII, if_pos rfl, gII, if_neg (by omega), gIN (hN _ (by omega)), gII, if_neg (by omega), gII, if_neg (by omega)]
      have rJ : dp_J (dp_setI (dp_setI (dp_setI (dp_new (dp_setI (dp_setI M 100 (j * 7 + 4) 0) 97 6 (dp_I M 97 6 + 1)) 0 0 6) 226 j 0) 114 147 (dp_I M 114 147 + 1)) 114 0 3) 229 = dp_J M 229 := by
        rw [gJI, gJI, gJI, gJN (hN _ (by omega)), gJI, gJI]
      generalize (dp_setI (dp_setI (dp_setI (dp_new (dp_setI (dp_setI M 100 (j * 7 + 4) 0) 97 6 (dp_I M 97 6 + 1)) 0 0 6) 226 j 0) 114 147 (dp_I M 114 147 + 1)) 114 0 3) = M2 at *
      have cols : ∀ k, (k = 221 ∨ k = 222 ∨ k = 223 ∨ k = 224 ∨ k = 225 ∨ k = 227 ∨ k = 228 ∨ k = 101 ∨ k = 102 ∨ k = 98 ∨ k = 99 ∨ k = 231 ∨ k = 232 ∨ k = 230 ∨ k = 103 ∨ k = 104) → dp_I M2 k = dp_I M k := fun k hk => rr k (by omega) (by omega) (by omega) (by omega) (by omega)
      refine ⟨B, E, hB8, hE4, by simp [r97, uI, a1], by simp [r114, uI, a2], by simp [r97, uI, a3], by simp [r114, uI, a4], by simp [r97, r114, uI, a5], by simp [r97, r114, uI, a6], by simp [r97, r114, uI, a7], by simp [r97, r114, uI, a8], by simp [r97, r114, uI, a9], ?_, ?_, ?_, ?_, fun b hb => ?_, fun b k q1 q2 q3 => ?_, ?_⟩
      · rw [cols 231 (by omega), cols 98 (by omega)]; exact a10
      · rw [cols 232 (by omega), cols 99 (by omega)]; exact a11
      · rw [cols 98 (by omega)]; exact a12
      · rw [cols 99 (by omega)]; exact a13
      · by_cases e : b = j
        · subst e
          refine ⟨n, c1, by rw [cols 227 (by omega)]; exact c2, ?_, by rw [cols 221 (by omega)]; exact c4, ?_, ?_, ?_, ?_, ?_, ?_, ?_, ?_, by rw [cols 224 (by omega)]; exact c13, by rw [cols 225 (by omega)]; exact c14, ?_, ?_⟩
          · rw [r100, uI_n (by omega), cols 221 (by omega)]; exact c3
          · rw [r100, uI_n (by omega), cols 221 (by omega)]; exact c5
          · rw [r100, uI_n (by omega), cols 221 (by omega)]; exact c6
          · rw [r100, uI_n (by omega), cols 224 (by omega)]; exact c7
          · rw [r100, uI_n (by omega), cols 225 (by omega)]; exact c8
          · rw [r100, uI_s, r226, uI_s]
          · rw [r100, uI_n (by omega), cols 222 (by omega)]; exact c10
          · rw [r100, uI_n (by omega), cols 223 (by omega)]; exact c11
          · rw [r226, uI_s]; exact Or.inl rfl
          · rw [cols 101 (by omega), cols 102 (by omega), cols 228 (by omega), rJ]; exact c15
          · rw [cols 221 (by omega), rJ]; exact c16
        · refine (a14 b hb).same (fun k hk => ?_) (fun k hk => ?_) ?_
          · rw [r100, u2 hk (by omega), if_neg (fun z => e z.1)]
          · rw [cols 101 (by omega), cols 102 (by omega), cols 228 (by omega), rJ]; exact ⟨rfl, rfl, rfl, rfl⟩
          · rw [cols 221 (by omega), cols 222 (by omega), cols 223 (by omega), cols 224 (by omega), cols 225 (by omega), cols 227 (by omega), r226, uI_n e]; exact ⟨rfl, rfl, rfl, rfl, rfl, rfl, rfl⟩
      · rw [r100, u2 q3 (by omega), if_neg (by omega)]; exact a15 b k q1 q2 q3
      · rw [cols 221 (by omega), cols 227 (by omega), cols 230 (by omega), cols 103 (by omega), cols 104 (by omega)]; exact a16
    · refine Off.F 0 (by decide) _ (Off.F 147 (by decide) _ (Off.I 226 (by decide) _ _ (Off.N hn 0 0 6 (Off.I 97 (by decide) _ _ (Off.I 100 (by decide) _ _ (Off.rr _ _ M))))))
  -- it is posted
  obtain ⟨M', f1, f2, f3, f4, f5, f6, f7, f8⟩ := lc_enter (xs := xs) (xl := xl) (d := d + 3) (M := M) (v1 := nI j) rfl (by omega) hnn c1 a3 z5
  have rI : ∀ k, k < 246 → k ≠ 97 → k ≠ 100 → k ≠ 103 → k ≠ 104 → dp_I M' k = dp_I M k := fun k h1 h2 h3 h4 h5 => by
    by_cases e : k = 114
    · subst e; funext i; exact (f2.2.1 i (by simp)).1
    · exact (f2.1 k h1 (by simp [h2, h3, h4, h5]) e).1
  have rJ : dp_J M' 229 = dp_J M 229 := (f2.1 229 (by omega) (by decide) (by omega)).2.1
  have hN : ∀ k, dp_I (dp_setI (dp_setJ M' 245 0 (1 : Int32).toInt64) 114 0 0) k = if k = 114 then uI (dp_I M' 114) 0 0 else dp_I M' k := fun k => by rw [gII, gIJ]
  obtain ⟨M2, g1, g2, g3, g4, g5, g6, g7, g8⟩ := lm_posts (xs := xs) (xl := xl) (d := d + 6) (M := dp_setI (dp_setJ M' 245 0 (1 : Int32).toInt64) 114 0 0) (v1 := nI j) (b := j) (n := n) (E := E) rfl (by omega) (by rw [hN, if_neg (by omega), rI _ (by omega) (by omega) (by omega) (by omega) (by omega)]; exact c2) c1 (by rw [hN, if_pos rfl, uI_n (by omega), rI _ (by omega) (by omega) (by omega) (by omega) (by omega)]; exact a4) z5
  have sI : ∀ k, k < 246 → k ≠ 221 → k ≠ 230 → k ≠ 114 → dp_I M2 k = dp_I M' k := fun k h1 h2 h3 h4 => by
    rw [(g2.1 k h1 (by simp [h2, h3]) h4).1, hN, if_neg h4]
  refine ⟨0, 1, _, M2, wL_post_ok (x := 1) (M1 := M') ?_, ?_, ?_, fun _ => ?_, ?_, ?_, ?_⟩
  · rw [D_X11_post_0_den, D_X11_post_0_eq, lc_open a1 hB8, rb_bi, ibz, if_pos g, lc_void0 rfl (by omega) hnn c1 a3 hE4 ws, rb_bi, if_pos rfl, lc_fail rfl (by omega), c9, if_pos hf, rb_bi, if_pos rfl, f1, rb_bv]
  · have t : ∀ k, k ≠ 97 → k < 246 → k ≠ 100 → k ≠ 103 → k ≠ 104 → dp_I (dp_setJ M' 245 0 (1 : Int32).toInt64) k = dp_I M k := fun k h1 h2 h3 h4 h5 => by rw [gIJ, rI k h2 h1 h3 h4 h5]
    rw [D_X12_post_0_den, D_X12_post_0_eq, lm_open (B := B) (by rw [t _ (by omega) (by omega) (by omega) (by omega) (by omega)]; exact a2) hB8, rb_bi, ibz, if_pos ⟨g.1, by rw [nI_cl (by omega), t _ (by omega) (by omega) (by omega) (by omega) (by omega)]; exact hst⟩, wm _ (by rw [t _ (by omega) (by omega) (by omega) (by omega) (by omega)]; exact c2) (by rw [t _ (by omega) (by omega) (by omega) (by omega) (by omega)]; exact a4) (by rw [gJJ, if_neg (by omega), rJ]) (by rw [t _ (by omega) (by omega) (by omega) (by omega) (by omega)]) (by rw [t _ (by omega) (by omega) (by omega) (by omega) (by omega)]) (by rw [t _ (by omega) (by omega) (by omega) (by omega) (by omega)]), rb_bi, if_pos (by decide)]
    simp only [nI_cl (show j < 2147483648 by omega), nI_o (show j < 801 by omega) (by omega), if_false, t 226 (by omega) (by omega) (by omega) (by omega) (by omega), if_pos hf, dp_w]
    rw [g1, rb_bv]
  · rw [(g2.2.1 0 (by decide)).1, hN, if_pos rfl, uI_s]
  · rw [(g2.1 245 (by omega) (by decide) (by omega)).2.1, gJI, gJJ, if_pos rfl, uI_s]
  · have q5 : dp_I M 100 (j * 7 + 6) = dp_I M 223 j := c11
    refine h0.posted (j := j) (n := n) a2 hB8 hj a4 hE4 hst c2 c1 z1 z2 z5 ?_ ?_ ?_ ?_ ?_ ?_ g5 ?_ (fun i h1 h2 h3 => ?_) (fun k hk => ?_) ?_
    · rw [sI _ (by omega) (by omega) (by omega) (by omega), f5, q5]
    · rw [sI _ (by omega) (by omega) (by omega) (by omega), f6]
    · rw [sI _ (by omega) (by omega) (by omega) (by omega), f7]
    · rw [sI _ (by omega) (by omega) (by omega) (by omega), f8]
    · rw [g7, hN, if_neg (by omega), rI _ (by omega) (by omega) (by omega) (by omega) (by omega)]
    · rw [g8, hN, if_neg (by omega), rI _ (by omega) (by omega) (by omega) (by omega) (by omega)]
    · rw [g6, hN, if_neg (by omega), rI _ (by omega) (by omega) (by omega) (by omega) (by omega)]
    · rw [(g2.2.1 i (by simp [h2, h3])).1, hN, if_pos rfl, uI_n h1, rI _ (by omega) (by omega) (by omega) (by omega) (by omega)]
    · rw [sI _ (by omega) (by omega) (by omega) (by omega), rI _ (by omega) (by omega) (by omega) (by omega) (by omega)]
    · rw [(g2.1 229 (by omega) (by decide) (by omega)).2.1, gJI, gJJ, if_neg (by omega), rJ]
  · exact Off.tr (Off.F 0 (by decide) _ (Off.J 245 (by decide) _ _ (f2.mono (by decide) (by decide)))) (g2.mono (by decide) (by decide))
  · refine ⟨?_, ?_⟩
    · rw [g3]; show dp_n M' ≤ dp_n M + 1; omega
    · rw [g4]; show dp_z M' ≤ dp_z M + 6; omega
end LEU
