/-! THE LEDGER: posting -/
/-- what is wrong with a batch of n entries, of sum s, known on kn -/
def wrg (n : Nat) (s : Int64) (kn cl la : Int32) (E : Nat) : Int32 := if n = 0 then 1 else if s ≠ 0 then 2 else if kn ≤ cl then 3 else if kn < la then 4 else if E + n ≤ 4000 then 0 else 5
section LEP
variable {xs : Nat → Int32} {xl d : Nat} {M : dp_M}
theorem lc_wrong {v1 : Int32} {b n E : Nat} (h1 : v1 = nI b) (hb : b < 800) (hn : dp_I M 100 (b * 7 + 1) = nI n) (h20 : n ≤ 20) (hE : dp_I M 97 1 = nI E) (hE4 : E ≤ 4000) : dp_den true xs xl (d + 4) 89 [.ref 97, .int v1] M =
    iR (wrg n (sl (fun i => (dp_I M 102 (b * 20 + i)).toInt64) n) (dp_I M 100 (b * 7 + 6)) (dp_I M 97 2) (dp_I M 97 3) E) M := by
  subst h1
  rw [D_X3_wrongWith_0_den, D_X3_wrongWith_0_eq, lc_entries rfl hb, rb_bi, hn]
  unfold wrg
  by_cases c1 : n = 0
  · subst c1; rw [if_pos (by rfl), if_pos rfl]
  rw [if_neg (nI_ne0 (by omega) (by omega)), if_neg c1, lc_sumOf rfl hb hn h20, rb_bl]
  simp only [lg_cmp_eq]
  generalize sl (fun i => (dp_I M 102 (b * 20 + i)).toInt64) n = s
  by_cases c2 : s = 0
  · rw [if_pos c2, if_neg (fun q => q c2), lc_fact rfl (v2 := 6) (k := 6) rfl hb (by omega), rb_bi]
    by_cases c3 : dp_I M 97 2 < dp_I M 100 (b * 7 + 6)
    · rw [if_pos c3, if_neg (Int32.not_le.mpr c3), lc_fact rfl (v2 := 6) (k := 6) rfl hb (by omega), rb_bi, lc_early, rb_bi, ibz]
      by_cases c4 : dp_I M 100 (b * 7 + 6) < dp_I M 97 3
      · rw [if_pos (Or.inr c4), if_pos c4]
      · rw [if_neg (not_or.mpr ⟨Int32.not_le.mpr c3, c4⟩), if_neg c4, lc_entries rfl hb, rb_bi, lc_room, rb_bi, ibz, hE, hn, nI_add]
        by_cases c5 : E + n ≤ 4000
        · rw [if_pos (show ¬ (4000 : Int32) < nI (E + n) from nI_nlt (a := 4000) (b := E + n) (by omega) (by omega)), if_pos c5]
        · rw [if_neg (fun q => q (show (4000 : Int32) < nI (E + n) from nI_lt (a := 4000) (b := E + n) (by omega) (by omega))), if_neg c5]
    · rw [if_neg c3, if_pos (Int32.not_lt.mp c3)]
  · rw [if_neg c2, if_pos c2]
theorem lm_wrong {v1 : Int32} {b n E : Nat} (h1 : v1 = nI b) (hb : b < 801) (hn : dp_I M 227 b = nI n) (h20 : n ≤ 20) (hE : dp_I M 114 142 = nI E) (hE4 : E ≤ 4000) : dp_den true xs xl (d + 4) 550 [.ref 114, .int v1] M =
    iR (wrg n (sl (fun i => dp_J M 229 (b * 20 + i)) n) (dp_I M 223 b) (dp_I M 114 143) (dp_I M 114 144) E) M := by
  subst h1
  rw [D_X12_wrongWith_0_den, D_X12_wrongWith_0_eq, if_neg (nI_inn hb (by omega)), nI_cl (by omega), hn]
  unfold wrg
  by_cases c1 : n = 0
  · subst c1; rw [if_pos (by rfl), if_pos rfl]
  rw [if_neg (nI_ne0 (by omega) (by omega)), if_neg c1, lm_sumIn rfl hb hn h20, rb_bl]
  simp only [lg_cmp_eq, true_or, if_true, nI_o hb (show b < 2147483648 by omega), if_false]
  generalize sl (fun i => dp_J M 229 (b * 20 + i)) n = s
  by_cases c2 : s = 0
  · rw [if_pos c2, if_neg (show ¬ s ≠ 0 from fun q => q c2)]
    by_cases c3 : dp_I M 114 143 < dp_I M 223 b
    · rw [if_pos c3, if_neg (Int32.not_le.mpr c3)]
      by_cases c4 : dp_I M 223 b < dp_I M 114 144
      · rw [if_neg (Int32.not_le.mpr c4), if_pos c4]
      · rw [if_pos (Int32.not_lt.mp c4), if_neg c4, hE, hn, nI_add]
        by_cases c5 : E + n ≤ 4000
        · rw [if_pos (show nI (E + n) ≤ (4000 : Int32) from nI_le (a := E + n) (b := 4000) (by omega) (by omega)), if_pos c5]
        · rw [if_neg (show ¬ nI (E + n) ≤ (4000 : Int32) from nI_ge (a := 4000) (b := E + n) (by omega) (by omega)), if_neg c5]
    · rw [if_neg c3, if_pos (Int32.not_lt.mp c3)]
  · rw [if_neg c2, if_pos c2]
/-- enter: the entries go into the books -/
theorem lc_enter {v1 : Int32} {b n E : Nat} (h1 : v1 = nI b) (hb : b < 800) (hn : dp_I M 100 (b * 7 + 1) = nI n) (h20 : n ≤ 20) (hE : dp_I M 97 1 = nI E) (hE4 : E + n ≤ 4000) : ∃ M', dp_den true xs xl (d + 3) 93 [.ref 97, .int v1] M = vR M' ∧
    Off [97, 100, 103, 104] [] M M' ∧ dp_n M' = dp_n M ∧ dp_z M' = dp_z M ∧ dp_I M' 97 = uI (uI (dp_I M 97) 1 (nI (E + n))) 3 (dp_I M 100 (b * 7 + 6)) ∧ dp_I M' 100 = uI (dp_I M 100) (b * 7 + 0) 1 ∧
    dp_I M' 103 = fN (dp_I M 103) E n (fun _ => nI b) ∧ dp_I M' 104 = fN (dp_I M 104) E n (fun k => nI (b * 20 + k)) := by
  subst h1
  have key := lpi (F := fun i N => D_X3_enter_2 xs xl (d + 2) (nI b) (nI i) N) (a := 0) (N := n)
    (Inv := fun i N => Off [97, 100, 103, 104] [] M N ∧ dp_n N = dp_n M ∧ dp_z N = dp_z M ∧ dp_I N 97 = uI (dp_I M 97) 1 (nI (E + i)) ∧ dp_I N 100 = dp_I M 100 ∧
      dp_I N 103 = fN (dp_I M 103) E i (fun _ => nI b) ∧ dp_I N 104 = fN (dp_I M 104) E i (fun k => nI (b * 20 + k)))
    (Post := fun r => ∃ M', r = (.inl none, M') ∧ Off [97, 100, 103, 104] [] M M' ∧ dp_n M' = dp_n M ∧ dp_z M' = dp_z M ∧ dp_I M' 97 = uI (uI (dp_I M 97) 1 (nI (E + n))) 3 (dp_I M 100 (b * 7 + 6)) ∧ dp_I M' 100 = uI (dp_I M 100) (b * 7 + 0) 1 ∧
      dp_I M' 103 = fN (dp_I M 103) E n (fun _ => nI b) ∧ dp_I M' 104 = fN (dp_I M 104) E n (fun k => nI (b * 20 + k)))
    (Nat.zero_le _) ?_ ?_ M ?_
  · obtain ⟨r, hr, M', rfl, q⟩ := key
    refine ⟨M', ?_, q⟩
    rw [D_X3_enter_0_den, D_X3_enter_0_eq]
    exact hr
  · rintro N ⟨o, i1, i2, i3, i4, i5, i6⟩
    have hn' : dp_I N 100 (b * 7 + 1) = nI n := by rw [i4]; exact hn
    refine ⟨(.inl none, dp_setI (dp_setI N 100 (b * 7 + 0) 1) 97 3 (dp_I M 100 (b * 7 + 6))), ?_, _, rfl, ?_⟩
    · try dsimp only
      rw [D_X3_enter_2_eq, lc_entries rfl hb, rb_bi, hn', if_pos (nI_lle (Nat.le_refl _) (by omega)), lc_set rfl (v2 := 0) (k := 0) rfl hb (by omega), rb_bv, lc_fact rfl (v2 := 6) (k := 6) rfl hb (by omega), rb_bi]
      simp only [dp_w, gII, if_true, i4, u2 (show 6 < 7 by omega) (show 0 < 7 by omega), Nat.reduceEqDiff, and_false, if_false]
    · refine ⟨(o.I 100 (by decide) _ _).I 97 (by decide) _ _, i1, i2, ?_, ?_, ?_, ?_⟩
      · simp [gII, i3, i4, u2]
      · simp [gII, i4]
      · simp [gII, i5]
      · simp [gII, i6]
  · rintro i N - hi ⟨o, i1, i2, i3, i4, i5, i6⟩
    have hn' : dp_I N 100 (b * 7 + 1) = nI n := by rw [i4]; exact hn
    have hb' : dp_I N 97 1 = nI (E + i) := by rw [i3, uI_s]
    refine ⟨dp_setI (dp_setI (dp_setI N 103 (E + i) (nI b)) 104 (E + i) (nI (b * 20 + i))) 97 1 (nI (E + (i + 1))), ⟨((o.I 103 (by decide) _ _).I 104 (by decide) _ _).I 97 (by decide) _ _, i1, i2, ?_, ?_, ?_, ?_⟩, fun r hr => ?_⟩
    · simp [gII, i3]; funext j; simp [uI]; split <;> simp_all
    · simp [gII, i4]
    · simp [gII, i5, fN_s]
    · simp [gII, i6]; exact fN_s _ _ _ (fun k => nI (b * 20 + k))
    · (try dsimp only at hr); (try dsimp only)
      rw [D_X3_enter_2_eq, lc_entries rfl hb, rb_bi, hn', if_neg (nI_nge hi (by omega)), hb', if_neg (show ¬ (4000 : Int32) ≤ nI (E + i) from nI_ge (a := E + i) (b := 4000) (by omega) (by omega))]
      simp only [nI_cl (show E + i < 2147483648 by omega), nI_o (show E + i < 4000 by omega) (by omega), if_false, dp_w, gII, Nat.reduceEqDiff, hb', lc_ix20, nI_1]
      exact hr
  · refine ⟨Off.rr _ _ _, rfl, rfl, ?_, rfl, ?_, ?_⟩
    · funext j; simp only [uI]; split
      · rename_i e; subst e; exact hE
      · rfl
    · rw [fN_0]
    · rw [fN_0]
theorem lm_posts {v1 : Int32} {b n E : Nat} (h1 : v1 = nI b) (hb : b < 801) (hn : dp_I M 227 b = nI n) (h20 : n ≤ 20) (hE : dp_I M 114 142 = nI E) (hE4 : E + n ≤ 4000) : ∃ M', dp_den true xs xl (d + 1) 551 [.ref 114, .int v1] M = vR M' ∧
    Off [221, 230] [142, 144] M M' ∧ dp_n M' = dp_n M ∧ dp_z M' = dp_z M ∧ dp_I M' 114 142 = nI (E + n) ∧ dp_I M' 114 144 = dp_I M 223 b ∧ dp_I M' 221 = uI (dp_I M 221) b 1 ∧
    dp_I M' 230 = fN (dp_I M 230) E n (fun k => nI (b * 20 + k)) := by
  subst h1
  have key := lpi (F := fun i N => D_X12_posts_2 xs xl d (nI b) (nI i) N) (a := 0) (N := n)
    (Inv := fun i N => Off [221, 230] [142, 144] M N ∧ dp_n N = dp_n M ∧ dp_z N = dp_z M ∧ dp_I N 114 = dp_I M 114 ∧ dp_I N 227 = dp_I M 227 ∧ dp_I N 223 = dp_I M 223 ∧ dp_I N 221 = dp_I M 221 ∧
      dp_I N 230 = fN (dp_I M 230) E i (fun k => nI (b * 20 + k)))
    (Post := fun r => ∃ M', r = (.inl none, M') ∧ Off [221, 230] [142, 144] M M' ∧ dp_n M' = dp_n M ∧ dp_z M' = dp_z M ∧ dp_I M' 114 142 = nI (E + n) ∧ dp_I M' 114 144 = dp_I M 223 b ∧ dp_I M' 221 = uI (dp_I M 221) b 1 ∧
      dp_I M' 230 = fN (dp_I M 230) E n (fun k => nI (b * 20 + k)))
    (Nat.zero_le _) ?_ ?_ M ?_
  · obtain ⟨r, hr, M', rfl, q⟩ := key
    refine ⟨M', ?_, q⟩
    rw [D_X12_posts_0_den, D_X12_posts_0_eq]
    exact hr
  · rintro N ⟨o, i1, i2, i3, i4, i5, i6, i7⟩
    refine ⟨(.inl none, dp_setI (dp_setI (dp_setI N 114 142 (nI (E + n))) 114 144 (dp_I M 223 b)) 221 b 1), ?_, _, rfl, ?_⟩
    · try dsimp only
      rw [D_X12_posts_2_eq]
      simp only [nI_cl (show b < 2147483648 by omega), nI_o hb (by omega), if_false, i4, hn, if_pos (nI_lle (Nat.le_refl n) (show n < 2147483648 by omega)), dp_w, gII, Nat.reduceEqDiff, i3, hE, nI_add, i5]
    · refine ⟨((o.F 142 (by decide) _).F 144 (by decide) _).I 221 (by decide) _ _, i1, i2, ?_, ?_, ?_, ?_⟩
      · simp [gII, uI, i3]
      · simp [gII, uI]
      · simp [gII, i6]
      · simp [gII, i7]
  · rintro i N - hi ⟨o, i1, i2, i3, i4, i5, i6, i7⟩
    refine ⟨dp_setI N 230 (E + i) (nI (b * 20 + i)), ⟨o.I 230 (by decide) _ _, i1, i2, ?_, ?_, ?_, ?_, ?_⟩, fun r hr => ?_⟩
    · simp [gII, i3]
    · simp [gII, i4]
    · simp [gII, i5]
    · simp [gII, i6]
    · simp [gII, i7]; exact fN_s _ _ _ (fun k => nI (b * 20 + k))
    · (try dsimp only at hr); (try dsimp only)
      rw [D_X12_posts_2_eq]
      simp only [nI_cl (show b < 2147483648 by omega), nI_o hb (by omega), if_false, i4, hn, if_neg (nI_nge hi (show n < 2147483648 by omega)), dp_w, i3, hE, nI_add, nI_cl (show E + i < 2147483648 by omega), nI_o (show E + i < 4000 by omega) (by omega), lm_ix20, nI_1]
      exact hr
  · exact ⟨Off.rr _ _ _, rfl, rfl, rfl, rfl, rfl, rfl, by rw [fN_0]⟩
end LEP
