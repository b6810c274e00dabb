/-! THE LEDGER: reverse -/
section LEW
variable {xs : Nat → Int32} {xl d : Nat} {M : dp_M}
theorem lc_take {v1 v2 : Int32} {B E n : Nat} (h1 : v1 = nI n) (hB : dp_I M 97 0 = nI B) (hB8 : B ≤ 800) (hE : dp_I M 97 1 = nI E) (hE4 : E ≤ 4000) (hn : n ≤ 20) : dp_den true xs xl (d + 2) 87 [.ref 97, .int v1, .int v2] M = iR (bI (B < 800 ∧ dp_I M 97 2 < v2 ∧ dp_I M 97 3 ≤ v2 ∧ E + n ≤ 4000)) M := by
  subst h1
  rw [D_X3_wouldTake_0_den, D_X3_wouldTake_0_eq, hB]
  by_cases c1 : B < 800
  · rw [if_neg (show ¬ (800 : Int32) ≤ nI (B) from nI_ge (a := B) (b := 800) (by omega) (by omega)), lc_early, rb_bi, ibz]
    by_cases c2 : v2 ≤ dp_I M 97 2 ∨ v2 < dp_I M 97 3
    · rw [if_pos c2, bI, if_neg]
      rintro ⟨-, q1, q2, -⟩
      rcases c2 with c2 | c2
      · exact Int32.not_le.mpr q1 c2
      · exact Int32.not_lt.mpr q2 c2
    · rw [if_neg c2, lc_room, rb_bi, ibz, hE, nI_add]
      obtain ⟨k1, k2⟩ := not_or.mp c2
      by_cases c3 : E + n ≤ 4000
      · rw [if_pos (show ¬ (4000 : Int32) < nI (E + n) from nI_nlt (a := 4000) (b := E + n) (by omega) (by omega)), bI, if_pos ⟨c1, Int32.not_le.mp k1, Int32.not_lt.mp k2, c3⟩]
      · rw [if_neg (fun q => q (show (4000 : Int32) < nI (E + n) from nI_lt (a := 4000) (b := E + n) (by omega) (by omega))), bI, if_neg (fun q => c3 q.2.2.2)]
  · rw [if_pos (show (800 : Int32) ≤ nI (B) from nI_le (a := 800) (b := B) (by omega) (by omega)), bI, if_neg (fun q => c1 q.1)]
theorem lc_mayRev {v1 : Int32} {b : Nat} (h1 : v1 = nI b) (hb : b < 800) : dp_den true xs xl (d + 2) 94 [.ref 97, .int v1] M = iR (bI (dp_I M 100 (b * 7 + 2) = -1 ∧ dp_I M 100 (b * 7 + 3) = -1)) M := by
  rw [D_X3_mayBeReversed_0_den, D_X3_mayBeReversed_0_eq, lc_fact h1 (v2 := 2) (k := 2) rfl hb (by omega), rb_bi]
  by_cases c1 : dp_I M 100 (b * 7 + 2) = -1
  · rw [if_pos c1, lc_fact h1 (v2 := 3) (k := 3) rfl hb (by omega), rb_bi]
    by_cases c2 : dp_I M 100 (b * 7 + 3) = -1
    · rw [if_pos c2, bI, if_pos ⟨c1, c2⟩]
    · rw [if_neg c2, bI, if_neg (fun q => c2 q.2)]
  · rw [if_neg c1, bI, if_neg (fun q => c1 q.1)]
/-- the class turns a batch: its rows -/
theorem lc_turn {v1 v2 : Int32} {b n B E : Nat} (h1 : v1 = nI b) (hb : b < B) (hB : dp_I M 97 0 = nI B) (hB8 : B < 800) (hn : dp_I M 100 (b * 7 + 1) = nI n) (h20 : n ≤ 20) (hE : dp_I M 97 1 = nI E) (hEn : E + n ≤ 4000) (hz : dp_I M 100 (B * 7 + 1) = 0) :
    ∃ M', dp_den true xs xl (d + 5) 95 [.ref 97, .int v1, .int v2] M = iR (nI B) M' ∧ Off [97, 100, 101, 102, 103, 104] [] M M' ∧ dp_n M' = dp_n M ∧ dp_z M' = dp_z M ∧
      dp_I M' 97 = uI (uI (uI (dp_I M 97) 0 (nI (B + 1))) 1 (nI (E + n))) 3 v2 ∧
      (∀ c k, k < 7 → c ≠ B → ¬ (c = b ∧ k = 3) → dp_I M' 100 (c * 7 + k) = dp_I M 100 (c * 7 + k)) ∧ dp_I M' 100 (b * 7 + 3) = nI B ∧
      dp_I M' 100 (B * 7 + 0) = 1 ∧ dp_I M' 100 (B * 7 + 1) = nI n ∧ dp_I M' 100 (B * 7 + 2) = nI b ∧ dp_I M' 100 (B * 7 + 3) = -1 ∧ dp_I M' 100 (B * 7 + 4) = dp_I M 100 (B * 7 + 4) ∧ dp_I M' 100 (B * 7 + 5) = dp_I M 100 (b * 7 + 5) ∧ dp_I M' 100 (B * 7 + 6) = v2 ∧
      dp_I M' 101 = fN (dp_I M 101) (B * 20) n (fun k => dp_I M 101 (b * 20 + k)) ∧ dp_I M' 102 = fN (dp_I M 102) (B * 20) n (fun k => (Int32.toInt64 (-(dp_I M 102 (b * 20 + k)))).toInt32) ∧
      dp_I M' 103 = fN (dp_I M 103) E n (fun _ => nI B) ∧ dp_I M' 104 = fN (dp_I M 104) E n (fun k => nI (B * 20 + k)) := by
  subst h1
  rw [D_X3_turn_0_den, D_X3_turn_0_eq, lc_fact rfl (v2 := 5) (k := 5) rfl (by omega) (by omega), rb_bi, lc_begin hB hB8, rb_bi]
  simp only [dp_w]
  rw [show nI b * (20 : Int32) = nI (b * 20) by rw [show (20 : Int32) = nI 20 from rfl, pk_mul]]
  generalize hM1 : dp_setI (dp_setI (dp_setI (dp_setI (dp_setI M 100 (B * 7 + 2) (-1)) 100 (B * 7 + 3) (-1)) 100 (B * 7 + 5) (dp_I M 100 (b * 7 + 5))) 100 (B * 7 + 6) v2) 97 0 (nI (B + 1)) = M1
  have o1 : Off [97, 100, 101, 102, 103, 104] [] M M1 := by
    rw [← hM1]
    repeat first | apply Off.F _ (by decide) | apply Off.I _ (by decide) | apply Off.J _ (by decide)
    exact Off.rr _ _ _
  have m97 : dp_I M1 97 = uI (dp_I M 97) 0 (nI (B + 1)) := by rw [← hM1]; simp only [gII, Nat.reduceEqDiff, if_true, if_false]
  have m100 : dp_I M1 100 = uI (uI (uI (uI (dp_I M 100) (B * 7 + 2) (-1)) (B * 7 + 3) (-1)) (B * 7 + 5) (dp_I M 100 (b * 7 + 5))) (B * 7 + 6) v2 := by rw [← hM1]; simp only [gII, Nat.reduceEqDiff, if_true, if_false]
  have mr : ∀ k, k ≠ 97 → k ≠ 100 → dp_I M1 k = dp_I M k := fun k h1 h2 => by rw [← hM1, gII, if_neg h1, gII, if_neg h2, gII, if_neg h2, gII, if_neg h2, gII, if_neg h2]
  have mn : dp_n M1 = dp_n M ∧ dp_z M1 = dp_z M := by rw [← hM1]; exact ⟨rfl, rfl⟩
  have key := lpi (F := fun i N => D_X3_turn_18 xs xl (d + 4) (nI b) v2 (nI B) (nI (b * 20 + i)) N) (a := 0) (N := n)
    (Inv := fun i N => Off [97, 100, 101, 102, 103, 104] [] M N ∧ dp_n N = dp_n M ∧ dp_z N = dp_z M ∧ dp_I N 97 = dp_I M1 97 ∧ (∀ z, z ≠ B * 7 + 1 → dp_I N 100 z = dp_I M1 100 z) ∧ dp_I N 100 (B * 7 + 1) = nI i ∧ dp_I N 101 = fN (dp_I M 101) (B * 20) i (fun k => dp_I M 101 (b * 20 + k)) ∧ dp_I N 102 = fN (dp_I M 102) (B * 20) i (fun k => (Int32.toInt64 (-(dp_I M 102 (b * 20 + k)))).toInt32) ∧ dp_I N 103 = dp_I M 103 ∧ dp_I N 104 = dp_I M 104)
    (Post := fun r => ∃ M', r = (.inl (some (.int (nI B))), M') ∧ Off [97, 100, 101, 102, 103, 104] [] M M' ∧ dp_n M' = dp_n M ∧ dp_z M' = dp_z M ∧
      dp_I M' 97 = uI (uI (uI (dp_I M 97) 0 (nI (B + 1))) 1 (nI (E + n))) 3 v2 ∧
      (∀ c k, k < 7 → c ≠ B → ¬ (c = b ∧ k = 3) → dp_I M' 100 (c * 7 + k) = dp_I M 100 (c * 7 + k)) ∧ dp_I M' 100 (b * 7 + 3) = nI B ∧
      dp_I M' 100 (B * 7 + 0) = 1 ∧ dp_I M' 100 (B * 7 + 1) = nI n ∧ dp_I M' 100 (B * 7 + 2) = nI b ∧ dp_I M' 100 (B * 7 + 3) = -1 ∧ dp_I M' 100 (B * 7 + 4) = dp_I M 100 (B * 7 + 4) ∧ dp_I M' 100 (B * 7 + 5) = dp_I M 100 (b * 7 + 5) ∧ dp_I M' 100 (B * 7 + 6) = v2 ∧
      dp_I M' 101 = fN (dp_I M 101) (B * 20) n (fun k => dp_I M 101 (b * 20 + k)) ∧ dp_I M' 102 = fN (dp_I M 102) (B * 20) n (fun k => (Int32.toInt64 (-(dp_I M 102 (b * 20 + k)))).toInt32) ∧
      dp_I M' 103 = fN (dp_I M 103) E n (fun _ => nI B) ∧ dp_I M' 104 = fN (dp_I M 104) E n (fun k => nI (B * 20 + k)))
    (Nat.zero_le _) ?_ ?_ M1 ?_
  · obtain ⟨r, hr, M', rfl, q⟩ := key
    exact ⟨M', hr, q⟩
  · rintro N ⟨o, i1, i2, i3, i4, i5, i6, i7, i8, i9⟩
    have hnb : dp_I N 100 (b * 7 + 1) = nI n := by
      rw [i4 _ (by omega), m100, u2 (by omega) (by omega), if_neg (by omega), u2 (by omega) (by omega), if_neg (by omega), u2 (by omega) (by omega), if_neg (by omega), u2 (by omega) (by omega), if_neg (by omega)]; exact hn
    obtain ⟨M', f1, f2, f3, f4, f5, f6, f7, f8⟩ := lc_enter (xs := xs) (xl := xl) (d := d + 1) (M := dp_setI (dp_setI N 100 (B * 7 + 2) (nI b)) 100 (b * 7 + 3) (nI B)) (v1 := nI B) (b := B) (n := n) (E := E) rfl hB8 (by simp only [gII, if_true]; rw [uI_n (by omega), uI_n (by omega)]; exact i5) h20 (by simp only [gII, Nat.reduceEqDiff, if_false]; rw [i3, m97, uI_n (by omega)]; exact hE) hEn
    have v6 : dp_I (dp_setI (dp_setI N 100 (B * 7 + 2) (nI b)) 100 (b * 7 + 3) (nI B)) 100 (B * 7 + 6) = v2 := by
      simp only [gII, if_true]; rw [uI_n (by omega), uI_n (by omega), i4 _ (by omega), m100, uI_s]
    have w100 : ∀ z, z ≠ B * 7 + 0 → z ≠ b * 7 + 3 → z ≠ B * 7 + 2 → z ≠ B * 7 + 1 → dp_I M' 100 z = dp_I M1 100 z := fun z z1 z2 z3 z4 => by
      rw [f6]; simp only [gII, if_true]; rw [uI_n z1, uI_n z2, uI_n z3, i4 _ z4]
    refine ⟨(.inl (some (.int (nI B))), M'), ?_, M', rfl, ?_, by rw [f3]; exact i1, by rw [f4]; exact i2, ?_, ?_, ?_, ?_, ?_, ?_, ?_, ?_, ?_, ?_, ?_, ?_, ?_, ?_⟩
    · try dsimp only
      rw [D_X3_turn_18_eq, lc_entries rfl (by omega), rb_bi, hnb, lc_ix20, if_pos (nI_lle (Nat.le_refl _) (by omega)), lc_set rfl (v2 := 2) (k := 2) rfl hB8 (by omega), rb_bv, lc_set rfl (v2 := 3) (k := 3) rfl (by omega) (by omega), rb_bv, f1, rb_bv]
    · exact Off.tr (Off.I 100 (by decide) _ _ (Off.I 100 (by decide) _ _ o)) (f2.mono (by decide) (by decide))
    · rw [f5, v6]; simp only [gII, Nat.reduceEqDiff, if_false]; rw [i3, m97]
    · intro c k hk hc hck
      rw [w100 _ (by omega) (fun z => hck (by omega)) (by omega) (by omega), m100, u2 hk (by omega), if_neg (by omega), u2 hk (by omega), if_neg (by omega), u2 hk (by omega), if_neg (by omega), u2 hk (by omega), if_neg (by omega)]
    · rw [f6]; simp only [gII, if_true]; rw [uI_n (by omega), uI_s]
    · rw [f6, uI_s]
    · rw [f6]; simp only [gII, if_true]; rw [uI_n (by omega), uI_n (by omega), uI_n (by omega)]; exact i5
    · rw [f6]; simp only [gII, if_true]; rw [uI_n (by omega), uI_n (by omega), uI_s]
    · rw [w100 _ (by omega) (by omega) (by omega) (by omega), m100, uI_n (by omega), uI_n (by omega), uI_s]
    · rw [w100 _ (by omega) (by omega) (by omega) (by omega), m100, uI_n (by omega), uI_n (by omega), uI_n (by omega), uI_n (by omega)]
    · rw [w100 _ (by omega) (by omega) (by omega) (by omega), m100, uI_n (by omega), uI_s]
    · rw [w100 _ (by omega) (by omega) (by omega) (by omega), m100, uI_s]
    · rw [(f2.1 101 (by omega) (by decide) (by omega)).1]; simp only [gII, Nat.reduceEqDiff, if_false]; exact i6
    · rw [(f2.1 102 (by omega) (by decide) (by omega)).1]; simp only [gII, Nat.reduceEqDiff, if_false]; exact i7
    · rw [f7]; simp only [gII, Nat.reduceEqDiff, if_false]; rw [i8]
    · rw [f8]; simp only [gII, Nat.reduceEqDiff, if_false]; rw [i9]
  · rintro i N - hi ⟨o, i1, i2, i3, i4, i5, i6, i7, i8, i9⟩
    have hnb : dp_I N 100 (b * 7 + 1) = nI n := by
      rw [i4 _ (by omega), m100, u2 (by omega) (by omega), if_neg (by omega), u2 (by omega) (by omega), if_neg (by omega), u2 (by omega) (by omega), if_neg (by omega), u2 (by omega) (by omega), if_neg (by omega)]; exact hn
    have g1 : dp_I N 101 (b * 20 + i) = dp_I M 101 (b * 20 + i) := by rw [i6, fN_lt (by omega)]
    have g2 : dp_I N 102 (b * 20 + i) = dp_I M 102 (b * 20 + i) := by rw [i7, fN_lt (by omega)]
    refine ⟨dp_setI (dp_setI (dp_setI N 101 (B * 20 + i) (dp_I M 101 (b * 20 + i))) 102 (B * 20 + i) (Int32.toInt64 (-(dp_I M 102 (b * 20 + i)))).toInt32) 100 (B * 7 + 1) (nI (i + 1)), ⟨Off.I 100 (by decide) _ _ (Off.I 102 (by decide) _ _ (Off.I 101 (by decide) _ _ o)), i1, i2, ?_, ?_, ?_, ?_, ?_, ?_, ?_⟩, fun r hr => ?_⟩
    · simp only [gII, Nat.reduceEqDiff, if_false]; exact i3
    · intro z hz; simp only [gII, if_true, Nat.reduceEqDiff, if_false]; rw [uI_n hz]; exact i4 z hz
    · simp only [gII, if_true]; rw [uI_s]
    · simp only [gII, if_true, Nat.reduceEqDiff, if_false]; rw [i6]; exact fN_s _ _ _ (fun k => dp_I M 101 (b * 20 + k))
    · simp only [gII, if_true, Nat.reduceEqDiff, if_false]; rw [i7]; exact fN_s _ _ _ (fun k => (Int32.toInt64 (-(dp_I M 102 (b * 20 + k)))).toInt32)
    · simp only [gII, Nat.reduceEqDiff, if_false]; exact i8
    · simp only [gII, Nat.reduceEqDiff, if_false]; exact i9
    · (try dsimp only at hr); (try dsimp only)
      rw [D_X3_turn_18_eq, lc_entries rfl (by omega), rb_bi, hnb, lc_ix20, if_neg (nI_nge (by omega) (by omega))]
      simp only [nI_cl (show b * 20 + i < 2147483648 by omega), nI_o (show b * 20 + i < 16000 by omega) (by omega), if_false, g1, g2, dp_w, nI_1]
      rw [lc_add rfl hB8 (n := i) i5 (by omega), rb_bi]
      rw [← Nat.add_assoc] at hr
      exact hr
  · refine ⟨o1, mn.1, mn.2, rfl, fun _ _ => rfl, ?_, ?_, ?_, ?_, ?_⟩
    · rw [m100, uI_n (by omega), uI_n (by omega), uI_n (by omega), uI_n (by omega), hz, nI_0]
    · rw [fN_0, mr _ (by omega) (by omega)]
    · rw [fN_0, mr _ (by omega) (by omega)]
    · rw [mr _ (by omega) (by omega)]
    · rw [mr _ (by omega) (by omega)]
end LEW
