/-! THE LEDGER: post -/
section LET
variable {xs : Nat → Int32} {xl d : Nat} {M : dp_M}
theorem wrg_0 {n : Nat} {s : Int64} {kn cl la : Int32} {E : Nat} (h : wrg n s kn cl la E = 0) : n ≠ 0 ∧ s = 0 ∧ cl < kn ∧ la ≤ kn ∧ E + n ≤ 4000 := by
  unfold wrg at h
  split at h
  · exact absurd h (by decide)
  split at h
  · exact absurd h (by decide)
  split at h
  · exact absurd h (by decide)
  split at h
  · exact absurd h (by decide)
  split at h
  · rename_i h1 h2 h3 h4 h5
    exact ⟨h1, Classical.byContradiction h2, Int32.not_le.mp h3, Int32.not_lt.mp h4, h5⟩
  · exact absurd h (by decide)
theorem wrg_pos {n : Nat} {s : Int64} {kn cl la : Int32} {E : Nat} (h : wrg n s kn cl la E ≠ 0) : ¬ wrg n s kn cl la E ≤ 0 := by
  revert h
  unfold wrg
  repeat' split
  all_goals first | (intro _; decide) | (intro h; exact absurd rfl h)
theorem wrg_2 {n : Nat} {s : Int64} {kn cl la : Int32} {E : Nat} (h : wrg n s kn cl la E = 2) : s ≠ 0 := by
  unfold wrg at h
  split at h
  · exact absurd h (by decide)
  split at h
  · assumption
  split at h
  · exact absurd h (by decide)
  split at h
  · exact absurd h (by decide)
  split at h
  · exact absurd h (by decide)
  · exact absurd h (by decide)
/-- what a batch in the class and in the model is wrong with is the same -/
theorem wrg_same {b n E : Nat} (c15 : ∀ k, k < n → (dp_I M 102 (b * 20 + k)).toInt64 = dp_J M 229 (b * 20 + k)) (c11 : dp_I M 100 (b * 7 + 6) = dp_I M 223 b) (a5 : dp_I M 114 143 = dp_I M 97 2) (a6 : dp_I M 114 144 = dp_I M 97 3) :
    wrg n (sl (fun i => (dp_I M 102 (b * 20 + i)).toInt64) n) (dp_I M 100 (b * 7 + 6)) (dp_I M 97 2) (dp_I M 97 3) E = wrg n (sl (fun i => dp_J M 229 (b * 20 + i)) n) (dp_I M 223 b) (dp_I M 114 143) (dp_I M 114 144) E := by
  rw [sl_c c15, c11, a5, a6]
theorem lc_void {v1 : Int32} {b n E : Nat} {w : Int32} (h1 : v1 = nI b) (hb : b < 800) (hn : dp_I M 100 (b * 7 + 1) = nI n) (h20 : n ≤ 20) (hE : dp_I M 97 1 = nI E) (hE4 : E ≤ 4000) (ha : ∀ k, k < n → qin (dp_I M 101 (b * 20 + k)) 12)
    (hw : wrg n (sl (fun i => (dp_I M 102 (b * 20 + i)).toInt64) n) (dp_I M 100 (b * 7 + 6)) (dp_I M 97 2) (dp_I M 97 3) E = w) (h0 : w ≠ 0) : ∃ M', dp_den true xs xl (d + 5) 90 [.ref 97, .int v1] M = iR 1 M' ∧ Off [97, 100, 105] [] M M' ∧ dp_n M' = dp_n M ∧ dp_z M' = dp_z M ∧
    dp_I M' 97 = uI (uI (dp_I M 97) 4 w) 5 (if w = 2 then nI (gA (fun a => sl (fun k => if dp_I M 101 (b * 20 + k) = nI a then (dp_I M 102 (b * 20 + k)).toInt64 else 0) n) 11) else -1) ∧ dp_I M' 100 = uI (uI (dp_I M 100) (b * 7 + 0) 2) (b * 7 + 1) 0 := by
  subst h1
  rw [D_X3_voidIfWrong_0_den, D_X3_voidIfWrong_0_eq, lc_wrong rfl hb hn h20 hE hE4, rb_bi, hw, if_neg h0]
  simp only [dp_w]
  by_cases c : w = 2
  · obtain ⟨M4, f1, f2, f3, f4, f5⟩ := lc_greatest (xs := xs) (xl := xl) (d := d + 1) (M := dp_setI M 97 4 w) (v1 := nI b) rfl hb (n := n) (by simp [gII, hn]) h20 (by simpa [gII] using ha)
    rw [if_pos c, f1, rb_bi, lc_set rfl (v2 := 0) (k := 0) rfl hb (by omega), rb_bv, lc_set rfl (v2 := 1) (k := 1) rfl hb (by omega), rb_bv]
    refine ⟨_, rfl, ?_, f3, f4, ?_, ?_⟩
    · refine Off.I 100 (by decide) _ _ (Off.I 100 (by decide) _ _ (Off.I 97 (by decide) _ _ (Off.tr (Off.I 97 (by decide) _ _ (Off.rr _ _ M)) (f2.mono (by decide) (by decide)))))
    · simp only [gII, Nat.reduceEqDiff, if_true, if_false, f5, if_pos c]
    · simp only [gII, Nat.reduceEqDiff, if_true, if_false, f5]
  · rw [if_neg c, lc_set rfl (v2 := 0) (k := 0) rfl hb (by omega), rb_bv, lc_set rfl (v2 := 1) (k := 1) rfl hb (by omega), rb_bv]
    refine ⟨_, rfl, ?_, rfl, rfl, ?_, ?_⟩
    · refine Off.I 100 (by decide) _ _ (Off.I 100 (by decide) _ _ (Off.I 97 (by decide) _ _ (Off.I 97 (by decide) _ _ (Off.rr _ _ M))))
    · simp only [gII, Nat.reduceEqDiff, if_true, if_false, if_neg c]
    · simp only [gII, Nat.reduceEqDiff, if_true, if_false]
theorem lc_void0 {v1 : Int32} {b n E : Nat} (h1 : v1 = nI b) (hb : b < 800) (hn : dp_I M 100 (b * 7 + 1) = nI n) (h20 : n ≤ 20) (hE : dp_I M 97 1 = nI E) (hE4 : E ≤ 4000)
    (hw : wrg n (sl (fun i => (dp_I M 102 (b * 20 + i)).toInt64) n) (dp_I M 100 (b * 7 + 6)) (dp_I M 97 2) (dp_I M 97 3) E = 0) : dp_den true xs xl (d + 5) 90 [.ref 97, .int v1] M = iR 0 M := by
  subst h1
  rw [D_X3_voidIfWrong_0_den, D_X3_voidIfWrong_0_eq, lc_wrong rfl hb hn h20 hE hE4, rb_bi, hw, if_pos rfl]
/-- sums of cents stay small -/
theorem sl_bd {f : Nat → Int64} {m : Nat} : ∀ n, n ≤ 4000 → m ≤ 1000000000 → (∀ k, k < n → -(m : Int) ≤ (f k).toInt ∧ (f k).toInt ≤ m) → -((n * m : Nat) : Int) ≤ (sl f n).toInt ∧ (sl f n).toInt ≤ ((n * m : Nat) : Int)
  | 0, _, _, _ => by rw [sl]; simp
  | n + 1, hn, hm, h => by
    have ih := sl_bd n (by omega) hm (fun k hk => h k (by omega))
    have h2 := h n (by omega)
    have e : (n + 1) * m = n * m + m := Nat.succ_mul n m
    have hb : n * m ≤ 4000 * 1000000000 := Nat.mul_le_mul (by omega) hm
    rw [sl, Int64.toInt_add, e]
    rw [Int.bmod_eq_of_le] <;> omega
/-- the account that is named is the same -/
theorem named_same {b n : Nat} (h20 : n ≤ 20) (c15 : ∀ k, k < n → dp_I M 101 (b * 20 + k) = dp_I M 228 (b * 20 + k) ∧ qin (dp_I M 228 (b * 20 + k)) 12 ∧ (dp_I M 102 (b * 20 + k)).toInt64 = dp_J M 229 (b * 20 + k) ∧
    -1000000000 ≤ (dp_I M 102 (b * 20 + k)).toInt ∧ (dp_I M 102 (b * 20 + k)).toInt ≤ 1000000000 ∧ dp_I M 102 (b * 20 + k) ≠ 0) (hs : sl (fun i => dp_J M 229 (b * 20 + i)) n ≠ 0) :
    (gB (fun a => sl (fun k => if nI a = -1 ∨ dp_I M 228 (b * 20 + k) = nI a then dp_J M 229 (b * 20 + k) else 0) n) 12).1 = nI (gA (fun a => sl (fun k => if dp_I M 101 (b * 20 + k) = nI a then (dp_I M 102 (b * 20 + k)).toInt64 else 0) n) 11) := by
  have hm1 : ∀ a, a < 12 → nI a ≠ -1 := fun a ha e => by
    have := nI_pos (show a < 2 ^ 31 by omega)
    rw [e] at this; exact this (by decide)
  have e : ∀ a, a < 12 → (fun a => sl (fun k => if nI a = -1 ∨ dp_I M 228 (b * 20 + k) = nI a then dp_J M 229 (b * 20 + k) else 0) n) a = (fun a => sl (fun k => if dp_I M 101 (b * 20 + k) = nI a then (dp_I M 102 (b * 20 + k)).toInt64 else 0) n) a := by
    intro a ha
    refine sl_c (fun k hk => ?_)
    obtain ⟨q1, q2, q3, -⟩ := c15 k hk
    rw [q1, q3]
    simp only [hm1 a ha, false_or]
  have gc : ∀ (f g : Nat → Int64) m, m ≤ 12 → (∀ a, a < 12 → f a = g a) → gB f m = gB g m := by
    intro f g m
    induction m with
    | zero => intro _ _; rfl
    | succ m ih =>
      intro hm hh
      rw [gB, gB, ih (by omega) hh, hh m (by omega)]
  rw [gc _ _ 12 (Nat.le_refl _) e]
  have hbd : ∀ i, -4000000000000 ≤ ((fun a => sl (fun k => if dp_I M 101 (b * 20 + k) = nI a then (dp_I M 102 (b * 20 + k)).toInt64 else 0) n) i).toInt := by
    intro i
    have := sl_bd (f := fun k => if dp_I M 101 (b * 20 + k) = nI i then (dp_I M 102 (b * 20 + k)).toInt64 else 0) (m := 1000000000) n (by omega) (Nat.le_refl _) (fun k hk => by
      obtain ⟨q1, q2, q3, q4, q5, -⟩ := c15 k hk
      (try dsimp only)
      split
      · rw [Int32.toInt_toInt64]; omega
      · simp)
    have h3 : n * 1000000000 ≤ 20 * 1000000000 := Nat.mul_le_mul_right _ h20
    dsimp only
    omega
  rcases gB_eq _ hbd 11 with ⟨-, h2⟩ | ⟨h1, -, -⟩
  · rw [h2]
  · exfalso
    apply hs
    rw [← sl_acc (A := fun k => dp_I M 228 (b * 20 + k)) n (fun k hk => (c15 k hk).2.1)]
    refine sl_z (fun a ha => ?_)
    refine Eq.trans (sl_c (fun k hk => ?_)) (h1 a ha)
    obtain ⟨q1, q2, q3, -⟩ := c15 k hk
    rw [q1, q3]
end LET
