/-! THE LEDGER: the class's methods -/
section LED
variable {xs : Nat → Int32} {xl d : Nat} {M : dp_M}
theorem lc_ix {b k : Nat} : nI b * (7 : Int32) + nI k = nI (b * 7 + k) := by rw [show (7 : Int32) = nI 7 from rfl, pk_mul, nI_add]
theorem lc_ix20 {b k : Nat} : nI b * (20 : Int32) + nI k = nI (b * 20 + k) := by rw [show (20 : Int32) = nI 20 from rfl, pk_mul, nI_add]
theorem lc_fact {v1 v2 : Int32} {b k : Nat} (h1 : v1 = nI b) (h2 : v2 = nI k) (hb : b < 800) (hk : k < 7) : dp_den true xs xl (d + 1) 78 [.ref 97, .int v1, .int v2] M = iR (dp_I M 100 (b * 7 + k)) M := by
  subst h1 h2
  rw [D_X3_fact_0_den, D_X3_fact_0_eq, lc_ix, if_neg (nI_inn (by omega) (by omega)), nI_cl (by omega)]
theorem lc_set {v1 v2 x : Int32} {b k : Nat} (h1 : v1 = nI b) (h2 : v2 = nI k) (hb : b < 800) (hk : k < 7) : dp_den true xs xl (d + 1) 79 [.ref 97, .int v1, .int v2, .int x] M = vR (dp_setI M 100 (b * 7 + k) x) := by
  subst h1 h2
  rw [D_X3_set_0_den, D_X3_set_0_eq, lc_ix, if_neg (nI_inn (by omega) (by omega)), nI_cl (by omega)]; rfl
theorem lc_state {v1 : Int32} {b : Nat} (h1 : v1 = nI b) (hb : b < 800) : dp_den true xs xl (d + 2) 80 [.ref 97, .int v1] M = iR (dp_I M 100 (b * 7 + 0)) M := by
  rw [D_X3_stateOf_0_den, D_X3_stateOf_0_eq, lc_fact h1 (v2 := 0) (k := 0) rfl hb (by omega)]; rfl
theorem lc_entries {v1 : Int32} {b : Nat} (h1 : v1 = nI b) (hb : b < 800) : dp_den true xs xl (d + 2) 81 [.ref 97, .int v1] M = iR (dp_I M 100 (b * 7 + 1)) M := by
  rw [D_X3_entriesOf_0_den, D_X3_entriesOf_0_eq, lc_fact h1 (v2 := 1) (k := 1) rfl hb (by omega)]; rfl
theorem lc_begin {v1 v2 : Int32} {B : Nat} (hB : dp_I M 97 0 = nI B) (h : B < 800) : dp_den true xs xl (d + 2) 82 [.ref 97, .int v1, .int v2] M =
    iR (nI B) (dp_setI (dp_setI (dp_setI (dp_setI (dp_setI M 100 (B * 7 + 2) (-1)) 100 (B * 7 + 3) (-1)) 100 (B * 7 + 5) v1) 100 (B * 7 + 6) v2) 97 0 (nI (B + 1))) := by
  rw [D_X3_begin_0_den, D_X3_begin_0_eq]
  simp only [dp_w, hB]
  rw [lc_set rfl (v2 := 2) (k := 2) rfl h (by omega), rb_bv, lc_set rfl (v2 := 3) (k := 3) rfl h (by omega), rb_bv, lc_set rfl (v2 := 5) (k := 5) rfl h (by omega), rb_bv, lc_set rfl (v2 := 6) (k := 6) rfl h (by omega), rb_bv]
  simp only [gII, Nat.reduceEqDiff, if_false, hB, nI_1]
theorem lc_add {v1 v2 : Int32} {v3 : Int64} {b n : Nat} (h1 : v1 = nI b) (hb : b < 800) (hn : dp_I M 100 (b * 7 + 1) = nI n) (h20 : n < 20) : dp_den true xs xl (d + 3) 83 [.ref 97, .int v1, .int v2, .long v3] M =
    iR 1 (dp_setI (dp_setI (dp_setI M 101 (b * 20 + n) v2) 102 (b * 20 + n) v3.toInt32) 100 (b * 7 + 1) (nI (n + 1))) := by
  subst h1
  rw [D_X3_addEntry_0_den, D_X3_addEntry_0_eq, lc_entries rfl hb, rb_bi, hn]
  rw [if_pos (show nI n < 20 from nI_lt (b := 20) h20 (by omega))]
  simp only [dp_w, lc_ix20, nI_cl (show b * 20 + n < 2147483648 by omega), nI_o (show b * 20 + n < 16000 by omega) (by omega), if_false, nI_1]
  rw [lc_set rfl (v2 := 1) (k := 1) rfl hb (by omega), rb_bv]
theorem lc_addN {v1 v2 : Int32} {v3 : Int64} {b n : Nat} (h1 : v1 = nI b) (hb : b < 800) (hn : dp_I M 100 (b * 7 + 1) = nI n) (h20 : 20 ≤ n) (hn2 : n ≤ 20) : dp_den true xs xl (d + 3) 83 [.ref 97, .int v1, .int v2, .long v3] M = iR 0 M := by
  subst h1
  rw [D_X3_addEntry_0_den, D_X3_addEntry_0_eq, lc_entries rfl hb, rb_bi, hn]
  rw [if_neg (show ¬ nI n < 20 from nI_nlt (b := 20) h20 (by omega))]
theorem lc_early {v1 : Int32} : dp_den true xs xl (d + 1) 85 [.ref 97, .int v1] M = iR (bI (v1 ≤ dp_I M 97 2 ∨ v1 < dp_I M 97 3)) M := by
  rw [D_X3_isTooEarly_0_den, D_X3_isTooEarly_0_eq]
  by_cases h1 : v1 ≤ dp_I M 97 2
  · simp [bI, h1]
  · by_cases h2 : dp_I M 97 3 ≤ v1
    · simp [bI, h1, h2, Int32.not_lt.mpr h2]
    · simp [bI, h1, h2, Int32.not_le.mp h2]
theorem lc_room {v1 : Int32} : dp_den true xs xl (d + 1) 86 [.ref 97, .int v1] M = iR (bI (¬ (4000 : Int32) < dp_I M 97 1 + v1)) M := by
  rw [D_X3_hasRoom_0_den, D_X3_hasRoom_0_eq]
  exact rb_bi1
theorem lc_sumOf {v1 : Int32} {b n : Nat} (h1 : v1 = nI b) (hb : b < 800) (hn : dp_I M 100 (b * 7 + 1) = nI n) (h20 : n ≤ 20) : dp_den true xs xl (d + 3) 88 [.ref 97, .int v1] M = lR (sl (fun i => (dp_I M 102 (b * 20 + i)).toInt64) n) M := by
  subst h1
  rw [D_X3_sumOf_0_den, D_X3_sumOf_0_eq]
  simp only [dp_w]
  have := lpb (F := fun n i => D_X3_sumOf_5 xs xl (d + 2) (nI b) n (nI i) M) (s := sl (fun i => (dp_I M 102 (b * 20 + i)).toInt64)) (N := n) (r := (.inl (some (.long (sl (fun i => (dp_I M 102 (b * 20 + i)).toInt64) n))), M)) ?_ ?_
  · rw [nI_0] at this; exact this
  · show D_X3_sumOf_5 xs xl (d + 2) (nI b) _ (nI n) M = _
    rw [D_X3_sumOf_5_eq, lc_entries rfl hb, rb_bi, hn, if_pos (nI_lle (Nat.le_refl _) (by omega))]
  · intro i hi hr
    show D_X3_sumOf_5 xs xl (d + 2) (nI b) _ (nI i) M = _
    rw [D_X3_sumOf_5_eq, lc_entries rfl hb, rb_bi, hn, if_neg (nI_nge hi (by omega)), lc_ix20, if_neg (nI_inn (by omega) (by omega)), nI_cl (by omega), nI_1]
    exact hr
end LED
