-- needs: 71 72 73 74
/-! RATES: print: nodes with two below them, the class -/
section Rax
variable {xs : Nat → Int32} {xl d : Nat} {M : dp_M} {q : Nat} {l : List Nd}
theorem c_psh {h : Nat} {s : List Int32} {N : dp_M} {v : Int32} (hN : N = apd M 74 68 13 h s) (hl : h + s.length < 840) : dp_den true xs xl (d + 1) 171 [.ref 68, .int v] N = vR (apd M 74 68 13 h (s ++ [v])) := by
  have e : dp_I N 68 13 = nI (h + s.length) := by rw [hN]; exact wT_Q
  have a := apd_s (M := M) (A := 74) (Q := 68) (f := 13) (P := h) (s := s) (c := v) (by decide)
  rw [D_X7_push_0_den, D_X7_push_0_eq, e, if_neg (show ¬ Int32.ofNat 840 ≤ nI (h + s.length) from nI_nge (n := 840) hl (by omega)), nI_cl (by omega), if_neg (by rw [nI_o hl (by omega)]; exact id), dpw, gII, if_neg (show ¬ 68 = 74 by decide), e, nI_1, dpw, hN]
  exact congrArg vR a
theorem apdC' {h : Nat} {s : List Int32} : Off [68, 74] [] M (apd M 74 68 13 h s) := by
  unfold apd wT
  exact Off.I 68 (by decide) _ _ (Off.rI 74 (by decide) _ (Off.rr _ _ M))
theorem apdR' {h : Nat} {s : List Int32} (hR : RtO M q l) : RtO (apd M 74 68 13 h s) q l := hR.off apdC'
theorem apdT' {h : Nat} {s : List Int32} (hR : RtO M q l) : dp_t true (apd M 74 68 13 h s) q = 16 := by
  have := apdR' (h := h) (s := s) hR
  rw [bg_t this.1]; exact this.2.2.1
/-- what is stacked for a sum or difference j with m on the right; for a pair; c codes a sign -/
def brkR (l : List Nd) (m : Nat) : Bool := decide ((l.getD m v0).1 = 3 ∨ (l.getD m v0).1 = 4)
def itJ (c : Int32 → Int32) (l : List Nd) (j m : Nat) : List Int32 := (if brkR l m = true then [c 41] else []) ++ ([nI m] ++ ((if brkR l m = true then [c 40] else []) ++ [c 32, (if (l.getD j v0).1 = 3 then c 43 else c 45), c 32, nI (j + 1)]))
def itP (c : Int32 → Int32) (j m : Nat) : List Int32 := [c 41, nI m, c 32, c 44, nI (j + 1)]
def cS (s : Int32) : Int32 := -s
def mS (s : Int32) : Int32 := -1 - s
theorem c_join {j m h : Nat} (hR : RtO M q l) (hj : j < l.length) (hb : isBn (l.getD j v0) = true) (hm : fR l j = nI m) (hm2 : m < l.length) (h13 : dp_I M 68 13 = nI h) (hh : h + 7 ≤ 840) : dp_den true xs xl (d + 4) 177 [.ref 68, .ref q, .int (nI j)] M = vR (apd M 74 68 13 h (itJ cS l j m)) := by
  have T : dp_t true M q = 16 := by rw [bg_t hR.1]; exact hR.2.2.1
  have eL : fL l j = nI (j + 1) := by unfold fL; rw [if_pos hb]
  have f4 : dp_den true xs xl (d + 3) 135 [.ref q, .int (nI j), .int (4 : Int32)] M = iR (nI m) M := by
    rw [c_fact (d := d + 2) (v := 4) hR hj (k := 4) (by decide) rfl]
    show iR (fR l j) M = _
    rw [hm]
  have f3 : ∀ s, dp_den true xs xl (d + 3) 135 [.ref q, .int (nI j), .int (3 : Int32)] (apd M 74 68 13 h s) = iR (nI (j + 1)) (apd M 74 68 13 h s) := fun s => by
    rw [c_fact (d := d + 2) (v := 3) (apdR' hR) hj (k := 3) (by decide) rfl]
    show iR (fL l j) _ = _
    rw [eL]
  have km := c_kind (xs := xs) (xl := xl) (d := d + 1) hR hm2
  have kj : ∀ s, dp_den true xs xl (d + 3) 136 [.ref q, .int (nI j)] (apd M 74 68 13 h s) = iR (l.getD j v0).1 (apd M 74 68 13 h s) := fun s => c_kind (d := d + 1) (apdR' hR) hj
  have a0 : M = apd M 74 68 13 h [] := (apd_nil h13).symm
  have e59 : ∀ (s : List Int32) (w : Int32), s.length + 4 + h ≤ 840 → D_X7_stackJoined_59 xs xl (d + 3) q (nI j) (nI m) w (apd M 74 68 13 h s) = vR (apd M 74 68 13 h (s ++ [-32, (if (l.getD j v0).1 = 3 then -43 else -45), -32, nI (j + 1)])) := fun s w hs => by
    rw [D_X7_stackJoined_59_eq, c_psh (d := d + 2) rfl (by omega), rb_bv, if_pos (apdT' hR), kj, rb_bi]
    by_cases k3 : (l.getD j v0).1 = 3
    · rw [if_pos k3, if_pos k3, c_psh (d := d + 2) rfl (by simp only [List.length_append, List.length_singleton]; omega), rb_bv, c_psh (d := d + 2) rfl (by simp only [List.length_append, List.length_singleton]; omega), rb_bv, if_pos (apdT' hR), f3, rb_bi, c_psh (d := d + 2) rfl (by simp only [List.length_append, List.length_singleton]; omega), rb_bv]
      simp only [List.append_assoc, List.cons_append, List.nil_append]
    · rw [if_neg k3, if_neg k3, c_psh (d := d + 2) rfl (by simp only [List.length_append, List.length_singleton]; omega), rb_bv, c_psh (d := d + 2) rfl (by simp only [List.length_append, List.length_singleton]; omega), rb_bv, if_pos (apdT' hR), f3, rb_bi, c_psh (d := d + 2) rfl (by simp only [List.length_append, List.length_singleton]; omega), rb_bv]
      simp only [List.append_assoc, List.cons_append, List.nil_append]
  have e1 : brkR l m = true → D_X7_stackJoined_30 xs xl (d + 3) q (nI j) (nI m) 1 M = vR (apd M 74 68 13 h (itJ cS l j m)) := fun bk => by
    rw [D_X7_stackJoined_30_eq, if_neg (by decide), c_psh (d := d + 2) a0 (by simp only [List.length_nil]; omega), rb_bv, c_psh (d := d + 2) rfl (by simp only [List.length_append, List.length_singleton, List.length_nil]; omega), rb_bv, if_neg (by decide), c_psh (d := d + 2) rfl (by simp only [List.length_append, List.length_singleton, List.length_nil]; omega), rb_bv, e59 _ _ (by simp only [List.length_append, List.length_singleton, List.length_nil]; omega)]
    unfold itJ
    rw [if_pos bk, if_pos bk]
    rfl
  have e0 : brkR l m = false → D_X7_stackJoined_30 xs xl (d + 3) q (nI j) (nI m) 0 M = vR (apd M 74 68 13 h (itJ cS l j m)) := fun bk => by
    rw [D_X7_stackJoined_30_eq, if_pos rfl, c_psh (d := d + 2) a0 (by simp only [List.length_nil]; omega), rb_bv, if_pos rfl, e59 _ _ (by simp only [List.length_append, List.length_singleton, List.length_nil]; omega)]
    unfold itJ
    rw [if_neg (show ¬ brkR l m = true by rw [bk]; decide), if_neg (show ¬ brkR l m = true by rw [bk]; decide)]
    rfl
  rw [D_X7_stackJoined_0_den, D_X7_stackJoined_0_eq, if_pos T, f4, rb_bi, if_pos T, km, rb_bi]
  by_cases k3 : (l.getD m v0).1 = 3
  · rw [if_pos k3]; exact e1 (by unfold brkR; exact decide_eq_true (Or.inl k3))
  · rw [if_neg k3, if_pos T, km, rb_bi]
    by_cases k4 : (l.getD m v0).1 = 4
    · rw [if_pos k4]; exact e1 (by unfold brkR; exact decide_eq_true (Or.inr k4))
    · rw [if_neg k4]; exact e0 (by unfold brkR; exact decide_eq_false (fun q => q.elim k3 k4))
end Rax
