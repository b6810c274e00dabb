-- needs: 71 72 73 74
/-! RATES: print: pairs, the class -/
section Ray
variable {xs : Nat → Int32} {xl d : Nat} {M : dp_M} {q : Nat} {l : List Nd}
/-- what is printed at once for a node with two below it, and what is stacked -/
def twW (l : List Nd) (j : Nat) : List Int32 := if (l.getD j v0).1 = 5 then [nI 109, nI 105, nI 110, nI 40] else if (l.getD j v0).1 = 6 then [nI 109, nI 97, nI 120, nI 40] else []
def twI (c : Int32 → Int32) (l : List Nd) (j m : Nat) : List Int32 := if (l.getD j v0).1 = 3 ∨ (l.getD j v0).1 = 4 then itJ c l j m else itP c j m
theorem c_two {j m h P : Nat} (hR : RtO M q l) (hj : j < l.length) (hb : isBn (l.getD j v0) = true) (hm : fR l j = nI m) (hm2 : m < l.length) (h13 : dp_I M 68 13 = nI h) (hh : h + 7 ≤ 840) (hP : dp_I M 68 1 = nI P) (hl : P + 4 ≤ 1024) : dp_den true xs xl (d + 5) 176 [.ref 68, .ref q, .int (nI j)] M = vR (apd (apd M 69 68 1 P (twW l j)) 74 68 13 h (twI cS l j m)) := by
  have T : dp_t true M q = 16 := by rw [bg_t hR.1]; exact hR.2.2.1
  have kb : (l.getD j v0).1 = 3 ∨ (l.getD j v0).1 = 4 ∨ (l.getD j v0).1 = 5 ∨ (l.getD j v0).1 = 6 := by unfold isBn at hb; exact of_decide_eq_true hb
  have eL : fL l j = nI (j + 1) := by unfold fL; rw [if_pos hb]
  have km : ∀ {d}, dp_den true xs xl (d + 2) 136 [.ref q, .int (nI j)] M = iR (l.getD j v0).1 M := fun {d} => c_kind hR hj
  rw [D_X7_printNode_0_den, D_X7_printNode_0_eq, if_pos T, km (d := d + 2), rb_bi]
  have jn := c_join (xs := xs) (xl := xl) (d := d) hR hj hb hm hm2 h13 hh
  -- a pair, with its word printed
  have pr : ∀ s, let N := apd M 69 68 1 P s; ∀ w5, w5 = itP cS j m → dp_bv (dp_den true xs xl (d + 3) 171 [.ref 68, .int (-41 : Int32)] N) (fun M2 => if dp_t true M2 q = 16 then dp_bi (dp_den true xs xl (d + 3) 135 [.ref q, .int (nI j), .int (4 : Int32)] M2) (fun r4 M3 => dp_bv (dp_den true xs xl (d + 3) 171 [.ref 68, .int r4] M3) (fun M5 => dp_bv (dp_den true xs xl (d + 3) 171 [.ref 68, .int (-32 : Int32)] M5) (fun M6 => dp_bv (dp_den true xs xl (d + 3) 171 [.ref 68, .int (-44 : Int32)] M6) (fun M7 => if dp_t true M7 q = 16 then dp_bi (dp_den true xs xl (d + 3) 135 [.ref q, .int (nI j), .int (3 : Int32)] M7) (fun r9 M8 => dp_bv (dp_den true xs xl (d + 3) 171 [.ref 68, .int r9] M8) (fun M10 => some (.inl none, M10))) else none)))) else none) = vR (apd N 74 68 13 h w5) := by
    intro s N w5 hw
    have hN : RtO N q l := apdR hR
    have n13 : dp_I N 68 13 = nI h := by
      show dp_I (wT M 69 68 1 P _ _) 68 13 = nI h
      rw [wT_f (by decide) (by decide)]; exact h13
    have a0 : N = apd N 74 68 13 h [] := (apd_nil n13).symm
    have f4 : ∀ s, dp_den true xs xl (d + 3) 135 [.ref q, .int (nI j), .int (4 : Int32)] (apd N 74 68 13 h s) = iR (nI m) (apd N 74 68 13 h s) := fun s => by
      rw [c_fact (d := d + 2) (v := 4) (apdR' hN) hj (k := 4) (by decide) rfl]
      show iR (fR l j) _ = _
      rw [hm]
    have f3 : ∀ s, dp_den true xs xl (d + 3) 135 [.ref q, .int (nI j), .int (3 : Int32)] (apd N 74 68 13 h s) = iR (nI (j + 1)) (apd N 74 68 13 h s) := fun s => by
      rw [c_fact (d := d + 2) (v := 3) (apdR' hN) hj (k := 3) (by decide) rfl]
      show iR (fL l j) _ = _
      rw [eL]
    rw [c_psh (d := d + 2) a0 (by simp only [List.length_nil]; omega), rb_bv, if_pos (apdT' hN), f4, rb_bi, c_psh (d := d + 2) rfl (by simp only [List.length_append, List.length_singleton, List.length_nil]; omega), rb_bv, c_psh (d := d + 2) rfl (by simp only [List.length_append, List.length_singleton, List.length_nil]; omega), rb_bv, c_psh (d := d + 2) rfl (by simp only [List.length_append, List.length_singleton, List.length_nil]; omega), rb_bv, if_pos (apdT' hN), f3, rb_bi, c_psh (d := d + 2) rfl (by simp only [List.length_append, List.length_singleton, List.length_nil]; omega), rb_bv, hw]
    rfl
  unfold twW twI
  rcases kb with k | k | k | k
  · rw [k]
    rw [if_neg (show ¬ (3 : Int32) = 0 by decide), if_neg (show ¬ (3 : Int32) = 1 by decide), if_neg (show ¬ (3 : Int32) = 2 by decide), if_pos rfl, jn, rb_bv, if_neg (show ¬ (3 : Int32) = 5 by decide), if_neg (show ¬ (3 : Int32) = 6 by decide), if_pos (show (3 : Int32) = 3 ∨ (3 : Int32) = 4 from Or.inl rfl), apd_nil hP]
  · rw [k]
    rw [if_neg (show ¬ (4 : Int32) = 0 by decide), if_neg (show ¬ (4 : Int32) = 1 by decide), if_neg (show ¬ (4 : Int32) = 2 by decide), if_neg (show ¬ (4 : Int32) = 3 by decide), if_pos rfl, jn, rb_bv, if_neg (show ¬ (4 : Int32) = 5 by decide), if_neg (show ¬ (4 : Int32) = 6 by decide), if_pos (show (4 : Int32) = 3 ∨ (4 : Int32) = 4 from Or.inr rfl), apd_nil hP]
  · rw [k, if_neg (show ¬ (5 : Int32) = 0 by decide), if_neg (show ¬ (5 : Int32) = 1 by decide), if_neg (show ¬ (5 : Int32) = 2 by decide), if_neg (show ¬ (5 : Int32) = 3 by decide), if_neg (show ¬ (5 : Int32) = 4 by decide), if_pos rfl, D_X7_stackPair_0_den, D_X7_stackPair_0_eq, if_pos T, km (d := d + 1), rb_bi, if_pos k, D_X7_stackPair_17_eq, c_w_min (d := d + 1) hP hl, rb_bv, pr _ _ rfl, rb_bv, if_pos rfl, if_neg (show ¬ ((5 : Int32) = 3 ∨ (5 : Int32) = 4) by decide)]
  · rw [k, if_neg (show ¬ (6 : Int32) = 0 by decide), if_neg (show ¬ (6 : Int32) = 1 by decide), if_neg (show ¬ (6 : Int32) = 2 by decide), if_neg (show ¬ (6 : Int32) = 3 by decide), if_neg (show ¬ (6 : Int32) = 4 by decide), if_neg (show ¬ (6 : Int32) = 5 by decide), if_pos rfl, D_X7_stackPair_0_den, D_X7_stackPair_0_eq, if_pos T, km (d := d + 1), rb_bi, if_neg (show ¬ (l.getD j v0).1 = 5 by rw [k]; decide), D_X7_stackPair_17_a_eq, c_w_max (d := d + 1) hP hl, rb_bv, pr _ _ rfl, rb_bv, if_neg (show ¬ (6 : Int32) = 5 by decide), if_pos rfl, if_neg (show ¬ ((6 : Int32) = 3 ∨ (6 : Int32) = 4) by decide)]
end Ray
