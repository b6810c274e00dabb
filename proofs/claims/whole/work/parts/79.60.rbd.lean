-- needs: 71 72 73 74
/-! RATES: print: the class's loop -/
section Rbd
variable {xs : Nat → Int32} {xl d : Nat} {M : dp_M} {q : Nat} {l : List Nd}
noncomputable def LpC (xs : Nat → Int32) (xl d q : Nat) (i : Nat) (_ : Nat) (v : Int32) (N : dp_M) : Option dp_Res := D_X7_printRate_17_a xs xl d q (nI i) v N
/-- the class printing: height h, items f, printed w; M was before -/
def SpC (M : dp_M) (N : dp_M) (h : Nat) (f : Nat → Int32) (w : List Int32) : Prop := dp_I N 68 13 = nI h ∧ (∀ x, x < h → dp_I N 74 x = f x) ∧ dp_I N 68 1 = nI w.length ∧ (∀ x, x < w.length → dp_I N 69 x = w.getD x 0) ∧ Off [68, 69, 74] [] M N ∧ Cst 0 0 M N ∧ ∀ g, g ≠ 1 → g ≠ 13 → dp_I N 68 g = dp_I M 68 g
theorem SpC.put {N : dp_M} {h : Nat} {f : Nat → Int32} {w : List Int32} (s : List Int32) (H : SpC M N h f w) : SpC M (apd N 69 68 1 w.length s) h f (w ++ s) := by
  obtain ⟨h1, h2, h3, h4, h5, h6, h7⟩ := H
  have o := Off.mono (apdC (M := N) (P := w.length) (s := s)) (S' := [68, 69, 74]) (T' := []) (by decide) (by decide)
  refine ⟨?_, ?_, ?_, ?_, h5.tr o, h6, ?_⟩
  · show dp_I (wT N 69 68 1 w.length _ _) 68 13 = nI h
    rw [wT_f (by decide) (by decide)]; exact h1
  · intro x hx
    show dp_I (wT N 69 68 1 w.length _ _) 74 x = f x
    rw [wT_o (by decide) (by decide)]; exact h2 x hx
  · rw [List.length_append]; exact wT_Q
  · intro x hx
    rw [List.length_append] at hx
    show dp_I (wT N 69 68 1 w.length _ _) 69 x = _
    rw [wT_P (by decide)]
    by_cases z : x < w.length
    · rw [fN_lt z, h4 x z, gl z]
    · obtain ⟨y, rfl⟩ : ∃ y, x = w.length + y := ⟨x - w.length, by omega⟩
      rw [fN_in (by omega), gr' (by omega), Nat.add_sub_cancel_left]
  · intro g g1 g2
    show dp_I (wT N 69 68 1 w.length _ _) 68 g = _
    rw [wT_f (by decide) g1]; exact h7 g g1 g2
theorem SpC.pop {N : dp_M} {h : Nat} {f : Nat → Int32} {w : List Int32} (H : SpC M N (h + 1) f w) : SpC M (dp_setI N 68 13 (nI h)) h f w := by
  obtain ⟨h1, h2, h3, h4, h5, h6, h7⟩ := H
  refine ⟨by rw [gII, if_pos rfl, uI_s], fun x hx => ?_, ?_, fun x hx => ?_, h5.I 68 (by decide) _ _, h6, fun g g1 g2 => ?_⟩
  · rw [gII, if_neg (by decide)]; exact h2 x (by omega)
  · rw [gII, if_pos rfl, uI_n (by decide)]; exact h3
  · rw [gII, if_neg (by decide)]; exact h4 x hx
  · rw [gII, if_pos rfl, uI_n g2]; exact h7 g g1 g2
theorem SpC.stk {N : dp_M} {h : Nat} {f : Nat → Int32} {w : List Int32} (s : List Int32) (H : SpC M N h f w) : SpC M (apd N 74 68 13 h s) (h + s.length) (fN f h s.length (fun i => s.getD i 0)) w := by
  obtain ⟨h1, h2, h3, h4, h5, h6, h7⟩ := H
  have o := Off.mono (apdC' (M := N) (h := h) (s := s)) (S' := [68, 69, 74]) (T' := []) (by decide) (by decide)
  refine ⟨wT_Q, ?_, ?_, ?_, h5.tr o, h6, ?_⟩
  · intro x hx
    show dp_I (wT N 74 68 13 h _ _) 74 x = _
    rw [wT_P (by decide)]
    by_cases z : x < h
    · rw [fN_lt z, fN_lt z, h2 x z]
    · obtain ⟨y, rfl⟩ : ∃ y, x = h + y := ⟨x - h, by omega⟩
      rw [fN_in (by omega), fN_in (by omega)]
  · show dp_I (wT N 74 68 13 h _ _) 68 1 = _
    rw [wT_f (by decide) (by decide)]; exact h3
  · intro x hx
    show dp_I (wT N 74 68 13 h _ _) 69 x = _
    rw [wT_o (by decide) (by decide)]; exact h4 x hx
  · intro g g1 g2
    show dp_I (wT N 74 68 13 h _ _) 68 g = _
    rw [wT_f (by decide) g2]; exact h7 g g1 g2
/-- a turn: the item is taken off -/
theorem c_turn {N : dp_M} {i h : Nat} {v x : Int32} {f : Nat → Int32} {w : List Int32} (H : SpC M N (h + 1) f w) (hx : f h = x) (hi : i < 1024) (h8 : h < 840) : D_X7_printRate_17_a xs xl (d + 1) q (nI i) v N = if 0 ≤ x then (dp_bv (dp_den true xs xl (d + 1) 176 [.ref 68, .ref q, .int x] (dp_setI N 68 13 (nI h))) (fun M3 => D_X7_printRate_17_a xs xl (d + 1) q (nI (i + 1)) x M3)) else (dp_bv (dp_den true xs xl (d + 1) 174 [.ref 68, .int (-x)] (dp_setI N 68 13 (nI h))) (fun M3 => D_X7_printRate_17_a xs xl (d + 1) q (nI (i + 1)) x M3)) := by
  rw [D_X7_printRate_17_a_eq, if_neg (show ¬ (1024 : Int32) ≤ nI i from nI_nge (n := 1024) hi (by omega)), H.1, if_neg (show ¬ nI (h + 1) ≤ (0 : Int32) from nI_nge (i := 0) (n := h + 1) (by omega) (by omega)), c_pop H.1 h8, rb_bi, H.2.1 h (by omega), hx]
  simp only [dpw, nI_1]
theorem c_sgn (s : Int32) (hs : s ∈ ([32, 40, 41, 43, 44, 45] : List Int32)) : Rn (LpC xs xl (d + 5) q) (SpC M) (cS s) [s] 1 0 := by
  intro i h v N f w H hx hw hh hi
  have hw' : w.length + 1 ≤ 1024 := hw
  have g : ∃ n, n < 127 ∧ s = nI n ∧ ¬ (0 : Int32) ≤ cS s ∧ -(cS s) = s := by
    simp only [List.mem_cons, List.not_mem_nil, or_false] at hs
    rcases hs with rfl | rfl | rfl | rfl | rfl | rfl
    · exact ⟨32, by decide, rfl, by decide, by decide⟩
    · exact ⟨40, by decide, rfl, by decide, by decide⟩
    · exact ⟨41, by decide, rfl, by decide, by decide⟩
    · exact ⟨43, by decide, rfl, by decide, by decide⟩
    · exact ⟨44, by decide, rfl, by decide, by decide⟩
    · exact ⟨45, by decide, rfl, by decide, by decide⟩
  obtain ⟨n, n1, n2, n3, n4⟩ := g
  have H1 := H.pop
  refine ⟨1, cS s, _, f, Nat.le_refl _, ?_, H1.put [s], fun _ _ => rfl⟩
  show D_X7_printRate_17_a xs xl (d + 5) q (nI i) v N = _
  rw [c_turn (d := d + 4) H hx (by omega) (by omega), if_neg n3, n4, n2, c_sig (d := d + 4) H1.2.2.1 (by omega) n1, rb_bv]
  rfl
theorem nn0 {j : Nat} (h : j < 2147483648) : (0 : Int32) ≤ nI j := by
  rw [Int32.le_iff_toInt_le, nI_toInt h]; show (0 : Int) ≤ j; omega
theorem c_lf (hR : RtO M q l) (hk : ndl l) (hn : nml l) (j : Nat) (hj : j < l.length) (hb : isBn (l.getD j v0) = false) : Rn (LpC xs xl (d + 5) q) (SpC M) (nI j) (lfS (l.getD j v0)) 1 0 := by
  intro i h v N f w H hx hw hh hi
  have l60 := hR.2.2.2.2.2.2.1
  have mem : l.getD j v0 ∈ l := by rw [gE hj]; exact List.getElem_mem hj
  have H1 := H.pop
  refine ⟨1, nI j, _, f, Nat.le_refl _, ?_, H1.put _, fun _ _ => rfl⟩
  show D_X7_printRate_17_a xs xl (d + 5) q (nI i) v N = _
  rw [c_turn (d := d + 4) H hx (by omega) (by omega), if_pos (nn0 (by omega)), c_leaf (d := d) (hR.off H1.2.2.2.2.1) hj (hk _ mem) (hn _ mem) hb H1.2.2.1 hw, rb_bv]
  rfl
theorem c_tw (hR : RtO M q l) (j m : Nat) (hj : j < l.length) (hb : isBn (l.getD j v0) = true) (hm : fR l j = nI m) (hm2 : m < l.length) (i h : Nat) (v : Int32) (N : dp_M) (f : Nat → Int32) (w : List Int32) (H : SpC M N (h + 1) f w) (hx : f h = nI j) (hw : w.length + 4 ≤ 1024) (hh : h + 7 ≤ 390) (hi : i < 1024) : ∃ (v' : Int32) (N' : dp_M), LpC xs xl (d + 5) q i (h + 1) v N = LpC xs xl (d + 5) q (i + 1) (h + (twI cS l j m).length) v' N' ∧ SpC M N' (h + (twI cS l j m).length) (fN f h (twI cS l j m).length (fun i => (twI cS l j m).getD i 0)) (w ++ twW l j) := by
  have l60 := hR.2.2.2.2.2.2.1
  have H1 := H.pop
  have H2 := (H1.put (twW l j)).stk (twI cS l j m)
  refine ⟨nI j, _, ?_, H2⟩
  show D_X7_printRate_17_a xs xl (d + 5) q (nI i) v N = _
  rw [c_turn (d := d + 4) H hx (by omega) (by omega), if_pos (nn0 (by omega)), c_two (d := d) (hR.off H1.2.2.2.2.1) hj hb hm hm2 H1.1 (by omega) H1.2.2.1 hw, rb_bv]
  rfl
/-- the class prints a rate -/
theorem c_print {n : Nat} {s : List Int32} (hR : RtO M q l) (hk : ndl l) (hn : nml l) (hp : Pr n l s) (hs : s.length ≤ 1024) : ∃ N f, dp_den true xs xl (d + 6) 173 [.ref 68, .ref q] M = iR (nI s.length) N ∧ SpC M N 0 f s := by
  have l60 := hR.2.2.2.2.2.2.1
  have R := run_n (l := l) (c := cS) (LP := LpC xs xl (d + 5) q) (St := SpC M) (c_sgn (d := d)) (c_lf (d := d) hR hk hn) (c_tw (d := d) hR) l.length l s hp.len (by omega) 0 [] (by rw [List.drop_zero, List.append_nil])
  obtain ⟨N0, h0⟩ : ∃ N0, N0 = apd (dp_setI (dp_setI M 68 1 0) 68 13 0) 74 68 13 0 [0] := ⟨_, rfl⟩
  have a0 : SpC M (dp_setI (dp_setI M 68 1 0) 68 13 0) 0 (fun _ => 0) [] := by
    refine ⟨by rw [gII, if_pos rfl, uI_s]; rfl, fun x hx => by omega, by rw [gII, if_pos rfl, uI_n (by decide), gII, if_pos rfl, uI_s]; rfl, fun x hx => absurd hx (Nat.not_lt_zero _), ((Off.rr _ _ M).I 68 (by decide) _ _).I 68 (by decide) _ _, Cst.r _, fun g g1 g2 => ?_⟩
    rw [gII, if_pos rfl, uI_n g2, gII, if_pos rfl, uI_n g1]
  have a1 := a0.stk [0]
  rw [← h0] at a1
  obtain ⟨k, v', N', f', b1, b2, b3, b4⟩ := R 0 0 0 N0 _ [] a1 rfl (by rw [List.length_nil]; omega) (by omega) (by omega)
  have b3' : SpC M N' 0 f' s := b3
  refine ⟨N', f', ?_, b3'⟩
  have b2' : D_X7_printRate_17_a xs xl (d + 5) q (nI 0) 0 N0 = D_X7_printRate_17_a xs xl (d + 5) q (nI (0 + k)) v' N' := b2
  rw [D_X7_printRate_0_den, D_X7_printRate_0_eq, dpw, dpw, c_psh (M := dp_setI (dp_setI M 68 1 0) 68 13 0) (h := 0) (s := []) (d := d + 4) (apd_nil a0.1).symm (Nat.le_of_ble_eq_true rfl), rb_bv, dpw]
  show D_X7_printRate_17 xs xl (d + 5) q 0 (apd (dp_setI (dp_setI M 68 1 0) 68 13 0) 74 68 13 0 [0]) = _
  rw [← h0, D_X7_printRate_17_eq, ← D_X7_printRate_17_a_eq (v3 := 0)]
  rw [show (0 : Int32) = nI 0 from rfl] at b2' ⊢
  rw [b2', D_X7_printRate_17_a_eq, if_neg (show ¬ (1024 : Int32) ≤ nI (0 + k) from nI_nge (n := 1024) (by omega) (by omega)), b3'.1, if_pos (show nI 0 ≤ (0 : Int32) by decide), b3'.2.2.1]
end Rbd
