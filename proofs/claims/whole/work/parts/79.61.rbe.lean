-- needs: 71 72 73 74
/-! RATES: print: the model's loop -/
section Rbe
variable {xs : Nat → Int32} {xl d : Nat} {M : dp_M} {l : List Nd} {v1 : Int32}
noncomputable def LpM (xs : Nat → Int32) (xl d : Nat) (v1 : Int32) (_ : Nat) (h : Nat) (v : Int32) (N : dp_M) : Option dp_Res := D_X12_print_59_a xs xl d v1 (nI h) v N
/-- the model printing: items f, printed w; M was before -/
def SpM (l : List Nd) (M : dp_M) (N : dp_M) (h : Nat) (f : Nat → Int32) (w : List Int32) : Prop := FnM N l ∧ (∀ x, x < h → dp_I N 186 x = f x) ∧ dp_I N 114 104 = nI w.length ∧ (∀ x, x < w.length → dp_I N 190 x = w.getD x 0) ∧ Off [186, 190] [104] M N ∧ Cst 0 0 M N
theorem SpM.put {N : dp_M} {h : Nat} {f : Nat → Int32} {w : List Int32} (s : List Int32) (H : SpM l M N h f w) : SpM l M (apd N 190 114 104 w.length s) h f (w ++ s) := by
  obtain ⟨h1, h2, h3, h4, h5, h6⟩ := H
  refine ⟨apdM h1, ?_, ?_, ?_, ?_, h6⟩
  · intro x hx
    show dp_I (wT N 190 114 104 w.length _ _) 186 x = f x
    rw [wT_o (by decide) (by decide)]; exact h2 x hx
  · rw [List.length_append]; exact wT_Q
  · intro x hx
    rw [List.length_append] at hx
    show dp_I (wT N 190 114 104 w.length _ _) 190 x = _
    rw [wT_P (by decide)]
    by_cases z : x < w.length
    · rw [fN_lt z, h4 x z, gl z]
    · obtain ⟨y, rfl⟩ : ∃ y, x = w.length + y := ⟨x - w.length, by omega⟩
      rw [fN_in (by omega), gr' (by omega), Nat.add_sub_cancel_left]
  · unfold apd wT
    exact Off.F 104 (by decide) _ (Off.rI 190 (by decide) _ h5)
theorem SpM.low {N : dp_M} {h : Nat} {f : Nat → Int32} {w : List Int32} (H : SpM l M N (h + 1) f w) : SpM l M N h f w := ⟨H.1, fun x hx => H.2.1 x (by omega), H.2.2⟩
theorem SpM.stk {N : dp_M} {h : Nat} {f : Nat → Int32} {w : List Int32} (s : List Int32) (H : SpM l M N h f w) : SpM l M (pil N h s) (h + s.length) (fN f h s.length (fun i => s.getD i 0)) w := by
  obtain ⟨h1, h2, h3, h4, h5, h6⟩ := H
  refine ⟨pilM h1, ?_, ?_, ?_, ?_, h6⟩
  · intro x hx
    unfold pil
    rw [rI_I, if_pos rfl]
    by_cases z : x < h
    · rw [fN_lt z, fN_lt z, h2 x z]
    · obtain ⟨y, rfl⟩ : ∃ y, x = h + y := ⟨x - h, by omega⟩
      rw [fN_in (by omega), fN_in (by omega)]
  · unfold pil
    rw [rI_I, if_neg (by decide)]; exact h3
  · intro x hx
    unfold pil
    rw [rI_I, if_neg (by decide)]; exact h4 x hx
  · unfold pil
    exact Off.rI 186 (by decide) _ h5
/-- a turn of the model -/
theorem m_turn {N : dp_M} {h : Nat} {v x : Int32} {f : Nat → Int32} {w : List Int32} (H : SpM l M N (h + 1) f w) (hx : f h = x) (h8 : h < 400) : D_X12_print_59_a xs xl d v1 (nI (h + 1)) v N = if 0 ≤ x then (if ((60 : Int32) + x) < 0 ∨ 120 ≤ Int32.toNatClampNeg ((60 : Int32) + x) then none else (if (dp_I N 177 (Int32.toNatClampNeg ((60 : Int32) + x))) = (-1 : Int32) then (dp_bv (dp_den true xs xl d 499 [.ref 114, .int ((60 : Int32) + x)] N) (fun M3 => D_X12_print_59_a xs xl d v1 (nI h) x M3)) else (dp_bi (dp_den true xs xl d 501 [.ref 114, .int ((60 : Int32) + x), .int (nI h)] N) (fun r5 M4 => D_X12_print_59_a xs xl d v1 r5 x M4)))) else (dp_bv (dp_den true xs xl d 495 [.ref 114, .int ((-1 : Int32) - x)] N) (fun M6 => D_X12_print_59_a xs xl d v1 (nI h) x M6)) := by
  have e : nI (h + 1) + (-1 : Int32) = nI h := by rw [← Int32.sub_eq_add_neg, nI_pred]
  rw [D_X12_print_59_a_eq, if_neg (show ¬ nI (h + 1) ≤ (0 : Int32) from nI_nge (i := 0) (n := h + 1) (by omega) (by omega)), dpw, e, nI_cl (by omega), if_neg (by rw [nI_o h8 (by omega)]; exact id), dpw, H.2.1 h (by omega), hx]
theorem m_sgn (s : Int32) (hs : s ∈ ([32, 40, 41, 43, 44, 45] : List Int32)) : Rn (LpM xs xl (d + 3) v1) (SpM l M) (mS s) [s] 1 0 := by
  intro i h v N f w H hx hw hh hi
  have hw' : w.length + 1 ≤ 1024 := hw
  have g : ¬ (0 : Int32) ≤ mS s ∧ (-1 : Int32) - mS s = s := by
    simp only [List.mem_cons, List.not_mem_nil, or_false] at hs
    rcases hs with rfl | rfl | rfl | rfl | rfl | rfl <;> exact ⟨by decide, by decide⟩
  obtain ⟨n3, n4⟩ := g
  have H1 := H.low
  refine ⟨1, mS s, _, f, Nat.le_refl _, ?_, H1.put [s], fun _ _ => rfl⟩
  show D_X12_print_59_a xs xl (d + 3) v1 (nI (h + 1)) v N = _
  rw [m_turn H hx (by omega), if_neg n3, n4, m_sig (d := d + 2) H1.2.2.1 (by omega), rb_bv]
  rfl
theorem m_lf (hk : ndl l) (hn : nml l) (j : Nat) (hj : j < l.length) (hb : isBn (l.getD j v0) = false) : Rn (LpM xs xl (d + 4) v1) (SpM l M) (nI j) (lfS (l.getD j v0)) 1 0 := by
  intro i h v N f w H hx hw hh hi
  have l60 := H.1.1
  have mem : l.getD j v0 ∈ l := by rw [gE hj]; exact List.getElem_mem hj
  have H1 := H.low
  have ix : (60 : Int32) + nI j = nI (60 + j) := by rw [show (60 : Int32) = nI 60 from rfl, nI_add]
  have f3 : dp_I N 177 (60 + j) = -1 := by rw [(fnm_at H.1 hj).2.2.2.1]; unfold fL; rw [if_neg (by rw [hb]; decide)]
  refine ⟨1, nI j, _, f, Nat.le_refl _, ?_, H1.put _, fun _ _ => rfl⟩
  show D_X12_print_59_a xs xl (d + 4) v1 (nI (h + 1)) v N = _
  rw [m_turn H hx (by omega), if_pos (nn0 (by omega)), ix, nI_cl (by omega), if_neg (by rw [nI_o (show 60 + j < 120 by omega) (by omega)]; exact id), f3, if_pos rfl, m_leaf (d := d) H.1 hj (hk _ mem) (hn _ mem) hb H1.2.2.1 (by omega), rb_bv]
  rfl
theorem m_tw (j m : Nat) (hj : j < l.length) (hb : isBn (l.getD j v0) = true) (hm : fR l j = nI m) (hm2 : m < l.length) (i h : Nat) (v : Int32) (N : dp_M) (f : Nat → Int32) (w : List Int32) (H : SpM l M N (h + 1) f w) (hx : f h = nI j) (hw : w.length + 4 ≤ 1024) (hh : h + 7 ≤ 390) (hi : i < 1024) : ∃ (v' : Int32) (N' : dp_M), LpM xs xl (d + 4) v1 i (h + 1) v N = LpM xs xl (d + 4) v1 (i + 1) (h + (twI mS l j m).length) v' N' ∧ SpM l M N' (h + (twI mS l j m).length) (fN f h (twI mS l j m).length (fun i => (twI mS l j m).getD i 0)) (w ++ twW l j) := by
  have l60 := H.1.1
  have H1 := H.low
  have H2 := (H1.put (twW l j)).stk (twI mS l j m)
  have ix : (60 : Int32) + nI j = nI (60 + j) := by rw [show (60 : Int32) = nI 60 from rfl, nI_add]
  have f3 : ¬ dp_I N 177 (60 + j) = -1 := by rw [(fnm_at H.1 hj).2.2.2.1]; unfold fL; rw [if_pos hb]; exact fun e => absurd (e ▸ nn0 (j := j + 1) (by omega)) (by decide)
  refine ⟨nI j, _, ?_, H2⟩
  show D_X12_print_59_a xs xl (d + 4) v1 (nI (h + 1)) v N = _
  rw [m_turn H hx (by omega), if_pos (nn0 (by omega)), ix, nI_cl (by omega), if_neg (by rw [nI_o (show 60 + j < 120 by omega) (by omega)]; exact id), if_neg f3, m_two (d := d + 1) H.1 hj hb hm hm2 (by omega) H1.2.2.1 (by omega), rb_bi]
  rfl
/-- the model prints what was read -/
theorem m_print {n : Nat} {s : List Int32} (hF : FnM M l) (hk : ndl l) (hn : nml l) (hp : Pr n l s) (hs : s.length ≤ 1024) : ∃ N f, D_X12_print_59 xs xl (d + 4) v1 1 (dp_setI (dp_setI M 114 104 0) 186 0 0) = iR (nI s.length) N ∧ SpM l M N 0 f s := by
  have l60 := hF.1
  have R := run_n (l := l) (c := mS) (LP := LpM xs xl (d + 4) v1) (St := SpM l M) (m_sgn (d := d + 1)) (m_lf (d := d) hk hn) (m_tw (d := d)) l.length l s hp.len (by omega) 0 [] (by rw [List.drop_zero, List.append_nil])
  obtain ⟨N0, h0⟩ : ∃ N0, N0 = dp_setI (dp_setI M 114 104 0) 186 0 0 := ⟨_, rfl⟩
  have hF0 : FnM N0 l := by
    have o : ∀ K, K ≠ 186 → K ≠ 114 → dp_I N0 K = dp_I M K := fun K a b => by rw [h0, gII, if_neg a, gII, if_neg b]
    refine ⟨hF.1, hF.2.1, fun i hi => ?_⟩
    obtain ⟨b1, b2⟩ := hF.2.2 i hi
    refine ⟨?_, by rw [o 179 (by decide) (by decide)]; exact b2⟩
    rw [← b1]
    unfold rdN rwN
    rw [o 174 (by decide) (by decide), o 175 (by decide) (by decide), o 176 (by decide) (by decide), o 177 (by decide) (by decide), o 178 (by decide) (by decide), o 179 (by decide) (by decide), o 180 (by decide) (by decide), o 181 (by decide) (by decide)]
  have a1 : SpM l M N0 1 (fun _ => 0) [] := by
    refine ⟨hF0, fun x hx => ?_, ?_, fun x hx => absurd hx (Nat.not_lt_zero _), ?_, ?_⟩
    · have x0 : x = 0 := by omega
      rw [h0, gII, if_pos rfl, x0, uI_s]
    · rw [h0, gII, if_neg (by decide), gII, if_pos rfl, uI_s]; rfl
    · rw [h0]; exact ((Off.rr _ _ M).F 104 (by decide) _).I 186 (by decide) _ _
    · rw [h0]; exact Cst.r _
  obtain ⟨k, v', N', f', b1, b2, b3, b4⟩ := R 0 0 0 N0 _ [] a1 rfl (by rw [List.length_nil]; omega) (by omega) (by omega)
  have b3' : SpM l M N' 0 f' s := b3
  refine ⟨N', f', ?_, b3'⟩
  have b2' : D_X12_print_59_a xs xl (d + 4) v1 (nI (0 + 1)) 0 N0 = D_X12_print_59_a xs xl (d + 4) v1 (nI 0) v' N' := b2
  rw [← h0, D_X12_print_59_eq, ← D_X12_print_59_a_eq (v3 := 0)]
  rw [show (1 : Int32) = nI (0 + 1) from rfl, b2', D_X12_print_59_a_eq, if_pos (show nI 0 ≤ (0 : Int32) by decide), b3'.2.2.1]
end Rbe
