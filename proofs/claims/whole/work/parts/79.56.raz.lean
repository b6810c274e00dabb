-- needs: 71 72 73 74
/-! RATES: print: nodes with two below them, the model -/
section Raz
variable {xs : Nat → Int32} {xl d : Nat} {M : dp_M} {l : List Nd}
/-- items s are piled on the first h -/
def pil (M : dp_M) (h : Nat) (s : List Int32) : dp_M := rI M 186 (fN (dp_I M 186) h s.length (fun i => s.getD i 0))
theorem pil_nil {h : Nat} : pil M h [] = M := by
  unfold pil
  show rI M 186 (fN (dp_I M 186) h 0 _) = M
  rw [fN_0, rI_id]
theorem pil_s {h : Nat} {s : List Int32} {c : Int32} : dp_setI (pil M h s) 186 (h + s.length) c = pil M h (s ++ [c]) := by
  unfold pil
  have g : fN (dp_I M 186) h s.length (fun i => s.getD i 0) = fN (dp_I M 186) h s.length (fun i => (s ++ [c]).getD i 0) := by
    funext i
    unfold fN
    by_cases z : h ≤ i ∧ i < h + s.length
    · rw [if_pos z, if_pos z]; exact (gl (by omega)).symm
    · rw [if_neg z, if_neg z]
  have e : (s ++ [c]).getD s.length 0 = c := by rw [gr' (Nat.le_refl _), Nat.sub_self]; rfl
  have fs := fN_s (dp_I M 186) h s.length (fun i => (s ++ [c]).getD i 0)
  rw [e] at fs
  rw [rI_set, g, fs, List.length_append]
  rfl
theorem pilM {h : Nat} {s : List Int32} (hF : FnM M l) : FnM (pil M h s) l := by
  have o : ∀ K, K ≠ 186 → dp_I (pil M h s) K = dp_I M K := fun K a => by unfold pil; rw [rI_I, if_neg a]
  refine ⟨hF.1, hF.2.1, fun i hi => ?_⟩
  obtain ⟨b1, b2⟩ := hF.2.2 i hi
  refine ⟨?_, by rw [o 179 (by decide)]; exact b2⟩
  rw [← b1]
  unfold rdN rwN
  rw [o 174 (by decide), o 175 (by decide), o 176 (by decide), o 177 (by decide), o 178 (by decide), o 179 (by decide), o 180 (by decide), o 181 (by decide)]
theorem m_pl {h k : Nat} {s : List Int32} {N : dp_M} {v : Int32} (hN : N = pil M h s) (hk : k = h + s.length) (hl : k < 400) : dp_den true xs xl (d + 1) 500 [.ref 114, .int (nI k), .int v] N = iR (nI (k + 1)) (pil M h (s ++ [v])) := by
  rw [D_X12_piles_0_den, D_X12_piles_0_eq, nI_cl (by omega), if_neg (by rw [nI_o hl (by omega)]; exact id), dpw, nI_1, hN, hk, pil_s]
theorem m_two {j m h P : Nat} (hF : FnM M l) (hj : j < l.length) (hb : isBn (l.getD j v0) = true) (hm : fR l j = nI m) (hm2 : m < l.length) (hh : h + 7 ≤ 400) (hP : dp_I M 114 104 = nI P) (hl : P + 4 ≤ 4000) : dp_den true xs xl (d + 3) 501 [.ref 114, .int (nI (60 + j)), .int (nI h)] M = iR (nI (h + (twI mS l j m).length)) (pil (apd M 190 114 104 P (twW l j)) h (twI mS l j m)) := by
  have l60 := hF.1
  have kb : (l.getD j v0).1 = 3 ∨ (l.getD j v0).1 = 4 ∨ (l.getD j v0).1 = 5 ∨ (l.getD j v0).1 = 6 := by unfold isBn at hb; exact of_decide_eq_true hb
  have eL : fL l j = nI (j + 1) := by unfold fL; rw [if_pos hb]
  have no : ¬ (nI (60 + j) < 0 ∨ 120 ≤ 60 + j) := by rw [nI_o (show 60 + j < 120 by omega) (by omega)]; exact id
  have nm : ¬ (nI (60 + m) < 0 ∨ 120 ≤ 60 + m) := by rw [nI_o (show 60 + m < 120 by omega) (by omega)]; exact id
  have c6 : (nI (60 + j)).toNatClampNeg = 60 + j := nI_cl (by omega)
  have cm : (nI (60 + m)).toNatClampNeg = 60 + m := nI_cl (by omega)
  have ixm : (60 : Int32) + nI m = nI (60 + m) := by rw [show (60 : Int32) = nI 60 from rfl, nI_add]
  obtain ⟨f0, -, -, -, f4, -, -⟩ := fnm_at hF hj
  have fm := (fnm_at hF hm2).1
  have f3 : ∀ (N : dp_M) (s : List Int32), FnM N l → dp_I (pil N h s) 177 (60 + j) = nI (j + 1) := fun N s hN => by rw [(fnm_at (pilM (h := h) (s := s) hN) hj).2.2.2.1, eL]
  obtain ⟨K, hK⟩ : ∃ K, K = (l.getD j v0).1 := ⟨_, rfl⟩
  -- from 147 on: a sum or difference
  have t147 : ∀ (s : List Int32) (k : Nat) (w6 w7 : Int32), k = h + s.length → s.length ≤ 3 → (K = 3 ∨ K = 4) → D_X12_putsTwo_147 xs xl (d + 2) (nI (60 + j)) (nI h) K (nI m) 0 w6 w7 (nI k) (pil M h s) = iR (nI (k + 4)) (pil M h (s ++ [-33, (if K = 3 then -1 - 43 else -1 - 45), -33, nI (j + 1)])) := fun s k w6 w7 hk hs kk => by
    have go : ∀ c w, D_X12_putsTwo_185 xs xl (d + 2) (nI (60 + j)) (nI h) K (nI m) 0 w6 w c (-1) (nI (k + 1)) (pil M h (s ++ [-33])) = iR (nI (k + 4)) (pil M h (s ++ [-33, -1 - c, -33, nI (j + 1)])) := fun c w => by
      rw [D_X12_putsTwo_185_eq, m_pl (d := d + 1) rfl (by simp only [List.length_append, List.length_singleton]; omega) (by omega), rb_bi, if_pos rfl, m_pl (d := d + 1) rfl (by simp only [List.length_append, List.length_singleton]; omega) (by omega), rb_bi, c6, if_neg no, f3 M _ hF, m_pl (d := d + 1) rfl (by simp only [List.length_append, List.length_singleton]; omega) (by omega), rb_bi]
      simp only [List.append_assoc, List.cons_append, List.nil_append]
    rw [D_X12_putsTwo_147_eq, m_pl (d := d + 1) rfl hk (by omega), rb_bi, if_pos rfl]
    by_cases k3 : K = 3
    · rw [if_pos k3, if_pos k3]; exact go 43 _
    · rw [if_neg k3, if_neg k3]; exact go 45 _
  have a0 : M = pil M h [] := pil_nil.symm
  have jn : (K = 3 ∨ K = 4) → dp_den true xs xl (d + 3) 501 [.ref 114, .int (nI (60 + j)), .int (nI h)] M = iR (nI (h + (itJ mS l j m).length)) (pil M h (itJ mS l j m)) := fun kk => by
    have k5 : ¬ K = 5 := fun e => by rw [e] at kk; exact absurd kk (by decide)
    have k6 : ¬ K = 6 := fun e => by rw [e] at kk; exact absurd kk (by decide)
    have y : brkR l m = true → D_X12_putsTwo_71 xs xl (d + 2) (nI (60 + j)) (nI h) K (nI m) 0 1 M = iR (nI (h + (itJ mS l j m).length)) (pil M h (itJ mS l j m)) := fun bk => by
      rw [D_X12_putsTwo_71_eq, if_pos rfl, if_neg (by decide), m_pl (d := d + 1) (k := h) a0 rfl (by omega), rb_bi, D_X12_putsTwo_112_eq, m_pl (d := d + 1) (k := h + 1) rfl rfl (by omega), rb_bi, if_neg (by decide), if_pos rfl, m_pl (d := d + 1) (k := h + 1 + 1) rfl rfl (by omega), rb_bi, t147 _ (h + 1 + 1 + 1) _ _ rfl (Nat.le_of_ble_eq_true rfl) kk]
      unfold itJ
      rw [if_pos bk, if_pos bk, ← hK]
      rfl
    have n : brkR l m = false → D_X12_putsTwo_71 xs xl (d + 2) (nI (60 + j)) (nI h) K (nI m) 0 0 M = iR (nI (h + (itJ mS l j m).length)) (pil M h (itJ mS l j m)) := fun bk => by
      rw [D_X12_putsTwo_71_eq, if_pos rfl, if_pos rfl, D_X12_putsTwo_112_eq, m_pl (d := d + 1) (k := h) a0 rfl (by omega), rb_bi, if_pos rfl, t147 _ (h + 1) _ _ rfl (Nat.le_of_ble_eq_true rfl) kk]
      unfold itJ
      rw [if_neg (show ¬ brkR l m = true by rw [bk]; decide), if_neg (show ¬ brkR l m = true by rw [bk]; decide), ← hK]
      rfl
    rw [D_X12_putsTwo_0_den, D_X12_putsTwo_0_eq, c6, if_neg no, dpw, if_neg no, dpw, f0, f4, hm, ← hK, if_neg k5, if_neg k6, D_X12_putsTwo_31_eq, if_pos rfl, ixm, cm, if_neg nm, fm]
    by_cases k3 : (l.getD m v0).1 = 3
    · rw [if_pos k3]; exact y (by unfold brkR; exact decide_eq_true (Or.inl k3))
    · rw [if_neg k3, if_neg nm]
      by_cases k4 : (l.getD m v0).1 = 4
      · rw [if_pos k4]; exact y (by unfold brkR; exact decide_eq_true (Or.inr k4))
      · rw [if_neg k4]; exact n (by unfold brkR; exact decide_eq_false (fun q => q.elim k3 k4))
  -- a pair, its word put
  have pr : ∀ s, D_X12_putsTwo_112 xs xl (d + 2) (nI (60 + j)) (nI h) K (nI m) 1 1 (nI (h + 1)) (pil (apd M 190 114 104 P s) h [-42]) = iR (nI (h + 5)) (pil (apd M 190 114 104 P s) h (itP mS j m)) := fun s => by
    have hN : FnM (apd M 190 114 104 P s) l := apdM hF
    rw [D_X12_putsTwo_112_eq, m_pl (d := d + 1) (k := h + 1) rfl rfl (by omega), rb_bi, if_neg (by decide), if_neg (by decide), D_X12_putsTwo_147_eq, m_pl (d := d + 1) (k := h + 1 + 1) rfl rfl (by omega), rb_bi, if_neg (by decide), D_X12_putsTwo_185_eq, m_pl (d := d + 1) (k := h + 1 + 1 + 1) rfl rfl (by omega), rb_bi, if_neg (by decide), c6, if_neg no, f3 _ _ hN, m_pl (d := d + 1) (k := h + 1 + 1 + 1 + 1) rfl rfl (by omega), rb_bi]
    rfl
  have b0 : ∀ s, apd M 190 114 104 P s = pil (apd M 190 114 104 P s) h [] := fun s => pil_nil.symm
  unfold twW twI
  rw [← hK] at kb ⊢
  rcases kb with k | k | k | k
  · rw [if_neg (show ¬ K = 5 by rw [k]; decide), if_neg (show ¬ K = 6 by rw [k]; decide), if_pos (Or.inl k), apd_nil hP]
    exact jn (Or.inl k)
  · rw [if_neg (show ¬ K = 5 by rw [k]; decide), if_neg (show ¬ K = 6 by rw [k]; decide), if_pos (Or.inr k), apd_nil hP]
    exact jn (Or.inr k)
  · have n34 : ¬ (K = 3 ∨ K = 4) := by rw [k]; decide
    rw [D_X12_putsTwo_0_den, D_X12_putsTwo_0_eq, c6, if_neg no, dpw, if_neg no, dpw, f0, f4, hm, ← hK, if_pos k, D_X12_putsTwo_31_eq, if_neg (by decide), D_X12_putsTwo_71_eq, if_neg (by decide), if_pos k, m_w_min (d := d) hP hl, rb_bv, if_neg (by decide), m_pl (d := d + 1) (k := h) (b0 _) rfl (by omega), rb_bi]
    rw [if_pos k, if_neg n34]
    exact pr _
  · have n34 : ¬ (K = 3 ∨ K = 4) := by rw [k]; decide
    have n5 : ¬ K = 5 := by rw [k]; decide
    rw [D_X12_putsTwo_0_den, D_X12_putsTwo_0_eq, c6, if_neg no, dpw, if_neg no, dpw, f0, f4, hm, ← hK, if_neg n5, if_pos k, D_X12_putsTwo_31_eq, if_neg (by decide), D_X12_putsTwo_71_eq, if_neg (by decide), if_neg n5, m_w_max (d := d) hP hl, rb_bv, if_neg (by decide), m_pl (d := d + 1) (k := h) (b0 _) rfl (by omega), rb_bi]
    rw [if_neg n5, if_pos k, if_neg n34]
    exact pr _
end Raz
