-- needs: 71 72 73 74
/-! RATES: print: leaves -/
section Rav
variable {xs : Nat → Int32} {xl d : Nat} {M : dp_M} {q : Nat} {l : List Nd}
theorem c_leaf {j P : Nat} (h : RtO M q l) (hj : j < l.length) (hk : ndk (l.getD j v0)) (hn : nmk (l.getD j v0)) (hb : isBn (l.getD j v0) = false) (hP : dp_I M 68 1 = nI P) (hl : P + (lfS (l.getD j v0)).length ≤ 1024) : dp_den true xs xl (d + 5) 176 [.ref 68, .ref q, .int (nI j)] M = vR (apd M 69 68 1 P (lfS (l.getD j v0))) := by
  have T : dp_t true M q = 16 := by rw [bg_t h.1]; exact h.2.2.1
  have l60 := h.2.2.2.2.2.2.1
  have nb : ¬ ((l.getD j v0).1 = 3 ∨ (l.getD j v0).1 = 4 ∨ (l.getD j v0).1 = 5 ∨ (l.getD j v0).1 = 6) := by unfold isBn at hb; exact of_decide_eq_false hb
  have f1 : ∀ {d}, dp_den true xs xl (d + 1) 135 [.ref q, .int (nI j), .int (1 : Int32)] M = iR (l.getD j v0).2.1 M := fun {d} => by rw [c_fact (d := d) (v := 1) h hj (k := 1) (by decide) rfl]; rfl
  obtain ⟨v, hv⟩ : ∃ v, v = l.getD j v0 := ⟨_, rfl⟩
  rw [← hv] at hk hn nb hl f1 ⊢
  rw [D_X7_printNode_0_den, D_X7_printNode_0_eq, if_pos T, c_kind (d := d + 2) h hj, rb_bi, ← hv]
  unfold lfS at hl ⊢
  rcases hk with k0 | k1 | ⟨k2, u, u8, hu⟩ | kb | ⟨k7, n1, n6⟩
  · rw [if_pos k0] at hl ⊢
    rw [if_pos k0, c_w_free (d := d + 2) hP hl, rb_bv]
  · rw [k1, if_neg (show ¬ (1 : Int32) = 0 by decide), if_pos rfl] at hl
    rw [k1, if_neg (show ¬ (1 : Int32) = 0 by decide), if_pos rfl, if_neg (show ¬ (1 : Int32) = 0 by decide), if_pos rfl]
    obtain ⟨x, x8, hx⟩ := hn.1 (Or.inl k1)
    rw [hx, nI_cl (by omega), List.length_append, List.length_singleton] at hl
    rw [if_pos T, f1, rb_bi, hx, nI_cl (by omega), c_nmb (d := d + 1) x8 hP (by omega), rb_bv, show (37 : Int32) = nI 37 from rfl, c_app (d := d + 3) hP rfl (by omega) (by omega), rb_bv]
  · rw [k2, if_neg (show ¬ (2 : Int32) = 0 by decide), if_neg (show ¬ (2 : Int32) = 1 by decide), if_pos rfl] at hl
    rw [k2, if_neg (show ¬ (2 : Int32) = 0 by decide), if_neg (show ¬ (2 : Int32) = 1 by decide), if_pos rfl, if_neg (show ¬ (2 : Int32) = 0 by decide), if_neg (show ¬ (2 : Int32) = 1 by decide), if_pos rfl]
    obtain ⟨x, x8, hx⟩ := hn.1 (Or.inr k2)
    have f2 : ∀ s, dp_den true xs xl (d + 4) 135 [.ref q, .int (nI j), .int (2 : Int32)] (apd M 69 68 1 P s) = iR (nI u) (apd M 69 68 1 P s) := fun s => by
      rw [c_fact (d := d + 3) (v := 2) (apdR h) hj (k := 2) (by decide) rfl]
      show iR (l.getD j v0).2.2.1 _ = _
      rw [← hv, hu]
    rw [hx, hu, nI_cl (by omega), nI_cl (by omega), List.length_append] at hl
    simp only [List.length_cons, List.length_nil] at hl
    rw [if_pos T, f1, rb_bi, hx, hu, nI_cl (by omega), nI_cl (by omega), c_nmb (d := d + 1) x8 hP (by omega), rb_bv, show (47 : Int32) = nI 47 from rfl, c_app (d := d + 3) hP rfl (by omega) (by omega), rb_bv, if_pos (apdT h), f2, rb_bi, show (65 : Int32) = nI 65 from rfl, nI_add, c_app (d := d + 3) hP rfl (by rw [List.length_append, List.length_singleton]; omega) (by omega), rb_bv]
    simp only [List.append_assoc, List.cons_append, List.nil_append]
  · exact absurd kb nb
  · rw [k7, if_neg (show ¬ (7 : Int32) = 0 by decide), if_neg (show ¬ (7 : Int32) = 1 by decide), if_neg (show ¬ (7 : Int32) = 2 by decide)] at hl
    rw [k7, if_neg (show ¬ (7 : Int32) = 0 by decide), if_neg (show ¬ (7 : Int32) = 1 by decide), if_neg (show ¬ (7 : Int32) = 2 by decide), if_neg (show ¬ (7 : Int32) = 3 by decide), if_neg (show ¬ (7 : Int32) = 4 by decide), if_neg (show ¬ (7 : Int32) = 5 by decide), if_neg (show ¬ (7 : Int32) = 6 by decide), if_pos rfl, if_neg (show ¬ (7 : Int32) = 0 by decide), if_neg (show ¬ (7 : Int32) = 1 by decide), if_neg (show ¬ (7 : Int32) = 2 by decide)]
    obtain ⟨⟨e, e6, he⟩, a, ha, hab⟩ := hn.2 k7
    have ln : (rws a).length = a.length := by unfold rws; rw [List.length_map]
    rw [ha, ln] at n1 n6 hl
    rw [he, nI_cl (by omega), List.length_append, List.length_append, List.length_append, List.length_singleton] at hl
    simp only [List.length_cons, List.length_nil] at hl
    have f1' : ∀ s, dp_den true xs xl (d + 3) 135 [.ref q, .int (nI j), .int (1 : Int32)] (apd M 69 68 1 P s) = iR (nI e) (apd M 69 68 1 P s) := fun s => by
      rw [c_fact (d := d + 2) (v := 1) (apdR h) hj (k := 1) (by decide) rfl]
      show iR (l.getD j v0).2.1 _ = _
      rw [← hv, he]
    rw [D_X7_printSteps_0_den, D_X7_printSteps_0_eq, c_w_step (d := d + 1) hP (by omega), rb_bv, if_pos (apdT h), f1', rb_bi, c_whl (d := d + 1) e6 apd_o (by simp only [List.length_cons, List.length_nil]; omega), rb_bv, apd_apd (by decide), show (58 : Int32) = nI 58 from rfl, c_app (d := d + 2) hP rfl (by rw [List.length_append]; simp only [List.length_cons, List.length_nil]; omega) (by omega), rb_bv, dpw, c_steps' (d := d) h hj (by rw [← hv]; exact ha) hab n1 n6 hP (by simp only [List.length_append, List.length_cons, List.length_nil]; omega), rb_bv, he, nI_cl (by omega), ha, ln]
    simp only [List.append_assoc, List.cons_append, List.nil_append]
end Rav
