-- needs: 71 72 73 74
/-! RATES: print: leaves, the model -/
section Raw
variable {xs : Nat → Int32} {xl d : Nat} {M : dp_M} {l : List Nd}
theorem apdM {P : Nat} {s : List Int32} (h : FnM M l) : FnM (apd M 190 114 104 P s) l := by
  have o : ∀ K, K ≠ 190 → K ≠ 114 → dp_I (apd M 190 114 104 P s) K = dp_I M K := fun K a b => wT_o a b
  refine ⟨h.1, h.2.1, fun i hi => ?_⟩
  obtain ⟨b1, b2⟩ := h.2.2 i hi
  refine ⟨?_, by rw [o 179 (by decide) (by decide)]; exact b2⟩
  rw [← b1]
  unfold rdN rwN
  rw [o 174 (by decide) (by decide), o 175 (by decide) (by decide), o 176 (by decide) (by decide), o 177 (by decide) (by decide), o 178 (by decide) (by decide), o 179 (by decide) (by decide), o 180 (by decide) (by decide), o 181 (by decide) (by decide)]
theorem m_steps' {j P : Nat} {s0 : List Int32} (h : FnM M l) (hj : j < l.length) {a : List (Nat × Nat)} (ha : (l.getD j v0).2.2.2 = rws a) (hb : ∀ x, x ∈ a → x.1 < 1000000 ∧ x.2 < 1000000) (h6 : a.length ≤ 6) (hP : dp_I M 114 104 = nI P) (hl : P + (s0 ++ (rwS (rws a) a.length ++ [nI 41])).length ≤ 4000) : D_X12_putsLeaf_112 xs xl (d + 2) (nI (60 + j)) 0 (apd M 190 114 104 P s0) = vR (apd M 190 114 104 P (s0 ++ (rwS (rws a) a.length ++ [nI 41]))) := by
  have ln : (rws a).length = a.length := by unfold rws; rw [List.length_map]
  have l60 := h.1
  have no : ¬ (nI (60 + j) < 0 ∨ 120 ≤ 60 + j) := by rw [nI_o (show 60 + j < 120 by omega) (by omega)]; exact id
  have c6 : (nI (60 + j)).toNatClampNeg = 60 + j := nI_cl (by omega)
  have mono : ∀ k, k ≤ a.length → (rwS (rws a) k).length ≤ (rwS (rws a) a.length).length := by
    intro k hk
    have : ∀ n, k ≤ n → (rwS (rws a) k).length ≤ (rwS (rws a) n).length := by
      intro n hn
      induction n with
      | zero => rw [show k = 0 by omega]; exact Nat.le_refl _
      | succ n ih =>
        by_cases z : k = n + 1
        · rw [z]; exact Nat.le_refl _
        · refine Nat.le_trans (ih (by omega)) ?_
          show _ ≤ (rwS (rws a) n ++ _).length
          rw [List.length_append]; exact Nat.le_add_right _ _
    exact this a.length hk
  rw [List.length_append, List.length_append, List.length_singleton] at hl
  have f5 : ∀ s, dp_I (apd M 190 114 104 P s) 179 (60 + j) = nI a.length := fun s => by
    obtain ⟨-, -, -, -, -, f5, -⟩ := fnm_at (apdM (P := P) (s := s) h) hj
    rw [f5, ha, ln]
  have key := lpb (F := fun (s : List Int32) k => D_X12_putsLeaf_112 xs xl (d + 2) (nI (60 + j)) (nI k) (apd M 190 114 104 P s)) (s := fun k => s0 ++ rwS (rws a) k) (N := a.length) (r := (.inl none, apd M 190 114 104 P (s0 ++ (rwS (rws a) a.length ++ [nI 41])))) ?_ (fun k hk hr => ?_)
  · (try dsimp only at key)
    rw [show rwS (rws a) 0 = [] from rfl, List.append_nil] at key
    exact key
  · (try dsimp only)
    rw [D_X12_putsLeaf_112_eq, c6, if_neg no, f5, if_pos (nI_lle (Nat.le_refl _) (by omega)), show (41 : Int32) = nI 41 from rfl, m_app (d := d + 1) hP rfl (by rw [List.length_append]; omega), rb_bv, List.append_assoc]
  · (try dsimp only at hr); (try dsimp only)
    obtain ⟨ra, rm⟩ := rws_at hk
    obtain ⟨b1, b2⟩ := hb _ rm
    have hk' : k < (l.getD j v0).2.2.2.length := by rw [ha, ln]; exact hk
    have fr : ∀ s, dp_I (apd M 190 114 104 P s) 180 ((60 + j) * 6 + k) = nI (a.getD k (0, 0)).1 ∧ dp_I (apd M 190 114 104 P s) 181 ((60 + j) * 6 + k) = nI (a.getD k (0, 0)).2 := fun s => by
      obtain ⟨-, -, -, -, -, -, fr⟩ := fnm_at (apdM (P := P) (s := s) h) hj
      have := fr k hk'
      rw [ha, ra] at this
      exact ⟨(congrArg Prod.fst this).symm, (congrArg Prod.snd this).symm⟩
    have ix : ((6 : Int32) * nI (60 + j)) + nI k = nI ((60 + j) * 6 + k) := by rw [show (6 : Int32) = nI 6 from rfl, pk_mul, nI_add, Nat.mul_comm]
    have no7 : ¬ (nI ((60 + j) * 6 + k) < 0 ∨ 720 ≤ (60 + j) * 6 + k) := by rw [nI_o (show (60 + j) * 6 + k < 720 by omega) (by omega)]; exact id
    have rs : rwS (rws a) (k + 1) = rwS (rws a) k ++ ((if k = 0 then [nI 58, nI 32] else [nI 44, nI 32]) ++ (wS (a.getD k (0, 0)).1 ++ (nI 61 :: wS (a.getD k (0, 0)).2))) := by
      show rwS (rws a) k ++ (_ ++ (wS ((rws a).getD k (0, 0)).1.toNatClampNeg ++ (nI 61 :: wS ((rws a).getD k (0, 0)).2.toNatClampNeg))) = _
      rw [ra]
      show rwS (rws a) k ++ (_ ++ (wS (nI (a.getD k (0, 0)).1).toNatClampNeg ++ (nI 61 :: wS (nI (a.getD k (0, 0)).2).toNatClampNeg))) = _
      rw [nI_cl (by omega), nI_cl (by omega)]
    have m1 := mono (k + 1) (by omega)
    have i2 : (if k = 0 then [nI 58, nI 32] else [nI 44, nI 32]).length = 2 := by split <;> rfl
    rw [rs] at hr m1
    rw [List.length_append, List.length_append, List.length_append, List.length_cons, i2] at m1
    have tail : ∀ (w : Int64) (b : List Int32), b.length = 2 → dp_den true xs xl (d + 2) 498 [.ref 114, .long w] (apd M 190 114 104 P (s0 ++ rwS (rws a) k)) = vR (apd M 190 114 104 P (s0 ++ rwS (rws a) k ++ b)) → D_X12_putsLeaf_136 xs xl (d + 2) (nI (60 + j)) (nI k) w (apd M 190 114 104 P (s0 ++ rwS (rws a) k)) = D_X12_putsLeaf_112 xs xl (d + 2) (nI (60 + j)) (nI (k + 1)) (apd M 190 114 104 P (s0 ++ (rwS (rws a) k ++ (b ++ (wS (a.getD k (0, 0)).1 ++ (nI 61 :: wS (a.getD k (0, 0)).2)))))) := fun w b lb hw => by
      rw [D_X12_putsLeaf_136_eq, hw, rb_bv, ix, nI_cl (by omega), if_neg no7, (fr _).1, m_whl (d := d) b1 apd_o (by simp only [List.length_append]; omega), rb_bv, apd_apd (by decide), show (61 : Int32) = nI 61 from rfl, m_app (d := d + 1) hP rfl (by simp only [List.length_append]; omega), rb_bv, if_neg no7, (fr _).2, m_whl (d := d) b2 apd_o (by simp only [List.length_append, List.length_singleton]; omega), rb_bv, dpw, nI_1, apd_apd (by decide)]
      simp only [List.append_assoc, List.cons_append, List.nil_append]
    rw [D_X12_putsLeaf_112_eq, c6, if_neg no, f5, if_neg (nI_nge hk (by omega))]
    by_cases k0 : k = 0
    · rw [if_pos k0] at hr
      rw [if_pos (show nI k = (0 : Int32) by rw [k0]; rfl), tail 14880 [nI 58, nI 32] rfl (by rw [m_w_col (d := d) apd_o (by rw [List.length_append]; omega), apd_apd (by decide)])]
      exact hr
    · rw [if_neg k0] at hr
      rw [if_neg (show ¬ nI k = (0 : Int32) from fun e => k0 (by rw [show (0 : Int32) = nI 0 from rfl, nI_eq (by omega) (by omega)] at e; exact e)), tail 11296 [nI 44, nI 32] rfl (by rw [m_w_com (d := d) apd_o (by rw [List.length_append]; omega), apd_apd (by decide)])]
      exact hr
theorem m_leaf {j P : Nat} (h : FnM M l) (hj : j < l.length) (hk : ndk (l.getD j v0)) (hn : nmk (l.getD j v0)) (hb : isBn (l.getD j v0) = false) (hP : dp_I M 114 104 = nI P) (hl : P + (lfS (l.getD j v0)).length ≤ 4000) : dp_den true xs xl (d + 4) 499 [.ref 114, .int (nI (60 + j))] M = vR (apd M 190 114 104 P (lfS (l.getD j v0))) := by
  have l60 := h.1
  have nb : ¬ ((l.getD j v0).1 = 3 ∨ (l.getD j v0).1 = 4 ∨ (l.getD j v0).1 = 5 ∨ (l.getD j v0).1 = 6) := by unfold isBn at hb; exact of_decide_eq_false hb
  have no : ¬ (nI (60 + j) < 0 ∨ 120 ≤ 60 + j) := by rw [nI_o (show 60 + j < 120 by omega) (by omega)]; exact id
  have c6 : (nI (60 + j)).toNatClampNeg = 60 + j := nI_cl (by omega)
  obtain ⟨f0, f1, f2, -, -, -, -⟩ := fnm_at h hj
  have f1' : ∀ s, dp_I (apd M 190 114 104 P s) 175 (60 + j) = (l.getD j v0).2.1 := fun s => (fnm_at (apdM (P := P) (s := s) h) hj).2.1
  have f2' : ∀ s, dp_I (apd M 190 114 104 P s) 176 (60 + j) = (l.getD j v0).2.2.1 := fun s => (fnm_at (apdM (P := P) (s := s) h) hj).2.2.1
  obtain ⟨v, hv⟩ : ∃ v, v = l.getD j v0 := ⟨_, rfl⟩
  rw [← hv] at hk hn nb hl f0 f1 f2 f1' f2' ⊢
  rw [D_X12_putsLeaf_0_den, D_X12_putsLeaf_0_eq, c6, if_neg no, f0]
  unfold lfS at hl ⊢
  rcases hk with k0 | k1 | ⟨k2, u, u8, hu⟩ | kb | ⟨k7, n1, n6⟩
  · rw [if_pos k0] at hl ⊢
    rw [if_pos k0, m_w_free (d := d + 1) hP hl, rb_bv]
  · rw [k1, if_neg (show ¬ (1 : Int32) = 0 by decide), if_pos rfl] at hl
    rw [k1, if_neg (show ¬ (1 : Int32) = 0 by decide), if_pos rfl, if_neg (show ¬ (1 : Int32) = 0 by decide), if_pos rfl]
    obtain ⟨x, x8, hx⟩ := hn.1 (Or.inl k1)
    rw [hx, nI_cl (by omega), List.length_append, List.length_singleton] at hl
    rw [if_neg no, f1, hx, nI_cl (by omega), m_nmb (d := d) x8 hP (by omega), rb_bv, show (37 : Int32) = nI 37 from rfl, m_app (d := d + 2) hP rfl (by omega), rb_bv]
  · rw [k2, if_neg (show ¬ (2 : Int32) = 0 by decide), if_neg (show ¬ (2 : Int32) = 1 by decide), if_pos rfl] at hl
    rw [k2, if_neg (show ¬ (2 : Int32) = 0 by decide), if_neg (show ¬ (2 : Int32) = 1 by decide), if_pos rfl, if_neg (show ¬ (2 : Int32) = 0 by decide), if_neg (show ¬ (2 : Int32) = 1 by decide), if_pos rfl]
    obtain ⟨x, x8, hx⟩ := hn.1 (Or.inr k2)
    rw [hx, hu, nI_cl (by omega), nI_cl (by omega), List.length_append] at hl
    simp only [List.length_cons, List.length_nil] at hl
    rw [if_neg no, f1, hx, hu, nI_cl (show x < 2147483648 by omega), nI_cl (show u < 2147483648 by omega), m_nmb (d := d) x8 hP (by omega), rb_bv, show (47 : Int32) = nI 47 from rfl, m_app (d := d + 2) hP rfl (by omega), rb_bv, if_neg no, f2', hu, show (65 : Int32) = nI 65 from rfl, nI_add, m_app (d := d + 2) hP rfl (by rw [List.length_append, List.length_singleton]; omega), rb_bv]
    simp only [List.append_assoc, List.cons_append, List.nil_append]
  · exact absurd kb nb
  · rw [k7, if_neg (show ¬ (7 : Int32) = 0 by decide), if_neg (show ¬ (7 : Int32) = 1 by decide), if_neg (show ¬ (7 : Int32) = 2 by decide)] at hl
    rw [k7, if_neg (show ¬ (7 : Int32) = 0 by decide), if_neg (show ¬ (7 : Int32) = 1 by decide), if_neg (show ¬ (7 : Int32) = 2 by decide), if_neg (show ¬ (7 : Int32) = 0 by decide), if_neg (show ¬ (7 : Int32) = 1 by decide), if_neg (show ¬ (7 : Int32) = 2 by decide)]
    obtain ⟨⟨e, e6, he⟩, a, ha, hab⟩ := hn.2 k7
    have ln : (rws a).length = a.length := by unfold rws; rw [List.length_map]
    rw [ha, ln] at n1 n6 hl
    rw [he, nI_cl (by omega), List.length_append, List.length_append, List.length_append, List.length_singleton] at hl
    simp only [List.length_cons, List.length_nil] at hl
    rw [m_w_step (d := d + 1) hP (by omega), rb_bv, if_neg no, f1', he, m_whl (d := d + 1) e6 apd_o (by simp only [List.length_cons, List.length_nil]; omega), rb_bv, apd_apd (by decide), dpw, m_steps' (d := d + 1) h hj (by rw [← hv]; exact ha) hab n6 hP (by simp only [List.length_append, List.length_cons, List.length_nil]; omega), nI_cl (by omega), ha, ln]
    simp only [List.append_assoc, List.cons_append, List.nil_append]
end Raw
