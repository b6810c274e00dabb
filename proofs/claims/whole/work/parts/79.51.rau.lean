-- needs: 71 72 73 74
/-! RATES: print: leaves, the class -/
section Rau
variable {xs : Nat → Int32} {xl d : Nat} {M : dp_M} {q : Nat} {l : List Nd}
def nmk (v : Nd) : Prop := (v.1 = 1 ∨ v.1 = 2 → ∃ x, x < 100000000 ∧ v.2.1 = nI x) ∧ (v.1 = 7 → (∃ e, e < 1000000 ∧ v.2.1 = nI e) ∧ ∃ a, v.2.2.2 = rws a ∧ ∀ x, x ∈ a → x.1 < 1000000 ∧ x.2 < 1000000)
theorem apd_o {A Q f P : Nat} {s : List Int32} : dp_I (apd M A Q f P s) Q f = nI (P + s.length) := wT_Q
theorem apdC {P : Nat} {s : List Int32} : Off [68, 69] [] M (apd M 69 68 1 P s) := by
  unfold apd wT
  exact Off.I 68 (by decide) _ _ (Off.rI 69 (by decide) _ (Off.rr _ _ M))
theorem apdR {P : Nat} {s : List Int32} (h : RtO M q l) : RtO (apd M 69 68 1 P s) q l := h.off apdC
theorem apdT {P : Nat} {s : List Int32} (h : RtO M q l) : dp_t true (apd M 69 68 1 P s) q = 16 := by
  have := apdR (P := P) (s := s) h
  rw [bg_t this.1]; exact this.2.2.1
theorem rws_at {a : List (Nat × Nat)} {k : Nat} (hk : k < a.length) : (rws a).getD k (0, 0) = (nI (a.getD k (0, 0)).1, nI (a.getD k (0, 0)).2) ∧ a.getD k (0, 0) ∈ a := by
  unfold rws
  rw [List.getD_eq_getElem?_getD, List.getElem?_map, List.getElem?_eq_getElem hk, List.getD_eq_getElem?_getD, List.getElem?_eq_getElem hk]
  exact ⟨rfl, List.getElem_mem hk⟩
theorem c_steps' {j P : Nat} {s0 : List Int32} (h : RtO M q l) (hj : j < l.length) {a : List (Nat × Nat)} (ha : (l.getD j v0).2.2.2 = rws a) (hb : ∀ x, x ∈ a → x.1 < 1000000 ∧ x.2 < 1000000) (h1 : 1 ≤ a.length) (h6 : a.length ≤ 6) (hP : dp_I M 68 1 = nI P) (hl : P + (s0 ++ (rwS (rws a) a.length ++ [nI 41])).length ≤ 1024) : D_X7_printSteps_24 xs xl (d + 3) q (nI j) 0 (apd M 69 68 1 P (s0 ++ [nI 58])) = vR (apd M 69 68 1 P (s0 ++ (rwS (rws a) a.length ++ [nI 41]))) := by
  have ln : (rws a).length = a.length := by unfold rws; rw [List.length_map]
  have f5 : ∀ s, dp_den true xs xl (d + 3) 135 [.ref q, .int (nI j), .int (5 : Int32)] (apd M 69 68 1 P s) = iR (nI a.length) (apd M 69 68 1 P s) := fun s => by
    rw [c_fact (d := d + 2) (v := 5) (apdR h) hj (k := 5) (by decide) rfl]
    show iR (nI (l.getD j v0).2.2.2.length) _ = _
    rw [ha, ln]
  have mono : ∀ k, k ≤ a.length → (rwS (rws a) k).length ≤ (rwS (rws a) a.length).length := by
    intro k hk
    have : ∀ n, k ≤ n → (rwS (rws a) k).length ≤ (rwS (rws a) n).length := by
      intro n hn
      induction n with
      | zero => rw [show k = 0 by omega]; exact Nat.le_refl _
      | succ n ih =>
        by_cases z : k = n + 1
        · rw [z]; exact Nat.le_refl _
        · refine Nat.le_trans (ih (by omega)) ?_
          show _ ≤ (rwS (rws a) n ++ _).length
          rw [List.length_append]; exact Nat.le_add_right _ _
    exact this a.length hk
  rw [List.length_append, List.length_append, List.length_singleton] at hl
  have key := lpb (F := fun (s : List Int32) k => D_X7_printSteps_24 xs xl (d + 3) q (nI j) (nI k) (apd M 69 68 1 P s)) (s := fun k => s0 ++ (if k = 0 then [nI 58] else rwS (rws a) k)) (N := a.length) (r := (.inl none, apd M 69 68 1 P (s0 ++ (rwS (rws a) a.length ++ [nI 41])))) ?_ (fun k hk hr => ?_)
  · exact key
  · (try dsimp only)
    rw [if_neg (by omega), D_X7_printSteps_24_eq, if_pos (apdT h), f5, rb_bi, if_pos (nI_lle (Nat.le_refl _) (by omega)), show (41 : Int32) = nI 41 from rfl, c_app (d := d + 2) hP rfl (by rw [List.length_append]; omega) (by omega), rb_bv, List.append_assoc]
  · (try dsimp only at hr); (try dsimp only)
    rw [if_neg (Nat.succ_ne_zero k)] at hr
    obtain ⟨ra, rm⟩ := rws_at hk
    obtain ⟨b1, b2⟩ := hb _ rm
    have hk' : k < (l.getD j v0).2.2.2.length := by rw [ha, ln]; exact hk
    have g0 : ∀ s, dp_den true xs xl (d + 3) 137 [.ref q, .int (nI j), .int (nI k), .int (0 : Int32)] (apd M 69 68 1 P s) = iR (nI (a.getD k (0, 0)).1) (apd M 69 68 1 P s) := fun s => by
      rw [c_stF (d := d + 1) (v := 0) (apdR h) hj hk' (w := 0) (by decide) rfl, if_pos rfl, ha, ra]
    have g1 : ∀ s, dp_den true xs xl (d + 3) 137 [.ref q, .int (nI j), .int (nI k), .int (1 : Int32)] (apd M 69 68 1 P s) = iR (nI (a.getD k (0, 0)).2) (apd M 69 68 1 P s) := fun s => by
      rw [c_stF (d := d + 1) (v := 1) (apdR h) hj hk' (w := 1) (by decide) rfl, if_neg (by decide), ha, ra]
    have rs : rwS (rws a) (k + 1) = rwS (rws a) k ++ ((if k = 0 then [nI 58, nI 32] else [nI 44, nI 32]) ++ (wS (a.getD k (0, 0)).1 ++ (nI 61 :: wS (a.getD k (0, 0)).2))) := by
      show rwS (rws a) k ++ (_ ++ (wS ((rws a).getD k (0, 0)).1.toNatClampNeg ++ (nI 61 :: wS ((rws a).getD k (0, 0)).2.toNatClampNeg))) = _
      rw [ra]
      show rwS (rws a) k ++ (_ ++ (wS (nI (a.getD k (0, 0)).1).toNatClampNeg ++ (nI 61 :: wS (nI (a.getD k (0, 0)).2).toNatClampNeg))) = _
      rw [nI_cl (by omega), nI_cl (by omega)]
    have m1 := mono (k + 1) (by omega)
    have i2 : (if k = 0 then [nI 58, nI 32] else [nI 44, nI 32]).length = 2 := by split <;> rfl
    rw [rs] at hr m1
    rw [List.length_append, List.length_append, List.length_append, List.length_cons, i2] at m1
    have tail : ∀ s, s.length + (wS (a.getD k (0, 0)).1).length + 1 + (wS (a.getD k (0, 0)).2).length + P ≤ 1024 → dp_bv (dp_den true xs xl (d + 3) 181 [.ref 68, .int (nI (a.getD k (0, 0)).1)] (apd M 69 68 1 P s)) (fun M4 => dp_bv (dp_den true xs xl (d + 3) 174 [.ref 68, .int (61 : Int32)] M4) (fun M5 => if dp_t true M5 q = 16 then dp_bi (dp_den true xs xl (d + 3) 137 [.ref q, .int (nI j), .int (nI k), .int (1 : Int32)] M5) (fun r7 M6 => dp_bv (dp_den true xs xl (d + 3) 181 [.ref 68, .int r7] M6) (fun M8 => dp_w (nI k + (1 : Int32)) (fun y9 => D_X7_printSteps_24 xs xl (d + 3) q (nI j) y9 M8))) else none)) = D_X7_printSteps_24 xs xl (d + 3) q (nI j) (nI (k + 1)) (apd M 69 68 1 P (s ++ (wS (a.getD k (0, 0)).1 ++ (nI 61 :: wS (a.getD k (0, 0)).2)))) := fun s hs => by
      rw [c_whl (d := d + 1) b1 apd_o (by omega), rb_bv, apd_apd (by decide), show (61 : Int32) = nI 61 from rfl, c_app (d := d + 2) hP rfl (by rw [List.length_append]; omega) (by omega), rb_bv, if_pos (apdT h), g1, rb_bi, c_whl (d := d + 1) b2 apd_o (by rw [List.length_append, List.length_append, List.length_singleton]; omega), rb_bv, dpw, nI_1, apd_apd (by decide)]
      simp only [List.append_assoc, List.cons_append, List.nil_append]
    rw [D_X7_printSteps_24_eq, if_pos (apdT h), f5, rb_bi, if_neg (nI_nge hk (by omega))]
    by_cases k0 : k = 0
    · subst k0
      rw [if_pos rfl, if_pos (show nI 0 = (0 : Int32) from rfl), D_X7_printSteps_46_eq, c_w_blk (d := d + 1) apd_o (by rw [List.length_append, List.length_singleton]; omega), rb_bv, if_pos (by rw [apd_apd (by decide)]; exact apdT h), apd_apd (by decide), g0, rb_bi, tail _ (by simp only [List.length_append, List.length_singleton]; omega)]
      rw [if_pos rfl] at hr
      rw [show s0 ++ [nI 58] ++ [nI 32] ++ (wS (a.getD 0 (0, 0)).1 ++ (nI 61 :: wS (a.getD 0 (0, 0)).2)) = s0 ++ (rwS (rws a) 0 ++ ([nI 58, nI 32] ++ (wS (a.getD 0 (0, 0)).1 ++ (nI 61 :: wS (a.getD 0 (0, 0)).2)))) from by
        show _ = s0 ++ ([] ++ _)
        simp only [List.append_assoc, List.cons_append, List.nil_append]]
      exact hr
    · rw [if_neg k0, if_neg (show ¬ nI k = (0 : Int32) from fun e => k0 (by rw [show (0 : Int32) = nI 0 from rfl, nI_eq (by omega) (by omega)] at e; exact e)), D_X7_printSteps_46_a_eq, c_w_com (d := d + 1) apd_o (by rw [List.length_append]; omega), rb_bv, if_pos (by rw [apd_apd (by decide)]; exact apdT h), apd_apd (by decide), g0, rb_bi, tail _ (by simp only [List.length_append, List.length_cons, List.length_nil]; omega)]
      rw [if_neg k0] at hr
      simp only [List.append_assoc] at hr ⊢
      exact hr
end Rau
