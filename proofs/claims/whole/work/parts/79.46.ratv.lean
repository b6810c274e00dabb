-- needs: 71 72 73 74
/-! RATES: print: thousandths in the model; words -/
section Rv
variable {xs : Nat → Int32} {xl d : Nat} {M : dp_M}
theorem m_nmb {x P : Nat} (hx : x < 100000000) (hP : dp_I M 114 104 = nI P) (hl : P + (nS x).length ≤ 4000) : dp_den true xs xl (d + 3) 497 [.ref 114, .int (nI x)] M = vR (apd M 190 114 104 P (nS x)) := by
  obtain ⟨r, hr⟩ : ∃ r, r = x % 1000 := ⟨_, rfl⟩
  have r1 : r < 1000 := by omega
  have hl' := hl
  unfold nS at hl'
  rw [List.length_append, ← hr] at hl'
  have e1 : nI x / (1000 : Int32) = nI (x / 1000) := q_dv (b := 1000) (by omega) (by omega) (by omega)
  have e2 : nI x - nI x / (1000 : Int32) * (1000 : Int32) = nI r := by rw [hr]; exact q_rm (b := 1000) (by omega) (by omega) (by omega)
  have hN := m_whl (xs := xs) (xl := xl) (d := d) (n := x / 1000) (by omega) hP (by omega)
  obtain ⟨w, hw⟩ : ∃ w, w = wS (x / 1000) := ⟨_, rfl⟩
  rw [D_X12_putsNumber_0_den, D_X12_putsNumber_0_eq, e1, hN, rb_bv, ← e1, e2, dpw]
  unfold nS
  rw [← hw] at hl' ⊢
  rw [← hr]
  unfold nF at hl' ⊢
  have pos : ∀ a, 0 < a → a < 2147483648 → ¬ nI a ≤ (0 : Int32) := fun a h1 h2 => nI_nge (i := 0) (n := a) h1 h2
  have st : ∀ a b, a < 1000 → 0 < b → b ≤ 100 → (48 : Int32) + nI a / nI b = nI (48 + a / b) ∧ nI a - nI a / nI b * nI b = nI (a % b) := fun a b ha hb hb2 => by
    rw [q_rm (by omega) hb (by omega), q_dv (by omega) hb (by omega)]
    exact ⟨by rw [show (48 : Int32) = nI 48 from rfl, nI_add], rfl⟩
  have s100 := fun a ha => st a 100 ha (by omega) (by omega)
  have s10 := fun a ha => st a 10 ha (by omega) (by omega)
  have s1 := fun a ha => st a 1 ha (by omega) (by omega)
  have k100 : (100 : Int32) / (10 : Int32) = nI 10 := by decide
  have k10 : nI 10 / (10 : Int32) = nI 1 := by decide
  have k1 : nI 1 / (10 : Int32) = nI 0 := by decide
  have h100 : (100 : Int32) = nI 100 := rfl
  by_cases z : r = 0
  · rw [if_pos z, List.append_nil, z, if_pos (by decide), dpw, D_X12_putsNumber_28_eq, if_neg (by decide), if_pos (by decide)]
  · rw [if_neg z] at hl' ⊢
    rw [List.length_cons, List.length_cons] at hl'
    rw [if_neg (pos r (by omega) (by omega)), show (46 : Int32) = nI 46 from rfl, m_app (d := d + 1) hP rfl (by omega), rb_bv, dpw, D_X12_putsNumber_28_eq, if_neg (by decide), if_neg (pos r (by omega) (by omega)), if_neg (by decide), k100, h100, (s100 r r1).1, (s100 r r1).2, m_app (d := d + 1) (s := w ++ [nI 46]) hP rfl (by rw [List.length_append]; simp only [List.length_singleton]; omega), rb_bv, if_neg (by decide), dpw, dpw, D_X12_putsNumber_28_eq, if_neg (by decide)]
    by_cases z1 : r % 100 = 0
    · rw [z1, if_pos (by decide), if_pos rfl]
      simp only [List.append_assoc, List.cons_append, List.nil_append]
    · rw [if_neg z1] at hl' ⊢
      rw [List.length_cons] at hl'
      have d3 : r % 100 % 10 = r % 10 := by omega
      rw [if_neg (pos _ (by omega) (by omega)), if_neg (by decide), k10, (s10 (r % 100) (by omega)).1, (s10 (r % 100) (by omega)).2, d3, m_app (d := d + 1) (s := w ++ [nI 46] ++ [nI (48 + r / 100)]) hP rfl (by simp only [List.length_append, List.length_singleton]; omega), rb_bv, if_neg (by decide), dpw, dpw, D_X12_putsNumber_28_eq, if_neg (by decide)]
      by_cases z2 : r % 10 = 0
      · rw [z2, if_pos (by decide), if_pos rfl]
        simp only [List.append_assoc, List.cons_append, List.nil_append]
      · rw [if_neg z2] at hl' ⊢
        rw [List.length_singleton] at hl'
        rw [if_neg (pos _ (by omega) (by omega)), if_neg (by decide), k1, (s1 (r % 10) (by omega)).1, (s1 (r % 10) (by omega)).2, Nat.div_one, m_app (d := d + 1) (s := w ++ [nI 46] ++ [nI (48 + r / 100)] ++ [nI (48 + r % 100 / 10)]) hP rfl (by simp only [List.length_append, List.length_singleton]; omega), rb_bv, if_neg (by decide), dpw, dpw, D_X12_putsNumber_28_eq, if_pos (by decide)]
        simp only [List.append_assoc, List.cons_append, List.nil_append]
end Rv
