/-! THE LEDGER: what is read of it -/
/-- an entry's part of a sum -/
def sumF (M : dp_M) (v1 v2 v3 v4 : Int32) (i : Nat) : Int64 :=
  if v2 ≤ dp_I M 222 ((dp_I M 230 i).toNatClampNeg / 20) ∧ dp_I M 222 ((dp_I M 230 i).toNatClampNeg / 20) ≤ v3 ∧ dp_I M 223 ((dp_I M 230 i).toNatClampNeg / 20) ≤ v4 ∧ dp_I M 228 (dp_I M 230 i).toNatClampNeg = v1 then dp_J M 229 (dp_I M 230 i).toNatClampNeg else 0
/-- an entry that is booked -/
def LEn (M : dp_M) (i : Nat) : Prop := ∃ b k, b < 800 ∧ k < 20 ∧ dp_I M 230 i = nI (b * 20 + k) ∧ dp_I M 104 i = nI (b * 20 + k) ∧ dp_I M 103 i = nI b ∧ dp_I M 100 (b * 7 + 5) = dp_I M 222 b ∧ dp_I M 100 (b * 7 + 6) = dp_I M 223 b ∧
  dp_I M 101 (b * 20 + k) = dp_I M 228 (b * 20 + k) ∧ (dp_I M 102 (b * 20 + k)).toInt64 = dp_J M 229 (b * 20 + k) ∧ -1000000000 ≤ (dp_I M 102 (b * 20 + k)).toInt ∧ (dp_I M 102 (b * 20 + k)).toInt ≤ 1000000000
theorem RelL.ent {M : dp_M} (h : RelL M) : ∃ E, E ≤ 4000 ∧ dp_I M 97 1 = nI E ∧ dp_I M 114 142 = nI E ∧ ∀ i, i < E → LEn M i := by
  obtain ⟨B, E, hB8, hE4, a1, a2, a3, a4, a5, a6, a7, a8, a9, a10, a11, a12, a13, a14, a15, a16⟩ := h
  refine ⟨E, hE4, a3, a4, fun i hi => ?_⟩
  obtain ⟨b, k, n, q1, q2, q3, q4, q5, q6, q7, q8⟩ := a16 i hi
  obtain ⟨n', c1, c2, c3, c4, c5, c6, c7, c8, c9, c10, c11, c12, c13, c14, c15, c16⟩ := a14 b q1
  have e : n' = n := by rw [c2, nI_eq (by omega) (by omega)] at q3; exact q3
  subst e
  obtain ⟨d1, d2, d3, d4, d5, d6⟩ := c15 k q4
  exact ⟨b, k, by omega, by omega, q6, q7, q8, c10, c11, d1, d3, d4, d5⟩
section LEQ
variable {xs : Nat → Int32} {xl d : Nat} {M : dp_M}
theorem lc_sum {v1 v2 v3 v4 : Int32} {E : Nat} (hE4 : E ≤ 4000) (hE : dp_I M 97 1 = nI E) (hp : ∀ i, i < E → LEn M i) : dp_den true xs xl (d + 2) 97 [.ref 97, .int v1, .int v2, .int v3, .int v4] M = lR (sl (sumF M v1 v2 v3 v4) E) M := by
  rw [D_X3_sum_0_den, D_X3_sum_0_eq]
  simp only [dp_w]
  refine lp_sl (F := fun a i => D_X3_sum_6 xs xl (d + 1) v1 v2 v3 v4 a (nI i) M) _ (fun a => ?_) (fun i a r hi hr => ?_)
  · show D_X3_sum_6 xs xl (d + 1) v1 v2 v3 v4 a (nI E) M = _
    rw [D_X3_sum_6_eq, hE, if_pos (nI_lle (Nat.le_refl _) (by omega))]
  · show D_X3_sum_6 xs xl (d + 1) v1 v2 v3 v4 a (nI i) M = _
    obtain ⟨b, k, h1, h2, h3, h4, h5, h6, h7, h8, h9, -⟩ := hp i hi
    have go : ∀ fl x8, (fl = 0 ∨ fl = 1) → (fl = 1 ↔ (v2 ≤ dp_I M 222 b ∧ dp_I M 222 b ≤ v3 ∧ dp_I M 223 b ≤ v4)) → D_X3_sum_64 xs xl (d + 1) v1 v2 v3 v4 a (nI i) x8 fl M = some r := by
      intro fl x8 hf hq
      have hr' : D_X3_sum_6 xs xl (d + 1) v1 v2 v3 v4 (a + (if v2 ≤ dp_I M 222 b ∧ dp_I M 222 b ≤ v3 ∧ dp_I M 223 b ≤ v4 ∧ dp_I M 228 (b * 20 + k) = v1 then dp_J M 229 (b * 20 + k) else 0)) (nI (i + 1)) M = some r := by
        have := hr
        unfold sumF at this
        rw [h3, nI_cl (by omega), show (b * 20 + k) / 20 = b by omega] at this
        exact this
      rw [D_X3_sum_64_eq]
      simp only [nI_cl (show i < 2147483648 by omega), nI_o (show i < 4000 by omega) (by omega), h4, nI_cl (show b * 20 + k < 2147483648 by omega), nI_o (show b * 20 + k < 16000 by omega) (by omega), if_false, dp_w, nI_1]
      by_cases c1 : fl = 0
      · rw [if_pos c1]
        apply D_X3_sum_6_to_6_a
        rw [if_neg (fun q => by rw [c1] at hq; exact absurd (hq.mpr ⟨q.1, q.2.1, q.2.2.1⟩) (by decide))] at hr'
        simpa using hr'
      · have c2 := hq.mp (hf.resolve_left c1)
        rw [if_neg c1]
        by_cases c3 : dp_I M 101 (b * 20 + k) = v1
        · rw [if_pos c3]
          apply D_X3_sum_6_to_6_a
          rw [if_pos ⟨c2.1, c2.2.1, c2.2.2, by rw [← h8]; exact c3⟩] at hr'
          rw [h9]; exact hr'
        · rw [if_neg c3]
          apply D_X3_sum_6_to_6_a
          rw [if_neg (fun q => c3 (by rw [h8]; exact q.2.2.2))] at hr'
          simpa using hr'
    rw [D_X3_sum_6_eq, hE, if_neg (nI_nge hi (by omega))]
    simp only [nI_cl (show i < 2147483648 by omega), nI_o (show i < 4000 by omega) (by omega), if_false, h5]
    rw [lc_fact rfl (v2 := 5) (k := 5) rfl h1 (by omega), rb_bi, h6]
    by_cases c1 : dp_I M 222 b < v2
    · rw [if_pos c1]; exact go 0 _ (Or.inl rfl) ⟨fun q => absurd q (by decide), fun q => absurd q.1 (Int32.not_le.mpr c1)⟩
    · rw [if_neg c1]
      by_cases c2 : v3 < dp_I M 222 b
      · rw [if_pos c2]; exact go 0 _ (Or.inl rfl) ⟨fun q => absurd q (by decide), fun q => absurd q.2.1 (Int32.not_le.mpr c2)⟩
      · rw [if_neg c2, h5, lc_fact rfl (v2 := 6) (k := 6) rfl h1 (by omega), rb_bi, h7]
        by_cases c3 : v4 < dp_I M 223 b
        · rw [if_pos c3]; exact go 0 _ (Or.inl rfl) ⟨fun q => absurd q (by decide), fun q => absurd q.2.2 (Int32.not_le.mpr c3)⟩
        · rw [if_neg c3]; exact go 1 _ (Or.inr rfl) ⟨fun _ => ⟨Int32.not_lt.mp c1, Int32.not_lt.mp c2, Int32.not_lt.mp c3⟩, fun _ => rfl⟩
theorem q_div20 {b k : Nat} (h1 : b < 801) (h2 : k < 20) : nI (b * 20 + k) / (20 : Int32) = nI b := by
  rw [show (20 : Int32) = nI 20 from rfl, pk_div (by omega) (by omega) (by omega), show (b * 20 + k) / 20 = b by omega]
theorem q_i64 {a b : Int32} : (a.toInt64 ≤ b.toInt64) ↔ a ≤ b := by
  rw [Int64.le_iff_toInt_le, Int32.le_iff_toInt_le, Int32.toInt_toInt64, Int32.toInt_toInt64]
theorem lm_sum {v1 v2 v3 v4 : Int32} {E : Nat} (hE4 : E ≤ 4000) (hE : dp_I M 114 142 = nI E) (hp : ∀ i, i < E → LEn M i) : dp_den true xs xl (d + 2) 556 [.ref 114, .int v1, .int v2, .int v3, .int v4] M = lR (sl (sumF M v1 v2 v3 v4) E) M := by
  rw [D_X12_sumOf_0_den, D_X12_sumOf_0_eq]
  simp only [dp_w]
  refine lp_sl (F := fun a i => D_X12_sumOf_6 xs xl (d + 1) v1 v2 v3 v4 a (nI i) M) _ (fun a => ?_) (fun i a r hi hr => ?_)
  · show D_X12_sumOf_6 xs xl (d + 1) v1 v2 v3 v4 a (nI E) M = _
    rw [D_X12_sumOf_6_eq, hE, if_pos (nI_lle (Nat.le_refl _) (by omega))]
  · show D_X12_sumOf_6 xs xl (d + 1) v1 v2 v3 v4 a (nI i) M = _
    obtain ⟨b, k, h1, h2, h3, -⟩ := hp i hi
    have hr' : D_X12_sumOf_6 xs xl (d + 1) v1 v2 v3 v4 (a + (if v2 ≤ dp_I M 222 b ∧ dp_I M 222 b ≤ v3 ∧ dp_I M 223 b ≤ v4 ∧ dp_I M 228 (b * 20 + k) = v1 then dp_J M 229 (b * 20 + k) else 0)) (nI (i + 1)) M = some r := by
      have := hr
      unfold sumF at this
      rw [h3, nI_cl (by omega), show (b * 20 + k) / 20 = b by omega] at this
      exact this
    have go : ∀ fl x8, (fl = 0 ∨ fl = 1) → (fl = 1 ↔ (v2 ≤ dp_I M 222 b ∧ dp_I M 222 b ≤ v3 ∧ dp_I M 223 b ≤ v4 ∧ dp_I M 228 (b * 20 + k) = v1)) → D_X12_sumOf_78 xs xl (d + 1) v1 v2 v3 v4 a (nI i) x8 fl M = some r := by
      intro fl x8 hf hq
      rw [D_X12_sumOf_78_eq]
      simp only [nI_cl (show i < 2147483648 by omega), nI_o (show i < 4000 by omega) (by omega), h3, nI_cl (show b * 20 + k < 2147483648 by omega), nI_o (show b * 20 + k < 16020 by omega) (by omega), if_false, dp_w, nI_1]
      by_cases c1 : fl = 0
      · rw [if_pos c1]
        apply D_X12_sumOf_6_to_6_a
        rw [if_neg (fun q => by rw [c1] at hq; exact absurd (hq.mpr q) (by decide))] at hr'
        exact hr'
      · rw [if_neg c1]
        apply D_X12_sumOf_6_to_6_a
        rw [if_pos (hq.mp (hf.resolve_left c1))] at hr'
        exact hr'
    rw [D_X12_sumOf_6_eq, hE, if_neg (nI_nge hi (by omega))]
    simp only [nI_cl (show i < 2147483648 by omega), nI_o (show i < 4000 by omega) (by omega), if_false, h3, dp_w, q_div20 (show b < 801 by omega) h2, nI_cl (show b * 20 + k < 2147483648 by omega), nI_o (show b * 20 + k < 16020 by omega) (by omega), nI_cl (show b < 2147483648 by omega), nI_o (show b < 801 by omega) (by omega), q_min, rb_bi, ibz, q_i64]
    by_cases c1 : dp_I M 228 (b * 20 + k) = v1
    · rw [if_pos c1]
      by_cases c2 : v2 ≤ dp_I M 222 b ∧ dp_I M 222 b ≤ v3
      · rw [if_pos c2]
        by_cases c3 : v4 < dp_I M 223 b
        · rw [if_pos c3]; exact go 0 _ (Or.inl rfl) ⟨fun q => absurd q (by decide), fun q => absurd q.2.2.1 (Int32.not_le.mpr c3)⟩
        · rw [if_neg c3]; exact go 1 _ (Or.inr rfl) ⟨fun _ => ⟨c2.1, c2.2, Int32.not_lt.mp c3, c1⟩, fun _ => rfl⟩
      · rw [if_neg c2]; exact go 0 _ (Or.inl rfl) ⟨fun q => absurd q (by decide), fun q => absurd ⟨q.1, q.2.1⟩ c2⟩
    · rw [if_neg c1]; exact go 0 _ (Or.inl rfl) ⟨fun q => absurd q (by decide), fun q => absurd q.2.2.2 c1⟩
end LEQ
