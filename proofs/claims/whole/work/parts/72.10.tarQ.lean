/-! THE TARIFF: which rows are of a case -/
abbrev und (c a : Int32) : Prop := if 100 ≤ a then (if 10000 ≤ a then c = a else c / 100 = a) else c / 10000 = a
abbrev inn (M : dp_M) (l : Nat) (a : Int32) : Prop := a = 31 ∨ a = nI l ∨ (16 ≤ a.toNatClampNeg ∧ tb (rds (dp_I M 155) (dp_I M 155 (a.toNatClampNeg - 16)) 8) l = true)
/-- the last day of a row, as it was known on a day -/
def ld (M : dp_M) (on : Int32) (r : Nat) : Int32 := dp_I M 165 (r * 8 + bb (fun k => dp_I M 166 (r * 8 + k)) on (dp_I M 164 r).toNatClampNeg)
abbrev isof (M : dp_M) (c : Int32) (l : Nat) (day on : Int32) (r : Nat) : Prop := dp_I M 161 r ≤ on ∧ und c (dp_I M 156 r) ∧ inn M l (dp_I M 157 r) ∧ tb (dp_I M 55 r) l = false ∧ dp_I M 158 r ≤ day ∧ day ≤ ld M on r
abbrev pap (M : dp_M) (r : Nat) : Prop := dp_I M 56 r = 0 ∨ dp_I M 56 r &&& dp_I M 51 1 ≠ 0
def fit (M : dp_M) (c : Int32) (l : Nat) (day on : Int32) (r : Nat) : Bool := decide (isof M c l day on r ∧ pap M r)
theorem dg_2 {a : Int32} (h : dg a ≠ 0) : (dg a = 2 ∧ 10 ≤ a.toInt ∧ a.toInt ≤ 99) ∨ (dg a = 4 ∧ 1000 ≤ a.toInt ∧ a.toInt ≤ 9999) ∨ (dg a = 6 ∧ 100000 ≤ a.toInt ∧ a.toInt ≤ 999999) := by
  unfold dg at h ⊢
  by_cases h1 : wi a 10 99
  · rw [if_pos h1]; exact Or.inl ⟨rfl, h1⟩
  · rw [if_neg h1] at h ⊢
    by_cases h2 : wi a 1000 9999
    · rw [if_pos h2]; exact Or.inr (Or.inl ⟨rfl, h2⟩)
    · rw [if_neg h2] at h ⊢
      by_cases h3 : wi a 100000 999999
      · rw [if_pos h3]; exact Or.inr (Or.inr ⟨rfl, h3⟩)
      · rw [if_neg h3] at h; exact absurd rfl h
theorem q_lit {a : Int32} {n : Nat} (hn : n < 2147483648) : (nI n ≤ a) ↔ (n : Int) ≤ a.toInt := by
  rw [Int32.le_iff_toInt_le, nI_toInt hn]
theorem iRc {c d : Prop} [Decidable c] [Decidable d] {M : dp_M} (h : c ↔ d) : iR (bI c) M = iR (bI d) M := by rw [bI_c h]
section TI
variable {xs : Nat → Int32} {xl d : Nat} {M : dp_M}
theorem tc_len {a : Int32} (h : dg a ≠ 0) : dp_den true xs xl (d + 1) 218 [.int a] M = iR (dg a) M := by
  rw [D_X9_lengthOf_0_den, D_X9_lengthOf_0_eq]
  have e1 : ((100 : Int32) ≤ a) ↔ (100 : Int) ≤ a.toInt := q_lit (n := 100) (by omega)
  have e2 : ((10000 : Int32) ≤ a) ↔ (10000 : Int) ≤ a.toInt := q_lit (n := 10000) (by omega)
  rcases dg_2 h with ⟨q, q1, q2⟩ | ⟨q, q1, q2⟩ | ⟨q, q1, q2⟩
  · rw [if_neg (fun z => by have := e1.mp z; omega), q]
  · rw [if_pos (e1.mpr (by omega)), if_neg (fun z => by have := e2.mp z; omega), q]
  · rw [if_pos (e1.mpr (by omega)), if_pos (e2.mpr (by omega)), q]
theorem tc_under {c a : Int32} : dp_den true xs xl (d + 1) 219 [.int c, .int a] M = iR (bI (und c a)) M := by
  rw [D_X9_isUnder_0_den, D_X9_isUnder_0_eq]
  unfold und bI
  by_cases h1 : 100 ≤ a
  · simp only [if_pos h1]
    by_cases h2 : 10000 ≤ a
    · simp only [if_pos h2]; split <;> rfl
    · simp only [if_neg h2]; split <;> rfl
  · simp only [if_neg h1]; split <;> rfl
theorem tm_under {c a : Int32} (hc : wi c 100000 999999) (ha : dg a ≠ 0) : dp_den true xs xl (d + 1) 458 [.int c, .int a] M = iR (bI (und c a)) M := by
  have hc1 := hc.1
  have hc2 := hc.2
  have e1 : ((100 : Int32) ≤ a) ↔ (100 : Int) ≤ a.toInt := q_lit (n := 100) (by omega)
  have e2 : ((10000 : Int32) ≤ a) ↔ (10000 : Int) ≤ a.toInt := q_lit (n := 10000) (by omega)
  obtain ⟨x, hx1, hx2, rfl⟩ := wi_of (a := 100000) (b := 999999) hc (by omega)
  have hA : ∃ y : Nat, a = nI y ∧ y ≤ 999999 := by
    have : wi a ((10 : Nat) : Int) ((999999 : Nat) : Int) := by rcases dg_2 ha with ⟨q, q1, q2⟩ | ⟨q, q1, q2⟩ | ⟨q, q1, q2⟩ <;> constructor <;> omega
    obtain ⟨y, y1, y2, y3⟩ := wi_of this (by omega)
    exact ⟨y, y3, y2⟩
  obtain ⟨y, rfl, hy⟩ := hA
  rw [nI_toInt (by omega)] at e1 e2
  have d1 : nI x / 100 = nI (x / 100) := pk_div (a := x) (d := 100) (by omega) (by omega) (by omega)
  have d2 : nI (x / 100) / 100 = nI (x / 10000) := by
    have := pk_div (a := x / 100) (d := 100) (by omega) (by omega) (by omega)
    rw [show (100 : Int32) = nI 100 from rfl, this, Nat.div_div_eq_div_mul]
  have d3 : nI x / 10000 = nI (x / 10000) := pk_div (a := x) (d := 10000) (by omega) (by omega) (by omega)
  have d4 : nI (x / 10000) / 100 = nI 0 := by
    have := pk_div (a := x / 10000) (d := 100) (by omega) (by omega) (by omega)
    rw [show (100 : Int32) = nI 100 from rfl, this, Nat.div_div_eq_div_mul]
    congr 1; omega
  have le : ∀ u, u < 2147483648 → ((nI u ≤ nI y) ↔ u ≤ y) := fun u hu => by
    rw [Int32.le_iff_toInt_le, nI_toInt hu, nI_toInt (by omega)]; omega
  have eq : ∀ u, u < 2147483648 → ((nI u = nI y) ↔ u = y) := fun u hu => nI_eq hu (by omega)
  have fin : ∀ u N, u < 2147483648 → u ≤ y → D_X12_isUnder_2 xs xl d (nI x) (nI y) (nI u) N = iR (bI (u = y)) N := fun u N hu h => by
    rw [D_X12_isUnder_2_eq, if_pos ((le u hu).mpr h)]
    simp only [eq u hu, bI]
    split <;> rfl
  have go : ∀ u N, u < 2147483648 → ¬ u ≤ y → D_X12_isUnder_2 xs xl d (nI x) (nI y) (nI u) N = D_X12_isUnder_2 xs xl d (nI x) (nI y) (nI u / 100) N := fun u N hu h => by
    rw [D_X12_isUnder_2_eq, if_neg (fun q => h ((le u hu).mp q))]; rfl
  rw [D_X12_isUnder_0_den, D_X12_isUnder_0_eq]
  have hd := dg_2 ha
  rw [nI_toInt (by omega)] at hd
  have hu : und (nI x) (nI y) ↔ ((100 ≤ y ∧ 10000 ≤ y ∧ x = y) ∨ (100 ≤ y ∧ ¬ 10000 ≤ y ∧ x / 100 = y) ∨ (¬ 100 ≤ y ∧ x / 10000 = y)) := by
    unfold und
    by_cases q1 : 100 ≤ y
    · rw [if_pos (e1.mpr (by omega))]
      by_cases q2 : 10000 ≤ y
      · rw [if_pos (e2.mpr (by omega)), eq x (by omega)]; omega
      · rw [if_neg (fun z => q2 (by have := e2.mp z; omega)), d1, eq (x / 100) (by omega)]; omega
    · rw [if_neg (fun z => q1 (by have := e1.mp z; omega)), d3, eq (x / 10000) (by omega)]; omega
  rw [bI_c hu]
  by_cases c1 : x ≤ y
  · rw [fin x M (by omega) c1]
    apply iRc
    rcases hd with ⟨q, q1, q2⟩ | ⟨q, q1, q2⟩ | ⟨q, q1, q2⟩ <;> omega
  · rw [go x M (by omega) c1, d1]
    by_cases c2 : x / 100 ≤ y
    · rw [fin (x / 100) M (by omega) c2]
      apply iRc
      rcases hd with ⟨q, q1, q2⟩ | ⟨q, q1, q2⟩ | ⟨q, q1, q2⟩ <;> omega
    · rw [go (x / 100) M (by omega) c2, d2]
      by_cases c3 : x / 10000 ≤ y
      · rw [fin (x / 10000) M (by omega) c3]
        apply iRc
        rcases hd with ⟨q, q1, q2⟩ | ⟨q, q1, q2⟩ | ⟨q, q1, q2⟩ <;> omega
      · rw [go (x / 10000) M (by omega) c3, d4, fin 0 M (by omega) (by omega)]
        apply iRc
        rcases hd with ⟨q, q1, q2⟩ | ⟨q, q1, q2⟩ | ⟨q, q1, q2⟩ <;> omega
end TI
