/-! THE TARIFF: class and model side by side -/
/-- how many digits a code has -/
def dg (c : Int32) : Int32 := if wi c 10 99 then 2 else if wi c 1000 9999 then 4 else if wi c 100000 999999 then 6 else 0
def pc (v : Int32) : Nat := ct (tb v) 32
/-- one row -/
def TRw (M : dp_M) (r : Nat) : Prop := ∃ n : Nat, 1 ≤ n ∧ n ≤ 8 ∧ dp_I M 164 r = nI n ∧ dp_I M 54 r = nI n ∧ dp_I M 60 r = dp_I M 156 r ∧ dp_I M 61 r = dp_I M 157 r ∧ dp_I M 52 r = dp_I M 158 r ∧ dp_I M 53 r = dp_I M 159 r ∧ dp_I M 62 r = dp_I M 160 r ∧
  dg (dp_I M 156 r) ≠ 0 ∧ (qin (dp_I M 157 r) 24 ∨ dp_I M 157 r = 31) ∧ qin (dp_I M 159 r) 8 ∧ qin (dp_I M 160 r) 10 ∧ dp_I M 161 r = dp_I M 166 (r * 8) ∧
  ∀ k, k < n → dp_I M 63 (r * 8 + k) = dp_I M 165 (r * 8 + k) ∧ dp_I M 64 (r * 8 + k) = dp_I M 166 (r * 8 + k) ∧ qin (dp_I M 166 (r * 8 + k)) 10001 ∧ dp_I M 166 (r * 8 + k) ≤ dp_I M 114 67
/-- a mask of at most four of sixteen -/
def four (v : Int32) : Prop := (∀ j, 16 ≤ j → tb v j = false) ∧ pc v ≤ 4
def RelT (M : dp_M) : Prop := ∃ R K : Nat, R ≤ 300 ∧ K ≤ 300 ∧ dp_I M 51 0 = nI R ∧ dp_I M 114 55 = nI R ∧ dp_I M 114 68 = dp_I M 51 1 ∧ dp_I M 51 2 = nI K ∧ dp_I M 114 72 = nI K ∧ (∀ i, i < K → dp_I M 57 i = dp_I M 168 i) ∧
  (∀ g, g < 8 → dp_I M 65 (16 + g) = dp_I M 155 g) ∧ dp_I M 162 = dp_I M 55 ∧ dp_I M 163 = dp_I M 56 ∧ (∀ r, (r = 0 ∨ R < r) → dp_I M 55 r = 0 ∧ dp_I M 56 r = 0) ∧ (∀ r, four (dp_I M 55 r) ∧ four (dp_I M 56 r)) ∧
  qin (dp_I M 114 67) 10001 ∧ ∀ r, 1 ≤ r → r ≤ R → TRw M r
def RelT_S : List Nat := [51, 52, 53, 54, 55, 56, 57, 58, 60, 61, 62, 63, 64, 65, 66, 67, 155, 156, 157, 158, 159, 160, 161, 162, 163, 164, 165, 166, 167, 168, 169]
def RelT_T : List Nat := [55, 67, 68, 70, 72]
theorem RelT_off {S T : List Nat} {M M' : dp_M} (h : RelT M) (o : Off S T M M') (hS : ∀ k ∈ RelT_S, k ∉ S) (hT : ∀ i ∈ RelT_T, i ∉ T) : RelT M' := by
  have e : ∀ k ∈ RelT_S, dp_I M' k = dp_I M k := fun k hk => by
    have := o.1 k (by simp only [RelT_S, List.mem_cons, List.not_mem_nil, or_false] at hk; omega) (hS k hk) (by simp only [RelT_S, List.mem_cons, List.not_mem_nil, or_false] at hk; omega)
    exact this.1
  have f : ∀ i ∈ RelT_T, dp_I M' 114 i = dp_I M 114 i := fun i hi => (o.2.1 i (hT i hi)).1
  unfold RelT TRw at h ⊢
  simp only [e 51 (by decide), e 52 (by decide), e 53 (by decide), e 54 (by decide), e 55 (by decide), e 56 (by decide), e 57 (by decide), e 60 (by decide), e 61 (by decide), e 62 (by decide), e 63 (by decide), e 64 (by decide), e 65 (by decide), e 155 (by decide), e 156 (by decide), e 157 (by decide), e 158 (by decide), e 159 (by decide), e 160 (by decide), e 161 (by decide), e 162 (by decide), e 163 (by decide), e 164 (by decide), e 165 (by decide), e 166 (by decide), e 168 (by decide), f 55 (by decide), f 67 (by decide), f 68 (by decide), f 72 (by decide)]
  exact h
section TB
variable {xs : Nat → Int32} {xl d : Nat} {M : dp_M}
theorem tc_day {v : Int32} : dp_den true xs xl (d + 2) 261 [.int v] M = iR (bI (qin v 10001)) M := by
  rw [D_X11_isDay_0_den, D_X11_isDay_0_eq]; exact q_cr (by decide)
theorem tm_day {v : Int32} : dp_den true xs xl (d + 2) 445 [.int v] M = iR (bI (qin v 10001)) M := by
  rw [D_X12_isDay_0_den, D_X12_isDay_0_eq]; exact q_mc (by decide)
theorem tc_last {v : Int32} : dp_den true xs xl (d + 3) 262 [.int v] M = iR (bI (qin v 10001 ∨ v = 20000)) M := by
  rw [D_X11_isLastDay_0_den, D_X11_isLastDay_0_eq, tc_day, rb_bi, ibz]
  by_cases h1 : qin v 10001
  · rw [if_pos h1, bI_t (Or.inl h1)]
  · rw [if_neg h1]
    by_cases h2 : v = 20000
    · rw [if_pos h2, bI_t (Or.inr h2)]
    · rw [if_neg h2, bI_f (fun q => q.elim h1 h2)]
theorem tc_land {v : Int32} : dp_den true xs xl (d + 2) 298 [.int v] M = iR (bI (qin v 16)) M := by
  rw [D_X11_isLand_0_den, D_X11_isLand_0_eq]; exact q_cr (by decide)
theorem tm_land {v : Int32} : dp_den true xs xl (d + 2) 444 [.int v] M = iR (bI (qin v 16)) M := by
  rw [D_X12_isLand_0_den, D_X12_isLand_0_eq]; exact q_mc (by decide)
theorem tm_group {v : Int32} : dp_den true xs xl (d + 2) 443 [.int v] M = iR (bI (wi v 16 23)) M := by
  rw [D_X12_isGroup_0_den, D_X12_isGroup_0_eq, q_min, rb_bi]
  simp only [rb_ok, wi_64 (a := 16) (b := 23) 16 23 (by decide) (by decide)]
theorem tc_full {v : Int32} : dp_den true xs xl (d + 2) 297 [.int v] M = iR (bI (wi v 100000 999999)) M := by
  rw [D_X11_isFullCode_0_den, D_X11_isFullCode_0_eq, q_win, rb_bi]
  simp only [rb_ok, wi_64 (a := 100000) (b := 999999) 100000 999999 (by decide) (by decide)]
theorem tm_six {v : Int32} : dp_den true xs xl (d + 2) 462 [.int v] M = iR (bI (wi v 100000 999999)) M := by
  rw [D_X12_isSix_0_den, D_X12_isSix_0_eq, q_min, rb_bi]
  simp only [rb_ok, wi_64 (a := 100000) (b := 999999) 100000 999999 (by decide) (by decide)]
theorem tm_dig {v : Int32} : dp_den true xs xl (d + 2) 446 [.int v] M = iR (dg v) M := by
  rw [D_X12_digitsOf_0_den, D_X12_digitsOf_0_eq]
  simp only [q_min, rb_bi, ibz, wi_64 (a := 100000) (b := 999999) 100000 999999 (by decide) (by decide), wi_64 (a := 10) (b := 99) 10 99 (by decide) (by decide), wi_64 (a := 1000) (b := 9999) 1000 9999 (by decide) (by decide)]
  unfold dg
  repeat' split
  all_goals first | rfl | contradiction
theorem tc_code {v : Int32} : dp_den true xs xl (d + 3) 296 [.int v] M = iR (bI (dg v ≠ 0)) M := by
  rw [D_X11_isCode_0_den, D_X11_isCode_0_eq]
  simp only [q_win, tc_full, rb_bi, ibz, wi_64 (a := 10) (b := 99) 10 99 (by decide) (by decide), wi_64 (a := 1000) (b := 9999) 1000 9999 (by decide) (by decide)]
  unfold dg bI
  repeat' split
  all_goals first | rfl | contradiction | simp_all
theorem tc_meas {v : Int32} {R : Nat} (h : dp_I M 51 0 = nI R) (hR : R ≤ 300) : dp_den true xs xl (d + 2) 255 [.ref 0, .int v] M = iR (bI (wi v 1 R)) M := by
  rw [D_X11_isMeasure_0_den, D_X11_isMeasure_0_eq, h, q_win, rb_bi]
  simp only [rb_ok, wi_nI (a := 1) 1 (by decide) (show R < 2147483648 by omega)]
theorem tm_meas {v : Int32} {R : Nat} (h : dp_I M 114 55 = nI R) (hR : R ≤ 300) : dp_den true xs xl (d + 1) 451 [.ref 114, .int v] M = iR (bI (wi v 1 R)) M := by
  rw [D_X12_isMeasure_0_den, D_X12_isMeasure_0_eq, h]
  simp only [Int32.lt_iff_toInt_lt, nI_toInt (show R < 2147483648 by omega)]
  have e : (1 : Int32).toInt = 1 := by decide
  rw [e]
  by_cases h1 : v.toInt < 1
  · rw [if_pos h1, bI_f (fun q => by have := q.1; omega)]
  · rw [if_neg h1]
    by_cases h2 : (R : Int) < v.toInt
    · rw [if_pos h2, bI_f (fun q => by have := q.2; omega)]
    · rw [if_neg h2, bI_t ⟨by omega, by omega⟩]
end TB
