/-! THE TARIFF: isOf, by class and model -/
section TJ
variable {xs : Nat → Int32} {xl d : Nat} {M : dp_M}
theorem tc_isIn {l r : Nat} (hl : l < 16) (hr : r < 301) (e : dp_I M 61 r = dp_I M 157 r) (ha : qin (dp_I M 157 r) 24 ∨ dp_I M 157 r = 31) (a7 : ∀ g, g < 8 → dp_I M 65 (16 + g) = dp_I M 155 g) :
    dp_den true xs xl (d + 2) 212 [.ref 51, .int (nI l), .int (nI r)] M = iR (bI (tb (dp_I M 55 r) l = false ∧ inn M l (dp_I M 157 r))) M := by
  rw [D_X9_isIn_0_den, D_X9_isIn_0_eq]
  simp only [nI_cl (show r < 2147483648 by omega), nI_o (show r < 301 by omega) (by omega), if_false, tb_sh (show l < 32 by omega), e]
  by_cases c1 : tb (dp_I M 55 r) l = true
  · rw [if_pos c1, bI_f (fun q => by rw [c1] at q; exact absurd q.1 (by decide))]
  rw [if_neg c1]
  have c1' : tb (dp_I M 55 r) l = false := by simpa using c1
  by_cases c2 : dp_I M 157 r = 31
  · rw [if_pos c2, bI_t ⟨c1', Or.inl c2⟩]
  rw [if_neg c2]
  obtain ⟨s, hs, es⟩ := qin_of (ha.resolve_right c2) (by omega)
  rw [es, tc_reach hs, rb_bi]
  try simp only [tb_sh (show l < 32 by omega)]
  unfold inn
  rw [ibb]
  apply iRc
  rw [nI_cl (by omega), nI_eq (by omega) (by omega)]
  by_cases c3 : s < 16
  · rw [rds_land c3, tb_one (by omega) (by omega), decide_eq_true_eq]
    constructor
    · intro q; exact ⟨c1', Or.inr (Or.inl q.symm)⟩
    · rintro ⟨-, q | q | q⟩
      · rw [← es] at q; exact absurd q c2
      · exact q.symm
      · omega
  · obtain ⟨g, rfl⟩ : ∃ g, s = 16 + g := ⟨s - 16, by omega⟩
    rw [rds_grp (by omega) (by omega), rds_c (m' := dp_I M 155) (fun g hg => a7 g hg), a7 g (by omega), Nat.add_sub_cancel_left, Bool.or_eq_true, decide_eq_true_eq]
    constructor
    · rintro (q | q)
      · omega
      · exact ⟨c1', Or.inr (Or.inr ⟨by omega, q⟩)⟩
    · rintro ⟨-, q | q | q⟩
      · rw [← es] at q; exact absurd q c2
      · omega
      · exact Or.inr q.2
theorem tm_isIn {l : Nat} {a : Int32} (hl : l < 16) (ha : qin a 24 ∨ a = 31) : dp_den true xs xl (d + 3) 449 [.ref 114, .int (nI l), .int a] M = iR (bI (inn M l a)) M := by
  rw [D_X12_isIn_0_den, D_X12_isIn_0_eq]
  by_cases c1 : a = 31
  · rw [if_pos c1, bI_t (Or.inl c1)]
  rw [if_neg c1]
  by_cases c2 : a = nI l
  · rw [if_pos c2, bI_t (Or.inr (Or.inl c2))]
  rw [if_neg c2]
  obtain ⟨s, hs, es⟩ := qin_of (ha.resolve_right c1) (by omega)
  simp only [tm_group, rb_bi, ibz]
  by_cases c3 : s < 16
  · rw [if_neg (fun q => by rw [es] at q; have := q.1; rw [nI_toInt (by omega)] at this; omega), bI_f]
    rintro (q | q | q)
    · exact c1 q
    · exact c2 q
    · rw [es, nI_cl (by omega)] at q; omega
  · obtain ⟨g, rfl⟩ : ∃ g, s = 16 + g := ⟨s - 16, by omega⟩
    have w : wi a 16 23 := by rw [es]; exact wi_mk (by omega) (by omega) (by omega)
    rw [if_pos w, if_pos w, es, tm_allIn (by omega), rb_bi]
    simp only [tb_sh (show l < 32 by omega)]
    rw [ibb]
    apply iRc
    unfold inn
    rw [nI_cl (by omega), Nat.add_sub_cancel_left]
    constructor
    · intro q; exact Or.inr (Or.inr ⟨by omega, q⟩)
    · rintro (q | q | q)
      · exact absurd (by rw [es]; exact q) c1
      · exact absurd (by rw [es]; exact q) c2
      · exact q.2
theorem TRw_ld {r : Nat} {on : Int32} (h : TRw M r) (hr : r < 301) (ho : dp_I M 161 r ≤ on) : dp_den true xs xl (d + 1) 217 [.ref 51, .int (nI r), .int on] M = iR (ld M on r) M ∧ dp_den true xs xl (d + 1) 452 [.ref 114, .int (nI r), .int on] M = iR (ld M on r) M := by
  obtain ⟨n, h1, h2, h3, h4, h5, h6, h7, h8, h9, h10, h11, h12, h13, h14, h15⟩ := h
  have e1 : (dp_I M 164 r).toNatClampNeg = n := by rw [h3, nI_cl (by omega)]
  have hb := bb_lt (f := fun k => dp_I M 166 (r * 8 + k)) (on := on) n h1
  have e2 : bb (fun k => dp_I M 64 (r * 8 + k)) on n = bb (fun k => dp_I M 166 (r * 8 + k)) on n := bb_c n (fun k hk => by
    obtain ⟨c1, c2, c3, c4⟩ := h15 k hk
    (try dsimp only)
    exact ⟨c2, Iff.rfl⟩)
  rw [h14] at ho
  constructor
  · rw [tc_lastDay hr h1 h2 h4 (by obtain ⟨c1, c2, c3, c4⟩ := h15 0 (by omega); rw [c2]; exact ho) (fun k hk => by obtain ⟨c1, c2, c3, c4⟩ := h15 k hk; rw [c2]; exact c3), e2, (h15 _ hb).1]
    unfold ld
    rw [e1]
  · rw [tm_lastOf hr h1 h2 h3 ho]
    unfold ld
    rw [e1]
theorem tc_isOf {l r : Nat} {c day on : Int32} (hl : l < 16) (hr : r < 301) (h : TRw M r) (a7 : ∀ g, g < 8 → dp_I M 65 (16 + g) = dp_I M 155 g) :
    dp_den true xs xl (d + 3) 220 [.ref 51, .int (nI r), .int c, .int (nI l), .int day, .int on] M = iR (bI (isof M c l day on r)) M := by
  have hT := h
  obtain ⟨n, h1, h2, h3, h4, h5, h6, h7, h8, h9, h10, h11, h12, h13, h14, h15⟩ := h
  have ek : dp_I M 64 (r * 8) = dp_I M 161 r := by
    have := (h15 0 (by omega)).2.1
    rw [Nat.add_zero] at this
    rw [this, h14]
  rw [D_X9_isOf_0_den, D_X9_isOf_0_eq]
  simp only [t_8, nI_cl (show r * 8 < 2147483648 by omega), nI_o (show r * 8 < 2408 by omega) (by omega), nI_cl (show r < 2147483648 by omega), nI_o (show r < 301 by omega) (by omega), if_false, ek, h5, h7, tc_under, rb_bi, ibz, tc_isIn hl hr h6 h11 a7]
  unfold isof
  by_cases c1 : on < dp_I M 161 r
  · rw [if_pos c1, bI_f (fun q => absurd q.1 (Int32.not_le.mpr c1))]
  rw [if_neg c1]
  by_cases c2 : und c (dp_I M 156 r)
  case neg => rw [if_neg c2, bI_f (fun q => c2 q.2.1)]
  rw [if_pos c2]
  by_cases c3 : day < dp_I M 158 r
  · rw [if_pos c3, bI_f (fun q => absurd q.2.2.2.2.1 (Int32.not_le.mpr c3))]
  rw [if_neg c3, (TRw_ld hT hr (Int32.not_lt.mp c1)).1, rb_bi]
  by_cases c4 : ld M on r < day
  · rw [if_pos c4, bI_f (fun q => absurd q.2.2.2.2.2 (Int32.not_le.mpr c4))]
  rw [if_neg c4, tc_isIn hl hr h6 h11 a7, rb_bi, ibz]
  by_cases c5 : tb (dp_I M 55 r) l = false ∧ inn M l (dp_I M 157 r)
  · rw [if_pos c5, bI_t ⟨Int32.not_lt.mp c1, c2, c5.2, c5.1, Int32.not_lt.mp c3, Int32.not_lt.mp c4⟩]
  · rw [if_neg c5, bI_f (fun q => c5 ⟨q.2.2.2.1, q.2.2.1⟩)]
theorem tm_bit0 {v : Int32} {l : Nat} (hl : l < 32) : (((v >>> (nI l &&& 31)) &&& 1) = (0 : Int32)) ↔ tb v l = false := by
  have e1 := tb_sh (v := v) hl
  have e2 : (v >>> (nI l &&& 31)) &&& 1 = 0 ∨ (v >>> (nI l &&& 31)) &&& 1 = (1 : Int32) := by
    generalize v >>> (nI l &&& 31) = w
    rw [← Int32.toBitVec_inj, ← Int32.toBitVec_inj, Int32.toBitVec_and]
    have : (1 : Int32).toBitVec = 1#32 := rfl
    rw [this, BitVec.and_one_eq_setWidth_ofBool_getLsbD]
    cases w.toBitVec.getLsbD 0
    · left; rfl
    · right; rfl
  constructor
  · intro q
    cases z : tb v l with
    | false => rfl
    | true => rw [q] at e1; exact absurd (e1.mpr z) (by decide)
  · intro q
    exact e2.resolve_right (fun z => by rw [e1.mp z] at q; exact absurd q (by decide))
theorem tm_isOf {l r : Nat} {c day on : Int32} (hl : l < 16) (hr : r < 301) (hc : wi c 100000 999999) (h : TRw M r) (a8 : dp_I M 162 = dp_I M 55) :
    dp_den true xs xl (d + 4) 459 [.ref 114, .int (nI r), .int c, .int (nI l), .int day, .int on] M = iR (bI (isof M c l day on r)) M := by
  have hT := h
  obtain ⟨n, h1, h2, h3, h4, h5, h6, h7, h8, h9, h10, h11, h12, h13, h14, h15⟩ := h
  rw [D_X12_isOf_0_den, D_X12_isOf_0_eq]
  simp only [nI_cl (show r < 2147483648 by omega), nI_o (show r < 301 by omega) (by omega), if_false, tm_under hc h10, rb_bi, ibz, tm_isIn hl h11, a8, tm_bit0 (show l < 32 by omega)]
  unfold isof
  by_cases c1 : on < dp_I M 161 r
  · rw [if_pos c1, bI_f (fun q => absurd q.1 (Int32.not_le.mpr c1))]
  rw [if_neg c1]
  by_cases c2 : und c (dp_I M 156 r)
  case neg => rw [if_neg c2, bI_f (fun q => c2 q.2.1)]
  rw [if_pos c2]
  by_cases c5 : inn M l (dp_I M 157 r)
  case neg => rw [if_neg c5, bI_f (fun q => c5 q.2.2.1)]
  rw [if_pos c5]
  by_cases c6 : tb (dp_I M 55 r) l = false
  case neg => rw [if_neg c6, bI_f (fun q => c6 q.2.2.2.1)]
  rw [if_pos c6]
  by_cases c3 : day < dp_I M 158 r
  · rw [if_pos c3, bI_f (fun q => absurd q.2.2.2.2.1 (Int32.not_le.mpr c3))]
  rw [if_neg c3, (TRw_ld hT hr (Int32.not_lt.mp c1)).2, rb_bi]
  by_cases c4 : ld M on r < day
  · rw [if_pos c4, bI_f (fun q => absurd q.2.2.2.2.2 (Int32.not_le.mpr c4))]
  · rw [if_neg c4, bI_t ⟨Int32.not_lt.mp c1, c2, c5, c6, Int32.not_lt.mp c3, Int32.not_lt.mp c4⟩]
theorem tc_pap1 {r : Nat} (hr : r < 301) : dp_den true xs xl (d + 1) 221 [.ref 51, .int (nI r)] M = iR (bI (pap M r)) M := by
  rw [D_X9_hasPapers_0_den, D_X9_hasPapers_0_eq]
  simp only [nI_cl (show r < 2147483648 by omega), nI_o (show r < 301 by omega) (by omega), if_false]
  unfold pap
  by_cases c1 : dp_I M 56 r = 0
  · rw [if_pos c1, bI_t (Or.inl c1)]
  rw [if_neg c1]
  by_cases c2 : dp_I M 56 r &&& dp_I M 51 1 = 0
  · rw [if_pos c2, bI_f (fun q => q.elim c1 (fun z => z c2))]
  · rw [if_neg c2, bI_t (Or.inr c2)]
/-- how strong a row is -/
def stg (M : dp_M) (r : Nat) : Int32 := 10 * dg (dp_I M 156 r) + dp_I M 160 r
theorem tc_stg {r : Nat} (hr : r < 301) (h : TRw M r) : dp_den true xs xl (d + 2) 222 [.ref 51, .int (nI r)] M = iR (stg M r) M := by
  obtain ⟨n, h1, h2, h3, h4, h5, h6, h7, h8, h9, h10, -⟩ := h
  rw [D_X9_strengthOf_0_den, D_X9_strengthOf_0_eq]
  simp only [nI_cl (show r < 2147483648 by omega), nI_o (show r < 301 by omega) (by omega), if_false, h5, tc_len h10, rb_bi, h9]
  rfl
theorem stg_nI {r : Nat} (h : TRw M r) : ∃ a b : Nat, stg M r = nI (10 * a + b) ∧ dg (dp_I M 156 r) = nI a ∧ dp_I M 160 r = nI b ∧ a ≤ 6 ∧ b < 10 := by
  obtain ⟨n, h1, h2, h3, h4, h5, h6, h7, h8, h9, h10, h11, h12, h13, -⟩ := h
  obtain ⟨b, hb, eb⟩ := qin_of h13 (by omega)
  have : ∃ a : Nat, dg (dp_I M 156 r) = nI a ∧ a ≤ 6 := by
    rcases dg_2 h10 with ⟨q, -⟩ | ⟨q, -⟩ | ⟨q, -⟩
    · exact ⟨2, q, by omega⟩
    · exact ⟨4, q, by omega⟩
    · exact ⟨6, q, by omega⟩
  obtain ⟨a, ea, ha⟩ := this
  refine ⟨a, b, ?_, ea, eb, ha, hb⟩
  unfold stg
  rw [ea, eb, show (10 : Int32) = nI 10 from rfl, pk_mul, nI_add]
theorem tm_beats {r x : Nat} (hr : r < 301) (hx : x < 301) (h1 : TRw M r) (h2 : TRw M x) : dp_den true xs xl (d + 3) 460 [.ref 114, .int (nI x), .int (nI r)] M = iR (bI (dp_I M 159 x = dp_I M 159 r ∧ stg M r < stg M x)) M := by
  obtain ⟨a, b, e1, e2, e3, b1, b2⟩ := stg_nI h1
  obtain ⟨a', b', e1', e2', e3', b1', b2'⟩ := stg_nI h2
  rw [D_X12_beats_0_den, D_X12_beats_0_eq]
  simp only [nI_cl (show r < 2147483648 by omega), nI_o (show r < 301 by omega) (by omega), nI_cl (show x < 2147483648 by omega), nI_o (show x < 301 by omega) (by omega), if_false, tm_dig, rb_bi, e2, e3, e2', e3', e1, e1']
  by_cases c1 : dp_I M 159 x = dp_I M 159 r
  case neg => rw [if_neg c1, bI_f (fun q => c1 q.1)]
  rw [if_pos c1]
  have lt : ∀ u w : Nat, u < 2147483648 → w < 2147483648 → ((nI u < nI w) ↔ u < w) := fun u w hu hw => by
    rw [Int32.lt_iff_toInt_lt, nI_toInt hu, nI_toInt hw]; omega
  have le : ∀ u w : Nat, u < 2147483648 → w < 2147483648 → ((nI u ≤ nI w) ↔ u ≤ w) := fun u w hu hw => by
    rw [Int32.le_iff_toInt_le, nI_toInt hu, nI_toInt hw]; omega
  simp only [lt a a' (by omega) (by omega), lt (10 * a + b) (10 * a' + b') (by omega) (by omega), nI_eq (show a' < 2147483648 by omega) (show a < 2147483648 by omega), le b' b (by omega) (by omega), c1, true_and]
  have ok : 10 * a + b < 10 * a' + b' ↔ (a < a' ∨ (a' = a ∧ ¬ b' ≤ b)) := by omega
  rw [bI_c ok]
  by_cases c2 : a < a'
  · rw [if_pos c2, bI_t (Or.inl c2)]
  rw [if_neg c2]
  by_cases c3 : a' = a
  · rw [if_pos c3]
    by_cases c4 : b' ≤ b
    · rw [if_pos c4, bI_f (fun q => q.elim c2 (fun z => z.2 c4))]
    · rw [if_neg c4, bI_t (Or.inr ⟨c3, c4⟩)]
  · rw [if_neg c3, bI_f (fun q => q.elim c2 (fun z => c3 z.1))]
end TJ
