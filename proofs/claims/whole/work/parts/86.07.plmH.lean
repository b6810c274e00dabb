-- needs: 71 72 73 74 75 76 77 78 85
/-! PLAN: the model reads a word -/
theorem hs_m1 {x : Nat} (hx : 0 < x) (h : x < 2147483648) : nI x - 1 = nI (x - 1) := by
  obtain ⟨y, rfl⟩ : ∃ y, x = y + 1 := ⟨x - 1, by omega⟩
  rw [nI_pred]; rfl
theorem wc_lt (W p : Nat) : wc W p < 8 := by
  have := Nat.and_le_right (n := W >>> (3 * p)) (m := 7)
  unfold wc; omega
theorem shr_le (W k : Nat) : W >>> k ≤ W := by rw [Nat.shiftRight_eq_div_pow]; exact Nat.div_le_self _ _
theorem asd_q (c j : Nat) : ∀ n k, asd c n j = some k → k < n ∧ pl c k = 13 ∧ ct (fun i => decide (pl c i = 13)) k = j
  | 0, k => fun h => by cases h
  | n + 1, k => fun h => by
    rw [asd] at h
    cases e : asd c n j with
    | some x =>
      rw [e] at h
      (try dsimp only at h)
      have := asd_q c j n k (by rw [e]; exact h)
      exact ⟨by omega, this.2⟩
    | none =>
      rw [e] at h
      (try dsimp only at h)
      by_cases z : pl c n = 13 ∧ ct (fun i => decide (pl c i = 13)) n = j
      · rw [if_pos z] at h
        have e' : n = k := Option.some.inj h
        subst e'
        exact ⟨by omega, z.1, z.2⟩
      · rw [if_neg z] at h; cases h
def tkI : Option Nat → Int32
  | none => -1
  | some k => nI k
section PmH
variable {xs : Nat → Int32} {xl d : Nat} {M : dp_M}
theorem m_cell {W s t : Nat} (hW : W < 17592186044416) (hs : s < 3) (ht : t < 4) : dp_den true xs xl (d + 1) 377 [.ref 114, .long (nJ W), .int (nI s), .int (nI t)] M = iR (nI (wc W (4 * s + t)) - 1) M := by
  have h1 := shr_le W (3 * (4 * s + t))
  have h2 := wc_lt W (4 * s + t)
  rw [D_X12_cellAt_0_den, D_X12_cellAt_0_eq, show (4 : Int32) = nI 4 from rfl, pk_mul, nI_add, show (3 : Int32) = nI 3 from rfl, pk_mul, nJ_63 _ (by omega), nJ_shr (by omega) (by omega), show (7 : Int64) = nJ 7 from rfl, nJ_and (by omega) (by omega)]
  unfold wc at h2
  rw [nJ_i (by omega)]
  rfl
theorem m_top {n c s T : Nat} (hT : dp_I M 114 2 = nI T) (hT4 : T ≤ 4) (w : WK n c) (hs : s < 3) (hh : hgt c n s ≤ T) : dp_den true xs xl (d + 2) 378 [.ref 114, .long (nJ (wN c n)), .int (nI s)] M = iR (nI (hgt c n s)) M := by
  rw [D_X12_topOf_0_den, D_X12_topOf_0_eq]
  simp only [dp_w]
  refine lpf (F := fun t => D_X12_topOf_3 xs xl (d + 1) (nJ (wN c n)) (nI s) (nI t) M) (a := 0) (j := hgt c n s) (Nat.zero_le _) (fun t _ ht hr => ?_) ?_
  · (try dsimp only at hr); (try dsimp only)
    have h0 := w.2.2.1 s t hs (by omega) ht
    have h8 := wc_lt (wN c n) (4 * s + t)
    rw [D_X12_topOf_3_eq, hT, if_neg (nI_nge (by omega) (by omega)), m_cell w.1 hs (by omega), rb_bi, hs_m1 h0 (by omega), if_neg (nI_nn (by omega))]
    simp only [dp_w, nI_1]; exact hr
  · (try dsimp only)
    rw [D_X12_topOf_3_eq, hT]
    by_cases z : T ≤ hgt c n s
    · rw [if_pos (nI_lle z (by omega))]
    · rw [if_neg (nI_nge (by omega) (by omega)), m_cell w.1 hs (by omega), rb_bi, w.2.2.2.1 s hs (by omega), if_pos (show nI 0 - 1 < (0 : Int32) by decide)]
theorem m_asd {n c k : Nat} (w : WK n c) (hn : n ≤ 4) (hk : k < n) : dp_den true xs xl (d + 1) 379 [.long (nJ (wN c n)), .int (nI k)] M = iR (bI (pl c k = 13)) M := by
  have h1 := shr_le (wN c n) (36 + k)
  have hW := w.1
  rw [D_X12_isAside_0_den, D_X12_isAside_0_eq, show (36 : Int32) = nI 36 from rfl, nI_add, nJ_63 _ (by omega), nJ_shr (by omega) (by omega), show (1 : Int64) = nJ 1 from rfl, nJ_and (by omega) (by omega), w.2.2.2.2.2.1 k hk]
  by_cases z : pl c k = 13
  · rw [if_pos z, if_pos ((lg_cmp_eq _ _).mpr rfl), bI_t z]
  · rw [if_neg z, if_neg (fun q => by have := (lg_cmp_eq _ _).mp q; rw [nJ_eq (by omega) (by omega)] at this; omega), bI_f z]
theorem m_ashr {n c : Nat} (w : WK n c) : dp_den true xs xl (d + 1) 380 [.long (nJ (wN c n))] M = iR (nI (ash c n)) M := by
  have h1 := shr_le (wN c n) 40
  have hW := w.1
  have := Nat.and_le_right (n := wN c n >>> 40) (m := 15)
  rw [D_X12_ashoreIn_0_den, D_X12_ashoreIn_0_eq, show (40 : Int32) = nI 40 from rfl, nJ_63 _ (by omega), nJ_shr (by omega) (by omega), show (15 : Int64) = nJ 15 from rfl, nJ_and (by omega) (by omega), nJ_i (by omega), w.2.1]
theorem m_tkn {n c f T : Nat} (hn : n ≤ 4) (hT : dp_I M 114 2 = nI T) (hT4 : T ≤ 4) (hb : dp_I M 114 23 = nI n) (w : WK n c) (hf : f < 7) (hh : ∀ s, s < 3 → hgt c n s ≤ T) : dp_den true xs xl (d + 3) 382 [.ref 114, .long (nJ (wN c n)), .int (nI f)] M = iR (tkI (tkn c n f)) M := by
  rw [D_X12_taken_0_den, D_X12_taken_0_eq]
  by_cases z : f < 3
  · have h4 := hgt_le c n f
    rw [if_neg (show ¬ (3 : Int32) ≤ nI f from nI_nge (n := 3) z (by omega)), m_top hT hT4 w z (hh f z), rb_bi]
    unfold tkn
    rw [if_pos z]
    by_cases y : hgt c n f = 0
    · rw [y, if_pos rfl, if_pos (show nI 0 = (0 : Int32) from rfl)]; rfl
    · rw [if_neg y, if_neg (nI_n0 (by omega) y), m_top hT hT4 w z (hh f z), rb_bi, hs_m1 (by omega) (by omega), m_cell w.1 z (by omega), rb_bi, w.2.2.2.2.1 f z (by omega), nI_pred]; rfl
  · obtain ⟨j, rfl⟩ : ∃ j, f = j + 3 := ⟨f - 3, by omega⟩
    rw [if_pos (show (3 : Int32) ≤ nI (j + 3) from nI_lle (n := 3) (by omega) (by omega))]
    simp only [dp_w]
    rw [show (3 : Int32) = nI 3 from rfl, nI_mns (by omega), Nat.add_sub_cancel]
    obtain ⟨x, hx⟩ : ∃ x, x = ct (fun i => decide (pl c i = 13)) := ⟨_, rfl⟩
    have xs1 : ∀ k, pl c k = 13 → x (k + 1) = x k + 1 := fun k e => by rw [hx, ct, if_pos (decide_eq_true e)]
    have xs0 : ∀ k, ¬ pl c k = 13 → x (k + 1) = x k := fun k e => by rw [hx, ct, if_neg (fun q => e (of_decide_eq_true q))]; rfl
    have step : ∀ k r, k < n → x (k + 1) ≤ j → D_X12_taken_41 xs xl (d + 2) (nJ (wN c n)) (nI (j + 3)) (nI (j - x (k + 1))) (nI (k + 1)) M = some r → D_X12_taken_41 xs xl (d + 2) (nJ (wN c n)) (nI (j + 3)) (nI (j - x k)) (nI k) M = some r := fun k r hk hj hr => by
      rw [D_X12_taken_41_eq, hb, if_neg (nI_nge hk (by omega)), m_asd w hn hk, rb_bi, ibz]
      by_cases y : pl c k = 13
      · have e := xs1 k y
        rw [if_pos y, if_neg (nI_n0 (by omega) (by omega)), D_X12_taken_67_eq, m_asd w hn hk, rb_bi, ibz, if_pos y]
        simp only [dp_w, nI_1]
        rw [show (1 : Int32) = nI 1 from rfl, nI_mns (by omega), show j - x k - 1 = j - x (k + 1) by omega]; exact hr
      · have e := xs0 k y
        rw [if_neg y, D_X12_taken_67_eq, m_asd w hn hk, rb_bi, ibz, if_neg y]
        simp only [dp_w, nI_1]
        rw [Int32.sub_zero, ← e]; exact hr
    have mono : ∀ m k, k ≤ m → x k ≤ x m := fun m => by
      induction m with
      | zero => exact fun k hk => by rw [show k = 0 by omega]; exact Nat.le_refl _
      | succ m ih =>
        intro k hk
        by_cases y : k = m + 1
        · rw [y]; exact Nat.le_refl _
        · have := ih k (by omega)
          by_cases q : pl c m = 13
          · rw [xs1 m q]; omega
          · rw [xs0 m q]; exact this
    have e0 : x 0 = 0 := by rw [hx]; rfl
    unfold tkn
    rw [if_neg z, Nat.add_sub_cancel]
    cases e : asd c n j with
    | none =>
      have hc := (asd_ct c j n).mp e
      rw [← hx] at hc
      have := lpf (F := fun k => D_X12_taken_41 xs xl (d + 2) (nJ (wN c n)) (nI (j + 3)) (nI (j - x k)) (nI k) M) (a := 0) (j := n) (r := (.inl (some (.int (-1))), M)) (Nat.zero_le _) (fun k _ hk hr => step k _ hk (Nat.le_trans (mono n (k + 1) hk) hc) hr) ?_
      · (try dsimp only at this)
        rw [e0, Nat.sub_zero] at this; exact this
      · (try dsimp only)
        rw [D_X12_taken_41_eq, hb, if_pos (nI_lle (Nat.le_refl _) (by omega))]
    | some y =>
      obtain ⟨y1, y2, y3⟩ := asd_q c j n y e
      rw [← hx] at y3
      have := lpf (F := fun k => D_X12_taken_41 xs xl (d + 2) (nJ (wN c n)) (nI (j + 3)) (nI (j - x k)) (nI k) M) (a := 0) (j := y) (r := (.inl (some (.int (nI y))), M)) (Nat.zero_le _) (fun k _ hk hr => step k _ (by omega) (by rw [← y3]; exact mono y (k + 1) hk) hr) ?_
      · (try dsimp only at this)
        rw [e0, Nat.sub_zero] at this; exact this
      · (try dsimp only)
        rw [D_X12_taken_41_eq, hb, if_neg (nI_nge y1 (by omega)), m_asd w hn y1, rb_bi, ibz, if_pos y2, y3, Nat.sub_self, if_pos (show nI 0 = (0 : Int32) from rfl)]
end PmH
