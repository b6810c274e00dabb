-- needs: 71 72 73 74 75 76 77 78 79
/-! DUTY: duty, side by side -/
section DuI
variable {xs : Nat → Int32} {xl d : Nat} {M : dp_M}
def RelQ_C : List Nat := [75, 76, 77, 78, 79, 80, 81, 82, 83, 84, 85, 86, 87, 88, 89, 191, 192, 193, 194, 195, 196, 197, 198, 235, 238]
theorem RelQ.scr {S T : List Nat} {M' : dp_M} (h : RelQ M) (o : Off S T M M') (hS : ∀ k ∈ RelQ_C, k ∉ S) (hT : ∀ i ∈ [105, 111], i ∉ T) : RelQ M' := by
  have q : ∀ k ∈ RelQ_C, k < 246 ∧ k ≠ 114 := by decide
  have e : ∀ k ∈ RelQ_C, dp_I M' k = dp_I M k := fun k hk => (o.1 k (q k hk).1 (hS k hk) (q k hk).2).1
  have j : ∀ k ∈ RelQ_C, dp_J M' k = dp_J M k := fun k hk => (o.1 k (q k hk).1 (hS k hk) (q k hk).2).2.1
  have f : ∀ i ∈ [105, 111], dp_I M' 114 i = dp_I M 114 i := fun i hi => (o.2.1 i (hT i hi)).1
  unfold RelQ QRw cC qp mdy mdk at h ⊢
  simp only [e 75 (by decide), e 77 (by decide), e 78 (by decide), e 79 (by decide), e 80 (by decide), e 82 (by decide), e 83 (by decide), e 84 (by decide), e 87 (by decide), e 192 (by decide), e 193 (by decide), e 194 (by decide), e 195 (by decide), e 196 (by decide), e 197 (by decide), e 235 (by decide), e 238 (by decide), j 76 (by decide), j 81 (by decide), j 85 (by decide), j 86 (by decide), j 191 (by decide), j 198 (by decide), f 105 (by decide), f 111 (by decide)]
  exact h
def Du_S : List Nat := 245 :: 51 :: 58 :: 66 :: 67 :: 112 :: 113 :: Mr_S
def Du_T : List Nat := 0 :: Mr_T
theorem du_off {N : dp_M} (hq : RelQ M) (ht : RelT M) (hr : RelR M) (hd : RelD M) (o : Off Du_S Du_T M N) (h51 : ∀ g, g < 3 → dp_I N 51 g = dp_I M 51 g) : RelQ N ∧ RelT N ∧ RelR N ∧ RelD N :=
  ⟨hq.scr o (by decide) (by decide), ht.scr o (by decide) (by decide) h51, RelR_off hr o (by decide) (by decide), RelD_off hd o (by decide) (by decide)⟩
theorem Off.ng {S T : List Nat} {M' : dp_M} (h : Off S T M M') (hn : 246 ≤ dp_n M) : 246 ≤ dp_n M' := by have := h.2.2.2.2; omega
theorem s_duty (hq : RelQ M) (ht : RelT M) (hr : RelR M) (hd : RelD M) (v1 v2 : Int32) : ∃ k b M1 M2, dp_den true xs xl (d + 12) 648 [.ref 0, .int v1, .int v2, .ref 245] M = iR k M1 ∧ dp_den true xs xl (d + 12) 576 [.ref 114, .int v1, .int v2] M1 = lR b M2 ∧
    dp_I M2 114 0 = k ∧ (k = 0 → dp_J M2 245 0 = b) ∧ (RelQ M2 ∧ RelT M2 ∧ RelR M2 ∧ RelD M2) ∧ Off Du_S Du_T M M2 ∧ Cst 1 6 M M2 := by
  have hn := hr.1
  have hd0 := hd
  obtain ⟨D, A, R, hb⟩ := hd
  have hb0 := hb
  obtain ⟨h1, h2, h3, -⟩ := hb
  have n114 : ∀ q, dp_I (dp_new M 0 0 6) 114 q = dp_I M 114 q := fun q => by rw [gIN (by omega)]
  by_cases z : qin v1 D ∧ qin v2 10001
  case neg =>
    have oo : Off Du_S Du_T M (dp_setI (dp_new M 0 0 6) 114 0 1) := ((Off.rr _ _ M).N hn 0 0 6).F 0 (by decide) 1
    refine ⟨1, 0, dp_new M 0 0 6, dp_setI (dp_new M 0 0 6) 114 0 1, wL_duty_x0 ?_, ?_, rfl, (fun e => by cases e), du_off hq ht hr hd0 oo (fun g _ => by rw [gII, if_neg (by decide), gIN (by omega)]), oo, ⟨Nat.le_refl _, Nat.le_refl _⟩⟩
    · rw [D_X11_duty_0_den, D_X11_duty_0_eq, dc_is h2 h1, rb_bi, ibz]
      by_cases y : qin v1 D
      · rw [if_pos y, tc_day, rb_bi, ibz, if_neg (fun q => z ⟨y, q⟩), q_nk hn]
      · rw [if_neg y, q_nk hn]
    · rw [D_X12_duty_0_den, D_X12_duty_0_eq, dm_is (by rw [n114]; exact h3) h1, rb_bi, ibz]
      by_cases y : qin v1 D
      · rw [if_pos y, tm_day, rb_bi, ibz, if_neg (fun q => z ⟨y, q⟩), q_ref, rb_bi]; rfl
      · rw [if_neg y, q_ref, rb_bi]; rfl
  obtain ⟨z1, z2⟩ := z
  have z1' := z1
  obtain ⟨i, hi, rfl⟩ := qin_of z1 (by omega)
  obtain ⟨v, M1, c1, c2, c3, c4, c5, c6⟩ := s_reck (xs := xs) (xl := xl) (d := d + 3) (e' := d) hq ht hr hb0 hi v2
  have hn1 : 246 ≤ dp_n M1 := c2.ng hn
  have cl : dp_den true xs xl (d + 11) 352 [.ref 0, .int (nI i), .int v2] M = if v = -1 then some (.inr 3, dp_new M1 0 0 6) else lR v M1 := by
    rw [D_X11_duty_0_den, D_X11_duty_0_eq, dc_is h2 h1, rb_bi, ibz, if_pos z1', tc_day, rb_bi, ibz, if_pos z2, c1, rb_bl, q_nk hn1]
    by_cases y : v = -1
    · rw [if_pos ((lg_cmp_eq _ _).mpr y), if_pos y]
    · rw [if_neg (fun w => y ((lg_cmp_eq _ _).mp w)), if_neg y]
  have ml : ∀ N, dp_I N 114 160 = nI D → dp_den true xs xl (d + 12) 576 [.ref 114, .int (nI i), .int v2] N = dp_bl (dp_den true xs xl (d + 11) 575 [.ref 114, .int (nI i), .int v2] N) (fun r10 M9 => if 0 ≤ (lg_cmp r10 (0 : Int64)) then (dp_w (dp_setI M9 114 0 (0 : Int32)) (fun M11 => if 0 ≤ (lg_cmp r10 (0 : Int64)) then (some (.inl (some (.long r10)), M11)) else (some (.inl (some (.long (0 : Int64))), M11)))) else (dp_w (dp_setI M9 114 0 (2 : Int32)) (fun M12 => if 0 ≤ (lg_cmp r10 (0 : Int64)) then (some (.inl (some (.long r10)), M12)) else (some (.inl (some (.long (0 : Int64))), M12))))) := fun N e => by
    rw [D_X12_duty_0_den, D_X12_duty_0_eq, dm_is e h1, rb_bi, ibz, if_pos z1', tm_day, rb_bi, ibz, if_pos z2]
  have oc : Off Du_S Du_T M M1 := c2.mono (by decide) (by decide)
  by_cases y : v = -1
  · have oX : Off Du_S Du_T M1 (dp_new M1 0 0 6) := (Off.rr _ _ M1).N hn1 0 0 6
    obtain ⟨N', r1, r2, r3⟩ := c6 [] [] (dp_new M1 0 0 6) ((Off.rr _ _ M1).N hn1 0 0 6) (by decide) (by decide)
    have oo : Off Du_S Du_T M (dp_setI N' 114 0 2) := ((oc.tr oX).tr (r2.mono (by decide) (by decide))).F 0 (by decide) _
    refine ⟨2, 0, dp_new M1 0 0 6, dp_setI N' 114 0 2, wL_duty_x3 (by rw [cl, if_pos y]), ?_, by rw [gII, if_pos rfl, uI_s], (fun e => by cases e), du_off hq ht hr hd0 oo (fun g hg => ?_), oo, ?_⟩
    · rw [ml _ (by rw [gIN (by omega)]; exact (c2.2.1 160 (by simp)).1.trans h3), r1, rb_bl, y, if_neg (by decide), dpw, if_neg (by decide)]
    · rw [gII, if_neg (by decide), (r2.1 51 (by decide) (by decide) (by decide)).1, gIN (by omega)]; exact c4 g hg
    · have n1 : dp_n (dp_new M1 0 0 6) = dp_n M1 + 1 := rfl
      have n2 : dp_z (dp_new M1 0 0 6) = dp_z M1 + 6 := rfl
      have e1 := c3.1; have e2 := c3.2; have e3 := r3.1; have e4 := r3.2
      exact ⟨show dp_n N' ≤ dp_n M + 1 by omega, show dp_z N' ≤ dp_z M + 6 by omega⟩
  · have vn : (0 : Int64) ≤ v := by
      rcases c5 with q | q
      · exact absurd q y
      · rw [Int64.le_iff_toInt_le]; exact q.1
    obtain ⟨N', r1, r2, r3⟩ := c6 [245] [] (dp_setJ M1 245 0 v) ((Off.rr _ _ M1).J 245 (by decide) _ _) (by decide) (by decide)
    have oo : Off Du_S Du_T M (dp_setI N' 114 0 0) := ((oc.J 245 (by decide) 0 v).tr (r2.mono (by decide) (by decide))).F 0 (by decide) _
    refine ⟨0, v, dp_setJ M1 245 0 v, dp_setI N' 114 0 0, wL_duty_ok (by rw [cl, if_neg y]), ?_, by rw [gII, if_pos rfl, uI_s], fun _ => ?_, du_off hq ht hr hd0 oo (fun g hg => ?_), oo, ?_⟩
    · rw [ml _ (by rw [gIJ]; exact (c2.2.1 160 (by simp)).1.trans h3), r1, rb_bl, if_pos (by rw [lg_cmp_ge]; exact vn), dpw, if_pos (by rw [lg_cmp_ge]; exact vn)]
    · rw [gJI, (r2.1 245 (by decide) (by decide) (by decide)).2.1, gJJ, if_pos rfl, uI_s]
    · rw [gII, if_neg (by decide), (r2.1 51 (by decide) (by decide) (by decide)).1, gIJ]; exact c4 g hg
    · have n1 : dp_n (dp_setJ M1 245 0 v) = dp_n M1 := rfl
      have n2 : dp_z (dp_setJ M1 245 0 v) = dp_z M1 := rfl
      have e1 := c3.1; have e2 := c3.2; have e3 := r3.1; have e4 := r3.2
      exact ⟨show dp_n N' ≤ dp_n M + 1 by omega, show dp_z N' ≤ dp_z M + 6 by omega⟩
end DuI
