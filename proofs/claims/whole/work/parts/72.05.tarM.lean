/-! THE TARIFF: member, exclude, condition, papers, listed -/
theorem rnd_c {m m' : Nat → Int32} {v : Int32} (h : ∀ g, g < 8 → m g = m' g) : ∀ n, n ≤ 8 → rnd m v n = rnd m' v n
  | 0, _ => rfl
  | n + 1, hn => by rw [rnd, rnd, rnd_c h n (by omega), stp, stp, h n (by omega)]
theorem rds_c {m m' : Nat → Int32} {v : Int32} (h : ∀ g, g < 8 → m g = m' g) : ∀ n, rds m v n = rds m' v n
  | 0 => rfl
  | n + 1 => by rw [rds, rds, rds_c h n, rnd_c h 8 (Nat.le_refl _)]
def TRw_S : List Nat := [52, 53, 54, 60, 61, 62, 63, 64, 156, 157, 158, 159, 160, 161, 164, 165, 166]
theorem TRw.off {S T : List Nat} {M M' : dp_M} {r : Nat} (h : TRw M r) (o : Off S T M M') (hS : ∀ k ∈ TRw_S, k ∉ S) (hT : 67 ∉ T) : TRw M' r := by
  have e : ∀ k ∈ TRw_S, dp_I M' k = dp_I M k := fun k hk => by
    have := o.1 k (by simp only [TRw_S, List.mem_cons, List.not_mem_nil, or_false] at hk; omega) (hS k hk) (by simp only [TRw_S, List.mem_cons, List.not_mem_nil, or_false] at hk; omega)
    exact this.1
  have f := (o.2.1 67 hT).1
  unfold TRw at h ⊢
  simp only [e 52 (by decide), e 53 (by decide), e 54 (by decide), e 60 (by decide), e 61 (by decide), e 62 (by decide), e 63 (by decide), e 64 (by decide), e 156 (by decide), e 157 (by decide), e 158 (by decide), e 159 (by decide), e 160 (by decide), e 161 (by decide), e 164 (by decide), e 165 (by decide), e 166 (by decide), f]
  exact h
section TD
variable {xs : Nat → Int32} {xl d : Nat} {M : dp_M}
/-- nothing is changed -/
theorem RelT.same (h : RelT M) : RelT (dp_setI M 114 0 0) ∧ Off RelT_S (0 :: RelT_T) M (dp_setI M 114 0 0) ∧ Cst 0 0 M (dp_setI M 114 0 0) :=
  ⟨RelT_off h ((Off.rr [] [0] M).F 0 (by decide) 0) (by decide) (by decide), (Off.rr _ _ M).F 0 (by decide) 0, ⟨Nat.le_refl _, Nat.le_refl _⟩⟩
/-- member -/
theorem s_member (h : RelT M) (v1 v2 : Int32) : ∃ v M1 M2, dp_den true xs xl (d + 4) 299 [.ref 0, .int v1, .int v2] M = iR v M1 ∧ dp_den true xs xl (d + 4) 450 [.ref 114, .int v1, .int v2] M1 = iR v M2 ∧ RelT M2 ∧ Off RelT_S (0 :: RelT_T) M M2 ∧ Cst 0 0 M M2 := by
  have h0 := h
  obtain ⟨R, K, hR, hK, a1, a2, a3, a4, a5, a6, a7, a8, a9, a10, a11, a12, a13⟩ := h
  rw [D_X11_member_0_den, D_X11_member_0_eq]
  simp only [D_X12_member_0_den, D_X12_member_0_eq, q_win, tm_group, tm_land, rb_bi, ibz, dp_w, wi_64 (a := 16) (b := 23) 16 23 (by decide) (by decide), wi_64 (a := 0) (b := 23) 0 23 (by decide) (by decide)]
  by_cases g1 : wi v1 16 23
  case neg =>
    simp only [if_neg g1]
    exact ⟨0, M, _, rfl, rfl, h0.same⟩
  simp only [if_pos g1]
  by_cases g2 : wi v2 0 23
  case neg =>
    have n1 : ¬ qin v2 16 := fun q => g2 (by have := wi_qin.mp q; exact ⟨this.1, by have := this.2; omega⟩)
    have n2 : ¬ wi v2 16 23 := fun q => g2 ⟨by have := q.1; omega, q.2⟩
    simp only [if_neg g2, if_neg n1, if_neg n2]
    exact ⟨0, M, _, rfl, rfl, h0.same⟩
  simp only [if_pos g2]
  obtain ⟨g, hg1, hg2, rfl⟩ := wi_of (a := 16) (b := 23) g1 (by omega)
  obtain ⟨g, rfl⟩ : ∃ k, g = 16 + k := ⟨g - 16, by omega⟩
  have hg : g < 8 := by omega
  obtain ⟨s, -, hs, rfl⟩ := wi_of (a := 0) (b := 23) g2 (by omega)
  -- the model comes to the same place for lands and groups
  have m0 : ∀ N : dp_M, (if qin (nI s) 16 then D_X12_member_26 xs xl (d + 3) (nI (16 + g)) (nI s) N else if wi (nI s) 16 23 then D_X12_member_26 xs xl (d + 3) (nI (16 + g)) (nI s) N else iR 0 N) = D_X12_member_26 xs xl (d + 3) (nI (16 + g)) (nI s) N := fun N => by
    by_cases q : s < 16
    · rw [if_pos (qin_nI q (by omega))]
    · rw [if_neg (fun z => by have := qin_iff.mp z; rw [nI_toInt (by omega)] at this; omega), if_pos (wi_mk (by omega) (by omega) (by omega))]
  simp only [m0]
  -- what is asked
  generalize hA : rds (dp_I M 155) (dp_I M 155 (s - 16)) 8 = A
  have hcl : ∀ N : dp_M, dp_den true xs xl (d + 3) 209 [.ref 51, .int (nI (16 + g)), .int (nI s)] M = if tb (dp_I M 155 g) s = true ∨ (16 ≤ s ∧ (s = 16 + g ∨ tb A (16 + g) = true)) then iR 0 M else iR 1 (dp_setI M 65 (16 + g) (dp_I M 155 g ||| ((1 : Int32) <<< (nI s &&& 31)))) := fun _ => by
    rw [D_X9_addMember_0_den, D_X9_addMember_0_eq]
    simp only [nI_cl (show 16 + g < 2147483648 by omega), nI_o (show 16 + g < 24 by omega) (by omega), if_false, tb_sh (show s < 32 by omega), D_X9_addMember_19_eq, a7 g hg, tc_reach (show s < 24 by omega), rb_bi, tb_sh (show 16 + g < 32 by omega), dp_w]
    by_cases c1 : tb (dp_I M 155 g) s = true
    · rw [if_pos c1, if_pos (Or.inl c1), if_neg (by decide)]
    · rw [if_neg c1, if_pos trivial]
      by_cases c2 : s < 16
      · rw [rds_land c2, tb_one (by omega) (by omega), decide_eq_false (by omega), if_neg (by decide), if_neg]
        rintro (q | q)
        · exact c1 q
        · omega
      · obtain ⟨t, rfl⟩ : ∃ t, s = 16 + t := ⟨s - 16, by omega⟩
        rw [rds_grp (by omega) (by omega), rds_c (m' := dp_I M 155) (fun g hg => a7 g hg), a7 t (by omega)]
        rw [Nat.add_sub_cancel_left] at hA
        rw [hA]
        simp only [Bool.or_eq_true, decide_eq_true_eq]
        by_cases c3 : 16 + g = 16 + t ∨ tb A (16 + g) = true
        · rw [if_pos c3, if_pos (Or.inr ⟨by omega, c3.imp (fun q => q.symm) id⟩)]
        · rw [if_neg c3, if_neg]
          rintro (q | q)
          · exact c1 q
          · exact c3 (q.2.imp (fun q => q.symm) id)
  have hmo : ∀ N : dp_M, dp_I N 155 = dp_I M 155 → D_X12_member_26 xs xl (d + 3) (nI (16 + g)) (nI s) N = if tb (dp_I M 155 g) s = true ∨ (16 ≤ s ∧ (s = 16 + g ∨ tb A (16 + g) = true)) then iR 0 N else iR 1 (dp_setI N 155 g (dp_I M 155 g ||| ((1 : Int32) <<< (nI s &&& 31)))) := fun N hN => by
    rw [D_X12_member_26_eq]
    simp only [t_m16 hg, nI_cl (show g < 2147483648 by omega), nI_o (show g < 8 by omega) (by omega), if_false, tb_sh (show s < 32 by omega), hN, tm_group, rb_bi, ibz, dp_w]
    by_cases c1 : tb (dp_I M 155 g) s = true
    · rw [if_pos c1, if_pos (Or.inl c1)]
    · rw [if_neg c1]
      by_cases c2 : s < 16
      · rw [if_neg (fun q => by have := q.1; rw [nI_toInt (by omega)] at this; omega), if_neg]
        rintro (q | q)
        · exact c1 q
        · omega
      · obtain ⟨t, rfl⟩ : ∃ t, s = 16 + t := ⟨s - 16, by omega⟩
        rw [Nat.add_sub_cancel_left] at hA
        rw [if_pos (wi_mk (by omega) (by omega) (by omega)), tm_allIn (by omega), rb_bi, hN, hA]
        simp only [nI_eq (show 16 + t < 2147483648 by omega) (show 16 + g < 2147483648 by omega), tb_sh (show 16 + g < 32 by omega)]
        by_cases c3 : 16 + t = 16 + g
        · rw [if_pos c3, if_pos (Or.inr ⟨by omega, Or.inl c3⟩)]
        · rw [if_neg c3]
          by_cases c4 : tb A (16 + g) = true
          · rw [if_pos c4, if_pos (Or.inr ⟨by omega, Or.inr c4⟩)]
          · rw [if_neg c4, if_neg]
            rintro (q | q)
            · exact c1 q
            · exact q.2.elim c3 c4
  rw [hcl M]
  by_cases c : tb (dp_I M 155 g) s = true ∨ (16 ≤ s ∧ (s = 16 + g ∨ tb A (16 + g) = true))
  · refine ⟨0, M, dp_setI M 114 0 0, ?_, ?_, h0.same⟩
    · rw [if_pos c]; rfl
    · rw [hmo _ (by simp [gII, gIJ, gIR, gJI, gJJ, gJR, gRI, gRJ, glI, glJ, glR, uI]), if_pos c]
  · refine ⟨1, dp_setI M 65 (16 + g) (dp_I M 155 g ||| ((1 : Int32) <<< (nI s &&& 31))), dp_setI (dp_setI (dp_setI M 65 (16 + g) (dp_I M 155 g ||| ((1 : Int32) <<< (nI s &&& 31)))) 114 0 0) 155 g (dp_I M 155 g ||| ((1 : Int32) <<< (nI s &&& 31))), ?_, ?_, ?_, ?_, ⟨Nat.le_refl _, Nat.le_refl _⟩⟩
    · rw [if_neg c]; rfl
    · rw [hmo _ (by simp [gII, gIJ, gIR, gJI, gJJ, gJR, gRI, gRJ, glI, glJ, glR, uI]), if_neg c]
    · have oo : Off [65, 155] [0] M (dp_setI (dp_setI (dp_setI M 65 (16 + g) (dp_I M 155 g ||| ((1 : Int32) <<< (nI s &&& 31)))) 114 0 0) 155 g (dp_I M 155 g ||| ((1 : Int32) <<< (nI s &&& 31)))) := ((Off.I 65 (by decide) _ _ (Off.rr [65, 155] [0] M)).F 0 (by decide) 0).I 155 (by decide) _ _
      refine ⟨R, K, hR, hK, by simp [gII, gIJ, gIR, gJI, gJJ, gJR, gRI, gRJ, glI, glJ, glR, uI, a1], by simp [gII, gIJ, gIR, gJI, gJJ, gJR, gRI, gRJ, glI, glJ, glR, uI, a2], by simp [gII, gIJ, gIR, gJI, gJJ, gJR, gRI, gRJ, glI, glJ, glR, uI, a3], by simp [gII, gIJ, gIR, gJI, gJJ, gJR, gRI, gRJ, glI, glJ, glR, uI, a4], by simp [gII, gIJ, gIR, gJI, gJJ, gJR, gRI, gRJ, glI, glJ, glR, uI, a5], fun i hi => by simp only [gII, Nat.reduceEqDiff, if_false]; exact a6 i hi, fun k hk => ?_, by simp only [gII, Nat.reduceEqDiff, if_false]; exact a8, by simp only [gII, Nat.reduceEqDiff, if_false]; exact a9, by simp only [gII, Nat.reduceEqDiff, if_false]; exact a10, by simp only [gII, Nat.reduceEqDiff, if_false]; exact a11, by simp [gII, gIJ, gIR, gJI, gJJ, gJR, gRI, gRJ, glI, glJ, glR, uI]; simpa using a12, fun r h1 h2 => (a13 r h1 h2).off oo (by decide) (by decide)⟩
      simp only [gII, Nat.reduceEqDiff, if_false, if_true]
      by_cases e : k = g
      · rw [e, uI_s, uI_s]
      · rw [uI_n e, uI_n (by omega), a7 k hk]
    · exact ((Off.I 65 (by decide) _ _ (Off.rr RelT_S (0 :: RelT_T) M)).F 0 (by decide) 0).I 155 (by decide) _ _
theorem tm_pap {v : Int32} : dp_den true xs xl (d + 1) 367 [.long v.toInt64, .long 0, .long 15] M = iR (bI (qin v 16)) M := by
  rw [q_min]; simp only [w_15]
theorem tc_pap {v : Int32} : dp_den true xs xl (d + 1) 251 [.long v.toInt64, .long 0, .long 15] M = iR (bI (qin v 16)) M := by
  rw [q_win]; simp only [w_15]
/-- exclude, condition -/
theorem tc_four {p r b : Nat} (hp : p = 55 ∨ p = 56) (hr : r < 301) (hb : b < 16) (h4 : four (dp_I M p r)) : dp_den true xs xl (d + 2) 216 [.ref p, .int (nI r), .int (nI b)] M = if tb (dp_I M p r) b = true ∨ 4 ≤ pc (dp_I M p r) then iR 0 M else iR 1 (dp_setI M p r (dp_I M p r ||| ((1 : Int32) <<< (nI b &&& 31)))) := by
  have e1 : dp_t true M p = 1 := by rcases hp with rfl | rfl <;> rfl
  have e2 : dp_ln true M p = 301 := by rcases hp with rfl | rfl <;> rfl
  rw [D_X9_addOneOfFour_0_den, D_X9_addOneOfFour_0_eq]
  simp only [e1, e2, nI_cl (show r < 2147483648 by omega), nI_o (show r < 301 by omega) (by omega), if_false, if_true, tb_sh (show b < 32 by omega), tj_bc h4.1, rb_bi, dp_w]
  have := h4.2
  by_cases c1 : tb (dp_I M p r) b = true
  · rw [if_pos c1, if_pos (Or.inl c1)]
  · rw [if_neg c1]
    by_cases c2 : 4 ≤ pc (dp_I M p r)
    · rw [if_neg (show ¬ nI (pc (dp_I M p r)) < (4 : Int32) from nI_nlt (a := pc (dp_I M p r)) (b := 4) (by omega) (by omega)), if_pos (Or.inr c2)]
    · rw [if_pos (show nI (pc (dp_I M p r)) < (4 : Int32) from nI_lt (a := pc (dp_I M p r)) (b := 4) (by omega) (by omega)), if_neg (fun q => q.elim c1 c2)]
theorem s_exclude (h : RelT M) (v1 v2 : Int32) : ∃ v M1 M2, dp_den true xs xl (d + 4) 301 [.ref 0, .int v1, .int v2] M = iR v M1 ∧ dp_den true xs xl (d + 4) 454 [.ref 114, .int v1, .int v2] M1 = iR v M2 ∧ RelT M2 ∧ Off RelT_S (0 :: RelT_T) M M2 ∧ Cst 0 0 M M2 := by
  have h0 := h
  obtain ⟨R, K, hR, hK, a1, a2, a3, a4, a5, a6, a7, a8, a9, a10, a11, a12, a13⟩ := h
  rw [D_X11_exclude_0_den, D_X11_exclude_0_eq]
  simp only [D_X12_exclude_0_den, D_X12_exclude_0_eq, tc_meas a1 hR, tc_land, rb_bi, ibz, dp_w]
  have mm : ∀ N : dp_M, dp_I N 114 55 = nI R → dp_den true xs xl (d + 3) 451 [.ref 114, .int v1] N = iR (bI (wi v1 1 R)) N := fun N hN => tm_meas hN hR
  by_cases g1 : wi v1 1 R
  case neg =>
    simp only [if_neg g1]
    refine ⟨0, M, dp_setI M 114 0 0, rfl, ?_, h0.same⟩
    rw [mm _ (by simp [gII, gIJ, gIR, gJI, gJJ, gJR, gRI, gRJ, glI, glJ, glR, uI, a2]), rb_bi, ibz, if_neg g1]
  simp only [if_pos g1]
  by_cases g2 : qin v2 16
  case neg =>
    simp only [if_neg g2]
    refine ⟨0, M, dp_setI M 114 0 0, rfl, ?_, h0.same⟩
    rw [mm _ (by simp [gII, gIJ, gIR, gJI, gJJ, gJR, gRI, gRJ, glI, glJ, glR, uI, a2]), rb_bi, ibz, if_pos g1, tm_land, rb_bi, ibz, if_neg g2]
  simp only [if_pos g2]
  obtain ⟨r, hr1, hr2, rfl⟩ := wi_of (a := 1) (b := R) g1 (by omega)
  obtain ⟨b, hb, rfl⟩ := qin_of g2 (by omega)
  have h4 := (a11 r).1
  have hmo : ∀ N : dp_M, dp_I N 114 55 = nI R → dp_I N 162 = dp_I M 55 → dp_bi (dp_den true xs xl (d + 3) 451 [.ref 114, .int (nI r)] N) (fun r3 M2 => if r3 = 0 then iR 0 M2 else dp_bi (dp_den true xs xl (d + 3) 444 [.int (nI b)] M2) (fun r5 M4 => if r5 = 0 then iR 0 M4 else if nI r < 0 ∨ 301 ≤ (nI r).toNatClampNeg then none else if (((dp_I M4 162 ((nI r).toNatClampNeg)) >>> (nI b &&& 31)) &&& 1) = 1 then iR 0 M4 else if nI r < 0 ∨ 301 ≤ (nI r).toNatClampNeg then none else dp_bi (dp_den true xs xl (d + 3) 447 [.int (dp_I M4 162 ((nI r).toNatClampNeg))] M4) (fun r7 M6 => if r7 = 4 then iR 0 M6 else if nI r < 0 ∨ 301 ≤ (nI r).toNatClampNeg then none else if nI r < 0 ∨ 301 ≤ (nI r).toNatClampNeg then none else iR 1 (dp_setI M6 162 ((nI r).toNatClampNeg) ((dp_I M6 162 ((nI r).toNatClampNeg)) ||| (1 <<< (nI b &&& 31))))))) = if tb (dp_I M 55 r) b = true ∨ 4 ≤ pc (dp_I M 55 r) then iR 0 N else iR 1 (dp_setI N 162 r (dp_I M 55 r ||| ((1 : Int32) <<< (nI b &&& 31)))) := fun N h1 h2 => by
    rw [mm N h1, rb_bi, ibz, if_pos g1, tm_land, rb_bi, ibz, if_pos g2]
    simp only [nI_cl (show r < 2147483648 by omega), nI_o (show r < 301 by omega) (by omega), if_false, tb_sh (show b < 32 by omega), h2, tm_bits, rb_bi]
    have := h4.2
    by_cases c1 : tb (dp_I M 55 r) b = true
    · rw [if_pos c1, if_pos (Or.inl c1)]
    · rw [if_neg c1]
      by_cases c2 : 4 ≤ pc (dp_I M 55 r)
      · rw [if_pos (by rw [show pc (dp_I M 55 r) = 4 by omega]; rfl), if_pos (Or.inr c2)]
      · rw [if_neg (show ¬ nI (pc (dp_I M 55 r)) = (4 : Int32) from fun e => absurd ((nI_eq (a := pc (dp_I M 55 r)) (b := 4) (by omega) (by omega)).mp e) (by omega)), if_neg (fun q => q.elim c1 c2)]
  rw [tc_four (Or.inl rfl) (show r < 301 by omega) hb h4]
  by_cases c : tb (dp_I M 55 r) b = true ∨ 4 ≤ pc (dp_I M 55 r)
  · refine ⟨0, M, dp_setI M 114 0 0, ?_, ?_, h0.same⟩
    · rw [if_pos c]; rfl
    · rw [hmo _ (by simp [gII, gIJ, gIR, gJI, gJJ, gJR, gRI, gRJ, glI, glJ, glR, uI, a2]) (by simp [gII, gIJ, gIR, gJI, gJJ, gJR, gRI, gRJ, glI, glJ, glR, uI, a8]), if_pos c]
  · have c1 : tb (dp_I M 55 r) b = false := by
      cases z : tb (dp_I M 55 r) b with
      | false => rfl
      | true => exact absurd (Or.inl z) c
    have c2 : pc (dp_I M 55 r) < 4 := by
      apply Classical.byContradiction; intro z; exact c (Or.inr (by omega))
    refine ⟨1, dp_setI M 55 r (dp_I M 55 r ||| ((1 : Int32) <<< (nI b &&& 31))), dp_setI (dp_setI (dp_setI M 55 r (dp_I M 55 r ||| ((1 : Int32) <<< (nI b &&& 31)))) 114 0 0) 162 r (dp_I M 55 r ||| ((1 : Int32) <<< (nI b &&& 31))), ?_, ?_, ?_, ?_, ⟨Nat.le_refl _, Nat.le_refl _⟩⟩
    · rw [if_neg c]; rfl
    · rw [hmo _ (by simp [gII, gIJ, gIR, gJI, gJJ, gJR, gRI, gRJ, glI, glJ, glR, uI, a2]) (by simp [gII, gIJ, gIR, gJI, gJJ, gJR, gRI, gRJ, glI, glJ, glR, uI, a8]), if_neg c]
    · have oo : Off [55, 162] [0] M (dp_setI (dp_setI (dp_setI M 55 r (dp_I M 55 r ||| ((1 : Int32) <<< (nI b &&& 31)))) 114 0 0) 162 r (dp_I M 55 r ||| ((1 : Int32) <<< (nI b &&& 31)))) := ((Off.I 55 (by decide) _ _ (Off.rr [55, 162] [0] M)).F 0 (by decide) 0).I 162 (by decide) _ _
      refine ⟨R, K, hR, hK, by simp [gII, gIJ, gIR, gJI, gJJ, gJR, gRI, gRJ, glI, glJ, glR, uI, a1], by simp [gII, gIJ, gIR, gJI, gJJ, gJR, gRI, gRJ, glI, glJ, glR, uI, a2], by simp [gII, gIJ, gIR, gJI, gJJ, gJR, gRI, gRJ, glI, glJ, glR, uI, a3], by simp [gII, gIJ, gIR, gJI, gJJ, gJR, gRI, gRJ, glI, glJ, glR, uI, a4], by simp [gII, gIJ, gIR, gJI, gJJ, gJR, gRI, gRJ, glI, glJ, glR, uI, a5], fun i hi => by simp only [gII, Nat.reduceEqDiff, if_false]; exact a6 i hi, fun k hk => by simp only [gII, Nat.reduceEqDiff, if_false]; exact a7 k hk, ?_, ?_, fun k hk => ?_, fun k => ?_, by simp [gII, gIJ, gIR, gJI, gJJ, gJR, gRI, gRJ, glI, glJ, glR, uI]; simpa using a12, fun r h1 h2 => (a13 r h1 h2).off oo (by decide) (by decide)⟩
      · simp only [gII, Nat.reduceEqDiff, if_false, if_true, a8]
      · simp only [gII, Nat.reduceEqDiff, if_false, if_true, a9]
      · simp only [gII, Nat.reduceEqDiff, if_false, if_true]
        rw [uI_n (by omega)]; exact a10 k hk
      · simp only [gII, Nat.reduceEqDiff, if_false, if_true]
        by_cases e : k = r
        · rw [e, uI_s]; have := a11 r; exact ⟨four_set h4 hb c1 c2, this.2⟩
        · rw [uI_n e]; exact a11 k
    · exact ((Off.I 55 (by decide) _ _ (Off.rr RelT_S (0 :: RelT_T) M)).F 0 (by decide) 0).I 162 (by decide) _ _
theorem s_condition (h : RelT M) (v1 v2 : Int32) : ∃ v M1 M2, dp_den true xs xl (d + 4) 302 [.ref 0, .int v1, .int v2] M = iR v M1 ∧ dp_den true xs xl (d + 4) 455 [.ref 114, .int v1, .int v2] M1 = iR v M2 ∧ RelT M2 ∧ Off RelT_S (0 :: RelT_T) M M2 ∧ Cst 0 0 M M2 := by
  have h0 := h
  obtain ⟨R, K, hR, hK, a1, a2, a3, a4, a5, a6, a7, a8, a9, a10, a11, a12, a13⟩ := h
  rw [D_X11_condition_0_den, D_X11_condition_0_eq]
  simp only [D_X12_condition_0_den, D_X12_condition_0_eq, tc_meas a1 hR, tc_pap, rb_bi, ibz, dp_w]
  have mm : ∀ N : dp_M, dp_I N 114 55 = nI R → dp_den true xs xl (d + 3) 451 [.ref 114, .int v1] N = iR (bI (wi v1 1 R)) N := fun N hN => tm_meas hN hR
  by_cases g1 : wi v1 1 R
  case neg =>
    simp only [if_neg g1]
    refine ⟨0, M, dp_setI M 114 0 0, rfl, ?_, h0.same⟩
    rw [mm _ (by simp [gII, gIJ, gIR, gJI, gJJ, gJR, gRI, gRJ, glI, glJ, glR, uI, a2]), rb_bi, ibz, if_neg g1]
  simp only [if_pos g1]
  by_cases g2 : qin v2 16
  case neg =>
    simp only [if_neg g2]
    refine ⟨0, M, dp_setI M 114 0 0, rfl, ?_, h0.same⟩
    rw [mm _ (by simp [gII, gIJ, gIR, gJI, gJJ, gJR, gRI, gRJ, glI, glJ, glR, uI, a2]), rb_bi, ibz, if_pos g1, tm_pap, rb_bi, ibz, if_neg g2]
  simp only [if_pos g2]
  obtain ⟨r, hr1, hr2, rfl⟩ := wi_of (a := 1) (b := R) g1 (by omega)
  obtain ⟨b, hb, rfl⟩ := qin_of g2 (by omega)
  have h4 := (a11 r).2
  have hmo : ∀ N : dp_M, dp_I N 114 55 = nI R → dp_I N 163 = dp_I M 56 → dp_bi (dp_den true xs xl (d + 3) 451 [.ref 114, .int (nI r)] N) (fun r3 M2 => if r3 = 0 then iR 0 M2 else dp_bi (dp_den true xs xl (d + 3) 367 [.long (nI b).toInt64, .long 0, .long 15] M2) (fun r5 M4 => if r5 = 0 then iR 0 M4 else if nI r < 0 ∨ 301 ≤ (nI r).toNatClampNeg then none else if (((dp_I M4 163 ((nI r).toNatClampNeg)) >>> (nI b &&& 31)) &&& 1) = 1 then iR 0 M4 else if nI r < 0 ∨ 301 ≤ (nI r).toNatClampNeg then none else dp_bi (dp_den true xs xl (d + 3) 447 [.int (dp_I M4 163 ((nI r).toNatClampNeg))] M4) (fun r7 M6 => if r7 = 4 then iR 0 M6 else if nI r < 0 ∨ 301 ≤ (nI r).toNatClampNeg then none else if nI r < 0 ∨ 301 ≤ (nI r).toNatClampNeg then none else iR 1 (dp_setI M6 163 ((nI r).toNatClampNeg) ((dp_I M6 163 ((nI r).toNatClampNeg)) ||| (1 <<< (nI b &&& 31))))))) = if tb (dp_I M 56 r) b = true ∨ 4 ≤ pc (dp_I M 56 r) then iR 0 N else iR 1 (dp_setI N 163 r (dp_I M 56 r ||| ((1 : Int32) <<< (nI b &&& 31)))) := fun N h1 h2 => by
    rw [mm N h1, rb_bi, ibz, if_pos g1, tm_pap, rb_bi, ibz, if_pos g2]
    simp only [nI_cl (show r < 2147483648 by omega), nI_o (show r < 301 by omega) (by omega), if_false, tb_sh (show b < 32 by omega), h2, tm_bits, rb_bi]
    have := h4.2
    by_cases c1 : tb (dp_I M 56 r) b = true
    · rw [if_pos c1, if_pos (Or.inl c1)]
    · rw [if_neg c1]
      by_cases c2 : 4 ≤ pc (dp_I M 56 r)
      · rw [if_pos (by rw [show pc (dp_I M 56 r) = 4 by omega]; rfl), if_pos (Or.inr c2)]
      · rw [if_neg (show ¬ nI (pc (dp_I M 56 r)) = (4 : Int32) from fun e => absurd ((nI_eq (a := pc (dp_I M 56 r)) (b := 4) (by omega) (by omega)).mp e) (by omega)), if_neg (fun q => q.elim c1 c2)]
  rw [tc_four (Or.inr rfl) (show r < 301 by omega) hb h4]
  by_cases c : tb (dp_I M 56 r) b = true ∨ 4 ≤ pc (dp_I M 56 r)
  · refine ⟨0, M, dp_setI M 114 0 0, ?_, ?_, h0.same⟩
    · rw [if_pos c]; rfl
    · rw [hmo _ (by simp [gII, gIJ, gIR, gJI, gJJ, gJR, gRI, gRJ, glI, glJ, glR, uI, a2]) (by simp [gII, gIJ, gIR, gJI, gJJ, gJR, gRI, gRJ, glI, glJ, glR, uI, a9]), if_pos c]
  · have c1 : tb (dp_I M 56 r) b = false := by
      cases z : tb (dp_I M 56 r) b with
      | false => rfl
      | true => exact absurd (Or.inl z) c
    have c2 : pc (dp_I M 56 r) < 4 := by
      apply Classical.byContradiction; intro z; exact c (Or.inr (by omega))
    refine ⟨1, dp_setI M 56 r (dp_I M 56 r ||| ((1 : Int32) <<< (nI b &&& 31))), dp_setI (dp_setI (dp_setI M 56 r (dp_I M 56 r ||| ((1 : Int32) <<< (nI b &&& 31)))) 114 0 0) 163 r (dp_I M 56 r ||| ((1 : Int32) <<< (nI b &&& 31))), ?_, ?_, ?_, ?_, ⟨Nat.le_refl _, Nat.le_refl _⟩⟩
    · rw [if_neg c]; rfl
    · rw [hmo _ (by simp [gII, gIJ, gIR, gJI, gJJ, gJR, gRI, gRJ, glI, glJ, glR, uI, a2]) (by simp [gII, gIJ, gIR, gJI, gJJ, gJR, gRI, gRJ, glI, glJ, glR, uI, a9]), if_neg c]
    · have oo : Off [56, 163] [0] M (dp_setI (dp_setI (dp_setI M 56 r (dp_I M 56 r ||| ((1 : Int32) <<< (nI b &&& 31)))) 114 0 0) 163 r (dp_I M 56 r ||| ((1 : Int32) <<< (nI b &&& 31)))) := ((Off.I 56 (by decide) _ _ (Off.rr [56, 163] [0] M)).F 0 (by decide) 0).I 163 (by decide) _ _
      refine ⟨R, K, hR, hK, by simp [gII, gIJ, gIR, gJI, gJJ, gJR, gRI, gRJ, glI, glJ, glR, uI, a1], by simp [gII, gIJ, gIR, gJI, gJJ, gJR, gRI, gRJ, glI, glJ, glR, uI, a2], by simp [gII, gIJ, gIR, gJI, gJJ, gJR, gRI, gRJ, glI, glJ, glR, uI, a3], by simp [gII, gIJ, gIR, gJI, gJJ, gJR, gRI, gRJ, glI, glJ, glR, uI, a4], by simp [gII, gIJ, gIR, gJI, gJJ, gJR, gRI, gRJ, glI, glJ, glR, uI, a5], fun i hi => by simp only [gII, Nat.reduceEqDiff, if_false]; exact a6 i hi, fun k hk => by simp only [gII, Nat.reduceEqDiff, if_false]; exact a7 k hk, ?_, ?_, fun k hk => ?_, fun k => ?_, by simp [gII, gIJ, gIR, gJI, gJJ, gJR, gRI, gRJ, glI, glJ, glR, uI]; simpa using a12, fun r h1 h2 => (a13 r h1 h2).off oo (by decide) (by decide)⟩
      · simp only [gII, Nat.reduceEqDiff, if_false, if_true, a8]
      · simp only [gII, Nat.reduceEqDiff, if_false, if_true, a9]
      · simp only [gII, Nat.reduceEqDiff, if_false, if_true]
        rw [uI_n (by omega)]; exact a10 k hk
      · simp only [gII, Nat.reduceEqDiff, if_false, if_true]
        by_cases e : k = r
        · rw [e, uI_s]; have := a11 r; exact ⟨this.1, four_set h4 hb c1 c2⟩
        · rw [uI_n e]; exact a11 k
    · exact ((Off.I 56 (by decide) _ _ (Off.rr RelT_S (0 :: RelT_T) M)).F 0 (by decide) 0).I 163 (by decide) _ _
/-- papers -/
theorem s_papers (h : RelT M) (v1 : Int32) : ∃ M1 M2, dp_den true xs xl (d + 1) 304 [.ref 0, .int v1] M = vR M1 ∧ dp_den true xs xl (d + 1) 457 [.ref 114, .int v1] M1 = vR M2 ∧ RelT M2 ∧ Off RelT_S (0 :: RelT_T) M M2 ∧ Cst 0 0 M M2 := by
  obtain ⟨R, K, hR, hK, a1, a2, a3, a4, a5, a6, a7, a8, a9, a10, a11, a12, a13⟩ := h
  rw [D_X11_papers_0_den, D_X11_papers_0_eq]
  simp only [D_X12_papers_0_den, D_X12_papers_0_eq, dp_w]
  refine ⟨_, _, rfl, rfl, ?_, (((Off.rr _ _ M).I 51 (by decide) 1 _).F 0 (by decide) 0).F 68 (by decide) _, ⟨Nat.le_refl _, Nat.le_refl _⟩⟩
  have oo : Off [51] [0, 68] M (dp_setI (dp_setI (dp_setI M 51 1 (v1 &&& 65535)) 114 0 0) 114 68 (v1 &&& 65535)) := (((Off.rr [51] [0, 68] M).I 51 (by decide) 1 _).F 0 (by decide) 0).F 68 (by decide) _
  refine ⟨R, K, hR, hK, by simp [gII, gIJ, gIR, gJI, gJJ, gJR, gRI, gRJ, glI, glJ, glR, uI, a1], by simp [gII, gIJ, gIR, gJI, gJJ, gJR, gRI, gRJ, glI, glJ, glR, uI, a2], by simp [gII, gIJ, gIR, gJI, gJJ, gJR, gRI, gRJ, glI, glJ, glR, uI], by simp [gII, gIJ, gIR, gJI, gJJ, gJR, gRI, gRJ, glI, glJ, glR, uI, a4], by simp [gII, gIJ, gIR, gJI, gJJ, gJR, gRI, gRJ, glI, glJ, glR, uI, a5], fun i hi => by simp only [gII, Nat.reduceEqDiff, if_false]; exact a6 i hi, fun k hk => by simp only [gII, Nat.reduceEqDiff, if_false]; exact a7 k hk, by simp only [gII, Nat.reduceEqDiff, if_false]; exact a8, by simp only [gII, Nat.reduceEqDiff, if_false]; exact a9, by simp only [gII, Nat.reduceEqDiff, if_false]; exact a10, by simp only [gII, Nat.reduceEqDiff, if_false]; exact a11, by simp [gII, gIJ, gIR, gJI, gJJ, gJR, gRI, gRJ, glI, glJ, glR, uI]; simpa using a12, fun r h1 h2 => (a13 r h1 h2).off oo (by decide) (by decide)⟩
/-- listed -/
theorem s_listed (h : RelT M) (v1 : Int32) : ∃ v M1 M2, dp_den true xs xl (d + 2) 306 [.ref 0, .int v1] M = iR v M1 ∧ dp_den true xs xl (d + 2) 464 [.ref 114, .int v1] M1 = iR v M2 ∧ RelT M2 ∧ Off RelT_S (0 :: RelT_T) M M2 ∧ Cst 0 0 M M2 := by
  have h0 := h
  obtain ⟨R, K, hR, hK, a1, a2, a3, a4, a5, a6, a7, a8, a9, a10, a11, a12, a13⟩ := h
  rw [D_X11_listed_0_den, D_X11_listed_0_eq]
  simp only [D_X12_listed_0_den, D_X12_listed_0_eq, dp_w, a4, q_win, rb_bi, ibz, q_w (show K < 2147483648 by omega)]
  have e5 : dp_I (dp_setI M 114 0 0) 114 72 = nI K := by simp [gII, gIJ, gIR, gJI, gJJ, gJR, gRI, gRJ, glI, glJ, glR, uI, a5]
  rcases pk_ix v1 (show K < 2147483648 by omega) with q | q | ⟨j, q, rfl⟩
  · refine ⟨-1, M, dp_setI M 114 0 0, ?_, ?_, h0.same⟩
    · rw [if_neg (fun z => z (Or.inl q))]
    · rw [if_pos q]
  · refine ⟨-1, M, dp_setI M 114 0 0, ?_, ?_, h0.same⟩
    · rw [if_neg (q_nin q (by omega))]
    · rw [e5, if_neg (q_ge0 q (by omega)), if_pos q]
  · refine ⟨dp_I M 168 j, M, dp_setI M 114 0 0, ?_, ?_, h0.same⟩
    · rw [if_pos (qin_nI q (by omega))]
      simp only [nI_cl (show j < 2147483648 by omega), nI_o (show j < 300 by omega) (by omega), if_false, a6 j q]
    · rw [e5, if_neg (nI_pos (by omega)), if_neg (nI_nge q (by omega))]
      simp only [nI_cl (show j < 2147483648 by omega), nI_o (show j < 300 by omega) (by omega), if_false]
      simp [gII, gIJ, gIR, gJI, gJJ, gJR, gRI, gRJ, glI, glJ, glR, uI]
end TD
