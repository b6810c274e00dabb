-- needs: 71 72 73 74 75 76 77 78 79
/-! DUTY: reckoned, side by side -/
section DuH
variable {xs : Nat → Int32} {xl d : Nat} {M : dp_M}
def RelT_C : List Nat := [52, 53, 54, 55, 56, 57, 60, 61, 62, 63, 64, 65, 155, 156, 157, 158, 159, 160, 161, 162, 163, 164, 165, 166, 168]
theorem RelT.scr {S T : List Nat} {M' : dp_M} (h : RelT M) (o : Off S T M M') (hS : ∀ k ∈ RelT_C, k ∉ S) (hT : ∀ i ∈ [55, 67, 68, 72], i ∉ T) (h51 : ∀ g, g < 3 → dp_I M' 51 g = dp_I M 51 g) : RelT M' := by
  have q : ∀ k ∈ RelT_C, k < 246 ∧ k ≠ 114 := by decide
  have e : ∀ k ∈ RelT_C, dp_I M' k = dp_I M k := fun k hk => (o.1 k (q k hk).1 (hS k hk) (q k hk).2).1
  have f : ∀ i ∈ [55, 67, 68, 72], dp_I M' 114 i = dp_I M 114 i := fun i hi => (o.2.1 i (hT i hi)).1
  unfold RelT TRw at h ⊢
  simp only [h51 0 (by decide), h51 1 (by decide), h51 2 (by decide), e 52 (by decide), e 53 (by decide), e 54 (by decide), e 55 (by decide), e 56 (by decide), e 57 (by decide), e 60 (by decide), e 61 (by decide), e 62 (by decide), e 63 (by decide), e 64 (by decide), e 65 (by decide), e 155 (by decide), e 156 (by decide), e 157 (by decide), e 158 (by decide), e 159 (by decide), e 160 (by decide), e 161 (by decide), e 162 (by decide), e 163 (by decide), e 164 (by decide), e 165 (by decide), e 166 (by decide), e 168 (by decide), f 55 (by decide), f 67 (by decide), f 68 (by decide), f 72 (by decide)]
  exact h
theorem RelQ.dyO {D A R i : Nat} (hq : RelQ M) (hd : DBd M D A R) (hi : i < D) : DyO M i := by
  obtain ⟨h1, h2, h3, h4, h5, h6, h7, h8, -⟩ := hd
  obtain ⟨k1, k2, k3, hk⟩ := h8 i hi
  obtain ⟨-, -, -, -, -, -, -, -, -, -, -, f6, f7, f8⟩ := k1
  obtain ⟨O, A', hO, hA', a1, a2, a3, a4, b1, b2, b3, b4, b5, b6, b7, b8, b9, b10⟩ := hq
  have eA : A' = A := by rw [h4, nI_eq (by omega) (by omega)] at a4; exact a4.symm
  subst eA
  have z0 : (0 : Int64).toInt = 0 := by decide
  refine ⟨by omega, ?_, ?_, k3, f6, f7, f8⟩
  · rcases hk with ⟨w1, -⟩ | ⟨a, w1, w2, -⟩
    · exact Or.inl w1
    · exact Or.inr ⟨a, by omega, w2⟩
  · unfold hsD wnD
    rcases hk with ⟨w1, -⟩ | ⟨a, w1, w2, -⟩
    · have w1' : dp_I M 109 i = -1 := w1
      rw [if_pos w1', if_pos w1', z0]; omega
    · have w2' : dp_I M 109 i = nI a := w2
      have ne : ¬ nI a = (-1 : Int32) := m1n (by omega)
      rw [w2', if_neg ne, if_neg ne, nI_cl (by omega)]
      obtain ⟨x1, x2, -⟩ := b9 a w1
      obtain ⟨o, ho, eo⟩ := qin_of x2 (by omega)
      obtain ⟨f, e, r, q1, q2, q3, q4, q5, q6, q7, q8, q9, q10, q11⟩ := b10 o ho
      have uq : qp M A' o a = true := by
        unfold qp
        rw [Bool.and_eq_true, decide_eq_true_eq, decide_eq_true_eq]
        exact ⟨w1, eo⟩
      have t2 : dp_J M 86 a = (cC M A' o f (nd f e r)).2.2 a := (q10 a uq).2
      have g := crs_g (A := A') (p := qp M A' o) (dy := dp_I M 84) (dk := dp_I M 83) (ask := dp_J M 85) (blk := fun x => dp_I M 80 (o * 401 + x)) (f := f) (V := dp_J M 76 o) b8 hA' (by omega) q9 (nd f e r) a
      have g' : 0 ≤ (dp_J M 86 a).toInt ∧ (dp_J M 86 a).toInt ≤ (dp_J M 85 a).toInt := by rw [t2]; exact g
      have b8' : (dp_J M 85 a).toInt ≤ 1000000 := (b8 a).2
      exact ⟨g'.1, g'.2, b8'⟩
def Dm_S : List Nat := [51, 52, 53, 54, 55, 56, 59, 60, 61, 62, 63, 64, 65, 75, 76, 77, 78, 79, 80, 81, 82, 83, 84, 85, 86, 87, 88, 89, 109, 155, 156, 157, 158, 159, 160, 161, 162, 163, 164, 165, 166, 171, 172, 191, 192, 193, 194, 195, 196, 197, 198, 199, 200, 234, 235, 236, 237, 238, 239, 240]
def Dm_T : List Nat := [55, 67, 68, 105, 111, 118]
theorem s_reck {e' D A R' i : Nat} (hq : RelQ M) (ht : RelT M) (hr : RelR M) (hd : DBd M D A R') (hi : i < D) (on : Int32) : ∃ v M1, dp_den true xs xl (d + 7) 13 [.ref 108, .int (nI i), .int on] M = lR v M1 ∧ Off Dr_S [] M M1 ∧ Cst 0 0 M M1 ∧ (∀ g, g < 3 → dp_I M1 51 g = dp_I M 51 g) ∧ (v = -1 ∨ (0 ≤ v.toInt ∧ v.toInt ≤ 1000000000)) ∧ ∀ S T N, Off S T M1 N → (∀ k ∈ Dm_S, k ∉ S) → (∀ k ∈ Dm_T, k ∉ T) → ∃ N', dp_den true xs xl (e' + 11) 575 [.ref 114, .int (nI i), .int on] N = lR v N' ∧ Off Mr_S Mr_T N N' ∧ Cst 0 0 N N' := by
  have hD := hq.dyO hd hi
  have hq0 := hq
  have ht0 := ht
  obtain ⟨h1, h2, h3, h4, h5, h6, h7, h8, -⟩ := hd
  obtain ⟨k1, k2, k3, hk⟩ := h8 i hi
  obtain ⟨-, -, -, -, -, f3, f3', f4, f4', f5, f5', f6, f7, f8⟩ := k1
  obtain ⟨R, K, hR, hK, a1, a2, a3, a4, a5, a6, a7, a8, a9, a10, a11, a12, a13⟩ := ht
  have i4 := hD.1
  obtain ⟨l, hl, el⟩ := qin_of f4' (by omega)
  have el' : dp_I M 237 i = nI l := el
  rw [el] at f4
  obtain ⟨c, hc⟩ : ∃ c, c = dp_I M 236 i := ⟨_, rfl⟩
  obtain ⟨day, hday⟩ : ∃ day, day = dp_I M 238 i := ⟨_, rfl⟩
  have f3c : dp_J M 111 (i * 23 + 3) = c.toInt64 := by rw [hc]; exact f3
  have f5c : dp_J M 111 (i * 23 + 5) = day.toInt64 := by rw [hday]; exact f5
  obtain ⟨M3, t1, t2, t3, t4, t5, t6, t7, t8, t9, t10⟩ := tc_find (xs := xs) (xl := xl) (d := d + 2) (M := M) (c := c) (day := day) (on := on) hR hl a1 a7 a13
  have hcn := cn_le (sel := sel M c l day on R) (kf := kf M) (R := R) (k := 8) (i := 1) sel_0
  obtain ⟨n, hn⟩ : ∃ n, n = cn (sel M c l day on R) (kf M) R 8 1 := ⟨_, rfl⟩
  rw [← hn] at t1 hcn
  obtain ⟨fd, hfd⟩ : ∃ fd : Nat → Nat, fd = fun j => (dp_I M3 58 j).toNatClampNeg := ⟨_, rfl⟩
  have fdr : ∀ j, j < n → dp_I M3 58 j = nI (fd j) ∧ fd j < 301 ∧ TRw M (fd j) := fun j hj => by
    obtain ⟨r, r1, r2, -, -, r5⟩ := t10 j (by rw [← hn]; exact hj)
    have r5' : dp_I M3 58 j = nI r := r5
    have : fd j = r := by rw [hfd]; show (dp_I M3 58 j).toNatClampNeg = r; rw [r5', nI_cl (by omega)]
    rw [this]
    exact ⟨r5', by omega, a13 r r1 r2⟩
  have o3 : Off Dr_S [] M M3 := t2.mono (by decide) (by decide)
  obtain ⟨M1, l1, l2, l3, l4⟩ := c_rloop (xs := xs) (xl := xl) (d := d) (n := n) (on := on) (fd := fd) hD hr.2.2.1 (by omega) (fun j hj => (fdr j hj).2) n 0 0 M3 (by omega) o3 (fun x hx => (fdr x hx).1)
  have vb := dfn_b (rv := fun x => rvD M i (fd x)) n 0 0 (fun x c _ hx e => rvD_b hD (hr.2.2.1 _ (fdr x (by omega)).2.1) e) (by omega) (by decide) (by decide)
  obtain ⟨v, hv⟩ : ∃ v, v = dfn (fun x => rvD M i (fd x)) 0 n 0 := ⟨_, rfl⟩
  rw [← hv] at l1 vb
  have oM1 : Off Dr_S [] M M1 := o3.tr (l2.mono (by decide) (by decide))
  refine ⟨v, M1, ?_, oM1, ⟨by have := l3.1; omega, by have := l3.2; omega⟩, fun g hg => ?_, vb, fun S T N oN hS hT => ?_⟩
  · rw [D_X0_reckon_0_den, D_X0_reckon_0_eq, dc_small (d := d + 4) (v2 := 3) (k := 3) rfl i4 (by omega) f3c, rb_bi, dc_small (d := d + 4) (v2 := 4) (k := 4) rfl i4 (by omega) f4, rb_bi, dc_small (d := d + 4) (v2 := 5) (k := 5) rfl i4 (by omega) f5c, rb_bi, t1, rb_bi, dpw, dpw]
    exact l1
  · rw [l4]
    have cs : g = 0 ∨ g = 1 ∨ g = 2 := by omega
    rcases cs with rfl | rfl | rfl
    · exact t6
    · exact t7
    · exact t8
  -- the model, on a memory that still has what it reads
  have u51 : ∀ g, g < 3 → dp_I M1 51 g = dp_I M 51 g := fun g hg => by
    rw [l4]
    have cs : g = 0 ∨ g = 1 ∨ g = 2 := by omega
    rcases cs with rfl | rfl | rfl
    · exact t6
    · exact t7
    · exact t8
  have qS : ∀ k ∈ Dm_S, k < 246 ∧ k ≠ 114 := by decide
  have nS : ∀ k ∈ Dm_S, k ≠ 51 → k ∉ Dr_S := by decide
  have eN : ∀ k ∈ Dm_S, k ≠ 51 → dp_I N k = dp_I M k ∧ dp_J N k = dp_J M k ∧ dp_R N k = dp_R M k := fun k hk h51 => by
    obtain ⟨e1, e2, e3⟩ := oN.1 k (qS k hk).1 (hS k hk) (qS k hk).2
    obtain ⟨g1, g2, g3⟩ := oM1.1 k (qS k hk).1 (nS k hk h51) (qS k hk).2
    rw [e1, e2, e3, g1, g2, g3]; exact ⟨rfl, rfl, rfl⟩
  have e51 : ∀ g, g < 3 → dp_I N 51 g = dp_I M 51 g := fun g hg => by
    rw [(oN.1 51 (by decide) (hS 51 (by decide)) (by decide)).1]; exact u51 g hg
  have eT : ∀ k ∈ Dm_T, dp_I N 114 k = dp_I M 114 k ∧ dp_J N 114 k = dp_J M 114 k := fun k hk => by
    obtain ⟨e1, e2⟩ := oN.2.1 k (hT k hk)
    obtain ⟨g1, g2⟩ := oM1.2.1 k (by simp)
    rw [e1, e2, g1, g2]; exact ⟨rfl, rfl⟩
  have n4 : dp_I N 114 111 = nI A := by rw [(eT 111 (by decide)).1]; exact h4
  have e109 : dp_I N 109 = dp_I M 109 := (eN 109 (by decide) (by decide)).1
  have e196 : dp_I N 196 = dp_I M 196 := (eN 196 (by decide) (by decide)).1
  have af : dp_den true xs xl (e' + 10) 570 [.ref 114, .int (nI i)] N = iR (dp_I M 109 i) N := by
    rw [dm_af (d := e' + 9) h5 n4 (hk.c (by rw [e109]) (fun a _ => by rw [e196])), e109]
  -- from 61 on: finds, and the rows
  have fin : ∀ N1, Off [199, 200] [118] N N1 → Cst 0 0 N N1 → ∃ N', D_X12_reckonsDuty_61 xs xl (e' + 10) (nI i) on (dp_I M 109 i) (wnD M i) (hsD M i) N1 = lR v N' ∧ Off Mr_S Mr_T N N' ∧ Cst 0 0 N N' := fun N1 o1 c1 => by
    have dS : ∀ k ∈ Dm_S, k ≠ 199 → k ≠ 200 → k ∉ [199, 200] := by decide
    have e1 : ∀ k ∈ Dm_S, k ≠ 51 → k ≠ 199 → k ≠ 200 → dp_I N1 k = dp_I M k ∧ dp_J N1 k = dp_J M k := fun k hk h51 h9 h0 => by
      obtain ⟨g1, g2, -⟩ := o1.1 k (qS k hk).1 (dS k hk h9 h0) (qS k hk).2
      obtain ⟨y1, y2, -⟩ := eN k hk h51
      rw [g1, g2, y1, y2]; exact ⟨rfl, rfl⟩
    have cS' : ∀ k ∈ core, k ∈ Dm_S ∧ k ≠ 51 ∧ k ≠ 199 ∧ k ≠ 200 := by decide
    have ec : ∀ k ∈ core, dp_I N1 k = dp_I M k := fun k hk => (e1 k (cS' k hk).1 (cS' k hk).2.1 (cS' k hk).2.2.1 (cS' k hk).2.2.2).1
    have e51' : dp_I N1 51 = dp_I N 51 := (o1.1 51 (by decide) (by decide) (by decide)).1
    have eT' : ∀ k ∈ [55, 67, 68], dp_I N1 114 k = dp_I M 114 k := fun k hk => by
      have u1 : ∀ k ∈ [55, 67, 68], k ∉ [118] ∧ k ∈ Dm_T := by decide
      rw [(o1.2.1 k (u1 k hk).1).1, (eT k (u1 k hk).2).1]
    have pres : dp_I N1 51 1 = dp_I M 51 1 := by
      show dp_I N1 51 1 = dp_I M 51 1
      rw [e51', e51 1 (by decide)]
    have tr : ∀ r, 1 ≤ r → r ≤ R → TRw N1 r := fun r r1 r2 => by
      have := a13 r r1 r2
      unfold TRw at this ⊢
      have f67 := eT' 67 (by decide)
      have s : ∀ k ∈ TRw_S, k ∈ Dm_S ∧ k ≠ 51 ∧ k ≠ 199 ∧ k ≠ 200 := by decide
      have es : ∀ k ∈ TRw_S, dp_I N1 k = dp_I M k := fun k hk => (e1 k (s k hk).1 (s k hk).2.1 (s k hk).2.2.1 (s k hk).2.2.2).1
      simp only [es 52 (by decide), es 53 (by decide), es 54 (by decide), es 60 (by decide), es 61 (by decide), es 62 (by decide), es 63 (by decide), es 64 (by decide), es 156 (by decide), es 157 (by decide), es 158 (by decide), es 159 (by decide), es 160 (by decide), es 161 (by decide), es 164 (by decide), es 165 (by decide), es 166 (by decide), f67]
      exact this
    have e236 : dp_I N1 236 i = c := by rw [(e1 236 (by decide) (by decide) (by decide) (by decide)).1, hc]
    have e237 : dp_I N1 237 i = nI l := by rw [(e1 237 (by decide) (by decide) (by decide) (by decide)).1]; exact el'
    have e238 : dp_I N1 238 i = day := by rw [(e1 238 (by decide) (by decide) (by decide) (by decide)).1, hday]
    obtain ⟨N2, p1, p2, p3, p4, p5, p6, p7⟩ := tm_finds (xs := xs) (xl := xl) (d := e' + 5) (M := N1) (c := c) (day := day) (on := on) hR hl (by rw [hc]; exact f3') (by rw [eT' 55 (by decide)]; exact a2) (by rw [eT' 68 (by decide), pres]; exact a3) (by rw [ec 162 (by decide), ec 55 (by decide)]; exact a8) (by rw [ec 163 (by decide), ec 56 (by decide)]; exact a9) tr
    rw [sel_c ec pres, kf_c ec] at p6 p7
    rw [← hn] at p6
    have ag : AgM M N2 := by
      have a0 : AgM M N1 := fun k hk => by
        have s : ∀ k ∈ Mk_A, k ∈ Dm_S ∧ k ≠ 51 ∧ k ≠ 199 ∧ k ≠ 200 := by decide
        exact e1 k (s k hk).1 (s k hk).2.1 (s k hk).2.2.1 (s k hk).2.2.2
      exact a0.step p2 (by decide)
    have hb : (0 : Int32) ≤ dp_I M 109 i ↔ akB M i = true := by
      unfold akB
      rw [decide_eq_true_eq]
      rcases hD.2.1 with e | ⟨a, a4', e⟩
      · rw [e]; exact ⟨fun q => absurd q (by decide), fun q => absurd rfl q⟩
      · rw [e]; exact ⟨fun _ => m1n (by omega), fun _ => nn0 (by omega)⟩
    obtain ⟨N', ⟨r1, -, -⟩, r2, r3⟩ := m_rloop (xs := xs) (xl := xl) (d := e') (n := n) (on := on) (v3 := dp_I M 109 i) (fd := fd) hD hb hr.2.2.1 (by omega) (fun j hj => (fdr j hj).2) n 0 0 N2 (by omega) ag (fun x hx => by rw [← (fdr x hx).1]; exact (FInv_eq t10 p7 (by rw [← hn]; exact hx)).symm) p6
    have ni : ¬ (nI i < 0 ∨ 400 ≤ i) := by rw [nI_o i4 (by omega)]; exact id
    refine ⟨N', ?_, ((o1.mono (by decide) (by decide) : Off Mr_S Mr_T N N1).tr (p2.mono (by decide) (by decide))).tr (r2.mono (by decide) (by decide)), ?_⟩
    · rw [D_X12_reckonsDuty_61_eq, nI_cl (by omega), if_neg ni, if_neg ni, if_neg ni, e236, e237, e238, p1, rb_bv, dpw, dpw, hv]
      exact r1
    · exact ⟨by have := c1.1; have := r3.1; omega, by have := c1.2; have := r3.2; omega⟩
  rw [D_X12_reckonsDuty_0_den, D_X12_reckonsDuty_0_eq, af, rb_bi]
  rcases hk with ⟨w1, -⟩ | ⟨a, w1, w2, -⟩
  · have w1' : dp_I M 109 i = -1 := w1
    have b0 : akB M i = false := by unfold akB; rw [w1']; decide
    obtain ⟨hs0, wn0⟩ := akB_f b0
    obtain ⟨N', r1, r2⟩ := fin N (Off.rr _ _ _) (Cst.r _)
    rw [w1', hs0, wn0] at r1
    refine ⟨N', ?_, r2⟩
    rw [w1', if_neg (by decide), D_X12_reckonsDuty_20_eq, if_pos (by decide), if_neg (by decide), r1]
  · have w2' : dp_I M 109 i = nI a := w2
    have ne : ¬ nI a = (-1 : Int32) := m1n (by omega)
    have hs1 : hsD M i = dp_J M 86 a := by unfold hsD; rw [w2', if_neg ne, nI_cl (by omega)]
    have wn1 : wnD M i = dp_J M 85 a := by unfold wnD; rw [w2', if_neg ne, nI_cl (by omega)]
    obtain ⟨O, A', hO, hA', c1, c2, c3, c4, b1, b2, b3, b4, b5, b6, b7, b8, b9, b10⟩ := hq
    have eA : A' = A := by rw [h4, nI_eq (by omega) (by omega)] at c4; exact c4.symm
    subst eA
    obtain ⟨x1, x2, -⟩ := b9 a w1
    have x1' : dp_I M 82 a = dp_I M 197 a := x1
    have b6' : dp_J M 198 = dp_J M 85 := b6
    obtain ⟨o, ho, eo⟩ := qin_of x2 (by omega)
    have eo' : dp_I M 197 a = nI o := by rw [← x1']; exact eo
    obtain ⟨f, e, r, q1, q2, q3, q4, q5, q6, q7, q8, q9, q10, q11⟩ := b10 o ho
    have e194 : (dp_I M 194 o).toInt = r := by
      have q : dp_I M 194 = dp_I M 79 := b4
      rw [q]; exact q7
    have nI' : ∀ k ∈ Dm_S, k ≠ 51 → dp_I N k = dp_I M k := fun k hk h => (eN k hk h).1
    have nJ' : ∀ k ∈ Dm_S, k ≠ 51 → dp_J N k = dp_J M k := fun k hk h => (eN k hk h).2.1
    have cCN : ∀ n, cC N A' o f n = cC M A' o f n := fun n => by
      unfold cC qp
      rw [nI' 82 (by decide) (by decide), nI' 84 (by decide) (by decide), nI' 83 (by decide) (by decide), nI' 80 (by decide) (by decide), nJ' 85 (by decide) (by decide), nJ' 76 (by decide) (by decide)]
    obtain ⟨K, s1, s2, s3, s4, s5, s6, s7, s8⟩ := RelQ.course (xs := xs) (xl := xl) (d := e' + 7) (M := N) (O := O) (A := A') (o := o) (u := dp_I M 194 o) (f := f) (e := e) (n := nd f e r) hA' (by omega) n4 (by rw [nJ' 191 (by decide) (by decide), nJ' 76 (by decide) (by decide)]; exact b1) (by rw [nI' 192 (by decide) (by decide), nI' 77 (by decide) (by decide)]; exact b2) (by rw [nI' 193 (by decide) (by decide), nI' 78 (by decide) (by decide)]; exact b3) (by rw [nI' 195 (by decide) (by decide), nI' 80 (by decide) (by decide)]; exact b5) (by rw [nJ' 198 (by decide) (by decide), nJ' 85 (by decide) (by decide)]; exact b6) (by rw [nJ' 85 (by decide) (by decide)]; exact b8) (by unfold mdy mdk; rw [nI' 82 (by decide) (by decide), nI' 83 (by decide) (by decide), nI' 84 (by decide) (by decide), nI' 196 (by decide) (by decide), nI' 197 (by decide) (by decide), nI' 235 (by decide) (by decide), nI' 238 (by decide) (by decide)]; exact b9) q1 q2 (by rw [nI' 77 (by decide) (by decide)]; exact q5) (by rw [nI' 78 (by decide) (by decide)]; exact q6) (by rw [nJ' 76 (by decide) (by decide)]; exact q8) (by rw [nJ' 76 (by decide) (by decide)]; exact q9) (by rw [e194])
    have uq : qp M A' o a = true := by
      unfold qp
      rw [Bool.and_eq_true, decide_eq_true_eq, decide_eq_true_eq]
      exact ⟨w1, eo⟩
    have uN : qp N A' o a = true := by rw [qp_c (nI' 82 (by decide) (by decide))]; exact uq
    have k200 : dp_J K 200 a = dp_J M 86 a := by
      have t1 : dp_J K 200 a = (cC N A' o f (nd f e r)).2.2 a := (s8 a uN).2
      have t2 : dp_J M 86 a = (cC M A' o f (nd f e r)).2.2 a := (q10 a uq).2
      rw [t1, t2, cCN]
    obtain ⟨N', r1, r2⟩ := fin K s2 ⟨by rw [s3]; exact Nat.le_refl _, by rw [s4]; exact Nat.le_refl _⟩
    rw [w2', hs1, wn1] at r1
    refine ⟨N', ?_, r2⟩
    have na : ¬ (nI a < 0 ∨ 400 ≤ a) := by rw [nI_o (show a < 400 by omega) (by omega)]; exact id
    have no : ¬ (nI o < 0 ∨ 16 ≤ o) := by rw [nI_o (show o < 16 by omega) (by omega)]; exact id
    rw [w2', if_pos (nn0 (by omega)), nI_cl (by omega), if_neg na, nJ' 198 (by decide) (by decide), b6', D_X12_reckonsDuty_20_eq, if_neg (r_nn (by omega)), nI_cl (by omega), if_neg na, if_neg na, nI' 197 (by decide) (by decide), eo', nI_cl (by omega), if_neg no, nI' 194 (by decide) (by decide), s1, rb_bv, if_pos (nn0 (by omega)), if_neg na, k200, r1]
end DuH
