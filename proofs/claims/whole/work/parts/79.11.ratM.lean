-- needs: 71 72 73 74
/-! RATES: the model makes nodes -/
def rwN (M : dp_M) (y : Nat) : List (Int32 × Int32) := (List.range (dp_I M 179 y).toNatClampNeg).map (fun j => (dp_I M 180 (y * 6 + j), dp_I M 181 (y * 6 + j)))
def rdN (M : dp_M) (y : Nat) : Nd × Int32 × Int32 := ((dp_I M 174 y, dp_I M 175 y, dp_I M 176 y, rwN M y), dp_I M 177 y, dp_I M 178 y)
/-- the model's reader: at p, c counted, nr made, k deep -/
def MSt (M : dp_M) (t : Nat → Int32) (L p c nr k : Nat) : Prop := TxM M t L ∧ dp_I M 114 80 = nI p ∧ p ≤ L ∧ dp_I M 114 81 = -1 ∧ dp_I M 114 91 = nI c ∧ c ≤ 60 ∧ dp_I M 114 90 = nI nr ∧ nr ≤ c ∧ dp_I M 114 97 = nI (k + 1) ∧ k ≤ 12 ∧ ∀ y, y < nr → tN (dp_I M 179 y) ≤ 6
def LowM (M M' : dp_M) (nr : Nat) : Prop := (∀ K ∈ [174, 175, 176, 177, 178, 179], ∀ i, i < nr → dp_I M' K i = dp_I M K i) ∧ ∀ i, i < nr * 6 → dp_I M' 180 i = dp_I M 180 i ∧ dp_I M' 181 i = dp_I M 181 i
def OpM (M M' : dp_M) (k : Nat) : Prop := ∀ K ∈ [182, 183, 184, 185], ∀ i, i < k → dp_I M' K i = dp_I M K i
theorem LowM.r (M : dp_M) (nr : Nat) : LowM M M nr := ⟨fun _ _ _ _ => rfl, fun _ _ => ⟨rfl, rfl⟩⟩
theorem LowM.tr {M M' M'' : dp_M} {nr nr' : Nat} (h : LowM M M' nr) (h' : LowM M' M'' nr') (hn : nr ≤ nr') : LowM M M'' nr := ⟨fun K hK i hi => by rw [h'.1 K hK i (by omega), h.1 K hK i hi], fun i hi => by rw [(h'.2 i (by omega)).1, (h'.2 i (by omega)).2]; exact h.2 i hi⟩
theorem OpM.r (M : dp_M) (k : Nat) : OpM M M k := fun _ _ _ _ => rfl
theorem OpM.tr {M M' M'' : dp_M} {k k' : Nat} (h : OpM M M' k) (h' : OpM M' M'' k') (hk : k ≤ k') : OpM M M'' k := fun K hK i hi => by rw [h' K hK i (by omega), h K hK i hi]
theorem rdN_c {M M' : dp_M} {nr y : Nat} (h : LowM M M' nr) (hy : y < nr) (hr : tN (dp_I M 179 y) ≤ 6) : rdN M' y = rdN M y := by
  have hr' := tN_ge (dp_I M 179 y)
  have e : rwN M' y = rwN M y := by
    unfold rwN
    rw [h.1 179 (by decide) y hy]
    refine List.map_congr_left (fun k hk => ?_)
    have := List.mem_range.mp hk
    rw [(h.2 (y * 6 + k) (by omega)).1, (h.2 (y * 6 + k) (by omega)).2]
  unfold rdN
  rw [e, h.1 174 (by decide) y hy, h.1 175 (by decide) y hy, h.1 176 (by decide) y hy, h.1 177 (by decide) y hy, h.1 178 (by decide) y hy]
theorem MSt.pl {M : dp_M} {t : Nat → Int32} {L p c nr k q : Nat} (h : MSt M t L p c nr k) (hL : q ≤ L) : MSt (plm M q) t L q c nr k := by
  obtain ⟨h1, h2, h3, h4, h5, h6, h7, h8, h9, h10, h11⟩ := h
  exact ⟨h1.pl, plm_p _ _, hL, by rw [plm_o _ _ _ (by decide)]; exact h4, by rw [plm_o _ _ _ (by decide)]; exact h5, h6, by rw [plm_o _ _ _ (by decide)]; exact h7, h8, by rw [plm_o _ _ _ (by decide)]; exact h9, h10, fun y hy => by rw [plm_I _ _ _ (by decide)]; exact h11 y hy⟩
theorem LowM.pl {M : dp_M} {q nr : Nat} : LowM M (plm M q) nr := ⟨fun K hK i _ => by
  have w : ∀ K ∈ [174, 175, 176, 177, 178, 179], K ≠ 114 := by decide
  rw [plm_I _ _ _ (w K hK)], fun i _ => by rw [plm_I _ _ _ (by decide), plm_I _ _ _ (by decide)]; exact ⟨rfl, rfl⟩⟩
theorem OpM.pl {M : dp_M} {q k : Nat} : OpM M (plm M q) k := fun K hK i _ => by
  have w : ∀ K ∈ [182, 183, 184, 185], K ≠ 114 := by decide
  rw [plm_I _ _ _ (w K hK)]
/-- a tree was read -/
def PtM (M : dp_M) (t : Nat → Int32) (L c nr k : Nat) (l : List Nd) (q c' : Nat) (M' : dp_M) (y : Nat) : Prop := FrM M M' ∧ MSt M' t L q c' (nr + l.length) k ∧ c' = c + l.length ∧ LowM M M' nr ∧ (∃ n ix, Rp (rdN M') n y l ix ∧ ix.Nodup ∧ ∀ i, i ∈ ix → nr ≤ i ∧ i < nr + l.length) ∧ OpM M M' (k + 1)
section RM
variable {xs : Nat → Int32} {xl d : Nat} {M : dp_M} {t : Nat → Int32} {L : Nat}
theorem m_count {p c nr k : Nat} {w : Nat} (h : MSt M t L p c nr k) : (c < 60 → (∀ {d}, dp_den true xs xl (d + 2) 475 [.ref 114, .int (nI w)] M = iR 1 (dp_setI M 114 91 (nI (c + 1)))) ∧ MSt (dp_setI M 114 91 (nI (c + 1))) t L p (c + 1) nr k ∧ FrM M (dp_setI M 114 91 (nI (c + 1))) ∧ LowM M (dp_setI M 114 91 (nI (c + 1))) nr ∧ OpM M (dp_setI M 114 91 (nI (c + 1))) 14) ∧ (¬ c < 60 → ∃ M', (∀ {d}, dp_den true xs xl (d + 2) 475 [.ref 114, .int (nI w)] M = iR 0 M') ∧ BdM M M' w) := by
  obtain ⟨h1, h2, h3, h4, h5, h6, h7, h8, h9, h10, h11⟩ := h
  have h5' : dp_I M 114 91 = nI c := h5
  constructor
  · intro hc
    have fr : FrM M (dp_setI M 114 91 (nI (c + 1))) := (FrM.r M).s 91 (by decide) _
    have eI : ∀ K, K ≠ 114 → dp_I (dp_setI M 114 91 (nI (c + 1))) K = dp_I M K := fun K hK => by rw [gII, if_neg hK]
    have e1 : ∀ i, i ≠ 91 → dp_I (dp_setI M 114 91 (nI (c + 1))) 114 i = dp_I M 114 i := fun i hi => by rw [gII, if_pos rfl, uI_n hi]
    refine ⟨fun {d} => ?_, ⟨h1.fr fr, by rw [e1 _ (by decide)]; exact h2, h3, by rw [e1 _ (by decide)]; exact h4, by rw [gII, if_pos rfl, uI_s], by omega, by rw [e1 _ (by decide)]; exact h7, by omega, by rw [e1 _ (by decide)]; exact h9, h10, fun y hy => by rw [eI _ (by decide)]; exact h11 y hy⟩, fr, ⟨fun K hK i _ => ?_, fun i _ => ?_⟩, fun K hK i _ => ?_⟩
    · rw [D_X12_counts_0_den, D_X12_counts_0_eq, h5', if_neg (fun q => by rw [show (60 : Int32) = nI 60 from rfl, nI_eq (by omega) (by omega)] at q; omega)]
      simp only [dp_w, nI_1]
    · have w : ∀ K ∈ [174, 175, 176, 177, 178, 179], K ≠ 114 := by decide
      rw [eI K (w K hK)]
    · rw [eI 180 (by decide), eI 181 (by decide)]; exact ⟨rfl, rfl⟩
    · have w : ∀ K ∈ [182, 183, 184, 185], K ≠ 114 := by decide
      rw [eI K (w K hK)]
  · intro hc
    refine ⟨_, fun {d} => ?_, BdM.mk' (FrM.r M)⟩
    rw [D_X12_counts_0_den, D_X12_counts_0_eq, h5', if_pos (by rw [show c = 60 by omega]; rfl), m_stop h4, rb_bv]
/-- a node is made -/
def mkM (M : dp_M) (nr : Nat) (v1 v2 v3 v4 v5 : Int32) : dp_M := dp_setI (dp_setI (dp_setI (dp_setI (dp_setI (dp_setI (dp_setI M 114 90 (nI (nr + 1))) 174 nr v1) 175 nr v2) 176 nr v3) 177 nr v4) 178 nr v5) 179 nr 0
theorem mkM_fr {nr : Nat} {v1 v2 v3 v4 v5 : Int32} : FrM M (mkM M nr v1 v2 v3 v4 v5) := by
  unfold mkM
  exact ((((((((FrM.r M).s 90 (by decide) _).w 174 (by decide) _ _).w 175 (by decide) _ _).w 176 (by decide) _ _).w 177 (by decide) _ _).w 178 (by decide) _ _).w 179 (by decide) _ _)
theorem mkM_114 {nr : Nat} {v1 v2 v3 v4 v5 : Int32} : dp_I (mkM M nr v1 v2 v3 v4 v5) 114 = uI (dp_I M 114) 90 (nI (nr + 1)) := by unfold mkM; simp only [gII, Nat.reduceEqDiff, if_true, if_false]
theorem mkM_o {nr K : Nat} {v1 v2 v3 v4 v5 : Int32} (h : K ∈ [180, 181, 182, 183, 184, 185]) : dp_I (mkM M nr v1 v2 v3 v4 v5) K = dp_I M K := by
  simp only [List.mem_cons, List.not_mem_nil, or_false] at h
  rcases h with rfl | rfl | rfl | rfl | rfl | rfl <;> (unfold mkM; simp only [gII, Nat.reduceEqDiff, if_false])
theorem mkM_n {nr : Nat} {v1 v2 v3 v4 v5 : Int32} : dp_I (mkM M nr v1 v2 v3 v4 v5) 174 = uI (dp_I M 174) nr v1 ∧ dp_I (mkM M nr v1 v2 v3 v4 v5) 175 = uI (dp_I M 175) nr v2 ∧ dp_I (mkM M nr v1 v2 v3 v4 v5) 176 = uI (dp_I M 176) nr v3 ∧ dp_I (mkM M nr v1 v2 v3 v4 v5) 177 = uI (dp_I M 177) nr v4 ∧ dp_I (mkM M nr v1 v2 v3 v4 v5) 178 = uI (dp_I M 178) nr v5 ∧ dp_I (mkM M nr v1 v2 v3 v4 v5) 179 = uI (dp_I M 179) nr 0 := by
  unfold mkM
  refine ⟨?_, ?_, ?_, ?_, ?_, ?_⟩ <;> simp only [gII, Nat.reduceEqDiff, if_true, if_false]
theorem mkM_low {nr : Nat} {v1 v2 v3 v4 v5 : Int32} : LowM M (mkM M nr v1 v2 v3 v4 v5) nr := by
  obtain ⟨e1, e2, e3, e4, e5, e6⟩ := mkM_n (M := M) (nr := nr) (v1 := v1) (v2 := v2) (v3 := v3) (v4 := v4) (v5 := v5)
  refine ⟨fun K hK i hi => ?_, fun i _ => by rw [mkM_o (by decide), mkM_o (by decide)]; exact ⟨rfl, rfl⟩⟩
  simp only [List.mem_cons, List.not_mem_nil, or_false] at hK
  rcases hK with rfl | rfl | rfl | rfl | rfl | rfl
  · rw [e1, uI_n (by omega)]
  · rw [e2, uI_n (by omega)]
  · rw [e3, uI_n (by omega)]
  · rw [e4, uI_n (by omega)]
  · rw [e5, uI_n (by omega)]
  · rw [e6, uI_n (by omega)]
theorem mkM_op {nr k : Nat} {v1 v2 v3 v4 v5 : Int32} : OpM M (mkM M nr v1 v2 v3 v4 v5) k := fun K hK i _ => by
  have w : ∀ K ∈ [182, 183, 184, 185], K ∈ [180, 181, 182, 183, 184, 185] := by decide
  rw [mkM_o (w K hK)]
theorem mkM_rd {nr : Nat} {v1 v2 v3 v4 v5 : Int32} : rdN (mkM M nr v1 v2 v3 v4 v5) nr = ((v1, v2, v3, []), v4, v5) := by
  obtain ⟨e1, e2, e3, e4, e5, e6⟩ := mkM_n (M := M) (nr := nr) (v1 := v1) (v2 := v2) (v3 := v3) (v4 := v4) (v5 := v5)
  have er : rwN (mkM M nr v1 v2 v3 v4 v5) nr = [] := by unfold rwN; rw [e6, uI_s]; rfl
  unfold rdN
  rw [er, e1, e2, e3, e4, e5, uI_s, uI_s, uI_s, uI_s, uI_s]
theorem m_make {p c nr k : Nat} {v1 v2 v3 v4 v5 : Int32} (h : MSt M t L p c nr k) (hn : nr < c) : (∀ {d}, dp_den true xs xl (d + 1) 476 [.ref 114, .int v1, .int v2, .int v3, .int v4, .int v5] M = iR (nI nr) (mkM M nr v1 v2 v3 v4 v5)) ∧ MSt (mkM M nr v1 v2 v3 v4 v5) t L p c (nr + 1) k := by
  obtain ⟨h1, h2, h3, h4, h5, h6, h7, h8, h9, h10, h11⟩ := h
  have h7' : dp_I M 114 90 = nI nr := h7
  constructor
  · intro d
    rw [D_X12_makes_0_den, D_X12_makes_0_eq]
    simp only [dp_w, h7', nI_cl (show nr < 2147483648 by omega), nI_o (show nr < 120 by omega) (by omega), if_false, nI_1]
    rfl
  · have e1 : ∀ i, i ≠ 90 → dp_I (mkM M nr v1 v2 v3 v4 v5) 114 i = dp_I M 114 i := fun i hi => by rw [mkM_114, uI_n hi]
    refine ⟨h1.fr mkM_fr, by rw [e1 _ (by decide)]; exact h2, h3, by rw [e1 _ (by decide)]; exact h4, by rw [e1 _ (by decide)]; exact h5, h6, by rw [mkM_114, uI_s], hn, by rw [e1 _ (by decide)]; exact h9, h10, fun y hy => ?_⟩
    rw [mkM_n.2.2.2.2.2]
    by_cases z : y = nr
    · subst z; rw [uI_s]; exact Nat.zero_le _
    · rw [uI_n z]; exact h11 y (by omega)
/-- a leaf -/
theorem PtM.leaf {M' : dp_M} {c nr k q : Nat} {v : Nd} (hf : FrM M M') (hs : MSt M' t L q (c + 1) (nr + 1) k) (hl : LowM M M' nr) (ho : OpM M M' (k + 1)) (hv : isBn v = false) (hr : rdN M' nr = (v, -1, -1)) : PtM M t L c nr k [v] q (c + 1) M' nr := by
  refine ⟨hf, hs, rfl, hl, ⟨1, [nr], Or.inl ⟨by rw [hr]; exact hv, by rw [hr], by rw [hr], rfl⟩, by simp, fun i hi => ?_⟩, ho⟩
  have := List.mem_singleton.mp hi
  show nr ≤ i ∧ i < nr + 1
  omega
theorem FrM.b {M' : dp_M} {b : Nat} (h : BdM M M' b) : FrM M M' := h.1
/-- a number with what stands behind it -/
theorem m_share {p c nr k : Nat} (h : MSt M t L p (c + 1) nr k) (hn : nr ≤ c) (h1d : 1 ≤ dgt t L p) : (∀ v q, rNum t L p = .inr (v, q) → ∃ M', dp_den true xs xl (d + 4) 477 [.ref 114] M = iR (nI nr) M' ∧ PtM M t L c nr k [v] q (c + 1) M' nr) ∧ (∀ b, rNum t L p = .inl b → ∃ M', dp_den true xs xl (d + 4) 477 [.ref 114] M = iR (-1) M' ∧ BdM M M' b) := by
  have h0 := h
  obtain ⟨h1, h2, h3, h4, h5, h6, h7, h8, h9, h10, h11⟩ := h
  have hL := h1.2.1
  obtain ⟨g1, g2⟩ := m_number (xs := xs) (xl := xl) (d := d) h1 h3 h2 h4 h1d
  cases hN : rNu t L p with
  | inl b =>
    have hb : rNum t L p = .inl b := by unfold rNum; rw [hN]
    obtain ⟨M2, b1, b2, b3⟩ := g2 b hN
    have b2' : dp_I M2 114 81 = nI b := b2.2
    refine ⟨fun v q e => (by rw [hb] at e; cases e), fun b' e => ?_⟩
    rw [hb] at e; injection e with e; subst e
    refine ⟨M2, ?_, b2⟩
    rw [D_X12_takesShare_0_den, D_X12_takesShare_0_eq, b1, rb_bi, b2', if_neg (r_nn (by omega))]
  | inr xq =>
    obtain ⟨x, q⟩ := xq
    have b1 := g1 x q hN
    have b2 := rNu_gt h3 hN
    have hr : rNum t L p = rUn t L x q := by unfold rNum; rw [hN]
    rw [hr]
    have sl := sk_le (t := t) b2.2
    have s2 := h0.pl (q := q) b2.2
    have s3 := h0.pl (q := sk t L q) sl
    have e81 : dp_I (plm M q) 114 81 = -1 := s2.2.2.2.1
    have e80 : dp_I (plm M (sk t L q)) 114 80 = nI (sk t L q) := plm_p _ _
    have mid : dp_den true xs xl (d + 4) 477 [.ref 114] M = if isAt t L (sk t L q) 37 then (dp_bi (dp_den true xs xl (d + 3) 476 [.ref 114, .int (1 : Int32), .int (nI x), .int (-1 : Int32), .int (-1 : Int32), .int (-1 : Int32)] (plm M (sk t L q + 1))) (fun r7 M6 => some (.inl (some (.int r7)), M6))) else (dp_bv (dp_den true xs xl (d + 3) 468 [.ref 114, .int (47 : Int32)] (plm M (sk t L q))) (fun M8 => if (dp_I M8 114 81) < 0 then (dp_bi (dp_den true xs xl (d + 3) 466 [.ref 114] M8) (fun r10 M9 => D_X12_takesShare_64 xs xl (d + 3) (nI x) r10 M9)) else (D_X12_takesShare_64 xs xl (d + 3) (nI x) (-1 : Int32) M8))) := by
      rw [D_X12_takesShare_0_den, D_X12_takesShare_0_eq, b1, rb_bi, e81, if_pos (by decide), m_next s2.1 b2.2 s2.2.1, rb_bi, plm_pl]
      by_cases z : isAt t L (sk t L q) 37
      · rw [if_pos ((sgM_at (by decide)).mpr z), if_pos z, e80]
        simp only [dp_w, nI_1]
        rw [show dp_setI (plm M (sk t L q)) 114 80 (nI (sk t L q + 1)) = plm (plm M (sk t L q)) (sk t L q + 1) from rfl, plm_pl]
      · rw [if_neg (fun w => z ((sgM_at (by decide)).mp w)), if_neg z]
    unfold rUn
    by_cases z : isAt t L (sk t L q) 37
    · rw [if_pos z] at mid ⊢
      have z1 := z.1
      have s4 := h0.pl (q := sk t L q + 1) (by omega)
      obtain ⟨m1, m2⟩ := m_make (xs := xs) (xl := xl) (v1 := 1) (v2 := nI x) (v3 := -1) (v4 := -1) (v5 := -1) s4 (by omega)
      refine ⟨fun v q' e => ?_, fun b e => (by cases e)⟩
      injection e with e
      injection e with e1 e2
      subst e1 e2
      exact ⟨_, by rw [mid, m1, rb_bi], PtM.leaf (FrM.pl.tr mkM_fr) m2 (LowM.pl.tr mkM_low (Nat.le_refl _)) (OpM.pl.tr mkM_op (Nat.le_refl _)) (by rfl) mkM_rd⟩
    · rw [if_neg z] at mid ⊢
      obtain ⟨u1, u2⟩ := m_takes (xs := xs) (xl := xl) (d := d + 1) (c := 47) s3.1 sl s3.2.1 s3.2.2.2.1 (by decide)
      have ep : pss t L 47 (sk t L q) = if isAt t L (sk t L q) 47 then .inr (sk t L q + 1) else .inl (sk t L q) := by unfold pss; rw [sk_sk]
      by_cases w : isAt t L (sk t L q) 47
      · rw [if_pos w] at ep ⊢
        have w1 := w.1
        have c1 := u1 _ ep
        rw [plm_pl] at c1
        have s4 := h0.pl (q := sk t L q + 1) (by omega)
        have e81' : dp_I (plm M (sk t L q + 1)) 114 81 = -1 := s4.2.2.2.1
        have sl2 := sk_le (t := t) (L := L) (p := sk t L q + 1) (by omega)
        have s5 := h0.pl (q := sk t L (sk t L q + 1)) sl2
        have e80' : dp_I (plm M (sk t L (sk t L q + 1))) 114 80 = nI (sk t L (sk t L q + 1)) := plm_p _ _
        rw [c1, rb_bv, e81', if_pos (by decide), m_next s4.1 s4.2.2.1 s4.2.1, rb_bi, plm_pl, D_X12_takesShare_64_eq] at mid
        have bad : ∃ M', iR (-1) (dp_setI (plm M (sk t L (sk t L q + 1))) 114 81 (nI (sk t L (sk t L q + 1)))) = iR (-1) M' ∧ BdM M M' (sk t L (sk t L q + 1)) := ⟨_, rfl, BdM.mk' FrM.pl⟩
        by_cases y : sk t L (sk t L q + 1) < L ∧ ¬ t (sk t L (sk t L q + 1)) < 65 ∧ ¬ 72 < t (sk t L (sk t L q + 1))
        · rw [if_pos y]
          rw [show sgM t L (sk t L (sk t L q + 1)) = t (sk t L (sk t L q + 1)) from if_pos y.1, if_neg y.2.1, if_pos (Int32.not_lt.mp y.2.2), e80'] at mid
          have y1 := y.1
          simp only [dp_w, nI_1] at mid
          rw [show dp_setI (plm M (sk t L (sk t L q + 1))) 114 80 (nI (sk t L (sk t L q + 1) + 1)) = plm (plm M (sk t L (sk t L q + 1))) (sk t L (sk t L q + 1) + 1) from rfl, plm_pl] at mid
          have s6 := h0.pl (q := sk t L (sk t L q + 1) + 1) (by omega)
          obtain ⟨m1, m2⟩ := m_make (xs := xs) (xl := xl) (v1 := 2) (v2 := nI x) (v3 := t (sk t L (sk t L q + 1)) - 65) (v4 := -1) (v5 := -1) s6 (by omega)
          refine ⟨fun v q' e => ?_, fun b e => (by cases e)⟩
          injection e with e
          injection e with e1 e2
          subst e1 e2
          exact ⟨_, by rw [mid, m1, rb_bi], PtM.leaf (FrM.pl.tr mkM_fr) m2 (LowM.pl.tr mkM_low (Nat.le_refl _)) (OpM.pl.tr mkM_op (Nat.le_refl _)) (by rfl) mkM_rd⟩
        · rw [if_neg y]
          obtain ⟨M', b1', b2'⟩ := bad
          refine ⟨fun v q' e => (by cases e), fun b e => ?_⟩
          injection e with e
          subst e
          refine ⟨M', ?_, b2'⟩
          rw [mid, ← b1']
          by_cases y1 : sk t L (sk t L q + 1) < L
          · rw [show sgM t L (sk t L (sk t L q + 1)) = t (sk t L (sk t L q + 1)) from if_pos y1]
            by_cases y2 : t (sk t L (sk t L q + 1)) < 65
            · rw [if_pos y2, e80', m_stop s5.2.2.2.1, rb_bv]
            · rw [if_neg y2]
              by_cases y3 : 72 < t (sk t L (sk t L q + 1))
              · rw [if_neg (Int32.not_le.mpr y3), e80', m_stop s5.2.2.2.1, rb_bv]
              · exact absurd ⟨y1, y2, y3⟩ y
          · rw [show sgM t L (sk t L (sk t L q + 1)) = -1 from if_neg y1, if_pos (by decide), e80', m_stop s5.2.2.2.1, rb_bv]
      · rw [if_neg w] at ep ⊢
        obtain ⟨M', c1, c2, c3, c4⟩ := u2 _ ep
        have c2' : dp_I M' 114 81 = nI (sk t L q) := c2.2
        refine ⟨fun v q' e => (by cases e), fun b e => ?_⟩
        injection e with e
        subst e
        refine ⟨M', ?_, c2.fr FrM.pl⟩
        rw [mid, c1, rb_bv, c2', if_neg (r_nn (by omega)), D_X12_takesShare_64_eq, if_pos (by decide), m_stopN c2' (by omega), rb_bv]
end RM
