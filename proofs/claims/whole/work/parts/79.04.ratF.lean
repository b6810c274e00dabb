-- needs: 71 72 73 74
/-! RATES: the class reads a number with what stands behind it -/
section RF
variable {xs : Nat → Int32} {xl d : Nat} {M : dp_M} {t : Nat → Int32} {L : Nat}
theorem r1_ne : ¬ (1 : Int32) = 0 := by decide
theorem umk_1 (v : Nd) : umk [v] = if v.1 = 2 then (1 : Int32) <<< (v.2.2.1 &&& 31) else 0 := by
  show (if v.1 = 2 then (1 : Int32) <<< (v.2.2.1 &&& 31) else 0) ||| 0 = _
  rw [Int32.or_zero]
theorem PtC.leaf {M' : dp_M} {c s s' q : Nat} {v : Nd} (hf : FrC M M') (hs : CSt M' t L q (c + 1) s') (hss : s ≤ s') (h71 : ∀ i, i < c * 7 → dp_I M' 71 i = dp_I M 71 i) (h72 : ∀ i, i < s * 2 → dp_I M' 72 i = dp_I M 72 i) (hv : isBn v = false) (hr : rdF (dp_I M' 71) (dp_I M' 72) c = (v, -1, -1)) (hu : dp_I M' 68 12 = dp_I M 68 12 ||| umk [v]) : PtC M t L c s [v] q (c + 1) M' c := by
  refine ⟨hf, ⟨s', hs, hss⟩, rfl, h71, h72, ⟨1, [c], Or.inl ⟨by rw [hr]; exact hv, by rw [hr], by rw [hr], rfl⟩, by simp, fun i hi => ?_⟩, hu⟩
  have := List.mem_singleton.mp hi
  omega
theorem CSt.f {p c s : Nat} (h : CSt M t L p c s) {x k : Nat} {v : Int32} (hk : k < 5) : CSt (dp_setI M 71 (x * 7 + k) v) t L p c s := by
  obtain ⟨h1, h2, h3, h4, h5, h6, h7, h8, h9⟩ := h
  have e : ∀ i, dp_I (dp_setI M 71 (x * 7 + k) v) 68 i = dp_I M 68 i := fun i => by rw [gII, if_neg (by decide)]
  refine ⟨h1.fr ((FrC.r M).f _ _), by rw [e]; exact h2, h3, by rw [e]; exact h4, by rw [e]; exact h5, h6, by rw [e]; exact h7, h8, fun y hy => ?_⟩
  rw [gII, if_pos rfl, uI_n (by omega), uI_n (by omega)]; exact h9 y hy
theorem CSt.u {p c s : Nat} (h : CSt M t L p c s) {v : Int32} : CSt (dp_setI M 68 12 v) t L p c s := by
  obtain ⟨h1, h2, h3, h4, h5, h6, h7, h8, h9⟩ := h
  have e : ∀ i, i ≠ 12 → dp_I (dp_setI M 68 12 v) 68 i = dp_I M 68 i := fun i hi => by rw [gII, if_pos rfl, uI_n hi]
  refine ⟨h1.fr ((FrC.r M).s 12 (by decide) _), by rw [e _ (by decide)]; exact h2, h3, by rw [e _ (by decide)]; exact h4, by rw [e _ (by decide)]; exact h5, h6, by rw [e _ (by decide)]; exact h7, h8, fun y hy => ?_⟩
  rw [gII, if_neg (by decide)]; exact h9 y hy
/-- a node's facts, one by one -/
theorem rdF_mk {F S : Nat → Int32} {c : Nat} {a b u l r : Int32} (h0 : F (c * 7 + 0) = a) (h1 : F (c * 7 + 1) = b) (h2 : F (c * 7 + 2) = u) (h3 : F (c * 7 + 3) = l) (h4 : F (c * 7 + 4) = r) (h5 : F (c * 7 + 5) = 0) : rdF F S c = ((a, b, u, []), l, r) := by
  have e : rwF F S c = [] := by unfold rwF; rw [h5]; rfl
  unfold rdF; rw [e, h0, h1, h2, h3, h4]
theorem c_unit {p c s : Nat} (h : CSt M t L p (c + 1) s) : (sk t L p < L ∧ ¬ t (sk t L p) < 65 ∧ ¬ 72 < t (sk t L p) → ∃ M', dp_den true xs xl (d + 3) 163 [.ref 68, .int (nI c)] M = iR (nI c) M' ∧ FrC M M' ∧ CSt M' t L (sk t L p + 1) (c + 1) s ∧ dp_I M' 71 = uI (uI (dp_I M 71) (c * 7 + 0) 2) (c * 7 + 2) (t (sk t L p) - 65) ∧ dp_I M' 72 = dp_I M 72 ∧ dp_I M' 68 12 = dp_I M 68 12 ||| ((1 : Int32) <<< ((t (sk t L p) - 65) &&& 31))) ∧
    (¬ (sk t L p < L ∧ ¬ t (sk t L p) < 65 ∧ ¬ 72 < t (sk t L p)) → ∃ M', dp_den true xs xl (d + 3) 163 [.ref 68, .int (nI c)] M = iR (-1) M' ∧ BdC M M' (sk t L p)) := by
  have h0 := h
  obtain ⟨h1, h2, h3, h4, h5, h6, h7, h8, h9⟩ := h
  have sl := sk_le (t := t) h3
  have sg := sk_ge (t := t) (L := L) (p := p)
  have rf : ∀ r : Int32, dp_den true xs xl (d + 2) 146 [.ref 68, .int (dp_I (plc M (sk t L p)) 68 9)] (plc M (sk t L p)) = iR (-1) (dp_setI (plc M (sk t L p)) 68 2 (nI (sk t L p))) := fun r => by
    have e : dp_I (plc M (sk t L p)) 68 9 = nI (sk t L p) := plc_p _ _
    rw [e, c_ref (by rw [plc_o _ _ _ (by decide)]; exact h4)]
  have bad : ∃ M', iR (-1) (dp_setI (plc M (sk t L p)) 68 2 (nI (sk t L p))) = iR (-1) M' ∧ BdC M M' (sk t L p) := ⟨_, rfl, BdC.mk' FrC.pl⟩
  constructor
  · rintro ⟨w1, w2, w3⟩
    have es : sgC t L (sk t L p) = t (sk t L p) := if_pos w1
    obtain ⟨M', hM⟩ : ∃ M', M' = dp_setI (dp_setI (dp_setI (plc M (sk t L p + 1)) 71 (c * 7 + 0) 2) 71 (c * 7 + 2) (t (sk t L p) - 65)) 68 12 (dp_I M 68 12 ||| ((1 : Int32) <<< ((t (sk t L p) - 65) &&& 31))) := ⟨_, rfl⟩
    refine ⟨M', ?_, ?_, ?_, ?_, ?_, ?_⟩
    · rw [D_X7_readUnit_0_den, D_X7_readUnit_0_eq, c_next h1 h3 h2, rb_bi, es, if_neg w2, if_pos (Int32.not_lt.mp w3)]
      simp only [dp_w]
      have e : dp_I (plc M (sk t L p)) 68 9 = nI (sk t L p) := plc_p _ _
      rw [e, nI_1, show dp_setI (plc M (sk t L p)) 68 9 (nI (sk t L p + 1)) = plc (plc M (sk t L p)) (sk t L p + 1) from rfl, plc_pl, c_setF (v2 := 0) (k := 0) rfl (by omega) (by omega), rb_bv, c_setF (v2 := 2) (k := 2) rfl (by omega) (by omega), rb_bv]
      simp only [gII, Nat.reduceEqDiff, if_false, plc_o _ _ 12 (by decide)]
      rw [hM]
    · rw [hM]; exact ((FrC.pl.f _ _).f _ _).s 12 (by decide) _
    · rw [hM]; exact (((h0.pl (by omega) (by omega)).f (by omega)).f (by omega)).u
    · rw [hM]; simp only [gII, Nat.reduceEqDiff, if_true, if_false, plc_I _ _ 71 (by decide)]
    · rw [hM]; simp only [gII, Nat.reduceEqDiff, if_false, plc_I _ _ 72 (by decide)]
    · rw [hM, gII, if_pos rfl, uI_s]
  · intro w
    obtain ⟨M', b1, b2⟩ := bad
    refine ⟨M', ?_, b2⟩
    rw [← b1, D_X7_readUnit_0_den, D_X7_readUnit_0_eq, c_next h1 h3 h2, rb_bi]
    by_cases w1 : sk t L p < L
    · have es : sgC t L (sk t L p) = t (sk t L p) := if_pos w1
      rw [es]
      by_cases w2 : t (sk t L p) < 65
      · rw [if_pos w2, rf 0, rb_bi]
      · rw [if_neg w2]
        by_cases w3 : 72 < t (sk t L p)
        · rw [if_neg (Int32.not_le.mpr w3), rf 0, rb_bi]
        · exact absurd ⟨w1, w2, w3⟩ w
    · have es : sgC t L (sk t L p) = 0 := if_neg w1
      rw [es, if_pos (by decide), rf 0, rb_bi]
theorem m1n {x : Nat} (h : x < 2147483648) : ¬ nI x = (-1 : Int32) := m1_ne' h
theorem c_numpart {p c s : Nat} (h : CSt M t L p c s) : (c < 60 → (∀ v q, rNum t L p = .inr (v, q) → ∃ M', dp_den true xs xl (d + 4) 162 [.ref 68] M = iR (nI c) M' ∧ PtC M t L c s [v] q (c + 1) M' c) ∧ (∀ b, rNum t L p = .inl b → ∃ M', dp_den true xs xl (d + 4) 162 [.ref 68] M = iR (-1) M' ∧ BdC M M' b)) ∧
    (¬ c < 60 → ∃ M', dp_den true xs xl (d + 4) 162 [.ref 68] M = iR (-1) M' ∧ BdC M M' p) := by
  have hpl : dp_I M 68 9 = nI p := h.2.1
  have hs9 := h.2.2.2.2.2.2.2.1
  constructor
  · intro hc
    obtain ⟨M1, a1, a2, a3, a4, a5, a6⟩ := c_add (xs := xs) (xl := xl) (kind := 1) (w := nI p) h hc
    have nf := nwF_f (dp_I M 71) c 1
    obtain ⟨g1, g2⟩ := c_number (xs := xs) (xl := xl) (d := d) a3.1 a3.2.2.1 a3.2.1 a3.2.2.2.1
    have start : ∀ r M2, dp_den true xs xl (d + 3) 164 [.ref 68] M1 = iR r M2 → dp_den true xs xl (d + 4) 162 [.ref 68] M = D_X7_readNumberPart_23 xs xl (d + 3) (nI c) r M2 := fun r M2 e => by
      rw [D_X7_readNumberPart_0_den, D_X7_readNumberPart_0_eq, hpl, a1, rb_bi, if_neg (m1n (by omega)), e, rb_bi]
    cases hN : rNu t L p with
    | inl b =>
      have hb : rNum t L p = .inl b := by unfold rNum; rw [hN]
      obtain ⟨M2, b1, b2⟩ := g2 b hN
      refine ⟨fun v q e => (by rw [hb] at e; cases e), fun b' e => ?_⟩
      rw [hb] at e; injection e with e; subst e
      refine ⟨M2, ?_, b2.fr a2⟩
      rw [start _ _ b1, D_X7_readNumberPart_23_eq, if_pos rfl]
    | inr xq =>
      obtain ⟨x, q⟩ := xq
      obtain ⟨b1, b2, b3, b4⟩ := g1 x q hN
      have hr : rNum t L p = rUn t L x q := by unfold rNum; rw [hN]
      rw [hr]
      have sl := sk_le (t := t) b2
      have sg := sk_ge (t := t) (L := L) (p := q)
      obtain ⟨M3, hM3⟩ : ∃ M3, M3 = dp_setI (plc M1 q) 71 (c * 7 + 1) (nI x) := ⟨_, rfl⟩
      have s3 : CSt M3 t L q (c + 1) s := by rw [hM3]; exact (a3.pl (by omega) b2).f (by omega)
      have f3 : FrC M M3 := by rw [hM3]; exact (a2.tr FrC.pl).f _ _
      have e71 : dp_I M3 71 = uI (nwF (dp_I M 71) c 1) (c * 7 + 1) (nI x) := by rw [hM3, gII, if_pos rfl, plc_I _ _ _ (by decide), a4]
      have e72 : dp_I M3 72 = dp_I M 72 := by rw [hM3, gII, if_neg (by decide), plc_I _ _ _ (by decide), a5]
      have eu : dp_I M3 68 12 = dp_I M 68 12 := by rw [hM3, gII, if_neg (by decide), plc_o _ _ _ (by decide)]; exact a6
      have s4 := s3.pl (q := sk t L q) sg sl
      have mid : dp_den true xs xl (d + 4) 162 [.ref 68] M = if sgC t L (sk t L q) = 47 then dp_bi (dp_den true xs xl (d + 3) 163 [.ref 68, .int (nI c)] (plc M3 (sk t L q + 1))) (fun r6 M5 => some (.inl (some (.int r6)), M5)) else dp_bi (dp_den true xs xl (d + 3) 149 [.ref 68, .int (37 : Int32)] (plc M3 (sk t L q))) (fun r8 M7 => if r8 = 0 then (some (.inl (some (.int (-1 : Int32))), M7)) else (some (.inl (some (.int (nI c))), M7))) := by
        rw [start _ _ b1, D_X7_readNumberPart_23_eq, if_neg (m1n (by omega)), c_setF (v2 := 1) (k := 1) rfl (by omega) (by omega), rb_bv, ← hM3, c_next s3.1 b2 s3.2.1, rb_bi]
        have e : dp_I (plc M3 (sk t L q)) 68 9 = nI (sk t L q) := plc_p _ _
        simp only [dp_w, e, nI_1]
        rw [show dp_setI (plc M3 (sk t L q)) 68 9 (nI (sk t L q + 1)) = plc (plc M3 (sk t L q)) (sk t L q + 1) from rfl, plc_pl]
      have low : ∀ i, i < c * 7 → dp_I M3 71 i = dp_I M 71 i := fun i hi => by rw [e71, uI_n (by omega), nwF_o hi]
      by_cases w : isAt t L (sk t L q) 47
      · have w37 : ¬ isAt t L (sk t L q) 37 := fun k => absurd (w.2.symm.trans k.2) (by decide)
        have w1 := w.1
        rw [if_pos ((sgC_at (by decide)).mpr w)] at mid
        have s5 := s3.pl (q := sk t L q + 1) (by omega) (by omega)
        obtain ⟨u1, u2⟩ := c_unit (xs := xs) (xl := xl) (d := d) s5
        unfold rUn
        rw [if_neg w37, if_pos w]
        by_cases y : sk t L (sk t L q + 1) < L ∧ ¬ t (sk t L (sk t L q + 1)) < 65 ∧ ¬ 72 < t (sk t L (sk t L q + 1))
        · rw [if_pos y]
          obtain ⟨M', c1, c2, c3, c4, c5, c6⟩ := u1 y
          refine ⟨fun v q' e => ?_, fun b e => by cases e⟩
          injection e with e
          injection e with e1 e2
          subst e1 e2
          refine ⟨M', by rw [mid, c1, rb_bi], PtC.leaf (f3.tr (FrC.pl.tr c2)) c3 (Nat.le_refl _) (fun i hi => by rw [c4, plc_I _ _ _ (by decide), uI_n (by omega), uI_n (by omega)]; exact low i hi) (fun i hi => by rw [c5, plc_I _ _ _ (by decide), e72]) (by rfl) (rdF_mk ?_ ?_ ?_ ?_ ?_ ?_) ?_⟩
          · rw [c4, uI_n (by omega), uI_s]
          · rw [c4, uI_n (by omega), uI_n (by omega), plc_I _ _ _ (by decide), e71, uI_s]
          · rw [c4, uI_s]
          · rw [c4, uI_n (by omega), uI_n (by omega), plc_I _ _ _ (by decide), e71, uI_n (by omega)]; exact nf.2.2.2.1
          · rw [c4, uI_n (by omega), uI_n (by omega), plc_I _ _ _ (by decide), e71, uI_n (by omega)]; exact nf.2.2.2.2.1
          · rw [c4, uI_n (by omega), uI_n (by omega), plc_I _ _ _ (by decide), e71, uI_n (by omega)]; exact nf.2.2.2.2.2.1
          · rw [c6, plc_o _ _ _ (by decide), eu, umk_1, if_pos rfl]
        · rw [if_neg y]
          obtain ⟨M', c1, c2⟩ := u2 y
          refine ⟨fun v q' e => (by cases e), fun b e => ?_⟩
          injection e with e
          subst e
          exact ⟨M', by rw [mid, c1, rb_bi], (c2.fr FrC.pl).fr f3⟩
      · rw [if_neg (fun k => w ((sgC_at (by decide)).mp k))] at mid
        obtain ⟨u1, u2⟩ := c_pass (xs := xs) (xl := xl) (d := d) (c := 37) s4.1 s4.2.2.1 s4.2.1 s4.2.2.2.1 (by decide)
        unfold rUn
        have ep : pss t L 37 (sk t L q) = if isAt t L (sk t L q) 37 then .inr (sk t L q + 1) else .inl (sk t L q) := by unfold pss; rw [sk_sk]
        by_cases y : isAt t L (sk t L q) 37
        · rw [if_pos y] at ep ⊢
          obtain ⟨c1, c2, c3⟩ := u1 _ ep
          have s6 := s4.pl (q := sk t L q + 1) (by omega) c2
          refine ⟨fun v q' e => ?_, fun b e => by cases e⟩
          injection e with e
          injection e with e1 e2
          subst e1 e2
          rw [plc_pl] at c1 s6
          refine ⟨plc M3 (sk t L q + 1), by rw [mid, c1, rb_bi, if_neg r1_ne], PtC.leaf (f3.tr FrC.pl) s6 (Nat.le_refl _) (fun i hi => by rw [plc_I _ _ _ (by decide)]; exact low i hi) (fun i hi => by rw [plc_I _ _ _ (by decide), e72]) (by rfl) (rdF_mk ?_ ?_ ?_ ?_ ?_ ?_) ?_⟩
          · rw [plc_I _ _ _ (by decide), e71, uI_n (by omega)]; exact nf.1
          · rw [plc_I _ _ _ (by decide), e71, uI_s]
          · rw [plc_I _ _ _ (by decide), e71, uI_n (by omega)]; exact nf.2.2.1
          · rw [plc_I _ _ _ (by decide), e71, uI_n (by omega)]; exact nf.2.2.2.1
          · rw [plc_I _ _ _ (by decide), e71, uI_n (by omega)]; exact nf.2.2.2.2.1
          · rw [plc_I _ _ _ (by decide), e71, uI_n (by omega)]; exact nf.2.2.2.2.2.1
          · rw [plc_o _ _ _ (by decide), eu, umk_1, if_neg (show ¬ (1 : Int32) = 2 by decide), Int32.or_zero]
        · rw [if_neg y] at ep ⊢
          rw [if_neg w]
          obtain ⟨M', c1, c2⟩ := u2 _ ep
          refine ⟨fun v q' e => (by cases e), fun b e => ?_⟩
          injection e with e
          subst e
          exact ⟨M', by rw [mid, c1, rb_bi, if_pos rfl], (c2.fr FrC.pl).fr f3⟩
  · intro hc
    obtain ⟨M', a1, a2⟩ := c_addN (xs := xs) (xl := xl) (kind := 1) (w := p) h hc
    refine ⟨M', ?_, a2⟩
    rw [D_X7_readNumberPart_0_den, D_X7_readNumberPart_0_eq, hpl, a1, rb_bi, if_pos rfl, D_X7_readNumberPart_23_eq, if_pos rfl]
end RF
