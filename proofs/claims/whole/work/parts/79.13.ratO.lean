-- needs: 71 72 73 74
/-! RATES: the model reads steps -/
theorem rWh_b {t : Nat → Int32} {L p x q : Nat} (h : rWh t L p = .inr (x, q)) : x < 1000000 := by
  unfold rWh at h
  split at h
  · rename_i z
    injection h with h; injection h with h1 h2
    have := vN_lt (t := t) (p := sk t L p) (dgt t L (sk t L p)) (fun i hi => (dgt_in hi).2)
    rw [← h1]
    exact Nat.lt_of_lt_of_le this (Nat.pow_le_pow_right (n := 10) (by omega) z.2)
  · cases h
theorem lsf_gd {a : List (Nat × Nat)} (h : a.length ≠ 0) : lsf a = ((a.getD (a.length - 1) (0, 0)).1 : Int) := by
  unfold lsf
  have e : a.getLast? = some (a.getD (a.length - 1) (0, 0)) := by
    rw [List.getLast?_eq_getElem?, List.getD_eq_getElem?_getD]
    have : a.length - 1 < a.length := by omega
    simp [List.getElem?_eq_getElem this]
  rw [e]
theorem lsf_nil {a : List (Nat × Nat)} (h : a.length = 0) : lsf a = -1 := by
  have : a = [] := List.length_eq_zero_iff.mp h
  rw [this]; rfl
def StM (M : dp_M) (y : Nat) (a : List (Nat × Nat)) : Prop := dp_I M 179 y = nI a.length ∧ ∀ j, j < a.length → dp_I M 180 (y * 6 + j) = nI (a.getD j (0, 0)).1 ∧ dp_I M 181 (y * 6 + j) = nI (a.getD j (0, 0)).2 ∧ (a.getD j (0, 0)).1 < 1000000
/-- nothing but node y's steps -/
def KpS (M M' : dp_M) (y : Nat) : Prop := FrM M M' ∧ (∀ K ∈ [174, 175, 176, 177, 178, 182, 183, 184, 185], dp_I M' K = dp_I M K) ∧ (∀ i, i ≠ y → dp_I M' 179 i = dp_I M 179 i) ∧ (∀ i, i < y * 6 → dp_I M' 180 i = dp_I M 180 i ∧ dp_I M' 181 i = dp_I M 181 i) ∧ ∀ i ∈ [90, 97], dp_I M' 114 i = dp_I M 114 i
theorem KpS.r (M : dp_M) (y : Nat) : KpS M M y := ⟨FrM.r M, fun _ _ => rfl, fun _ _ => rfl, fun _ _ => ⟨rfl, rfl⟩, fun _ _ => rfl⟩
theorem KpS.tr {M M' M'' : dp_M} {y : Nat} (h : KpS M M' y) (h' : KpS M' M'' y) : KpS M M'' y := ⟨h.1.tr h'.1, fun K hK => by rw [h'.2.1 K hK, h.2.1 K hK], fun i hi => by rw [h'.2.2.1 i hi, h.2.2.1 i hi], fun i hi => by rw [(h'.2.2.2.1 i hi).1, (h'.2.2.2.1 i hi).2]; exact h.2.2.2.1 i hi, fun i hi => by rw [h'.2.2.2.2 i hi, h.2.2.2.2 i hi]⟩
theorem KpS.pl {M : dp_M} {q y : Nat} : KpS M (plm M q) y := ⟨FrM.pl, fun K hK => by
  have w : ∀ K ∈ [174, 175, 176, 177, 178, 182, 183, 184, 185], K ≠ 114 := by decide
  rw [plm_I _ _ _ (w K hK)], fun i _ => by rw [plm_I _ _ _ (by decide)], fun i _ => by rw [plm_I _ _ _ (by decide), plm_I _ _ _ (by decide)]; exact ⟨rfl, rfl⟩, fun i hi => by
  have w : ∀ i ∈ [90, 97], i ≠ 80 := by decide
  rw [plm_o _ _ _ (w i hi)]⟩
theorem KpS.bd {M : dp_M} {q y : Nat} {v : Int32} : KpS M (dp_setI (plm M q) 114 81 v) y := KpS.tr KpS.pl ⟨(FrM.r _).s 81 (by decide) _, fun K hK => by
  have w : ∀ K ∈ [174, 175, 176, 177, 178, 182, 183, 184, 185], K ≠ 114 := by decide
  rw [gII, if_neg (w K hK)], fun i _ => by rw [gII, if_neg (by decide)], fun i _ => by rw [gII, if_neg (by decide), gII, if_neg (by decide)]; exact ⟨rfl, rfl⟩, fun i hi => by
  have w : ∀ i ∈ [90, 97], i ≠ 81 := by decide
  rw [gII, if_pos rfl, uI_n (w i hi)]⟩
section RO
variable {xs : Nat → Int32} {xl d : Nat} {M : dp_M} {t : Nat → Int32} {L : Nat}
theorem t_6 {x k : Nat} : (6 : Int32) * nI x + nI k = nI (x * 6 + k) := by rw [show (6 : Int32) = nI 6 from rfl, pk_mul, nI_add, Nat.mul_comm]
/-- bad, with the reader's stack as it was -/
def BdS (M M' : dp_M) (b : Nat) : Prop := BdM M M' b ∧ ∀ i ∈ [90, 97], dp_I M' 114 i = dp_I M 114 i
theorem m_takes' {p : Nat} {c : Int32} (h : TxM M t L) (hp : p ≤ L) (hpl : dp_I M 114 80 = nI p) (hb : dp_I M 114 81 = -1) (hc : c ≠ -1) : ∀ b, pss t L c p = .inl b → ∃ M', dp_den true xs xl (d + 2) 468 [.ref 114, .int c] M = vR M' ∧ BdS M M' b ∧ b ≤ L := fun b e => by
  obtain ⟨M', h1, h2, h3, h4⟩ := (m_takes (xs := xs) (xl := xl) (d := d) h hp hpl hb hc).2 b e
  refine ⟨M', h1, ⟨h2, ?_⟩, h3⟩
  rw [h4]; exact (KpS.bd (y := 0)).2.2.2.2
theorem m_whole' {p : Nat} (h : TxM M t L) (hp : p ≤ L) (hpl : dp_I M 114 80 = nI p) (hb : dp_I M 114 81 = -1) : ∀ b, rWh t L p = .inl b → ∃ M', dp_den true xs xl (d + 3) 473 [.ref 114] M = iR 0 M' ∧ BdS M M' b ∧ b ≤ L := fun b e => by
  have e0 : b = sk t L p := by
    unfold rWh at e
    split at e
    · cases e
    · injection e with e; exact e.symm
  have h2 := h.2.1
  have sl := sk_le (t := t) hp
  have dl := dgt_le (t := t) sl
  have z : ¬ (1 ≤ dgt t L (sk t L p) ∧ dgt t L (sk t L p) ≤ 6) := fun q => by unfold rWh at e; rw [if_pos q] at e; cases e
  subst e0
  refine ⟨dp_setI (plm M (sk t L p)) 114 81 (nI (sk t L p)), ?_, ⟨BdM.mk' FrM.pl, (KpS.bd (y := 0)).2.2.2.2⟩, sl⟩
  have hb' : dp_I M 114 81 = -1 := hb
  have e9 : dp_I (plm M (sk t L p)) 114 80 = nI (sk t L p) := plm_p _ _
  have e79 : dp_I (plm M (sk t L p)) 114 79 = nI L := by rw [plm_o _ _ _ (by decide)]; exact h.1
  have two : dp_den true xs xl (d + 3) 473 [.ref 114] M = D_X12_takesWhole_28 xs xl (d + 2) (nI (sk t L p)) (plm M (sk t L p)) := by
    rw [D_X12_takesWhole_0_den, D_X12_takesWhole_0_eq, hb', if_pos (by decide), m_next h hp hpl, rb_bi, e9, e79]
    by_cases z : sk t L p < L
    · rw [if_neg (fun q => (sgM_end h).mp q z)]
    · rw [if_pos ((sgM_end h).mpr z), show sk t L p = L by omega]
  rw [two, D_X12_takesWhole_28_eq, m_run h.pl (by omega), rb_bi]
  generalize hn : dgt t L (sk t L p) = n at *
  by_cases z1 : 1 ≤ n
  · rw [if_neg (show ¬ nI (n) < (1 : Int32) from nI_nlt (a := n) (b := 1) (by omega) (by omega)), if_neg (show ¬ nI (n) ≤ (6 : Int32) from nI_ge (a := 6) (b := n) (by omega) (by omega)), m_stop (by rw [plm_o _ _ _ (by decide)]; exact hb), rb_bv]
  · rw [if_pos (show nI (n) < (1 : Int32) from nI_lt (a := n) (b := 1) (by omega) (by omega)), m_stop (by rw [plm_o _ _ _ (by decide)]; exact hb), rb_bv]
theorem BdS.fr {M' M'' : dp_M} {b : Nat} (h : FrM M M') (h9 : ∀ i ∈ [90, 97], dp_I M' 114 i = dp_I M 114 i) (h2 : BdS M' M'' b) : BdS M M'' b := ⟨h2.1.fr h, fun i hi => by rw [h2.2 i hi, h9 i hi]⟩
theorem BdS.pl {M'' : dp_M} {b q : Nat} (h2 : BdS (plm M q) M'' b) : BdS M M'' b := h2.fr FrM.pl (KpS.pl (y := 0)).2.2.2.2
theorem m_step {p c nr k y : Nat} {a : List (Nat × Nat)} (h : MSt M t L p c nr k) (hy : y < nr) (hst : StM M y a) (ha : a.length ≤ 6) :
    (∀ b, rSt t L p = .inl b → ∃ M', dp_den true xs xl (d + 4) 478 [.ref 114, .int (nI y)] M = vR M' ∧ BdS M M' b ∧ b ≤ L) ∧
    (∀ f ce q, rSt t L p = .inr (f, ce, q) → (a.length = 6 ∨ (f : Int) ≤ lsf a → ∃ M', dp_den true xs xl (d + 4) 478 [.ref 114, .int (nI y)] M = vR M' ∧ BdS M M' (sk t L p)) ∧ (¬ (a.length = 6 ∨ (f : Int) ≤ lsf a) → ∃ M', dp_den true xs xl (d + 4) 478 [.ref 114, .int (nI y)] M = vR M' ∧ KpS M M' y ∧ MSt M' t L q c nr k ∧ StM M' y (a ++ [(f, ce)]))) := by
  have h0 := h
  obtain ⟨h1, h2, h3, h4, h5, h6, h7, h8, h9, h10, h11⟩ := h
  have hL := h1.2.1
  have sl := sk_le (t := t) h3
  have s1 := h0.pl (q := sk t L p) sl
  have e80 : dp_I (plm M (sk t L p)) 114 80 = nI (sk t L p) := plm_p _ _
  have e79 : dp_I (plm M (sk t L p)) 114 79 = nI L := by rw [plm_o _ _ _ (by decide)]; exact h1.1
  have st : dp_den true xs xl (d + 4) 478 [.ref 114, .int (nI y)] M = D_X12_takesStep_19 xs xl (d + 3) (nI y) (nI (sk t L p)) (plm M (sk t L p)) := by
    rw [D_X12_takesStep_0_den, D_X12_takesStep_0_eq, m_next h1 h3 h2, rb_bi, e80, e79]
    by_cases z : sk t L p < L
    · rw [if_neg (fun q => (sgM_end h1).mp q z)]
    · rw [if_pos ((sgM_end h1).mpr z), show sk t L p = L by omega]
  rw [D_X12_takesStep_19_eq] at st
  obtain ⟨w1, -⟩ := m_whole (xs := xs) (xl := xl) (d := d) s1.1 s1.2.2.1 s1.2.1 s1.2.2.2.1
  have w2 := m_whole' (xs := xs) (xl := xl) (d := d) s1.1 s1.2.2.1 s1.2.1 s1.2.2.2.1
  rw [rWh_sk] at w1 w2
  cases hw : rWh t L p with
  | inl b =>
    obtain ⟨M2, b1, b2, b3⟩ := w2 b hw
    have b2' : dp_I M2 114 81 = nI b := b2.1.2
    have hS : rSt t L p = .inl b := by unfold rSt; rw [hw]
    refine ⟨fun b' e => ?_, fun f ce q e => (by rw [hS] at e; cases e)⟩
    rw [hS] at e; injection e with e; subst e
    refine ⟨M2, ?_, b2.pl, b3⟩
    rw [st, b1, rb_bi, m_takesN b2' (by omega), rb_bv, m_wholeN b2' (by omega), rb_bi, b2', if_neg (r_nn (by omega))]
  | inr fq =>
    obtain ⟨f, q⟩ := fq
    have b1 := w1 f q hw
    have b2 := rWh_gt h3 hw
    have fb := rWh_b hw
    rw [plm_pl] at b1
    have s2 := h0.pl (q := q) b2.2
    rw [b1, rb_bi] at st
    obtain ⟨p1, -⟩ := m_takes (xs := xs) (xl := xl) (d := d + 1) (c := 61) s2.1 s2.2.2.1 s2.2.1 s2.2.2.2.1 (by decide)
    have p2 := m_takes' (xs := xs) (xl := xl) (d := d + 1) (c := 61) s2.1 s2.2.2.1 s2.2.1 s2.2.2.2.1 (by decide)
    cases hp : pss t L 61 q with
    | inl b =>
      obtain ⟨M2, c1, c2, c3⟩ := p2 b hp
      have c2' : dp_I M2 114 81 = nI b := c2.1.2
      have hS : rSt t L p = .inl b := by unfold rSt; rw [hw]; simp only [hp]
      refine ⟨fun b' e => ?_, fun f ce q e => (by rw [hS] at e; cases e)⟩
      rw [hS] at e; injection e with e; subst e
      refine ⟨M2, ?_, c2.pl, c3⟩
      rw [st, c1, rb_bv, m_wholeN c2' (by omega), rb_bi, c2', if_neg (r_nn (by omega))]
    | inr q2 =>
      have c1 := p1 q2 hp
      have c2 := pss_gt hp
      rw [plm_pl] at c1
      have s3 := h0.pl (q := q2) c2.2
      rw [c1, rb_bv] at st
      obtain ⟨w3, -⟩ := m_whole (xs := xs) (xl := xl) (d := d) s3.1 s3.2.2.1 s3.2.1 s3.2.2.2.1
      have w4 := m_whole' (xs := xs) (xl := xl) (d := d) s3.1 s3.2.2.1 s3.2.1 s3.2.2.2.1
      cases hw2 : rWh t L q2 with
      | inl b =>
        obtain ⟨M2, d1, d2, d3⟩ := w4 b hw2
        have d2' : dp_I M2 114 81 = nI b := d2.1.2
        have hS : rSt t L p = .inl b := by unfold rSt; rw [hw]; simp only [hp, hw2]
        refine ⟨fun b' e => ?_, fun f ce q e => (by rw [hS] at e; cases e)⟩
        rw [hS] at e; injection e with e; subst e
        refine ⟨M2, ?_, d2.pl, d3⟩
        rw [st, d1, rb_bi, d2', if_neg (r_nn (by omega))]
      | inr cq =>
        obtain ⟨ce, q3⟩ := cq
        have d1 := w3 ce q3 hw2
        have d2 := rWh_gt c2.2 hw2
        rw [plm_pl] at d1
        have s4 := h0.pl (q := q3) d2.2
        have e81 : dp_I (plm M q3) 114 81 = -1 := s4.2.2.2.1
        have hS : rSt t L p = .inr (f, ce, q3) := by unfold rSt; rw [hw]; simp only [hp, hw2]
        refine ⟨fun b' e => (by rw [hS] at e; cases e), fun f' ce' q' e => ?_⟩
        rw [hS] at e; injection e with e; injection e with e1 e2; injection e2 with e2 e3
        subst e1 e2 e3
        have e179 : dp_I (plm M q3) 179 y = nI a.length := by rw [plm_I _ _ _ (by decide)]; exact hst.1
        rw [d1, rb_bi, e81, if_pos (by decide)] at st
        simp only [nI_cl (show y < 2147483648 by omega), nI_o (show y < 120 by omega) (by omega), if_false, dp_w, e179] at st
        have stop : dp_bv (dp_den true xs xl (d + 3) 467 [.ref 114, .int (nI (sk t L p))] (plm M q3)) (fun M7 => some (.inl none, M7)) = vR (dp_setI (plm M q3) 114 81 (nI (sk t L p))) := by rw [m_stop s4.2.2.2.1, rb_bv]
        have bad : BdS M (dp_setI (plm M q3) 114 81 (nI (sk t L p))) (sk t L p) := ⟨BdM.mk' FrM.pl, (KpS.bd (y := 0)).2.2.2.2⟩
        have six : nI a.length = (6 : Int32) ↔ a.length = 6 := by rw [show (6 : Int32) = nI 6 from rfl, nI_eq (by omega) (by omega)]
        have zer : nI a.length ≤ (0 : Int32) ↔ a.length = 0 := by
          rw [Int32.le_iff_toInt_le, nI_toInt (by omega)]
          have : (0 : Int32).toInt = 0 := rfl
          omega
        have last : a.length ≠ 0 → dp_I (plm M q3) 180 (y * 6 + (a.length - 1)) = nI (a.getD (a.length - 1) (0, 0)).1 ∧ (a.getD (a.length - 1) (0, 0)).1 < 1000000 := fun hn => by
          rw [plm_I _ _ _ (by decide)]
          exact ⟨(hst.2 (a.length - 1) (by omega)).1, (hst.2 (a.length - 1) (by omega)).2.2⟩
        -- appended
        obtain ⟨M', hM⟩ : ∃ M', M' = dp_setI (dp_setI (dp_setI (plm M q3) 180 (y * 6 + a.length) (nI f)) 181 (y * 6 + a.length) (nI ce)) 179 y (nI (a.length + 1)) := ⟨_, rfl⟩
        have app : a.length < 6 → D_X12_takesStep_98 xs xl (d + 3) (nI y) (nI (sk t L p)) (nI f) (nI ce) (nI a.length) (plm M q3) = vR M' := fun hl => by
          rw [D_X12_takesStep_98_eq]
          have g1 : dp_I (dp_setI (dp_setI (plm M q3) 180 (y * 6 + a.length) (nI f)) 181 (y * 6 + a.length) (nI ce)) 179 y = nI a.length := by rw [gII, if_neg (by decide), gII, if_neg (by decide)]; exact e179
          simp only [t_6, nI_cl (show y * 6 + a.length < 2147483648 by omega), nI_o (show y * 6 + a.length < 720 by omega) (by omega), nI_cl (show y < 2147483648 by omega), nI_o (show y < 120 by omega) (by omega), if_false, dp_w, g1, nI_1]
          rw [hM]
        have good : a.length < 6 → KpS M M' y ∧ MSt M' t L q3 c nr k ∧ StM M' y (a ++ [(f, ce)]) := fun hl => by
          have fr : FrM M M' := by rw [hM]; exact ((FrM.pl.w 180 (by decide) _ _).w 181 (by decide) _ _).w 179 (by decide) _ _
          have eK : ∀ K, K ≠ 179 → K ≠ 180 → K ≠ 181 → dp_I M' K = dp_I (plm M q3) K := fun K k1 k2 k3 => by rw [hM, gII, if_neg k1, gII, if_neg k3, gII, if_neg k2]
          have e1 : dp_I M' 179 = uI (dp_I M 179) y (nI (a.length + 1)) := by rw [hM, gII, if_pos rfl, gII, if_neg (by decide), gII, if_neg (by decide), plm_I _ _ _ (by decide)]
          have e2 : dp_I M' 180 = uI (dp_I M 180) (y * 6 + a.length) (nI f) := by rw [hM, gII, if_neg (by decide), gII, if_neg (by decide), gII, if_pos rfl, plm_I _ _ _ (by decide)]
          have e3 : dp_I M' 181 = uI (dp_I M 181) (y * 6 + a.length) (nI ce) := by rw [hM, gII, if_neg (by decide), gII, if_pos rfl, gII, if_neg (by decide), plm_I _ _ _ (by decide)]
          have e114 : dp_I M' 114 = dp_I (plm M q3) 114 := eK 114 (by decide) (by decide) (by decide)
          obtain ⟨i1, i2, i3, i4, i5, i6, i7, i8, i9, i10, i11⟩ := s4
          refine ⟨⟨fr, fun K hK => ?_, fun i hi => by rw [e1, uI_n hi], fun i hi => by rw [e2, e3, uI_n (by omega), uI_n (by omega)]; exact ⟨rfl, rfl⟩, fun i hi => ?_⟩, ⟨h1.fr fr, by rw [e114]; exact i2, i3, by rw [e114]; exact i4, by rw [e114]; exact i5, i6, by rw [e114]; exact i7, i8, by rw [e114]; exact i9, i10, fun x hx => ?_⟩, ?_, fun j hj => ?_⟩
          · have w : ∀ K ∈ [174, 175, 176, 177, 178, 182, 183, 184, 185], K ≠ 179 ∧ K ≠ 180 ∧ K ≠ 181 ∧ K ≠ 114 := by decide
            obtain ⟨k1, k2, k3, k4⟩ := w K hK
            rw [eK K k1 k2 k3, plm_I _ _ _ k4]
          · have w : ∀ i ∈ [90, 97], i ≠ 80 := by decide
            rw [e114, plm_o _ _ _ (w i hi)]
          · rw [e1]
            by_cases z : x = y
            · subst z; rw [uI_s, tN_n (by omega)]; omega
            · rw [uI_n z]; exact h11 x hx
          · rw [e1, uI_s, List.length_append, List.length_singleton]
          · rw [List.length_append, List.length_singleton] at hj
            rw [e2, e3]
            by_cases z : j = a.length
            · subst z; rw [gd_r, uI_s, uI_s]; exact ⟨rfl, rfl, fb⟩
            · rw [gd_l (by omega), uI_n (by omega), uI_n (by omega)]; exact hst.2 j (by omega)
        refine ⟨fun z => ⟨_, ?_, bad⟩, fun z => ?_⟩
        · rw [st]
          by_cases z1 : a.length = 6
          · rw [if_pos (six.mpr z1), stop]
          · rw [if_neg (fun q => z1 (six.mp q))]
            have z2 := z.resolve_left z1
            have n0 : a.length ≠ 0 := fun e => by rw [lsf_nil e] at z2; omega
            rw [if_neg (fun q => n0 (zer.mp q)), if_neg (fun q => n0 (zer.mp q))]
            have ix : (6 : Int32) * nI y + (nI a.length - 1) = nI (y * 6 + (a.length - 1)) := by
              rw [show a.length = (a.length - 1) + 1 by omega, nI_pred, t_6]
              rfl
            simp only [ix, nI_cl (show y * 6 + (a.length - 1) < 2147483648 by omega), nI_o (show y * 6 + (a.length - 1) < 720 by omega) (by omega), if_false]
            obtain ⟨l1, l2⟩ := last n0
            rw [lsf_gd n0] at z2
            rw [l1, if_neg (nI_nlt (by omega) (by omega)), stop]
        · have z1 : ¬ a.length = 6 := fun q => z (Or.inl q)
          have z2 : ¬ (f : Int) ≤ lsf a := fun q => z (Or.inr q)
          obtain ⟨g1, g2, g3⟩ := good (by omega)
          refine ⟨M', ?_, g1, g2, g3⟩
          rw [st, if_neg (fun q => z1 (six.mp q))]
          by_cases n0 : a.length = 0
          · rw [if_pos (zer.mpr n0), app (by omega)]
          · rw [if_neg (fun q => n0 (zer.mp q)), if_neg (fun q => n0 (zer.mp q))]
            have ix : (6 : Int32) * nI y + (nI a.length - 1) = nI (y * 6 + (a.length - 1)) := by
              rw [show a.length = (a.length - 1) + 1 by omega, nI_pred, t_6]
              rfl
            simp only [ix, nI_cl (show y * 6 + (a.length - 1) < 2147483648 by omega), nI_o (show y * 6 + (a.length - 1) < 720 by omega) (by omega), if_false]
            obtain ⟨l1, l2⟩ := last n0
            rw [lsf_gd n0] at z2
            rw [l1, if_pos (nI_lt (by omega) (by omega)), app (by omega)]
end RO
