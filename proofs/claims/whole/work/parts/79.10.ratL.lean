-- needs: 71 72 73 74
/-! RATES: the model reads signs -/
theorem r_nn {b : Nat} (h : b < 2147483648) : ¬ nI b < 0 := fun q => by
  rw [Int32.lt_iff_toInt_lt, nI_toInt h] at q
  have : (0 : Int32).toInt = 0 := rfl
  omega
def TxM (M : dp_M) (t : Nat → Int32) (L : Nat) : Prop := dp_I M 114 79 = nI L ∧ L ≤ 400 ∧ ∀ i, i < L → dp_I M 173 i = t i ∧ 32 ≤ (t i).toInt ∧ (t i).toInt ≤ 126
def sgM (t : Nat → Int32) (L p : Nat) : Int32 := if p < L then t p else -1
def plm (M : dp_M) (p : Nat) : dp_M := dp_setI M 114 80 (nI p)
def FrM_S : List Nat := [174, 175, 176, 177, 178, 179, 180, 181, 182, 183, 184, 185]
def FrM_T : List Nat := [80, 81, 90, 91, 97]
def FrM (M M' : dp_M) : Prop := Off FrM_S FrM_T M M' ∧ Cst 0 0 M M'
def BdM (M M' : dp_M) (b : Nat) : Prop := FrM M M' ∧ dp_I M' 114 81 = nI b
theorem FrM.r (M : dp_M) : FrM M M := ⟨Off.rr _ _ M, Cst.r M⟩
theorem FrM.tr {M M' M'' : dp_M} (h : FrM M M') (h' : FrM M' M'') : FrM M M'' := ⟨h.1.tr h'.1, ⟨by have := h.2.1; have := h'.2.1; omega, by have := h.2.2; have := h'.2.2; omega⟩⟩
theorem FrM.s {M M' : dp_M} (h : FrM M M') (i : Nat) (hi : i ∈ FrM_T) (x : Int32) : FrM M (dp_setI M' 114 i x) := ⟨h.1.F i hi x, ⟨h.2.1, h.2.2⟩⟩
theorem FrM.w {M M' : dp_M} (h : FrM M M') (k : Nat) (hk : (k ∈ FrM_S ∧ k < 246) ∧ k ≠ 114) (i : Nat) (x : Int32) : FrM M (dp_setI M' k i x) := ⟨h.1.I k hk i x, ⟨h.2.1, h.2.2⟩⟩
theorem FrM.pl {M : dp_M} {p : Nat} : FrM M (plm M p) := (FrM.r M).s 80 (by decide) _
theorem TxM.fr {M M' : dp_M} {t : Nat → Int32} {L : Nat} (h : TxM M t L) (f : FrM M M') : TxM M' t L := by
  obtain ⟨h1, h2, h3⟩ := h
  refine ⟨by rw [(f.1.2.1 79 (by decide)).1]; exact h1, h2, fun i hi => ?_⟩
  rw [(f.1.1 173 (by decide) (by decide) (by decide)).1]; exact h3 i hi
theorem TxM.pl {M : dp_M} {t : Nat → Int32} {L p : Nat} (h : TxM M t L) : TxM (plm M p) t L := h.fr FrM.pl
theorem plm_p (M : dp_M) (p : Nat) : dp_I (plm M p) 114 80 = nI p := by unfold plm; rw [gII, if_pos rfl, uI_s]
theorem plm_o (M : dp_M) (p i : Nat) (h : i ≠ 80) : dp_I (plm M p) 114 i = dp_I M 114 i := by unfold plm; rw [gII, if_pos rfl, uI_n h]
theorem plm_pl (M : dp_M) (p q : Nat) : plm (plm M p) q = plm M q := by unfold plm; rw [sII]
theorem plm_self {M : dp_M} {p : Nat} (h : dp_I M 114 80 = nI p) : plm M p = M := by unfold plm; exact sI_self M 114 80 h
theorem plm_I (M : dp_M) (p k : Nat) (h : k ≠ 114) : dp_I (plm M p) k = dp_I M k := by unfold plm; rw [gII, if_neg h]
theorem BdM.fr {M M' M'' : dp_M} {b : Nat} (h : FrM M M') (h2 : BdM M' M'' b) : BdM M M'' b := ⟨h.tr h2.1, h2.2⟩
section RL
variable {xs : Nat → Int32} {xl d : Nat} {M : dp_M} {t : Nat → Int32} {L : Nat}
theorem BdM.mk' {M' : dp_M} {b : Nat} (h : FrM M M') : BdM M (dp_setI M' 114 81 (nI b)) b := ⟨h.s 81 (by decide) _, by rw [gII, if_pos rfl, uI_s]⟩
theorem m_next0 : ∀ n (M : dp_M) (p : Nat), L - p ≤ n → p ≤ L → TxM M t L → dp_I M 114 80 = nI p → D_X12_nextSign_0 xs xl d M = iR (sgM t L (sk t L p)) (plm M (sk t L p)) := by
  intro n
  induction n with
  | zero =>
    intro M p hn hp h hpl
    obtain ⟨h1, h2, h3⟩ := h
    have h1' : dp_I M 114 79 = nI L := h1
    have hpl' : dp_I M 114 80 = nI p := hpl
    rw [D_X12_nextSign_0_eq, h1', hpl', if_pos (nI_lle (by omega) (by omega)), if_pos (nI_lle (by omega) (by omega)), sk_e (by omega), plm_self hpl, show sgM t L p = -1 from if_neg (by omega)]
  | succ n ih =>
    intro M p hn hp h hpl
    have h' := h
    obtain ⟨h1, h2, h3⟩ := h
    have h1' : dp_I M 114 79 = nI L := h1
    have hpl' : dp_I M 114 80 = nI p := hpl
    rw [D_X12_nextSign_0_eq, h1', hpl']
    by_cases z : p < L
    · rw [if_neg (nI_nge z (by omega)), if_neg (nI_nge z (by omega))]
      simp only [nI_cl (show p < 2147483648 by omega), nI_o (show p < 400 by omega) (by omega), if_false, dp_w, nI_1]
      rw [show dp_I M 173 p = t p from (h3 p z).1]
      by_cases y : t p = 32
      · rw [if_pos y, sk_s z y]
        have e : dp_setI M 114 80 (nI (p + 1)) = plm M (p + 1) := rfl
        rw [e, ih _ (p + 1) (by omega) (by omega) h'.pl (plm_p _ _), plm_pl]
      · rw [if_neg y, sk_e (fun q => y q.2), plm_self hpl, show sgM t L p = t p from if_pos z]
    · rw [if_pos (nI_lle (by omega) (by omega)), if_pos (nI_lle (by omega) (by omega)), sk_e (fun q => z q.1), plm_self hpl, show sgM t L p = -1 from if_neg z]
theorem m_next {p : Nat} (h : TxM M t L) (hp : p ≤ L) (hpl : dp_I M 114 80 = nI p) : dp_den true xs xl (d + 1) 466 [.ref 114] M = iR (sgM t L (sk t L p)) (plm M (sk t L p)) := by
  rw [D_X12_nextSign_0_den]; exact m_next0 _ M p (Nat.le_refl _) hp h hpl
theorem m_stop {v : Int32} (hb : dp_I M 114 81 = -1) : dp_den true xs xl (d + 1) 467 [.ref 114, .int v] M = vR (dp_setI M 114 81 v) := by
  rw [D_X12_stops_0_den, D_X12_stops_0_eq, hb, if_neg (by decide)]; rfl
theorem m_stopN {v : Int32} {b : Nat} (hb : dp_I M 114 81 = nI b) (h : b < 2147483648) : dp_den true xs xl (d + 1) 467 [.ref 114, .int v] M = vR M := by
  have hb' : dp_I M 114 81 = nI b := hb
  rw [D_X12_stops_0_den, D_X12_stops_0_eq, hb', if_pos (by rw [Int32.le_iff_toInt_le, nI_toInt h]; have : (0 : Int32).toInt = 0 := rfl; omega)]
  simp only [dp_w]
  rw [sI_self M 114 81 hb']
theorem sgM_at {p : Nat} {c : Int32} (hc : c ≠ -1) : sgM t L p = c ↔ isAt t L p c := by
  unfold sgM
  by_cases z : p < L
  · rw [if_pos z]; exact ⟨fun q => ⟨z, q⟩, fun q => q.2⟩
  · rw [if_neg z]; exact ⟨fun q => absurd q.symm hc, fun q => absurd q.1 z⟩
theorem sg_ne {i : Nat} (h : TxM M t L) (hi : i < L) : ¬ t i = -1 := fun e => by
  have := (h.2.2 i hi).2.1
  rw [e] at this; exact absurd this (by decide)
theorem sgM_end {p : Nat} (h : TxM M t L) : sgM t L p = -1 ↔ ¬ p < L := by
  unfold sgM
  by_cases z : p < L
  · rw [if_pos z]; exact ⟨fun q => absurd q (sg_ne h z), fun q => absurd z q⟩
  · rw [if_neg z]; exact ⟨fun _ => z, fun _ => rfl⟩
theorem m_takes {p : Nat} {c : Int32} (h : TxM M t L) (hp : p ≤ L) (hpl : dp_I M 114 80 = nI p) (hb : dp_I M 114 81 = -1) (hc : c ≠ -1) : (∀ q, pss t L c p = .inr q → dp_den true xs xl (d + 2) 468 [.ref 114, .int c] M = vR (plm M q)) ∧ (∀ b, pss t L c p = .inl b → ∃ M', dp_den true xs xl (d + 2) 468 [.ref 114, .int c] M = vR M' ∧ BdM M M' b ∧ b ≤ L ∧ M' = dp_setI (plm M b) 114 81 (nI b)) := by
  have e : dp_den true xs xl (d + 2) 468 [.ref 114, .int c] M = if isAt t L (sk t L p) c then vR (plm M (sk t L p + 1)) else vR (dp_setI (plm M (sk t L p)) 114 81 (nI (sk t L p))) := by
    have hb' : dp_I M 114 81 = -1 := hb
    rw [D_X12_takes_0_den, D_X12_takes_0_eq, hb', if_pos (by decide), m_next h hp hpl, rb_bi]
    have e9 : dp_I (plm M (sk t L p)) 114 80 = nI (sk t L p) := plm_p _ _
    by_cases z : isAt t L (sk t L p) c
    · rw [if_pos ((sgM_at hc).mpr z), if_pos z, e9]
      simp only [dp_w, nI_1]
      rw [show dp_setI (plm M (sk t L p)) 114 80 (nI (sk t L p + 1)) = plm (plm M (sk t L p)) (sk t L p + 1) from rfl, plm_pl]
    · rw [if_neg (fun q => z ((sgM_at hc).mp q)), if_neg z, e9, m_stop (by rw [plm_o _ _ _ (by decide)]; exact hb), rb_bv]
  unfold pss
  constructor
  · intro q hq
    by_cases z : isAt t L (sk t L p) c
    · rw [if_pos z] at hq e
      injection hq with hq
      subst hq
      exact e
    · rw [if_neg z] at hq; cases hq
  · intro b hq
    by_cases z : isAt t L (sk t L p) c
    · rw [if_pos z] at hq; cases hq
    · rw [if_neg z] at hq e
      injection hq with hq
      subst hq
      exact ⟨_, e, BdM.mk' FrM.pl, sk_le hp, rfl⟩
theorem m_takesN {c : Int32} {b : Nat} (hb : dp_I M 114 81 = nI b) (h : b < 2147483648) : dp_den true xs xl (d + 1) 468 [.ref 114, .int c] M = vR M := by
  have hb' : dp_I M 114 81 = nI b := hb
  rw [D_X12_takes_0_den, D_X12_takes_0_eq, hb', if_neg (r_nn h)]
theorem m_isD {v : Int32} : dp_den true xs xl (d + 1) 469 [.int v] M = iR (bI (isDg v)) M := by
  rw [D_X12_isDigit_0_den, D_X12_isDigit_0_eq]
  by_cases z : v < 48
  · rw [if_pos z, bI_f (fun q => q.1 z)]
  · rw [if_neg z]
    by_cases y : 57 < v
    · rw [if_pos y, bI_f (fun q => q.2 y)]
    · rw [if_neg y, bI_t ⟨z, y⟩]
theorem m_isS {v : Int32} : dp_den true xs xl (d + 1) 470 [.int v] M = iR (bI (isLt v)) M := by
  rw [D_X12_isSmall_0_den, D_X12_isSmall_0_eq]
  by_cases z : v < 97
  · rw [if_pos z, bI_f (fun q => q.1 z)]
  · rw [if_neg z]
    by_cases y : 122 < v
    · rw [if_pos y, bI_f (fun q => q.2 y)]
    · rw [if_neg y, bI_t ⟨z, y⟩]
theorem m_run {p : Nat} (h : TxM M t L) (hp : p ≤ L + 1) : dp_den true xs xl (d + 2) 471 [.ref 114, .int (nI p)] M = iR (nI (dgt t L p)) M := by
  obtain ⟨h1, h2, h3⟩ := h
  have h1' : dp_I M 114 79 = nI L := h1
  have pb : p + dgt t L p ≤ 402 := by
    by_cases y : p ≤ L
    · have := dgt_le (t := t) y; omega
    · have : dgt t L p = 0 := by unfold dgt; exact rnN_e (by omega) _
      omega
  rw [D_X12_digitsFrom_0_den, D_X12_digitsFrom_0_eq]
  simp only [dp_w]
  refine lpb (F := fun (_ : Nat) n => D_X12_digitsFrom_2 xs xl (d + 1) (nI p) (nI n) M) (s := fun _ => 0) (N := dgt t L p) ?_ (fun n hn hr => ?_)
  · (try dsimp only)
    rw [D_X12_digitsFrom_2_eq, h1', nI_add]
    have o := dgt_out (t := t) (L := L) (p := p)
    by_cases z : p + dgt t L p < L
    · rw [if_neg (nI_nge z (by omega))]
      simp only [nI_cl (show p + dgt t L p < 2147483648 by omega), nI_o (show p + dgt t L p < 400 by omega) (by omega), if_false]
      rw [show dp_I M 173 (p + dgt t L p) = t (p + dgt t L p) from (h3 _ z).1, m_isD, rb_bi, ibz, if_neg (fun q => o ⟨z, q⟩)]
    · rw [if_pos (nI_lle (by omega) (by omega))]
  · (try dsimp only at hr); (try dsimp only)
    obtain ⟨q1, q2⟩ := dgt_in hn
    rw [D_X12_digitsFrom_2_eq, h1', nI_add, if_neg (nI_nge q1 (by omega))]
    simp only [nI_cl (show p + n < 2147483648 by omega), nI_o (show p + n < 400 by omega) (by omega), if_false]
    rw [show dp_I M 173 (p + n) = t (p + n) from (h3 _ q1).1, m_isD, rb_bi, ibz, if_pos q2]
    simp only [dp_w, nI_1]; exact hr
theorem m_val {p n : Nat} (h : TxM M t L) (hd : ∀ i, i < n → p + i < L ∧ isDg (t (p + i))) (hn : n ≤ 400) : dp_den true xs xl (d + 1) 472 [.ref 114, .int (nI p), .int (nI n)] M = iR (nI (vN t p n)) M := by
  obtain ⟨h1, h2, h3⟩ := h
  rw [D_X12_valueOf_0_den, D_X12_valueOf_0_eq]
  simp only [dp_w]
  refine lpb (F := fun (v : Int32) i => D_X12_valueOf_5 xs xl d (nI p) (nI n) v (nI i) M) (s := fun i => nI (vN t p i)) (N := n) ?_ (fun i hi hr => ?_)
  · (try dsimp only)
    rw [D_X12_valueOf_5_eq, if_pos (nI_lle (Nat.le_refl _) (by omega))]
  · (try dsimp only at hr); (try dsimp only)
    have q := (hd i hi).1
    rw [D_X12_valueOf_5_eq, if_neg (nI_nge hi (by omega)), nI_add]
    simp only [nI_cl (show p + i < 2147483648 by omega), nI_o (show p + i < 400 by omega) (by omega), if_false, dp_w, nI_1]
    rw [show dp_I M 173 (p + i) = t (p + i) from (h3 _ q).1, Int32.mul_comm 10, vN_s (fun j hj => (hd j (by omega)).2)]; exact hr
theorem m_whole {p : Nat} (h : TxM M t L) (hp : p ≤ L) (hpl : dp_I M 114 80 = nI p) (hb : dp_I M 114 81 = -1) : (∀ x q, rWh t L p = .inr (x, q) → dp_den true xs xl (d + 3) 473 [.ref 114] M = iR (nI x) (plm M q)) ∧ (∀ b, rWh t L p = .inl b → ∃ M', dp_den true xs xl (d + 3) 473 [.ref 114] M = iR 0 M' ∧ BdM M M' b ∧ b ≤ L) := by
  have h2 := h.2.1
  have sl := sk_le (t := t) hp
  have dl := dgt_le (t := t) sl
  have e : dp_den true xs xl (d + 3) 473 [.ref 114] M = if 1 ≤ dgt t L (sk t L p) ∧ dgt t L (sk t L p) ≤ 6 then iR (nI (vN t (sk t L p) (dgt t L (sk t L p)))) (plm M (sk t L p + dgt t L (sk t L p))) else iR 0 (dp_setI (plm M (sk t L p)) 114 81 (nI (sk t L p))) := by
    have hb' : dp_I M 114 81 = -1 := hb
    have e9 : dp_I (plm M (sk t L p)) 114 80 = nI (sk t L p) := plm_p _ _
    have e79 : dp_I (plm M (sk t L p)) 114 79 = nI L := by rw [plm_o _ _ _ (by decide)]; exact h.1
    have two : dp_den true xs xl (d + 3) 473 [.ref 114] M = D_X12_takesWhole_28 xs xl (d + 2) (nI (sk t L p)) (plm M (sk t L p)) := by
      rw [D_X12_takesWhole_0_den, D_X12_takesWhole_0_eq, hb', if_pos (by decide), m_next h hp hpl, rb_bi, e9, e79]
      by_cases z : sk t L p < L
      · rw [if_neg (fun q => (sgM_end h).mp q z)]
      · rw [if_pos ((sgM_end h).mpr z), show sk t L p = L by omega]
    rw [two, D_X12_takesWhole_28_eq, m_run h.pl (by omega), rb_bi]
    generalize hn : dgt t L (sk t L p) = n at *
    by_cases z : 1 ≤ n
    · rw [if_neg (show ¬ nI (n) < (1 : Int32) from nI_nlt (a := n) (b := 1) (by omega) (by omega))]
      by_cases y : n ≤ 6
      · rw [if_pos (show nI (n) ≤ (6 : Int32) from nI_le (a := n) (b := 6) (by omega) (by omega)), if_pos ⟨z, y⟩, nI_add]
        simp only [dp_w]
        rw [show dp_setI (plm M (sk t L p)) 114 80 (nI (sk t L p + n)) = plm (plm M (sk t L p)) (sk t L p + n) from rfl, plm_pl, m_val h.pl (fun i hi => dgt_in (by omega)) (by omega), rb_bi]
      · rw [if_neg (show ¬ nI (n) ≤ (6 : Int32) from nI_ge (a := 6) (b := n) (by omega) (by omega)), if_neg (fun q => y q.2), m_stop (by rw [plm_o _ _ _ (by decide)]; exact hb), rb_bv]
    · rw [if_pos (show nI (n) < (1 : Int32) from nI_lt (a := n) (b := 1) (by omega) (by omega)), if_neg (fun q => z q.1), m_stop (by rw [plm_o _ _ _ (by decide)]; exact hb), rb_bv]
  unfold rWh
  constructor
  · intro x q hq
    by_cases z : 1 ≤ dgt t L (sk t L p) ∧ dgt t L (sk t L p) ≤ 6
    · rw [if_pos z] at hq e
      injection hq with hq
      injection hq with q1 q2
      subst q1 q2
      exact e
    · rw [if_neg z] at hq; cases hq
  · intro b hq
    by_cases z : 1 ≤ dgt t L (sk t L p) ∧ dgt t L (sk t L p) ≤ 6
    · rw [if_pos z] at hq; cases hq
    · rw [if_neg z] at hq e
      injection hq with hq
      subst hq
      exact ⟨_, e, BdM.mk' FrM.pl, sl⟩
theorem m_wholeN {b : Nat} (hb : dp_I M 114 81 = nI b) (h : b < 2147483648) : dp_den true xs xl (d + 1) 473 [.ref 114] M = iR 0 M := by
  have hb' : dp_I M 114 81 = nI b := hb
  rw [D_X12_takesWhole_0_den, D_X12_takesWhole_0_eq, hb', if_neg (r_nn h)]
theorem m_number {p : Nat} (h : TxM M t L) (hp : p ≤ L) (hpl : dp_I M 114 80 = nI p) (hb : dp_I M 114 81 = -1) (h1d : 1 ≤ dgt t L p) : (∀ x q, rNu t L p = .inr (x, q) → dp_den true xs xl (d + 3) 474 [.ref 114] M = iR (nI x) (plm M q)) ∧ (∀ b, rNu t L p = .inl b → ∃ M', dp_den true xs xl (d + 3) 474 [.ref 114] M = iR 0 M' ∧ BdM M M' b ∧ b ≤ L) := by
  have h2 := h.2.1
  have dl := dgt_le (t := t) hp
  have hpl' : dp_I M 114 80 = nI p := hpl
  have e : dp_den true xs xl (d + 3) 474 [.ref 114] M = if 1 ≤ dgt t L p ∧ dgt t L p ≤ 5 then (if isAt t L (p + dgt t L p) 46 then (if 1 ≤ dgt t L (p + dgt t L p + 1) ∧ dgt t L (p + dgt t L p + 1) ≤ 3 then iR (nI (1000 * vN t p (dgt t L p) + scl (dgt t L (p + dgt t L p + 1)) (vN t (p + dgt t L p + 1) (dgt t L (p + dgt t L p + 1))))) (plm M (p + dgt t L p + 1 + dgt t L (p + dgt t L p + 1))) else iR 0 (dp_setI (plm M (p + dgt t L p)) 114 81 (nI p))) else iR (nI (1000 * vN t p (dgt t L p))) (plm M (p + dgt t L p))) else iR 0 (dp_setI M 114 81 (nI p)) := by
    rw [D_X12_takesNumber_0_den, D_X12_takesNumber_0_eq]
    simp only [dp_w]
    rw [hpl', m_run h (by omega), rb_bi]
    generalize hn : dgt t L p = n at *
    by_cases y : n ≤ 5
    · rw [if_pos (show nI (n) ≤ (5 : Int32) from nI_le (a := n) (b := 5) (by omega) (by omega)), if_pos ⟨h1d, y⟩, nI_add]
      have e9 : dp_I (plm M (p + n)) 114 80 = nI (p + n) := plm_p _ _
      have e79 : dp_I (plm M (p + n)) 114 79 = nI L := by rw [plm_o _ _ _ (by decide)]; exact h.1
      rw [show dp_setI M 114 80 (nI (p + n)) = plm M (p + n) from rfl, m_val h.pl (fun i hi => dgt_in (by omega)) (by omega), rb_bi, e9, e79]
      rw [show (1000 : Int32) * nI (vN t p n) = nI (1000 * vN t p n) from by rw [show (1000 : Int32) = nI 1000 from rfl, pk_mul]]
      by_cases z : p + n < L
      · have zl : ¬ nI (p + n) = nI L := fun q => by rw [nI_eq (by omega) (by omega)] at q; omega
        rw [if_neg zl]
        simp only [nI_cl (show p + n < 2147483648 by omega), nI_o (show p + n < 400 by omega) (by omega), if_false]
        rw [show dp_I (plm M (p + n)) 173 (p + n) = t (p + n) from by rw [plm_I _ _ _ (by decide)]; exact (h.2.2 _ z).1]
        by_cases w : t (p + n) = 46
        · rw [if_pos w, if_pos ⟨z, w⟩, nI_1, m_run h.pl (by omega), rb_bi]
          have dl2 := dgt_le (t := t) (L := L) (p := p + n + 1) (by omega)
          generalize hm : dgt t L (p + n + 1) = m at *
          by_cases u : 1 ≤ m
          · rw [if_neg (show ¬ nI (m) < (1 : Int32) from nI_nlt (a := m) (b := 1) (by omega) (by omega))]
            by_cases v : m ≤ 3
            · rw [if_pos (show nI (m) ≤ (3 : Int32) from nI_le (a := m) (b := 3) (by omega) (by omega)), if_pos ⟨u, v⟩, e9, nI_1, m_val h.pl (fun i hi => dgt_in (by omega)) (by omega), rb_bi, e9]
              rw [show nI (p + n) + ((1 : Int32) + nI m) = nI (p + n + 1 + m) from by rw [show (1 : Int32) = nI 1 from rfl, nI_add, nI_add, ← Nat.add_assoc], show dp_setI (plm M (p + n)) 114 80 (nI (p + n + 1 + m)) = plm (plm M (p + n)) (p + n + 1 + m) from rfl, plm_pl]
              have cs : m = 1 ∨ m = 2 ∨ m = 3 := by omega
              unfold scl
              rcases cs with rfl | rfl | rfl
              · rw [if_pos (show nI 1 = (1 : Int32) from rfl), if_pos rfl, show (100 : Int32) = nI 100 from rfl, pk_mul, nI_add]
              · rw [if_neg (show ¬ nI 2 = (1 : Int32) by decide), if_pos (show nI 2 = (2 : Int32) from rfl), if_neg (by decide), if_pos rfl, show (10 : Int32) = nI 10 from rfl, pk_mul, nI_add]
              · rw [if_neg (show ¬ nI 3 = (1 : Int32) by decide), if_neg (show ¬ nI 3 = (2 : Int32) by decide), if_neg (by decide), if_neg (by decide), nI_add]
            · rw [if_neg (show ¬ nI (m) ≤ (3 : Int32) from nI_ge (a := 3) (b := m) (by omega) (by omega)), if_neg (fun q => v q.2), m_stop (by rw [plm_o _ _ _ (by decide)]; exact hb), rb_bv]
          · rw [if_pos (show nI (m) < (1 : Int32) from nI_lt (a := m) (b := 1) (by omega) (by omega)), if_neg (fun q => u q.1), m_stop (by rw [plm_o _ _ _ (by decide)]; exact hb), rb_bv]
        · rw [if_neg w, if_neg (fun q => w q.2)]
      · have zl : nI (p + n) = nI L := by rw [show p + n = L by omega]
        rw [if_pos zl, if_neg (fun q => z q.1)]
    · rw [if_neg (show ¬ nI (n) ≤ (5 : Int32) from nI_ge (a := 5) (b := n) (by omega) (by omega)), if_neg (fun q => y q.2), m_stop hb, rb_bv]
  unfold rNu
  constructor
  · intro x q hq
    by_cases z : 1 ≤ dgt t L p ∧ dgt t L p ≤ 5
    · rw [if_pos z] at hq e
      by_cases w : isAt t L (p + dgt t L p) 46
      · rw [if_pos w] at hq e
        by_cases u : 1 ≤ dgt t L (p + dgt t L p + 1) ∧ dgt t L (p + dgt t L p + 1) ≤ 3
        · rw [if_pos u] at hq e
          injection hq with hq
          injection hq with q1 q2
          subst q1 q2
          exact e
        · rw [if_neg u] at hq; cases hq
      · rw [if_neg w] at hq e
        injection hq with hq
        injection hq with q1 q2
        subst q1 q2
        exact e
    · rw [if_neg z] at hq; cases hq
  · intro b hq
    by_cases z : 1 ≤ dgt t L p ∧ dgt t L p ≤ 5
    · rw [if_pos z] at hq e
      by_cases w : isAt t L (p + dgt t L p) 46
      · rw [if_pos w] at hq e
        by_cases u : 1 ≤ dgt t L (p + dgt t L p + 1) ∧ dgt t L (p + dgt t L p + 1) ≤ 3
        · rw [if_pos u] at hq; cases hq
        · rw [if_neg u] at hq e
          injection hq with hq
          subst hq
          exact ⟨_, e, BdM.mk' FrM.pl, hp⟩
      · rw [if_neg w] at hq; cases hq
    · rw [if_neg z] at hq e
      injection hq with hq
      subst hq
      exact ⟨_, e, BdM.mk' (FrM.r M), hp⟩
end RL
