-- needs: 71 72 73 74
/-! RATES: the class reads signs -/
theorem sII (M : dp_M) (k i : Nat) (x y : Int32) : dp_setI (dp_setI M k i x) k i y = dp_setI M k i y := mext (fun q => by
  by_cases z : q = k
  · subst z
    simp only [gII, if_true]
    funext j
    by_cases w : j = i
    · subst w; rw [uI_s, uI_s]
    · rw [uI_n w, uI_n w, uI_n w]
  · simp only [gII, if_neg z]) (fun q => by rw [gJI, gJI, gJI]) rfl
theorem uI_sf {α : Type} (f : Nat → α) (i : Nat) : uI f i (f i) = f := by
  funext j
  by_cases w : j = i
  · subst w; rw [uI_s]
  · rw [uI_n w]
theorem sI_self (M : dp_M) (k i : Nat) {x : Int32} (h : dp_I M k i = x) : dp_setI M k i x = M := mext (fun q => by
  rw [gII]
  by_cases z : q = k
  · rw [if_pos z, ← h, uI_sf, z]
  · rw [if_neg z]) (fun q => by rw [gJI]) rfl
/-- the tape -/
def TxC (M : dp_M) (t : Nat → Int32) (L : Nat) : Prop := dp_I M 68 0 = nI L ∧ L ≤ 400 ∧ ∀ i, i < L → dp_I M 70 i = t i ∧ 32 ≤ (t i).toInt ∧ (t i).toInt ≤ 126
def sgC (t : Nat → Int32) (L p : Nat) : Int32 := if p < L then t p else 0
def plc (M : dp_M) (p : Nat) : dp_M := dp_setI M 68 9 (nI p)
/-- nothing but the reader's own has changed -/
def FrC (M M' : dp_M) : Prop := Off [68, 71, 72] [] M M' ∧ Cst 0 0 M M' ∧ ∀ i, i ∉ [2, 9, 10, 11, 12] → dp_I M' 68 i = dp_I M 68 i
def BdC (M M' : dp_M) (b : Nat) : Prop := FrC M M' ∧ dp_I M' 68 2 = nI b
theorem FrC.r (M : dp_M) : FrC M M := ⟨Off.rr _ _ M, Cst.r M, fun _ _ => rfl⟩
theorem FrC.tr {M M' M'' : dp_M} (h : FrC M M') (h' : FrC M' M'') : FrC M M'' := ⟨h.1.tr h'.1, ⟨by have := h.2.1.1; have := h'.2.1.1; omega, by have := h.2.1.2; have := h'.2.1.2; omega⟩, fun i hi => by rw [h'.2.2 i hi, h.2.2 i hi]⟩
theorem FrC.s {M M' : dp_M} (h : FrC M M') (i : Nat) (hi : i ∈ [2, 9, 10, 11, 12]) (x : Int32) : FrC M (dp_setI M' 68 i x) := ⟨h.1.I 68 (by decide) _ _, ⟨h.2.1.1, h.2.1.2⟩, fun j hj => by
  rw [gII, if_pos rfl, uI_n (fun e => hj (by rw [e]; exact hi))]; exact h.2.2 j hj⟩
theorem FrC.f {M M' : dp_M} (h : FrC M M') (i : Nat) (x : Int32) : FrC M (dp_setI M' 71 i x) := ⟨h.1.I 71 (by decide) _ _, ⟨h.2.1.1, h.2.1.2⟩, fun j hj => by rw [gII, if_neg (by decide)]; exact h.2.2 j hj⟩
theorem FrC.t {M M' : dp_M} (h : FrC M M') (i : Nat) (x : Int32) : FrC M (dp_setI M' 72 i x) := ⟨h.1.I 72 (by decide) _ _, ⟨h.2.1.1, h.2.1.2⟩, fun j hj => by rw [gII, if_neg (by decide)]; exact h.2.2 j hj⟩
theorem FrC.pl {M : dp_M} {p : Nat} : FrC M (plc M p) := (FrC.r M).s 9 (by decide) _
theorem TxC.fr {M M' : dp_M} {t : Nat → Int32} {L : Nat} (h : TxC M t L) (f : FrC M M') : TxC M' t L := by
  obtain ⟨h1, h2, h3⟩ := h
  refine ⟨by rw [f.2.2 0 (by decide)]; exact h1, h2, fun i hi => ?_⟩
  rw [(f.1.1 70 (by decide) (by decide) (by decide)).1]; exact h3 i hi
theorem TxC.pl {M : dp_M} {t : Nat → Int32} {L p : Nat} (h : TxC M t L) : TxC (plc M p) t L := h.fr FrC.pl
theorem plc_p (M : dp_M) (p : Nat) : dp_I (plc M p) 68 9 = nI p := by unfold plc; rw [gII, if_pos rfl, uI_s]
theorem plc_o (M : dp_M) (p i : Nat) (h : i ≠ 9) : dp_I (plc M p) 68 i = dp_I M 68 i := by unfold plc; rw [gII, if_pos rfl, uI_n h]
theorem plc_pl (M : dp_M) (p q : Nat) : plc (plc M p) q = plc M q := by unfold plc; rw [sII]
theorem plc_self {M : dp_M} {p : Nat} (h : dp_I M 68 9 = nI p) : plc M p = M := by unfold plc; exact sI_self M 68 9 h
theorem plc_I (M : dp_M) (p k : Nat) (h : k ≠ 68) : dp_I (plc M p) k = dp_I M k := by unfold plc; rw [gII, if_neg h]
section RC
variable {xs : Nat → Int32} {xl d : Nat} {M : dp_M} {t : Nat → Int32} {L : Nat}
theorem c_sign {p : Nat} (h : TxC M t L) (hp : p < 2147483648) : dp_den true xs xl (d + 1) 147 [.ref 68, .int (nI p)] M = iR (sgC t L p) M := by
  obtain ⟨h1, h2, h3⟩ := h
  rw [D_X7_signAt_0_den, D_X7_signAt_0_eq, h1]
  unfold sgC
  by_cases z : p < L
  · rw [if_neg (nI_nge z (by omega)), if_pos z]
    simp only [nI_cl (show p < 2147483648 by omega), nI_o (show p < 400 by omega) (by omega), if_false]
    rw [(h3 p z).1]
  · rw [if_pos (nI_lle (by omega) hp), if_neg z]
theorem c_next0 : ∀ n (M : dp_M) (p : Nat), L - p ≤ n → p ≤ L → TxC M t L → dp_I M 68 9 = nI p → D_X7_next_0 xs xl (d + 1) M = iR (sgC t L (sk t L p)) (plc M (sk t L p)) := by
  intro n
  induction n with
  | zero =>
    intro M p hn hp h hpl
    have h' := h
    obtain ⟨h1, h2, h3⟩ := h
    rw [D_X7_next_0_eq, h1, hpl, if_pos (nI_lle (by omega) (by omega)), if_pos (nI_lle (by omega) (by omega)), sk_e (by omega), plc_self hpl]
    unfold sgC
    rw [if_neg (show ¬ p < L by omega)]
  | succ n ih =>
    intro M p hn hp h hpl
    have h' := h
    obtain ⟨h1, h2, h3⟩ := h
    rw [D_X7_next_0_eq, h1, hpl]
    by_cases z : p < L
    · rw [if_neg (nI_nge z (by omega))]
      simp only [nI_cl (show p < 2147483648 by omega), nI_o (show p < 400 by omega) (by omega), if_false, dp_w, nI_1]
      rw [(h3 p z).1]
      by_cases y : t p = 32
      · rw [if_pos y, sk_s z y]
        have e : dp_setI M 68 9 (nI (p + 1)) = plc M (p + 1) := rfl
        rw [e, ih _ (p + 1) (by omega) (by omega) h'.pl (plc_p _ _), plc_pl]
      · rw [if_neg y, if_neg (nI_nge z (by omega)), sk_e (fun q => y q.2), plc_self hpl]
        unfold sgC
        rw [if_pos z]
    · rw [if_pos (nI_lle (by omega) (by omega)), if_pos (nI_lle (by omega) (by omega)), sk_e (fun q => z q.1), plc_self hpl]
      unfold sgC
      rw [if_neg z]
theorem c_next {p : Nat} (h : TxC M t L) (hp : p ≤ L) (hpl : dp_I M 68 9 = nI p) : dp_den true xs xl (d + 2) 148 [.ref 68] M = iR (sgC t L (sk t L p)) (plc M (sk t L p)) := by
  rw [D_X7_next_0_den]; exact c_next0 _ M p (Nat.le_refl _) hp h hpl
theorem c_ref {v : Int32} (hb : dp_I M 68 2 = -1) : dp_den true xs xl (d + 1) 146 [.ref 68, .int v] M = iR (-1) (dp_setI M 68 2 v) := by
  rw [D_X7_refuse_0_den, D_X7_refuse_0_eq, if_pos hb]; rfl
theorem BdC.mk' {M' : dp_M} {b : Nat} (h : FrC M M') : BdC M (dp_setI M' 68 2 (nI b)) b := ⟨h.s 2 (by decide) _, by rw [gII, if_pos rfl, uI_s]⟩
theorem sgC_at {p : Nat} {c : Int32} (hc : c ≠ 0) : sgC t L p = c ↔ isAt t L p c := by
  unfold sgC
  by_cases z : p < L
  · rw [if_pos z]; exact ⟨fun q => ⟨z, q⟩, fun q => q.2⟩
  · rw [if_neg z]; exact ⟨fun q => absurd q.symm hc, fun q => absurd q.1 z⟩
theorem c_pass {p : Nat} {c : Int32} (h : TxC M t L) (hp : p ≤ L) (hpl : dp_I M 68 9 = nI p) (hb : dp_I M 68 2 = -1) (hc : c ≠ 0) : (∀ q, pss t L c p = .inr q → dp_den true xs xl (d + 3) 149 [.ref 68, .int c] M = iR 1 (plc M q) ∧ q ≤ L ∧ p < q) ∧ (∀ b, pss t L c p = .inl b → ∃ M', dp_den true xs xl (d + 3) 149 [.ref 68, .int c] M = iR 0 M' ∧ BdC M M' b) := by
  have e : dp_den true xs xl (d + 3) 149 [.ref 68, .int c] M = if isAt t L (sk t L p) c then iR 1 (plc M (sk t L p + 1)) else iR 0 (dp_setI (plc M (sk t L p)) 68 2 (nI (sk t L p))) := by
    rw [D_X7_pass_0_den, D_X7_pass_0_eq, c_next h hp hpl, rb_bi]
    by_cases z : isAt t L (sk t L p) c
    · rw [if_pos ((sgC_at hc).mpr z), if_pos z, plc_p]
      simp only [dp_w, nI_1]
      rw [show dp_setI (plc M (sk t L p)) 68 9 (nI (sk t L p + 1)) = plc (plc M (sk t L p)) (sk t L p + 1) from rfl, plc_pl]
    · rw [if_neg (fun q => z ((sgC_at hc).mp q)), if_neg z, plc_p, c_ref (by rw [plc_o _ _ _ (by decide)]; exact hb), rb_bi]
  unfold pss
  constructor
  · intro q hq
    by_cases z : isAt t L (sk t L p) c
    · rw [if_pos z] at hq e
      injection hq with hq
      subst hq
      have := sk_ge (t := t) (L := L) (p := p)
      have := z.1
      exact ⟨e, by omega, by omega⟩
    · rw [if_neg z] at hq; cases hq
  · intro b hq
    by_cases z : isAt t L (sk t L p) c
    · rw [if_pos z] at hq; cases hq
    · rw [if_neg z] at hq e
      injection hq with hq
      subst hq
      exact ⟨_, e, BdC.mk' FrC.pl⟩
theorem c_isD {v : Int32} : dp_den true xs xl (d + 1) 157 [.int v] M = iR (bI (isDg v)) M := by
  rw [D_X7_isDigit_0_den, D_X7_isDigit_0_eq]
  by_cases z : v < 48
  · rw [if_pos z, bI_f (fun q => q.1 z)]
  · rw [if_neg z]
    by_cases y : 57 < v
    · rw [if_pos y, bI_f (fun q => q.2 y)]
    · rw [if_neg y, bI_t ⟨z, y⟩]
theorem c_run {p : Nat} (h : TxC M t L) (hp : p ≤ L + 1) : dp_den true xs xl (d + 2) 158 [.ref 68, .int (nI p)] M = iR (nI (dgt t L p)) M := by
  have h' := h
  obtain ⟨h1, h2, h3⟩ := h
  rw [D_X7_runOfDigits_0_den, D_X7_runOfDigits_0_eq]
  simp only [dp_w]
  refine lpb (F := fun (_ : Nat) n => D_X7_runOfDigits_2 xs xl (d + 1) (nI p) (nI n) M) (s := fun _ => 0) (N := dgt t L p) ?_ (fun n hn hr => ?_)
  · (try dsimp only)
    rw [D_X7_runOfDigits_2_eq, h1, nI_add]
    have o := dgt_out (t := t) (L := L) (p := p)
    by_cases z : p + dgt t L p < L
    · rw [if_neg (nI_nge z (by omega))]
      simp only [nI_cl (show p + dgt t L p < 2147483648 by omega), nI_o (show p + dgt t L p < 400 by omega) (by omega), if_false]
      rw [(h3 _ z).1]
      by_cases y : t (p + dgt t L p) < 48
      · rw [if_pos y]
      · rw [if_neg y]
        by_cases x : 57 < t (p + dgt t L p)
        · rw [if_pos x]
        · exact (o ⟨z, y, x⟩).elim
    · have : p + dgt t L p ≤ 402 := by
        by_cases y : p ≤ L
        · have := dgt_le (t := t) y; omega
        · have : dgt t L p = 0 := by unfold dgt; exact rnN_e (by omega) _
          omega
      rw [if_pos (nI_lle (by omega) (by omega))]
  · (try dsimp only at hr); (try dsimp only)
    obtain ⟨q1, q2⟩ := dgt_in hn
    rw [D_X7_runOfDigits_2_eq, h1, nI_add, if_neg (nI_nge q1 (by omega))]
    simp only [nI_cl (show p + n < 2147483648 by omega), nI_o (show p + n < 400 by omega) (by omega), if_false, dp_w, nI_1]
    rw [(h3 _ q1).1, if_neg q2.1, if_neg q2.2]; exact hr
theorem c_dig {p n : Nat} (h : TxC M t L) (hd : ∀ i, i < n → p + i < L ∧ isDg (t (p + i))) (hn : n ≤ 400) : dp_den true xs xl (d + 2) 161 [.ref 68, .int (nI p), .int (nI n)] M = iR (nI (vN t p n)) M := by
  have h' := h
  obtain ⟨h1, h2, h3⟩ := h
  rw [D_X7_digits_0_den, D_X7_digits_0_eq]
  simp only [dp_w]
  refine lpb (F := fun (v : Int32) i => D_X7_digits_5 xs xl (d + 1) (nI p) (nI n) v (nI (p + i)) M) (s := fun i => nI (vN t p i)) (N := n) ?_ (fun i hi hr => ?_)
  · (try dsimp only)
    rw [D_X7_digits_5_eq, nI_add, if_pos (Int32.le_refl _)]
  · (try dsimp only at hr); (try dsimp only)
    have q := (hd i hi).1
    have qn := (hd (n - 1) (by omega)).1
    rw [D_X7_digits_5_eq, nI_add, if_neg (nI_nge (show p + i < p + n by omega) (by omega)), h1, if_neg (nI_nge q (by omega))]
    simp only [nI_cl (show p + i < 2147483648 by omega), nI_o (show p + i < 400 by omega) (by omega), if_false, dp_w, nI_1]
    rw [(h3 _ q).1, vN_s (fun j hj => (hd j (by omega)).2)]; exact hr
theorem c_whole {p : Nat} (h : TxC M t L) (hp : p ≤ L) (hpl : dp_I M 68 9 = nI p) (hb : dp_I M 68 2 = -1) : (∀ x q, rWh t L p = .inr (x, q) → dp_den true xs xl (d + 3) 165 [.ref 68] M = iR (nI x) (plc M q) ∧ q ≤ L ∧ p < q ∧ x < 1000000) ∧ (∀ b, rWh t L p = .inl b → ∃ M', dp_den true xs xl (d + 3) 165 [.ref 68] M = iR (-1) M' ∧ BdC M M' b) := by
  have h2 := h.2.1
  have sl := sk_le (t := t) hp
  have sg := sk_ge (t := t) (L := L) (p := p)
  have dl := dgt_le (t := t) sl
  have e : dp_den true xs xl (d + 3) 165 [.ref 68] M = if 1 ≤ dgt t L (sk t L p) ∧ dgt t L (sk t L p) ≤ 6 then iR (nI (vN t (sk t L p) (dgt t L (sk t L p)))) (plc M (sk t L p + dgt t L (sk t L p))) else iR (-1) (dp_setI (plc M (sk t L p)) 68 2 (nI (sk t L p))) := by
    have ndl : dgt t L (sk t L p) ≤ 400 := by omega
    rw [D_X7_readWhole_0_den, D_X7_readWhole_0_eq, c_next h hp hpl, rb_bi]
    simp only [dp_w]
    rw [plc_p, c_run h.pl (by omega), rb_bi]
    by_cases z : 1 ≤ dgt t L (sk t L p)
    · rw [if_neg (show ¬ nI (dgt t L (sk t L p)) < (1 : Int32) from nI_nlt (a := dgt t L (sk t L p)) (b := 1) (by omega) (by omega))]
      by_cases y : dgt t L (sk t L p) ≤ 6
      · rw [if_pos (show nI (dgt t L (sk t L p)) ≤ (6 : Int32) from nI_le (a := dgt t L (sk t L p)) (b := 6) (by omega) (by omega)), if_pos ⟨z, y⟩, nI_add]
        rw [show dp_setI (plc M (sk t L p)) 68 9 (nI (sk t L p + dgt t L (sk t L p))) = plc (plc M (sk t L p)) (sk t L p + dgt t L (sk t L p)) from rfl, plc_pl, c_dig h.pl (fun i hi => dgt_in hi) ndl, rb_bi]
      · rw [if_neg (show ¬ nI (dgt t L (sk t L p)) ≤ (6 : Int32) from nI_ge (a := 6) (b := dgt t L (sk t L p)) (by omega) (by omega)), if_neg (fun q => y q.2), c_ref (by rw [plc_o _ _ _ (by decide)]; exact hb), rb_bi]
    · rw [if_pos (show nI (dgt t L (sk t L p)) < (1 : Int32) from nI_lt (a := dgt t L (sk t L p)) (b := 1) (by omega) (by omega)), if_neg (fun q => z q.1), c_ref (by rw [plc_o _ _ _ (by decide)]; exact hb), rb_bi]
  unfold rWh
  constructor
  · intro x q hq
    by_cases z : 1 ≤ dgt t L (sk t L p) ∧ dgt t L (sk t L p) ≤ 6
    · rw [if_pos z] at hq e
      injection hq with hq
      injection hq with q1 q2
      subst q1 q2
      refine ⟨e, by omega, by omega, ?_⟩
      have := vN_lt (t := t) (p := sk t L p) (dgt t L (sk t L p)) (fun i hi => (dgt_in hi).2)
      exact Nat.lt_of_lt_of_le this (Nat.pow_le_pow_right (n := 10) (by omega) z.2)
    · rw [if_neg z] at hq; cases hq
  · intro b hq
    by_cases z : 1 ≤ dgt t L (sk t L p) ∧ dgt t L (sk t L p) ≤ 6
    · rw [if_pos z] at hq; cases hq
    · rw [if_neg z] at hq e
      injection hq with hq
      subst hq
      exact ⟨_, e, BdC.mk' FrC.pl⟩
end RC
