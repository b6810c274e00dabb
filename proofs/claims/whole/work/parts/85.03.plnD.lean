-- needs: 71 72 73 74 75 76
/-! PLAN: the queue of states, and the class's reach -/
abbrev qE := Nat × Nat × Nat
def qat (Q : List qE) (j : Nat) : qE := Q.getD j (0, 0, 0)
def qhas (Q : List qE) (c : Nat) : Bool := Q.any (fun e => decide (e.1 = c))
def qadd (Q : List qE) (e : qE) : List qE := if qhas Q e.1 = true then Q else Q ++ [e]
def qfe (l : Nat → Int32) (n : Nat) (Q : List qE) : Nat := Q.findIdx (fun e => eok l n e.1)
theorem qat_l {Q : List qE} {e : qE} {j : Nat} (h : j < Q.length) : qat (Q ++ [e]) j = qat Q j := by
  unfold qat
  rw [List.getD_eq_getElem?_getD, List.getD_eq_getElem?_getD, List.getElem?_append_left h]
theorem qat_r {Q : List qE} {e : qE} : qat (Q ++ [e]) Q.length = e := by
  unfold qat
  rw [List.getD_eq_getElem?_getD, List.getElem?_append_right (Nat.le_refl _), Nat.sub_self]; rfl
theorem qhas_t {Q : List qE} {c : Nat} : qhas Q c = true ↔ ∃ j, j < Q.length ∧ (qat Q j).1 = c := by
  unfold qhas qat
  rw [List.any_eq_true]
  constructor
  · rintro ⟨e, he, h⟩
    obtain ⟨j, hj, rfl⟩ := List.getElem_of_mem he
    exact ⟨j, hj, by rw [List.getD_eq_getElem?_getD, List.getElem?_eq_getElem hj]; exact of_decide_eq_true h⟩
  · rintro ⟨j, hj, h⟩
    rw [List.getD_eq_getElem?_getD, List.getElem?_eq_getElem hj] at h
    exact ⟨Q[j], List.getElem_mem hj, decide_eq_true h⟩
theorem qhas_a {Q : List qE} {e : qE} {c : Nat} : qhas (Q ++ [e]) c = true ↔ qhas Q c = true ∨ e.1 = c := by
  unfold qhas
  rw [List.any_append, Bool.or_eq_true]
  simp only [List.any_cons, List.any_nil, Bool.or_false, decide_eq_true_iff]
theorem qfe_le (l : Nat → Int32) (n : Nat) (Q : List qE) : qfe l n Q ≤ Q.length := List.findIdx_le_length
theorem qfe_a {l : Nat → Int32} {n : Nat} {Q : List qE} {e : qE} : qfe l n (Q ++ [e]) = if qfe l n Q < Q.length then qfe l n Q else if eok l n e.1 = true then Q.length else Q.length + 1 := by
  unfold qfe
  rw [List.findIdx_append]
  by_cases z : List.findIdx (fun e => eok l n e.1) Q < Q.length
  · rw [if_pos z, if_pos z]
  · rw [if_neg z, if_neg z, List.findIdx_singleton]
    by_cases y : eok l n e.1 = true
    · rw [if_pos y, if_pos y, Nat.zero_add]
    · rw [if_neg y, if_neg y, Nat.add_comm]
/-- no number of a round lies beyond the round -/
def SB (M : dp_M) : Prop := ∃ r : Nat, (r < 2147483648 ∧ dp_I M 14 10 = nI r) ∧ ∀ a, ∃ x : Nat, x ≤ r ∧ dp_I M 16 a = nI x
/-- the class holds the queue up to its first end -/
def CS (M : dp_M) (l : Nat → Int32) (n : Nat) (Q : List qE) : Prop :=
  dp_I M 14 11 = nI (min (qfe l n Q + 1) Q.length) ∧ dp_I M 14 15 = (if qfe l n Q < Q.length then nI (qfe l n Q) else -1) ∧
  (∀ j, j < min (qfe l n Q + 1) Q.length → dp_I M 17 j = nI (qat Q j).1 ∧ dp_I M 18 j = (if j = 0 then -1 else nI (qat Q j).2.1) ∧ (0 < j → dp_I M 19 j = nI (qat Q j).2.2)) ∧
  (Q.length ≤ qfe l n Q → ∀ c, c < 65536 → (dp_I M 16 c = dp_I M 14 10 ↔ qhas Q c = true)) ∧ (∀ j, j < Q.length → (qat Q j).1 < 65536) ∧ SB M
theorem q_mv {k f t : Nat} : nI k * (64 : Int32) + nI f * (8 : Int32) + nI t = nI (k * 64 + f * 8 + t) := by
  rw [show (64 : Int32) = nI 64 from rfl, show (8 : Int32) = nI 8 from rfl, pk_mul, pk_mul, nI_add, nI_add]
section PnD
variable {xs : Nat → Int32} {xl d : Nat} {M : dp_M}
theorem c_reach {n i k f t p : Nat} {l : Nat → Int32} {Q : List qE} (hn : n ≤ 4) (hb : dp_I M 14 12 = nI n) (hl : dp_I M 21 = l) (h : CS M l n Q) (hi : i < Q.length) (hL : Q.length < 1300) (hk : k < 4) (hp : p < 16) : ∃ M', dp_den true xs xl (d + 2) 107 [.ref 14, .int (nI i), .int (nI k), .int (nI f), .int (nI t), .int (nI p)] M = vR M' ∧
    CS M' l n (qadd Q (pu (qat Q i).1 k p, i, k * 64 + f * 8 + t)) ∧ Pf [16, 17, 18, 19] [11, 15] M M' := by
  have h0 := h
  obtain ⟨h1, h2, h3, h4, h5, h6⟩ := h
  have hc := h5 i hi
  have hu := pu_lt hc hk hp
  obtain ⟨c, ec⟩ : ∃ c, c = pu (qat Q i).1 k p := ⟨_, rfl⟩
  rw [← ec] at hu ⊢
  have hle := qfe_le l n Q
  by_cases g : qfe l n Q < Q.length
  · refine ⟨M, ?_, ?_, Pf.r _ _ _⟩
    · rw [D_X4_reach_0_den, D_X4_reach_0_eq]
      simp only [dp_w, nI_cl (show i < 2147483648 by omega), nI_o (show i < 1300 by omega) (by omega), if_false]
      rw [h2, if_pos g, if_neg (m1_ne (by omega))]
    · unfold qadd
      split
      · exact h0
      · have e : qfe l n (Q ++ [(c, i, k * 64 + f * 8 + t)]) = qfe l n Q := by rw [qfe_a, if_pos g]
        have el : (Q ++ [(c, i, k * 64 + f * 8 + t)]).length = Q.length + 1 := by rw [List.length_append]; rfl
        refine ⟨?_, ?_, fun j hj => ?_, fun q => ?_, fun j hj => ?_, h6⟩
        · rw [e, el, h1]; congr 1; omega
        · rw [e, el, h2, if_pos g, if_pos (by omega)]
        · rw [e, el] at hj
          rw [qat_l (by omega)]; exact h3 j (by omega)
        · rw [e, el] at q; omega
        · rw [el] at hj
          by_cases z : j < Q.length
          · rw [qat_l z]; exact h5 j z
          · rw [show j = Q.length by omega, qat_r]; exact hu
  have eg : qfe l n Q = Q.length := by omega
  rw [eg, Nat.min_eq_right (Nat.le_succ _)] at h1 h3
  rw [if_neg g] at h2
  have h4' := h4 (by omega) c hu
  by_cases z : qhas Q c = true
  · refine ⟨M, ?_, ?_, Pf.r _ _ _⟩
    · rw [D_X4_reach_0_den, D_X4_reach_0_eq]
      simp only [dp_w, nI_cl (show i < 2147483648 by omega), nI_o (show i < 1300 by omega) (by omega), if_false]
      rw [h2, if_pos rfl, (h3 i hi).1, c_pu hc hk hp, ← ec, if_neg (nI_inn (by omega) (by omega)), nI_cl (by omega), if_pos (h4'.mpr z)]
    · unfold qadd
      rw [if_pos z]; exact h0
  obtain ⟨e, he⟩ : ∃ e : qE, e = (c, i, k * 64 + f * 8 + t) := ⟨_, rfl⟩
  have el : (Q ++ [e]).length = Q.length + 1 := by rw [List.length_append]; rfl
  obtain ⟨M5, e5⟩ : ∃ M5, M5 = dp_setI (dp_setI (dp_setI (dp_setI M 16 c (dp_I M 14 10)) 17 Q.length (nI c)) 18 Q.length (nI i)) 19 Q.length (nI (k * 64 + f * 8 + t)) := ⟨_, rfl⟩
  have p5 : Pf [16, 17, 18, 19] [11, 15] M M5 := by
    rw [e5]
    exact ((((Pf.r _ _ M).I 16 (by decide) _ _).I 17 (by decide) _ _).I 18 (by decide) _ _).I 19 (by decide) _ _
  have f5 : ∀ j, dp_I M5 14 j = dp_I M 14 j := fun j => by rw [e5, gII, if_neg (by decide), gII, if_neg (by decide), gII, if_neg (by decide), gII, if_neg (by decide)]
  have r16 : dp_I M5 16 = uI (dp_I M 16) c (dp_I M 14 10) := by rw [e5, gII, if_neg (by decide), gII, if_neg (by decide), gII, if_neg (by decide), gII, if_pos rfl]
  have r17 : dp_I M5 17 = uI (dp_I M 17) Q.length (nI c) := by rw [e5, gII, if_neg (by decide), gII, if_neg (by decide), gII, if_pos rfl, gII, if_neg (by decide)]
  have r18 : dp_I M5 18 = uI (dp_I M 18) Q.length (nI i) := by rw [e5, gII, if_neg (by decide), gII, if_pos rfl, gII, if_neg (by decide), gII, if_neg (by decide)]
  have r19 : dp_I M5 19 = uI (dp_I M 19) Q.length (nI (k * 64 + f * 8 + t)) := by rw [e5, gII, if_pos rfl, gII, if_neg (by decide), gII, if_neg (by decide), gII, if_neg (by decide)]
  have en := c_end (xs := xs) (xl := xl) (d := d) (M := M5) (n := n) (c := c) hn (by rw [f5]; exact hb) hu
  rw [p5.row (by decide) (by decide) (by decide), hl] at en
  have go : ∀ M', (if bI (eok l n c = true) = 0 then vR (dp_setI M5 14 11 (dp_I M5 14 11 + 1)) else vR (dp_setI (dp_setI M5 14 15 (dp_I M5 14 11)) 14 11 (dp_I (dp_setI M5 14 15 (dp_I M5 14 11)) 14 11 + 1))) = vR M' → dp_den true xs xl (d + 2) 107 [.ref 14, .int (nI i), .int (nI k), .int (nI f), .int (nI t), .int (nI p)] M = vR M' := fun M' hm => by
    rw [D_X4_reach_0_den, D_X4_reach_0_eq]
    simp only [dp_w, nI_cl (show i < 2147483648 by omega), nI_o (show i < 1300 by omega) (by omega), if_false]
    rw [h2, if_pos rfl, (h3 i hi).1, c_pu hc hk hp, ← ec, if_neg (nI_inn (by omega) (by omega)), nI_cl (by omega), if_neg (fun q => z (h4'.mp q)), h1, if_pos (show nI (Q.length) < (1300 : Int32) from nI_lt (a := Q.length) (b := 1300) (by omega) (by omega)), if_neg (show ¬ (nI c < 0 ∨ 65536 ≤ c) from fun q => by rw [nI_o hu (by omega)] at q; exact q)]
    have mm : ∀ (X : dp_M) (q a : Nat) (x : Int32), q ≠ 14 → dp_I (dp_setI X q a x) 14 = dp_I X 14 := fun X q a x hq => by rw [gII, if_neg (fun e => hq e.symm)]
    simp only [mm _ 16 _ _ (by decide), mm _ 17 _ _ (by decide), mm _ 18 _ _ (by decide), mm _ 19 _ _ (by decide), h1, nI_cl (show Q.length < 2147483648 by omega), nI_o (show Q.length < 1300 by omega) (by omega), if_false]
    rw [q_mv, ← e5, en, rb_bi, ← hm, f5 11, h1]
  have ne : qfe l n (Q ++ [e]) = if eok l n c = true then Q.length else Q.length + 1 := by rw [qfe_a, if_neg g, he]
  have rows : ∀ M', (∀ q, q ≠ 14 → dp_I M' q = dp_I M5 q) → dp_I M' 14 10 = dp_I M 14 10 → (∀ j, j < Q.length + 1 → dp_I M' 17 j = nI (qat (Q ++ [e]) j).1 ∧ dp_I M' 18 j = (if j = 0 then -1 else nI (qat (Q ++ [e]) j).2.1) ∧ (0 < j → dp_I M' 19 j = nI (qat (Q ++ [e]) j).2.2)) ∧
      (∀ a, a < 65536 → (dp_I M' 16 a = dp_I M' 14 10 ↔ qhas (Q ++ [e]) a = true)) ∧ (∀ j, j < Q.length + 1 → (qat (Q ++ [e]) j).1 < 65536) ∧ SB M' := fun M' hq h10 => by
    have sb : SB M' := by
      obtain ⟨r, b1, b2⟩ := h6
      refine ⟨r, ⟨b1.1, by rw [h10]; exact b1.2⟩, fun a => ?_⟩
      rw [hq 16 (by decide), r16]
      by_cases y : a = c
      · rw [y, uI_s]; exact ⟨r, Nat.le_refl _, b1.2⟩
      · rw [uI_n y]; exact b2 a
    rw [hq 17 (by decide), hq 18 (by decide), hq 19 (by decide), hq 16 (by decide), h10, r16, r17, r18, r19]
    refine ⟨fun j hj => ?_, fun a ha => ?_, fun j hj => ?_, sb⟩
    · by_cases y : j = Q.length
      · subst y
        rw [uI_s, uI_s, uI_s, qat_r, he, if_neg (by omega)]
        exact ⟨rfl, rfl, fun _ => rfl⟩
      · rw [uI_n y, uI_n y, uI_n y, qat_l (by omega)]; exact h3 j (by omega)
    · rw [qhas_a, he]
      by_cases y : a = c
      · rw [y, uI_s]; exact ⟨fun _ => Or.inr rfl, fun _ => rfl⟩
      · rw [uI_n y, h4 (by omega) a ha]
        exact ⟨fun q => Or.inl q, fun q => q.elim id (fun q => absurd q.symm y)⟩
    · by_cases y : j = Q.length
      · subst y
        rw [qat_r, he]; exact hu
      · rw [qat_l (by omega)]; exact h5 j (by omega)
  have qa : qadd Q (c, i, k * 64 + f * 8 + t) = Q ++ [e] := by unfold qadd; rw [if_neg z, he]
  rw [qa]
  by_cases y : eok l n c = true
  · rw [if_pos y] at ne
    refine ⟨_, go _ (by rw [bI, if_pos y]; exact if_neg (by decide)), ?_, (p5.F 15 (by decide) _).F 11 (by decide) _⟩
    obtain ⟨w1, w2, w3, w4⟩ := rows (dp_setI (dp_setI M5 14 15 (dp_I M5 14 11)) 14 11 (dp_I (dp_setI M5 14 15 (dp_I M5 14 11)) 14 11 + 1)) (fun q hq => by rw [gII, if_neg hq, gII, if_neg hq]) (by rw [gII, if_pos rfl, uI_n (by decide), gII, if_pos rfl, uI_n (by decide), f5])
    refine ⟨?_, ?_, fun j hj => ?_, fun q => ?_, fun j hj => ?_, w4⟩
    · rw [ne, el, Nat.min_self, gII, if_pos rfl, uI_s, gII, if_pos rfl, uI_n (by decide), f5, h1, nI_1]
    · rw [ne, el, if_pos (by omega), gII, if_pos rfl, uI_n (by decide), gII, if_pos rfl, uI_s, f5, h1]
    · rw [ne, el, Nat.min_self] at hj; exact w1 j hj
    · rw [ne, el] at q; omega
    · rw [el] at hj; exact w3 j hj
  · rw [if_neg y] at ne
    refine ⟨_, go _ (by rw [bI, if_neg y]; exact if_pos rfl), ?_, p5.F 11 (by decide) _⟩
    obtain ⟨w1, w2, w3, w4⟩ := rows (dp_setI M5 14 11 (dp_I M5 14 11 + 1)) (fun q hq => by rw [gII, if_neg hq]) (by rw [gII, if_pos rfl, uI_n (by decide), f5])
    refine ⟨?_, ?_, fun j hj => ?_, fun q => w2, fun j hj => ?_, w4⟩
    · rw [ne, el, Nat.min_eq_right (by omega), gII, if_pos rfl, uI_s, f5, h1, nI_1]
    · rw [ne, el, if_neg (by omega), gII, if_pos rfl, uI_n (by decide), f5, h2]
    · rw [ne, el, Nat.min_eq_right (by omega)] at hj; exact w1 j hj
    · rw [el] at hj; exact w3 j hj
end PnD
