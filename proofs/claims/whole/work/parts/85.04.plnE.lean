-- needs: 71 72 73 74 75 76
/-! PLAN: what follows from a state, and the class's turns -/
/-- the box that is taken from f; the box j of those aside -/
def asd (c : Nat) : Nat → Nat → Option Nat
  | 0, _ => none
  | k + 1, j => match asd c k j with
    | some x => some x
    | none => if pl c k = 13 ∧ ct (fun i => decide (pl c i = 13)) k = j then some k else none
def tkn (c n f : Nat) : Option Nat := if f < 3 then (if hgt c n f = 0 then none else some (tpp c n f)) else asd c n (f - 3)
/-- where box k goes -/
def mvt (c n T : Nat) (l ah : Nat → Int32) (k f t : Nat) : Option Nat :=
  if t < 3 then (if t ≠ f ∧ hgt c n t < T then some (t * 4 + hgt c n t) else none)
  else if t = 3 then (if f < 3 ∧ ¬ l k = 0 ∧ (ah k &&& (nI (ash c n) ^^^ (-1 : Int32))) = 0 then some 12 else none)
  else if f < 3 then some 13 else none
def qst (c n T : Nat) (l ah : Nat → Int32) (i f t : Nat) (Q : List qE) : List qE :=
  match tkn c n f with
  | none => Q
  | some k => match mvt c n T l ah k f t with
    | none => Q
    | some p => qadd Q (pu c k p, i, k * 64 + f * 8 + t)
def qsT (c n T : Nat) (l ah : Nat → Int32) (i f : Nat) : Nat → List qE → List qE
  | 0, Q => Q
  | t + 1, Q => qst c n T l ah i f t (qsT c n T l ah i f t Q)
def qsF (c n T : Nat) (l ah : Nat → Int32) (i : Nat) : Nat → List qE → List qE
  | 0, Q => Q
  | f + 1, Q => qsT c n T l ah i f 5 (qsF c n T l ah i f Q)
theorem qst_n {c n T : Nat} {l ah : Nat → Int32} {i f t : Nat} {Q : List qE} (h : tkn c n f = none) : qst c n T l ah i f t Q = Q := by unfold qst; rw [h]
theorem qst_m {c n T : Nat} {l ah : Nat → Int32} {i f t k : Nat} {Q : List qE} (h : tkn c n f = some k) (h' : mvt c n T l ah k f t = none) : qst c n T l ah i f t Q = Q := by unfold qst; rw [h]; dsimp only; rw [h']
theorem qst_s {c n T : Nat} {l ah : Nat → Int32} {i f t k p : Nat} {Q : List qE} (h : tkn c n f = some k) (h' : mvt c n T l ah k f t = some p) : qst c n T l ah i f t Q = qadd Q (pu c k p, i, k * 64 + f * 8 + t) := by unfold qst; rw [h]; dsimp only; rw [h']
theorem qsT_n {c n T : Nat} {l ah : Nat → Int32} {i f : Nat} {Q : List qE} (h : tkn c n f = none) : ∀ t, qsT c n T l ah i f t Q = Q
  | 0 => rfl
  | t + 1 => by rw [qsT, qst_n h]; exact qsT_n h t
/-- a predicate of queues that every turn keeps, and that bounds them -/
def QI (P : List qE → Prop) (c n T : Nat) (l ah : Nat → Int32) (i : Nat) : Prop :=
  (∀ Q, P Q → Q.length < 1300 ∧ i < Q.length ∧ (qat Q i).1 = c) ∧ ∀ Q f t, P Q → f < 7 → t < 5 → P (qst c n T l ah i f t Q)
def CX (M : dp_M) (c n T : Nat) (l ah : Nat → Int32) : Prop := dp_I M 14 12 = nI n ∧ dp_I M 14 13 = nI T ∧ dp_I M 21 = l ∧ dp_I M 22 = ah ∧ RdK M c n
theorem CX.off {M M' : dp_M} {c n T : Nat} {l ah : Nat → Int32} (h : CX M c n T l ah) (p : Pf [16, 17, 18, 19] [11, 15] M M') : CX M' c n T l ah := by
  obtain ⟨h1, h2, h3, h4, h5, h6, h7, h8⟩ := h
  refine ⟨by rw [p.2.2.2 12 (by decide)]; exact h1, by rw [p.2.2.2 13 (by decide)]; exact h2, by rw [p.row (by decide) (by decide) (by decide)]; exact h3, by rw [p.row (by decide) (by decide) (by decide)]; exact h4, fun i hi => ?_, fun s hs => ?_, fun s hs h => ?_, ?_⟩
  · rw [p.row (by decide) (by decide) (by decide)]; exact h5 i hi
  · rw [p.row (by decide) (by decide) (by decide)]; exact h6 s hs
  · rw [p.row (by decide) (by decide) (by decide)]; exact h7 s hs h
  · rw [p.2.2.2 14 (by decide)]; exact h8
section PnE
variable {xs : Nat → Int32} {xl d : Nat} {M : dp_M}
theorem c_rc1 {c n T i f t k p : Nat} {l ah : Nat → Int32} {Q : List qE} {P : List qE → Prop} (hn : n ≤ 4) (hP : QI P c n T l ah i) (hx : CX M c n T l ah) (h : CS M l n Q) (hq : P Q) (hf : f < 7) (ht : t < 5) (hk : k < 4) (hp : p < 16) (ek : tkn c n f = some k) (ep : mvt c n T l ah k f t = some p) :
    ∃ M', dp_den true xs xl (d + 2) 107 [.ref 14, .int (nI i), .int (nI k), .int (nI f), .int (nI t), .int (nI p)] M = vR M' ∧ CS M' l n (qst c n T l ah i f t Q) ∧ P (qst c n T l ah i f t Q) ∧ CX M' c n T l ah ∧ Pf [16, 17, 18, 19] [11, 15] M M' := by
  obtain ⟨a1, a2, a3⟩ := hP.1 Q hq
  obtain ⟨M', m1, m2, m3⟩ := c_reach (xs := xs) (xl := xl) (d := d) (n := n) (i := i) (k := k) (f := f) (t := t) (p := p) hn hx.1 hx.2.2.1 h a2 a1 hk hp
  refine ⟨M', m1, ?_, hP.2 Q f t hq hf ht, hx.off m3, m3⟩
  rw [qst_s ek ep, ← a3]; exact m2
theorem c_to {c n T i f k : Nat} {own : Int32} {l ah : Nat → Int32} {Q : List qE} {P : List qE → Prop} (hn : n ≤ 4) (hT : T ≤ 4) (hP : QI P c n T l ah i) (hx : CX M c n T l ah) (h : CS M l n Q) (hq : P Q) (hf : f < 7) (hk : k < 4) (ek : tkn c n f = some k) (ho : ∀ t, t < 3 → (nI t = own ↔ t = f)) :
    ∃ M', dp_den true xs xl (d + 3) 113 [.ref 14, .int (nI i), .int (nI k), .int (nI f), .int own] M = vR M' ∧ CS M' l n (qsT c n T l ah i f 3 Q) ∧ P (qsT c n T l ah i f 3 Q) ∧ CX M' c n T l ah ∧ Pf [16, 17, 18, 19] [11, 15] M M' := by
  have key := lpi (F := fun t N => D_X4_goToStacks_3 xs xl (d + 2) (nI i) (nI k) (nI f) own (nI t) N) (a := 0) (N := 3)
    (Inv := fun t N => CS N l n (qsT c n T l ah i f t Q) ∧ P (qsT c n T l ah i f t Q) ∧ CX N c n T l ah ∧ Pf [16, 17, 18, 19] [11, 15] M N)
    (Post := fun r => ∃ M', r = (.inl none, M') ∧ CS M' l n (qsT c n T l ah i f 3 Q) ∧ P (qsT c n T l ah i f 3 Q) ∧ CX M' c n T l ah ∧ Pf [16, 17, 18, 19] [11, 15] M M') (Nat.zero_le _) ?_ ?_ M ?_
  · obtain ⟨r, hr, M', rfl, q⟩ := key
    refine ⟨M', ?_, q⟩
    rw [D_X4_goToStacks_0_den, D_X4_goToStacks_0_eq]
    exact hr
  · rintro N ⟨h1, h2⟩
    refine ⟨(.inl none, N), ?_, N, rfl, h1, h2⟩
    (try dsimp only)
    rw [D_X4_goToStacks_3_eq, if_pos (show (3 : Int32) ≤ nI 3 by decide)]
  · rintro t N - ht ⟨h1, h2, h3, h4⟩
    have hh := hgt_le c n t
    have e23 := h3.2.2.2.2.2.1 t ht
    by_cases z : t = f
    · refine ⟨N, ⟨?_, ?_, h3, h4⟩, fun r hr => ?_⟩
      · rw [qsT, qst_m ek (by unfold mvt; rw [if_pos ht, if_neg (fun q => q.1 z)])]; exact h1
      · rw [qsT, qst_m ek (by unfold mvt; rw [if_pos ht, if_neg (fun q => q.1 z)])]; exact h2
      · (try dsimp only at hr); (try dsimp only)
        rw [D_X4_goToStacks_3_eq, if_neg (show ¬ (3 : Int32) ≤ nI t from nI_nge (n := 3) ht (by omega)), if_pos ((ho t ht).mpr z)]
        simp only [dp_w, nI_1]; exact hr
    by_cases y : hgt c n t < T
    case neg =>
      refine ⟨N, ⟨?_, ?_, h3, h4⟩, fun r hr => ?_⟩
      · rw [qsT, qst_m ek (by unfold mvt; rw [if_pos ht, if_neg (fun q => y q.2)])]; exact h1
      · rw [qsT, qst_m ek (by unfold mvt; rw [if_pos ht, if_neg (fun q => y q.2)])]; exact h2
      · (try dsimp only at hr); (try dsimp only)
        rw [D_X4_goToStacks_3_eq, if_neg (show ¬ (3 : Int32) ≤ nI t from nI_nge (n := 3) ht (by omega)), if_neg (fun q => z ((ho t ht).mp q))]
        simp only [dp_w, nI_cl (show t < 2147483648 by omega), nI_o (show t < 3 by omega) (by omega), if_false, nI_1]
        rw [e23, h3.2.1, if_pos (nI_lle (by omega) (by omega))]; exact hr
    obtain ⟨M', m1, m2, m3, m4, m5⟩ := c_rc1 (xs := xs) (xl := xl) (d := d) (t := t) (p := t * 4 + hgt c n t) hn hP h3 h1 h2 hf (by omega) hk (by omega) ek (by unfold mvt; rw [if_pos ht, if_pos ⟨z, y⟩])
    refine ⟨M', ⟨m2, m3, m4, h4.tr m5⟩, fun r hr => ?_⟩
    (try dsimp only at hr); (try dsimp only)
    rw [D_X4_goToStacks_3_eq, if_neg (show ¬ (3 : Int32) ≤ nI t from nI_nge (n := 3) ht (by omega)), if_neg (fun q => z ((ho t ht).mp q))]
    simp only [dp_w, nI_cl (show t < 2147483648 by omega), nI_o (show t < 3 by omega) (by omega), if_false, nI_1]
    rw [e23, h3.2.1, if_neg (nI_nge y (by omega)), D_X4_placeOf_0_den, D_X4_placeOf_0_eq, rb_bi, show (4 : Int32) = nI 4 from rfl, pk_mul, nI_add, m1, rb_bv]
    exact hr
  · exact ⟨h, hq, hx, Pf.r _ _ _⟩
end PnE
