-- needs: 71 72 73 74
/-! RATES: the class numbers the nodes -/
/-- trees one on the other -/
def SR (rd : Nat → Nd × Int32 × Int32) : List Nat → List Nd → List Nat → Prop
  | [], l, ix => l = [] ∧ ix = []
  | x :: S, l, ix => ∃ l1 i1 l2 i2, (∃ n, Rp rd n x l1 i1) ∧ SR rd S l2 i2 ∧ l = l1 ++ l2 ∧ ix = i1 ++ i2
theorem SR.len {rd : Nat → Nd × Int32 × Int32} : ∀ {S l ix}, SR rd S l ix → S.length ≤ l.length ∧ ix.length = l.length
  | [], l, ix, h => by rw [h.1, h.2]; exact ⟨Nat.le_refl _, rfl⟩
  | x :: S, l, ix, h => by
    obtain ⟨l1, i1, l2, i2, ⟨n, h1⟩, h2, e1, e2⟩ := h
    have := h1.len
    have := h2.len
    rw [e1, e2, List.length_cons, List.length_append, List.length_append]; omega
theorem SR.step {rd : Nat → Nd × Int32 × Int32} {x : Nat} {S : List Nat} {l : List Nd} {ix : List Nat} (h : SR rd (x :: S) l ix) : ∃ l' ix', l = (rd x).1 :: l' ∧ ix = x :: ix' ∧ ((isBn (rd x).1 = false ∧ (rd x).2 = (-1, -1) ∧ SR rd S l' ix') ∨ (isBn (rd x).1 = true ∧ ∃ x1 x2, (rd x).2 = (nI x1, nI x2) ∧ x1 ∈ ix' ∧ x2 ∈ ix' ∧ SR rd (x1 :: x2 :: S) l' ix')) := by
  obtain ⟨l1, i1, l2, i2, ⟨n, h1⟩, h2, e1, e2⟩ := h
  cases n with
  | zero => exact absurd h1 (by rw [Rp]; exact id)
  | succ n =>
    rcases h1 with ⟨a1, a2, a3, a4⟩ | ⟨a0, x1, x2, m1, m2, j1, j2, a1, a2, a3, a4, a5⟩
    · exact ⟨l2, i2, by rw [e1, a3]; rfl, by rw [e2, a4]; rfl, Or.inl ⟨a1, a2, h2⟩⟩
    · refine ⟨m1 ++ m2 ++ l2, j1 ++ j2 ++ i2, by rw [e1, a4]; rfl, by rw [e2, a5]; rfl, Or.inr ⟨a0, x1, x2, a1, ?_, ?_, ?_⟩⟩
      · exact List.mem_append_left _ (List.mem_append_left _ a2.hd)
      · exact List.mem_append_left _ (List.mem_append_right _ a3.hd)
      · exact ⟨m1, j1, m2 ++ l2, j2 ++ i2, ⟨n, a2⟩, ⟨m2, j2, l2, i2, ⟨n, a3⟩, h2, rfl, rfl⟩, by rw [List.append_assoc], by rw [List.append_assoc]⟩
def StK (row : Nat → Int32) (S : List Nat) : Prop := ∀ i, i < S.length → row (S.length - 1 - i) = nI (S.getD i 0)
theorem StK.push {row : Nat → Int32} {S : List Nat} (h : StK row S) (y : Nat) : StK (uI row S.length (nI y)) (y :: S) := fun i hi => by
  rw [List.length_cons] at hi ⊢
  cases i with
  | zero => rw [show S.length + 1 - 1 - 0 = S.length by omega, uI_s]; rfl
  | succ i =>
    rw [show S.length + 1 - 1 - (i + 1) = S.length - 1 - i by omega, uI_n (by omega), gcs]; exact h i (by omega)
theorem StK.pop {row : Nat → Int32} {S : List Nat} {x : Nat} (h : StK row (x :: S)) : row S.length = nI x ∧ StK row S := by
  refine ⟨?_, fun i hi => ?_⟩
  · have := h 0 (by rw [List.length_cons]; omega)
    rw [List.length_cons, show S.length + 1 - 1 - 0 = S.length by omega] at this; exact this
  · have := h (i + 1) (by rw [List.length_cons]; omega)
    rw [List.length_cons, show S.length + 1 - 1 - (i + 1) = S.length - 1 - i by omega, gcs] at this; exact this
section RX
variable {xs : Nat → Int32} {xl d : Nat} {M : dp_M}
theorem c_push {y h : Nat} (hh : dp_I M 68 13 = nI h) (h8 : h < 840) : dp_den true xs xl (d + 1) 171 [.ref 68, .int (nI y)] M = vR (dp_setI (dp_setI M 74 h (nI y)) 68 13 (nI (h + 1))) := by
  rw [D_X7_push_0_den, D_X7_push_0_eq, hh, show Int32.ofNat 840 = nI 840 from rfl, if_neg (nI_nge h8 (by omega))]
  simp only [nI_cl (show h < 2147483648 by omega), nI_o (show h < 840 by omega) (by omega), if_false, dp_w, gII, Nat.reduceEqDiff, hh, nI_1]
theorem c_pop {h : Nat} (hh : dp_I M 68 13 = nI (h + 1)) (h8 : h < 840) : dp_den true xs xl (d + 1) 172 [.ref 68] M = iR (dp_I M 74 h) (dp_setI M 68 13 (nI h)) := by
  rw [D_X7_pop_0_den, D_X7_pop_0_eq, hh, nI_pred]
  have e : dp_I (dp_setI M 68 13 (nI h)) 68 13 = nI h := by rw [gII, if_pos rfl, uI_s]
  simp only [dp_w, e, nI_cl (show h < 2147483648 by omega), nI_o (show h < 840 by omega) (by omega), if_false]
  rw [gII, if_neg (by decide)]
/-- only the stack and the numbers -/
def FrN (M M' : dp_M) : Prop := Off [68, 73, 74] [] M M' ∧ Cst 0 0 M M' ∧ ∀ i, i ≠ 13 → dp_I M' 68 i = dp_I M 68 i
theorem FrN.tr {M' M'' : dp_M} (h : FrN M M') (h' : FrN M' M'') : FrN M M'' := ⟨h.1.tr h'.1, ⟨by have := h.2.1.1; have := h'.2.1.1; omega, by have := h.2.1.2; have := h'.2.1.2; omega⟩, fun i hi => by rw [h'.2.2 i hi, h.2.2 i hi]⟩
theorem c_num {C : Nat} {v1 : Int32} {F S0 : Nat → Int32} : ∀ (l : List Nd) (S : List Nat) (ix pre : List Nat) (N : dp_M), SR (rdF F S0) S l ix → (pre ++ ix).Nodup → (∀ x, x ∈ pre ++ ix → x < 60) → pre.length + l.length = C → C ≤ 60 → dp_I N 71 = F → dp_I N 68 10 = nI C → dp_I N 68 13 = nI S.length → StK (dp_I N 74) S → (∀ i, i < pre.length → dp_I N 73 (pre.getD i 0) = nI i) →
    ∃ N', D_X7_numberFrom_12 xs xl (d + 1) v1 (nI pre.length) N = vR N' ∧ FrN N N' ∧ (∀ i, i < C → dp_I N' 73 ((pre ++ ix).getD i 0) = nI i) := by
  intro l
  induction l with
  | nil =>
    intro S ix pre N hS hnd h60 hC hC6 hF h10 h13 hK hnum
    have hl := hS.len
    rw [List.length_nil] at hl hC
    have : ix = [] := List.length_eq_zero_iff.mp (by omega)
    subst this
    refine ⟨N, ?_, ⟨Off.rr _ _ N, Cst.r N, fun _ _ => rfl⟩, fun i hi => ?_⟩
    · rw [D_X7_numberFrom_12_eq, h10, if_pos (nI_lle (by omega) (by omega))]
    · rw [List.append_nil]; exact hnum i (by omega)
  | cons v l ih =>
    intro S ix pre N hS hnd h60 hC hC6 hF h10 h13 hK hnum
    have hl := hS.len
    rw [List.length_cons] at hl hC
    cases S with
    | nil => have := hS.1; cases this
    | cons x S =>
      obtain ⟨l', ix', e1, e2, e3⟩ := hS.step
      rw [List.cons_eq_cons] at e1
      obtain ⟨ev, el⟩ := e1
      subst el e2
      obtain ⟨k1, k2⟩ := hK.pop
      rw [List.length_cons] at h13 hl
      have x6 : x < 60 := h60 x (List.mem_append_right _ (List.mem_cons_self ..))
      obtain ⟨N1, hN1⟩ : ∃ N1, N1 = dp_setI (dp_setI N 68 13 (nI S.length)) 73 x (nI pre.length) := ⟨_, rfl⟩
      have f71 : dp_I N1 71 = F := by rw [hN1, gII, if_neg (by decide), gII, if_neg (by decide)]; exact hF
      have f74 : dp_I N1 74 = dp_I N 74 := by rw [hN1, gII, if_neg (by decide), gII, if_neg (by decide)]
      have f68 : dp_I N1 68 = uI (dp_I N 68) 13 (nI S.length) := by rw [hN1, gII, if_neg (by decide), gII, if_pos rfl]
      have f73 : dp_I N1 73 = uI (dp_I N 73) x (nI pre.length) := by rw [hN1, gII, if_pos rfl, gII, if_neg (by decide)]
      have fr1 : FrN N N1 := by
        rw [hN1]
        exact ⟨((Off.rr _ _ N).I 68 (by decide) _ _).I 73 (by decide) _ _, ⟨Nat.le_refl _, Nat.le_refl _⟩, fun i hi => by rw [gII, if_neg (by decide), gII, if_pos rfl, uI_n hi]⟩
      have i3 : nI x * (7 : Int32) + (3 : Int32) = nI (x * 7 + 3) := t_7 (k := 3)
      have i4 : nI x * (7 : Int32) + (4 : Int32) = nI (x * 7 + 4) := t_7 (k := 4)
      have pre1 : (pre ++ [x]).length = pre.length + 1 := by rw [List.length_append, List.length_singleton]
      have app : pre ++ [x] ++ ix' = pre ++ x :: ix' := by rw [List.append_assoc]; rfl
      have num1 : ∀ i, i < (pre ++ [x]).length → dp_I N1 73 ((pre ++ [x]).getD i 0) = nI i := fun i hi => by
        rw [pre1] at hi
        rw [f73]
        by_cases z : i = pre.length
        · subst z
          rw [gr' (Nat.le_refl _), Nat.sub_self, gc0, uI_s]
        · have hi' : i < pre.length := by omega
          have hne : pre.getD i 0 ≠ x := fun e => by
            rw [List.nodup_append] at hnd
            have hm : pre.getD i 0 ∈ pre := by
              rw [List.getD_eq_getElem?_getD, List.getElem?_eq_getElem hi']; exact List.getElem_mem hi'
            exact hnd.2.2 _ hm x (List.mem_cons_self ..) e
          rw [gl hi', uI_n hne]; exact hnum i hi'
      have st : D_X7_numberFrom_12 xs xl (d + 1) v1 (nI pre.length) N = (if F (x * 7 + 3) = (-1 : Int32) then (D_X7_numberFrom_12_a xs xl (d + 1) v1 (nI (pre.length + 1)) (nI x) N1) else (dp_bv (dp_den true xs xl (d + 1) 171 [.ref 68, .int (F (x * 7 + 4))] N1) (fun M5 => (dp_bv (dp_den true xs xl (d + 1) 171 [.ref 68, .int (dp_I M5 71 (x * 7 + 3))] M5) (fun M6 => D_X7_numberFrom_12_a xs xl (d + 1) v1 (nI (pre.length + 1)) (nI x) M6))))) := by
        rw [D_X7_numberFrom_12_eq, h10, if_neg (nI_nge (by omega) (by omega)), h13, if_neg (show ¬ nI (S.length + 1) ≤ 0 from nI_ge (a := 0) (b := S.length + 1) (by omega) (by omega)), c_pop h13 (by omega), rb_bi, k1]
        simp only [nI_cl (show x < 2147483648 by omega), nI_o (show x < 60 by omega) (by omega), if_false, dp_w, i3, i4, nI_cl (show x * 7 + 3 < 2147483648 by omega), nI_o (show x * 7 + 3 < 420 by omega) (by omega), nI_cl (show x * 7 + 4 < 2147483648 by omega), nI_o (show x * 7 + 4 < 420 by omega) (by omega), nI_1]
        rw [← hN1, f71]
      rcases e3 with ⟨b1, b2, b3⟩ | ⟨b1, x1, x2, b2, m1, m2, b3⟩
      · have l3 : F (x * 7 + 3) = -1 := congrArg Prod.fst b2
        rw [if_pos l3] at st
        obtain ⟨N', j1, j2, j3⟩ := ih S ix' (pre ++ [x]) N1 b3 (by rw [app]; exact hnd) (by rw [app]; exact h60) (by rw [pre1]; omega) hC6 f71 (by rw [f68, uI_n (by decide)]; exact h10) (by rw [f68, uI_s]) (by rw [f74]; exact k2) num1
        rw [pre1] at j1
        rw [app] at j3
        exact ⟨N', by rw [st]; exact D_X7_numberFrom_12_to_12_a _ _ _ j1, fr1.tr j2, j3⟩
      · have l3 : F (x * 7 + 3) = nI x1 := congrArg Prod.fst b2
        have l4 : F (x * 7 + 4) = nI x2 := congrArg Prod.snd b2
        have x16 : x1 < 60 := h60 x1 (List.mem_append_right _ (List.mem_cons_of_mem _ m1))
        rw [l3, if_neg (m1n (by omega)), l4] at st
        have hl' := b3.len
        rw [List.length_cons, List.length_cons] at hl'
        have p13 : dp_I N1 68 13 = nI S.length := by rw [f68, uI_s]
        obtain ⟨N2, hN2⟩ : ∃ N2, N2 = dp_setI (dp_setI N1 74 S.length (nI x2)) 68 13 (nI (S.length + 1)) := ⟨_, rfl⟩
        obtain ⟨N3, hN3⟩ : ∃ N3, N3 = dp_setI (dp_setI N2 74 (S.length + 1) (nI x1)) 68 13 (nI (S.length + 1 + 1)) := ⟨_, rfl⟩
        have p2 : dp_I N2 68 13 = nI (S.length + 1) := by rw [hN2, gII, if_pos rfl, uI_s]
        have g71 : dp_I N2 71 = F := by rw [hN2, gII, if_neg (by decide), gII, if_neg (by decide)]; exact f71
        have h71 : dp_I N3 71 = F := by rw [hN3, gII, if_neg (by decide), gII, if_neg (by decide)]; exact g71
        have h74 : dp_I N3 74 = uI (uI (dp_I N 74) S.length (nI x2)) (S.length + 1) (nI x1) := by rw [hN3, gII, if_neg (by decide), gII, if_pos rfl, hN2, gII, if_neg (by decide), gII, if_pos rfl, f74]
        have h73 : dp_I N3 73 = dp_I N1 73 := by rw [hN3, gII, if_neg (by decide), gII, if_neg (by decide), hN2, gII, if_neg (by decide), gII, if_neg (by decide)]
        have h68 : ∀ i, i ≠ 13 → dp_I N3 68 i = dp_I N 68 i := fun i hi => by rw [hN3, gII, if_pos rfl, uI_n hi, gII, if_neg (by decide), hN2, gII, if_pos rfl, uI_n hi, gII, if_neg (by decide), f68, uI_n hi]
        have fr3 : FrN N N3 := by
          refine ⟨?_, ?_, h68⟩
          · rw [hN3, hN2]; exact (((fr1.1.I 74 (by decide) _ _).I 68 (by decide) _ _).I 74 (by decide) _ _).I 68 (by decide) _ _
          · rw [hN3, hN2]; exact fr1.2.1
        have K3 : StK (dp_I N3 74) (x1 :: x2 :: S) := by
          rw [h74]
          have := (k2.push x2).push x1
          rw [List.length_cons] at this; exact this
        obtain ⟨N', j1, j2, j3⟩ := ih (x1 :: x2 :: S) ix' (pre ++ [x]) N3 b3 (by rw [app]; exact hnd) (by rw [app]; exact h60) (by rw [pre1]; omega) hC6 h71 (by rw [h68 10 (by decide)]; exact h10) (by rw [hN3, gII, if_pos rfl, uI_s, List.length_cons, List.length_cons]) K3 (fun i hi => by rw [h73]; exact num1 i hi)
        rw [pre1] at j1
        rw [app] at j3
        refine ⟨N', ?_, fr3.tr j2, j3⟩
        rw [st, c_push p13 (by omega), rb_bv, ← hN2, g71, l3, c_push p2 (by omega), rb_bv, ← hN3]
        exact D_X7_numberFrom_12_to_12_a _ _ _ j1
end RX
