-- needs: 71 72 73 74
/-! RATES: the class's readTape -/
section Re
variable {xs : Nat → Int32} {xl d : Nat} {M : dp_M} {t : Nat → Int32} {L : Nat}
theorem c_tape (h : TxC M t L) (hn : 246 ≤ dp_n M) (hbL : ∀ b, rdR t L = .inl b → b ≤ L) : ∃ M', Off [68, 71, 72, 73, 74] [] M M' ∧ Cst 3 690 M M' ∧ (∀ i, i ∉ [2, 9, 10, 11, 12, 13] → dp_I M' 68 i = dp_I M 68 i) ∧ (∀ b, rdR t L = .inl b → dp_den true xs xl (d + 44) 145 [.ref 68] M = some (.inl (some .null), M') ∧ dp_I M' 68 2 = nI b) ∧ (∀ l, rdR t L = .inr l → ∃ o, dp_den true xs xl (d + 44) 145 [.ref 68] M = some (.inl (some (.ref o)), M') ∧ RtO M' o l ∧ dp_I M' 68 2 = -1) := by
  have hL := h.2.1
  obtain ⟨M5, hM5⟩ : ∃ M5, M5 = dp_setI (dp_setI (dp_setI (dp_setI (dp_setI M 68 9 0) 68 10 0) 68 11 0) 68 12 0) 68 2 (-1) := ⟨_, rfl⟩
  have f5 : FrC M M5 := by rw [hM5]; exact (((((FrC.r M).s 9 (by decide) _).s 10 (by decide) _).s 11 (by decide) _).s 12 (by decide) _).s 2 (by decide) _
  have e5 : dp_I M5 68 = uI (uI (uI (uI (uI (dp_I M 68) 9 0) 10 0) 11 0) 12 0) 2 (-1) := by rw [hM5]; simp only [gII, if_true]
  have s5 : CSt M5 t L 0 0 0 := by
    refine ⟨h.fr f5, ?_, Nat.zero_le _, ?_, ?_, by omega, ?_, Nat.le_refl _, fun x hx => absurd hx (by omega)⟩
    · rw [e5, uI_n (by decide), uI_n (by decide), uI_n (by decide), uI_n (by decide), uI_s]; rfl
    · rw [e5, uI_s]
    · rw [e5, uI_n (by decide), uI_n (by decide), uI_n (by decide), uI_s]; rfl
    · rw [e5, uI_n (by decide), uI_n (by decide), uI_s]; rfl
  have u5 : dp_I M5 68 12 = 0 := by rw [e5, uI_n (by decide), uI_s]
  obtain ⟨res, hp⟩ := ps_some (t := t) (L := L) 802 1 [] 0 0 0 (by omega) (Nat.zero_le _) (by omega) (fun e => by cases e) (by rw [if_pos rfl]; omega)
  have rd : ResC (dp_den true xs xl (d + 43) 153 [.ref 68, .int (nI 0)] M5) M5 t L 0 0 res := (c_read (xs := xs) (xl := xl) (t := t) (L := L) 802 0 12 d M5 0 0 0 res rfl s5).2.1 hp
  have st : ∀ {r M6}, dp_den true xs xl (d + 43) 153 [.ref 68, .int (nI 0)] M5 = iR r M6 → dp_den true xs xl (d + 44) 145 [.ref 68] M = (if r = (-1 : Int32) then D_X7_readTape_52 xs xl (d + 43) r M6 else dp_bi (dp_den true xs xl (d + 43) 148 [.ref 68] M6) (fun r9 M8 => if r9 = 0 then D_X7_readTape_52 xs xl (d + 43) r M8 else dp_bi (dp_den true xs xl (d + 43) 146 [.ref 68, .int (dp_I M8 68 9)] M8) (fun _ M10 => D_X7_readTape_52 xs xl (d + 43) r M10))) := fun {r M6} e => by
    rw [D_X7_readTape_0_den, D_X7_readTape_0_eq, dpw, dpw, dpw, dpw, dpw, ← hM5, show (0 : Int32) = nI 0 from rfl, e, rb_bi]
  have sub : ∀ {A}, FrC M A → Off [68, 71, 72, 73, 74] [] M A := fun f => f.1.mono (by decide) (by decide)
  have fld : ∀ {A}, FrC M A → ∀ i, i ∉ [2, 9, 10, 11, 12, 13] → dp_I A 68 i = dp_I M 68 i := fun f i hi => f.2.2 i (fun q => hi (by revert q; simp only [List.mem_cons, List.not_mem_nil, or_false]; omega))
  cases res with
  | inl b =>
    obtain ⟨M1, u1, u2⟩ := rd
    have hr : rdR t L = .inl b := by unfold rdR; rw [hp]
    have hb := hbL b hr
    refine ⟨M1, sub (f5.tr u2.1), (f5.tr u2.1).2.1.mono (by omega) (by omega), fld (f5.tr u2.1), fun b' e => ?_, fun l e => (by rw [hr] at e; cases e)⟩
    rw [hr] at e; injection e with e; subst e
    refine ⟨?_, u2.2⟩
    rw [st u1, if_pos rfl, D_X7_readTape_52_eq, show dp_I M1 68 2 = nI b from u2.2, if_neg (m1n (by omega))]
  | inr lq =>
    obtain ⟨l, q, c'⟩ := lq
    obtain ⟨M1, x, u1, u2⟩ := rd
    obtain ⟨t1, -, -⟩ := ps_stop 802 1 [] 0 0 0 l q c' (Or.inl rfl) hp
    obtain ⟨p1, ⟨s', p2, -⟩, p3, p4, p5, ⟨n, ix, p6, p7, p8⟩, p9⟩ := u2
    rw [Nat.zero_add] at p3
    subst p3
    have fr := f5.tr p1
    have q3 := p2.2.2.1
    have xb := (p8 x p6.hd).2
    have l60 : l.length ≤ 60 := p2.2.2.2.2.2.1
    have nx := c_next (xs := xs) (xl := xl) (d := d + 41) p2.1 q3 p2.2.1
    have b1 : dp_I M1 68 2 = -1 := p2.2.2.2.1
    rw [t1, plc_self p2.2.1] at nx
    by_cases z : q < L
    · have hr : rdR t L = .inl q := by
        unfold rdR; rw [hp]; simp only [if_pos z]
      have fb : FrC M (dp_setI M1 68 2 (nI q)) := fr.s 2 (by decide) _
      refine ⟨dp_setI M1 68 2 (nI q), sub fb, fb.2.1.mono (by omega) (by omega), fld fb, fun b' e => ?_, fun l e => (by rw [hr] at e; cases e)⟩
      rw [hr] at e; injection e with e; subst e
      have eb : dp_I (dp_setI M1 68 2 (nI q)) 68 2 = nI q := by rw [gII, if_pos rfl, uI_s]
      refine ⟨?_, eb⟩
      have sg : ¬ sgC t L q = 0 := by
        unfold sgC
        rw [if_pos z]
        intro e0
        have := (p2.1.2.2 q z).2.1
        rw [e0] at this
        exact absurd this (by decide)
      rw [st u1, if_neg (m1n (by omega)), nx, rb_bi, if_neg sg, c_ref b1, rb_bi, show dp_I M1 68 9 = nI q from p2.2.1, D_X7_readTape_52_eq, eb, if_neg (m1n (by omega))]
    · have hr : rdR t L = .inr l := by
        unfold rdR; rw [hp]; simp only [if_neg z]
      obtain ⟨E, o, k1, k2, k3, k4, k5⟩ := c_built (xs := xs) (xl := xl) (d := d + 40) p2 p6 p7 (fun i hi => (p8 i hi).2) (by rw [show dp_I M1 68 12 = dp_I M5 68 12 ||| umk l from p9, u5, Int32.zero_or]) (by have := fr.1.2.2.2.2; omega)
      refine ⟨E, (sub fr).tr (k3.mono (by decide) (by decide)), ?_, fun i hi => ?_, fun b e => (by rw [hr] at e; cases e), fun l' e => ?_⟩
      · have := fr.2.1.1; have := fr.2.1.2; have := k4.1; have := k4.2
        exact ⟨by omega, by omega⟩
      · rw [k5 i (fun q => hi (by rw [q]; decide)), fld fr i hi]
      · rw [hr] at e; injection e with e; subst e
        refine ⟨o, ?_, k2, by rw [k5 2 (by decide)]; exact b1⟩
        have sg : sgC t L q = 0 := by unfold sgC; rw [if_neg z]
        rw [st u1, if_neg (m1n (by omega)), nx, rb_bi, if_pos sg, D_X7_readTape_52_eq, b1, if_pos rfl, if_neg (m1n (by omega)), k1]
        rfl
end Re
