-- needs: 71 72 73 74
/-! RATES: the class's reader is ps -/
section RK
variable {xs : Nat → Int32} {xl : Nat} {t : Nat → Int32} {L : Nat}
theorem PtC.of_fr {M N : dp_M} {c s q c' x : Nat} {l : List Nd} {M' : dp_M} (h : PtC N t L c s l q c' M' x) (f : FrC M N) (h71 : dp_I N 71 = dp_I M 71) (h72 : dp_I N 72 = dp_I M 72) (hu : dp_I N 68 12 = dp_I M 68 12) : PtC M t L c s l q c' M' x := by
  obtain ⟨a1, a2, a3, a4, a5, a6, a8⟩ := h
  exact ⟨f.tr a1, a2, a3, fun i hi => by rw [a4 i hi, h71], fun i hi => by rw [a5 i hi, h72], a6, by rw [a8, hu]⟩
theorem PtC.of_pl {M : dp_M} {p c s q c' x : Nat} {l : List Nd} {M' : dp_M} (h : PtC (plc M p) t L c s l q c' M' x) : PtC M t L c s l q c' M' x := h.of_fr FrC.pl (plc_I _ _ _ (by decide)) (plc_I _ _ _ (by decide)) (plc_o _ _ _ (by decide))
def CRd (xs : Nat → Int32) (xl : Nat) (t : Nat → Int32) (L n : Nat) : Prop := ∀ (k m d : Nat) (M : dp_M) (p c s : Nat) (res : Nat ⊕ (List Nd × Nat × Nat)), k + m = 12 → CSt M t L p c s →
  (ps t L n 0 [] k p c = some res → ResC (dp_den true xs xl (fu m d + 6) 154 [.ref 68, .int (nI k)] M) M t L c s res) ∧
  (ps t L n 1 [] k p c = some res → ResC (dp_den true xs xl (fu m d + 7) 153 [.ref 68, .int (nI k)] M) M t L c s res) ∧
  (∀ M0 c0 s0 l x i, PtC M0 t L c0 s0 l p c M x → s0 ≤ s → i < p → ps t L n 2 l k p c = some res → ResC (D_X7_readRate_8 xs xl (fu m d + 6) (nI k) (nI x) (nI i) M) M0 t L c0 s0 res)
theorem c_loop {n : Nat} (ih : CRd xs xl t L n) (k m d : Nat) (M : dp_M) (p c s : Nat) (res : Nat ⊕ (List Nd × Nat × Nat)) (hkm : k + m = 12) (h : CSt M t L p c s) (M0 : dp_M) (c0 s0 : Nat) (l : List Nd) (x i : Nat) (hA : PtC M0 t L c0 s0 l p c M x) (hs0 : s0 ≤ s) (hi : i < p) (hres : ps t L (n + 1) 2 l k p c = some res) : ResC (D_X7_readRate_8 xs xl (fu m d + 6) (nI k) (nI x) (nI i) M) M0 t L c0 s0 res := by
  have h0 := h
  obtain ⟨h1, h2, h3, h4, h5, h6, h7, h8, h9⟩ := h
  have hL := h1.2.1
  have sl := sk_le (t := t) h3
  have sg := sk_ge (t := t) (L := L) (p := p)
  have hx := hA.lt
  have A1 := hA.1
  rw [ps] at hres
  have st : D_X7_readRate_8 xs xl (fu m d + 6) (nI k) (nI x) (nI i) M = if isAt t L (sk t L p) 43 ∨ isAt t L (sk t L p) 45 then D_X7_readRate_56 xs xl (fu m d + 6) (nI k) (nI x) (nI i) (t (sk t L p)) (if t (sk t L p) = 43 then 3 else 4) (plc M (sk t L p)) else iR (nI x) (plc M (sk t L p)) := by
    rw [D_X7_readRate_8_eq, if_neg (show ¬ (400 : Int32) ≤ nI (i) from nI_ge (a := i) (b := 400) (by omega) (by omega)), if_neg (m1n (by omega)), c_next h1 h3 h2, rb_bi]
    by_cases z : isAt t L (sk t L p) 43
    · have e : sgC t L (sk t L p) = t (sk t L p) := if_pos z.1
      rw [e, if_pos z.2, if_pos z.2, if_pos (Or.inl z), if_pos z.2]
    · by_cases y : isAt t L (sk t L p) 45
      · have e : sgC t L (sk t L p) = t (sk t L p) := if_pos y.1
        have n43 : ¬ t (sk t L p) = 43 := fun q => z ⟨y.1, q⟩
        rw [e, if_neg n43, if_pos y.2, if_neg n43, if_pos (Or.inr y), if_neg n43]
      · rw [if_neg (fun q => z ((sgC_at (by decide)).mp q)), if_neg (fun q => y ((sgC_at (by decide)).mp q)), if_neg (fun q => q.elim z y)]
  by_cases z : isAt t L (sk t L p) 43 ∨ isAt t L (sk t L p) 45
  · rw [if_pos z] at hres st
    have z1 : sk t L p < L := z.elim (fun q => q.1) (fun q => q.1)
    obtain ⟨kd, hkd⟩ : ∃ kd : Int32, kd = if t (sk t L p) = 43 then 3 else 4 := ⟨_, rfl⟩
    rw [← hkd] at st
    have kB : isBn (kd, 0, -1, []) = true := by
      rw [hkd]; split <;> decide
    have s1 := h0.pl (q := sk t L p) sg sl
    have e9 : dp_I (plc M (sk t L p)) 68 9 = nI (sk t L p) := plc_p _ _
    by_cases hc : c < 60
    · rw [if_pos hc] at hres
      obtain ⟨N1, a1, a2, a3, a4, a5, a6⟩ := c_add (xs := xs) (xl := xl) (kind := kd) (w := nI (sk t L p)) s1 hc
      have s2 := a3.pl (q := sk t L p + 1) (by omega) (by omega)
      obtain ⟨N, hN⟩ : ∃ N, N = plc N1 (sk t L p + 1) := ⟨_, rfl⟩
      rw [← hN] at s2
      have e9' : dp_I N1 68 9 = nI (sk t L p) := a3.2.1
      have st2 : D_X7_readRate_8 xs xl (fu m d + 6) (nI k) (nI x) (nI i) M = dp_bi (dp_den true xs xl (fu m d + 6) 154 [.ref 68, .int (nI k)] N) (fun r5 M4 => D_X7_readRate_90 xs xl (fu m d + 6) (nI k) (nI x) (nI i) (t (sk t L p)) (nI c) r5 M4) := by
        rw [st, D_X7_readRate_56_eq, e9, a1, rb_bi]
        simp only [dp_w]
        rw [e9', nI_1, show dp_setI N1 68 9 (nI (sk t L p + 1)) = plc N1 (sk t L p + 1) from rfl, ← hN, if_neg (m1n (by omega))]
      have fN : FrC M N := by rw [hN]; exact (FrC.pl.tr a2).tr FrC.pl
      have n71 : dp_I N 71 = nwF (dp_I M 71) c kd := by rw [hN, plc_I _ _ _ (by decide), a4, plc_I _ _ _ (by decide)]
      have n72 : dp_I N 72 = dp_I M 72 := by rw [hN, plc_I _ _ _ (by decide), a5, plc_I _ _ _ (by decide)]
      have nu : dp_I N 68 12 = dp_I M 68 12 := by
        rw [hN, plc_o _ _ _ (by decide)]
        have a6' : dp_I N1 68 12 = dp_I (plc M (sk t L p)) 68 12 := a6
        rw [a6', plc_o _ _ _ (by decide)]
      cases hp0 : ps t L n 0 [] k (sk t L p + 1) (c + 1) with
      | none => rw [hp0] at hres; cases hres
      | some res0 =>
        have i0 := (ih k m d N (sk t L p + 1) (c + 1) s res0 hkm s2).1 hp0
        rw [hp0] at hres
        cases res0 with
        | inl b =>
          obtain ⟨M', j1, j2⟩ := i0
          injection hres with hres
          subst hres
          refine ⟨M', ?_, (j2.fr fN).fr A1⟩
          rw [st2, j1, rb_bi, D_X7_readRate_90_eq, if_pos rfl]
        | inr rq =>
          obtain ⟨r, q, c'⟩ := rq
          obtain ⟨M4, x2, j1, j2⟩ := i0
          have hx2 := j2.lt
          have pt := PtC.sign (p1 := 0) (s1 := 0) hA s h0 hs0 fN n71 n72 nu kB j2
          obtain ⟨M5, hM5⟩ : ∃ M5, M5 = dp_setI (dp_setI M4 71 (c * 7 + 3) (nI x)) 71 (c * 7 + 4) (nI x2) := ⟨_, rfl⟩
          rw [← hM5] at pt
          obtain ⟨s5, hs5, hs50⟩ := pt.2.1
          have gt := ps_gt (t := t) (L := L) n 0 [] k (sk t L p + 1) (c + 1) (by omega) (by omega) (by omega) (fun e => by cases e) r q c' hp0
          rw [if_neg (by decide)] at gt
          have e43 : (if t (sk t L p) = 43 then ((3, 0, -1, []) : Nd) else (4, 0, -1, [])) = (kd, 0, -1, []) := by rw [hkd]; split <;> rfl
          (try dsimp only at hres)
          rw [e43] at hres
          have hrc := (ih k m d M5 q c' s5 res hkm hs5).2.2 M0 c0 s0 _ c (i + 1) pt hs50 (by omega) hres
          have st3 : ∀ rr, D_X7_readRate_8 xs xl (fu m d + 6) (nI k) (nI c) (nI (i + 1)) M5 = some rr → D_X7_readRate_8 xs xl (fu m d + 6) (nI k) (nI x) (nI i) M = some rr := fun rr e => by
            rw [st2, j1, rb_bi, D_X7_readRate_90_eq, if_neg (m1n (by omega)), c_below (by omega), rb_bv, ← hM5]
            simp only [dp_w, nI_1]
            exact D_X7_readRate_8_to_8_a _ _ _ _ _ _ e
          cases res with
          | inl b =>
            obtain ⟨M', k1, k2⟩ := hrc
            exact ⟨M', st3 _ k1, k2⟩
          | inr lq =>
            obtain ⟨l', q', c''⟩ := lq
            obtain ⟨M', x', k1, k2⟩ := hrc
            exact ⟨M', x', st3 _ k1, k2⟩
    · rw [if_neg hc] at hres
      injection hres with hres
      subst hres
      obtain ⟨N1, a1, a2⟩ := c_addN (xs := xs) (xl := xl) (kind := kd) (w := sk t L p) s1 hc
      refine ⟨dp_setI N1 68 9 (dp_I N1 68 9 + 1), ?_, (show BdC M _ _ from ⟨(FrC.pl.tr a2.1).s 9 (by decide) _, by rw [gII, if_pos rfl, uI_n (by decide)]; exact a2.2⟩).fr A1⟩
      rw [st, D_X7_readRate_56_eq, e9, a1, rb_bi]
      simp only [dp_w]
      rw [if_pos trivial, D_X7_readRate_90_eq, if_pos rfl]
  · rw [if_neg z] at hres st
    injection hres with hres
    subst hres
    exact ⟨plc M (sk t L p), x, st, hA.pl sg sl⟩
theorem c_part {n : Nat} (ih : CRd xs xl t L n) (k m d : Nat) (M : dp_M) (p c s : Nat) (res : Nat ⊕ (List Nd × Nat × Nat)) (hkm : k + m = 12) (h : CSt M t L p c s) (hres : ps t L (n + 1) 0 [] k p c = some res) : ResC (dp_den true xs xl (fu m d + 6) 154 [.ref 68, .int (nI k)] M) M t L c s res := by
  have h0 := h
  obtain ⟨h1, h2, h3, h4, h5, h6, h7, h8, h9⟩ := h
  have hL := h1.2.1
  have sl := sk_le (t := t) h3
  have sg := sk_ge (t := t) (L := L) (p := p)
  have s1 := h0.pl (q := sk t L p) sg sl
  have e9 : dp_I (plc M (sk t L p)) 68 9 = nI (sk t L p) := plc_p _ _
  rw [ps] at hres
  case x_8 => intro e; cases e
  case x_9 => intro e; cases e
  have st : dp_den true xs xl (fu m d + 6) 154 [.ref 68, .int (nI k)] M = if isAt t L (sk t L p) 40 then dp_bi (dp_den true xs xl (fu m d + 5) 155 [.ref 68, .int (nI k)] (plc M (sk t L p))) (fun r4 M3 => some (.inl (some (.int r4)), M3)) else if sk t L p < L ∧ isDg (t (sk t L p)) then dp_bi (dp_den true xs xl (fu m d + 5) 162 [.ref 68] (plc M (sk t L p))) (fun r30 M29 => some (.inl (some (.int r30)), M29)) else if isWd t L (sk t L p) [102, 114, 101, 101] then dp_bi (dp_den true xs xl (fu m d + 5) 150 [.ref 68, .int (0 : Int32), .int (nI (sk t L p))] (plc M (sk t L p + 4))) (fun r28 M27 => some (.inl (some (.int r28)), M27))
      else if isWd t L (sk t L p) [109, 105, 110] then dp_bi (dp_den true xs xl (fu m d + 5) 156 [.ref 68, .int (5 : Int32), .int (nI k)] (plc M (sk t L p))) (fun r25 M24 => some (.inl (some (.int r25)), M24)) else if isWd t L (sk t L p) [109, 97, 120] then dp_bi (dp_den true xs xl (fu m d + 5) 156 [.ref 68, .int (6 : Int32), .int (nI k)] (plc M (sk t L p))) (fun r23 M22 => some (.inl (some (.int r23)), M22)) else if isWd t L (sk t L p) [115, 116, 101, 112] then dp_bi (dp_den true xs xl (fu m d + 5) 166 [.ref 68] (plc M (sk t L p))) (fun r21 M20 => some (.inl (some (.int r21)), M20)) else iR (-1) (dp_setI (plc M (sk t L p)) 68 2 (nI (sk t L p))) := by
    rw [D_X7_readPart_0_den, D_X7_readPart_0_eq, c_next h1 h3 h2, rb_bi]
    by_cases z : isAt t L (sk t L p) 40
    · rw [if_pos ((sgC_at (by decide)).mpr z), if_pos z]
    · rw [if_neg (fun q => z ((sgC_at (by decide)).mp q)), if_neg z, c_isD, rb_bi, ibz]
      by_cases y : sk t L p < L ∧ isDg (t (sk t L p))
      · rw [if_pos (show isDg (sgC t L (sk t L p)) by rw [show sgC t L (sk t L p) = t (sk t L p) from if_pos y.1]; exact y.2), if_pos y]
      · rw [if_neg (show ¬ isDg (sgC t L (sk t L p)) from fun q => by
          by_cases u : sk t L p < L
          · rw [show sgC t L (sk t L p) = t (sk t L p) from if_pos u] at q; exact y ⟨u, q⟩
          · rw [show sgC t L (sk t L p) = 0 from if_neg u] at q; exact absurd q (by decide)), if_neg y]
        simp only [dp_w]
        rw [e9, c_letters s1.1 sl e9, rb_bi, c_word s1.1 sl, rb_bi, ibz]
        by_cases w1 : isWd t L (sk t L p) [102, 114, 101, 101]
        · rw [if_pos w1, if_pos w1, e9, w1.1, show nI ([102, 114, 101, 101] : List Int32).length = nI 4 from rfl, nI_add, show dp_setI (plc M (sk t L p)) 68 9 (nI (sk t L p + 4)) = plc (plc M (sk t L p)) (sk t L p + 4) from rfl, plc_pl]
        · rw [if_neg w1, if_neg w1, c_word_a s1.1 sl, rb_bi, ibz]
          by_cases w2 : isWd t L (sk t L p) [109, 105, 110]
          · rw [if_pos w2, if_pos w2]
          · rw [if_neg w2, if_neg w2, c_word_b s1.1 sl, rb_bi, ibz]
            by_cases w3 : isWd t L (sk t L p) [109, 97, 120]
            · rw [if_pos w3, if_pos w3]
            · rw [if_neg w3, if_neg w3, c_word_c s1.1 sl, rb_bi, ibz]
              by_cases w4 : isWd t L (sk t L p) [115, 116, 101, 112]
              · rw [if_pos w4, if_pos w4]
              · rw [if_neg w4, if_neg w4, c_ref s1.2.2.2.1, rb_bi]
  by_cases z : isAt t L (sk t L p) 40
  · -- a bracket
    rw [if_pos z] at hres st
    have z1 := z.1
    by_cases hk : k < 12
    · rw [if_pos hk] at hres
      obtain ⟨m', rfl⟩ : ∃ m', m = m' + 1 := ⟨m - 1, by omega⟩
      have s2 := s1.pl (q := sk t L p + 1) (by omega) (by omega)
      rw [plc_pl] at s2
      have st2 : dp_den true xs xl (fu (m' + 1) d + 6) 154 [.ref 68, .int (nI k)] M = dp_bi (dp_bi (dp_den true xs xl (fu m' d + 7) 153 [.ref 68, .int (nI (k + 1))] (plc M (sk t L p + 1))) (fun r3 M2 => if r3 = (-1 : Int32) then (some (.inl (some (.int (-1 : Int32))), M2)) else (dp_bi (dp_den true xs xl (fu m' d + 7) 149 [.ref 68, .int (41 : Int32)] M2) (fun r5 M4 => if r5 = 0 then (some (.inl (some (.int (-1 : Int32))), M4)) else (some (.inl (some (.int r3)), M4)))))) (fun r4 M3 => some (.inl (some (.int r4)), M3)) := by
        rw [st, D_X7_readBracket_0_den, D_X7_readBracket_0_eq, if_pos (show nI (k) < (12 : Int32) from nI_lt (a := k) (b := 12) (by omega) (by omega)), e9]
        simp only [dp_w, nI_1]
        rw [show dp_setI (plc M (sk t L p)) 68 9 (nI (sk t L p + 1)) = plc (plc M (sk t L p)) (sk t L p + 1) from rfl, plc_pl]
        rfl
      cases hp1 : ps t L n 1 [] (k + 1) (sk t L p + 1) c with
      | none => rw [hp1] at hres; cases hres
      | some res1 =>
        have i1 := (ih (k + 1) m' d (plc M (sk t L p + 1)) (sk t L p + 1) c s res1 (by omega) s2).2.1 hp1
        rw [hp1] at hres
        cases res1 with
        | inl b =>
          obtain ⟨M', j1, j2⟩ := i1
          injection hres with hres
          subst hres
          refine ⟨M', ?_, j2.fr FrC.pl⟩
          rw [st2, j1, rb_bi, if_pos rfl, rb_bi]
        | inr lq =>
          obtain ⟨l, q, c'⟩ := lq
          obtain ⟨M2, x, j1, j2⟩ := i1
          have hx := j2.lt
          obtain ⟨s', hs', hs0⟩ := j2.2.1
          obtain ⟨u1, u2⟩ := c_pass (xs := xs) (xl := xl) (d := fu m' d + 4) (c := 41) hs'.1 hs'.2.2.1 hs'.2.1 hs'.2.2.2.1 (by decide)
          have st3 := st2
          rw [j1, rb_bi, if_neg (m1n (by omega))] at st3
          (try dsimp only at hres)
          cases h41 : pss t L 41 q with
          | inl b =>
            obtain ⟨M', v1, v2⟩ := u2 b h41
            rw [h41] at hres
            injection hres with hres
            subst hres
            refine ⟨M', ?_, (v2.fr j2.1).fr FrC.pl⟩
            rw [st3, v1, rb_bi, if_pos rfl, rb_bi]
          | inr q' =>
            obtain ⟨v1, v2, v3⟩ := u1 q' h41
            rw [h41] at hres
            injection hres with hres
            subst hres
            refine ⟨plc M2 q', x, ?_, (j2.pl (by omega) v2).of_pl⟩
            rw [st3, v1, rb_bi, if_neg r1_ne, rb_bi]
    · rw [if_neg hk] at hres
      injection hres with hres
      subst hres
      refine ⟨dp_setI (plc M (sk t L p)) 68 2 (nI (sk t L p)), ?_, BdC.mk' FrC.pl⟩
      rw [st, D_X7_readBracket_0_den, D_X7_readBracket_0_eq, if_neg (show ¬ nI (k) < (12 : Int32) from nI_nlt (a := k) (b := 12) (by omega) (by omega)), e9, c_ref s1.2.2.2.1, rb_bi, rb_bi]
  rw [if_neg z] at hres st
  by_cases y : sk t L p < L ∧ isDg (t (sk t L p))
  · -- a number
    rw [if_pos y] at hres st
    obtain ⟨u1, u2⟩ := c_numpart (xs := xs) (xl := xl) (d := fu m d + 1) s1
    by_cases hc : c < 60
    · rw [if_pos hc] at hres
      obtain ⟨v1, v2⟩ := u1 hc
      cases hN : rNum t L (sk t L p) with
      | inl b =>
        rw [hN] at hres
        injection hres with hres
        subst hres
        obtain ⟨M', j1, j2⟩ := v2 b hN
        exact ⟨M', by rw [st, j1, rb_bi], j2.fr FrC.pl⟩
      | inr vq =>
        obtain ⟨v, q⟩ := vq
        rw [hN] at hres
        injection hres with hres
        subst hres
        obtain ⟨M', j1, j2⟩ := v1 v q hN
        exact ⟨M', c, by rw [st, j1, rb_bi], j2.of_pl⟩
    · rw [if_neg hc] at hres
      injection hres with hres
      subst hres
      obtain ⟨M', j1, j2⟩ := u2 hc
      exact ⟨M', by rw [st, j1, rb_bi], j2.fr FrC.pl⟩
  rw [if_neg y] at hres st
  by_cases w1 : isWd t L (sk t L p) [102, 114, 101, 101]
  · -- free
    rw [if_pos w1] at hres st
    have wl : sk t L p + 4 ≤ L := isWd_le sl w1
    have s2 := s1.pl (q := sk t L p + 4) (by omega) wl
    rw [plc_pl] at s2
    by_cases hc : c < 60
    · rw [if_pos hc] at hres
      injection hres with hres
      subst hres
      obtain ⟨M1, a1, a2, a3, a4, a5, a6⟩ := c_add (xs := xs) (xl := xl) (kind := 0) (w := nI (sk t L p)) s2 hc
      have nf := nwF_f (dp_I (plc M (sk t L p + 4)) 71) c 0
      refine ⟨M1, c, by rw [st, a1, rb_bi], PtC.of_pl (p := sk t L p + 4) (PtC.leaf a2 a3 (Nat.le_refl _) (fun i hi => by rw [a4, nwF_o hi]) (fun i hi => by rw [a5]) (by rfl) (rdF_mk (by rw [a4]; exact nf.1) (by rw [a4]; exact nf.2.1) (by rw [a4]; exact nf.2.2.1) (by rw [a4]; exact nf.2.2.2.1) (by rw [a4]; exact nf.2.2.2.2.1) (by rw [a4]; exact nf.2.2.2.2.2.1)) ?_)⟩
      rw [a6, umk_1, if_neg (show ¬ (0 : Int32) = 2 by decide), Int32.or_zero]
    · rw [if_neg hc] at hres
      injection hres with hres
      subst hres
      obtain ⟨M1, a1, a2⟩ := c_addN (xs := xs) (xl := xl) (kind := 0) (w := sk t L p) s2 hc
      exact ⟨M1, by rw [st, a1, rb_bi], a2.fr FrC.pl⟩
  rw [if_neg w1] at hres st
  by_cases w23 : isWd t L (sk t L p) [109, 105, 110] ∨ isWd t L (sk t L p) [109, 97, 120]
  · -- a pair
    rw [if_pos w23] at hres
    obtain ⟨kd, hkd⟩ : ∃ kd : Int32, kd = if isWd t L (sk t L p) [109, 105, 110] then 5 else 6 := ⟨_, rfl⟩
    have kB : isBn (kd, 0, -1, []) = true := by
      rw [hkd]; split <;> decide
    have ekd : (if isWd t L (sk t L p) [109, 105, 110] then ((5, 0, -1, []) : Nd) else (6, 0, -1, [])) = (kd, 0, -1, []) := by rw [hkd]; split <;> rfl
    have wl : sk t L p + 3 ≤ L := by
      rcases w23 with w | w
      · exact isWd_le sl w
      · exact isWd_le sl w
    have st' : dp_den true xs xl (fu m d + 6) 154 [.ref 68, .int (nI k)] M = dp_bi (dp_den true xs xl (fu m d + 5) 156 [.ref 68, .int kd, .int (nI k)] (plc M (sk t L p))) (fun r25 M24 => some (.inl (some (.int r25)), M24)) := by
      rw [st, hkd]
      by_cases w2 : isWd t L (sk t L p) [109, 105, 110]
      · rw [if_pos w2, if_pos w2]
      · rw [if_neg w2, if_neg w2, if_pos (w23.resolve_left w2)]
    have e3 : ∀ N : dp_M, dp_I N 68 9 = nI (sk t L p) → dp_setI N 68 9 (dp_I N 68 9 + 3) = plc N (sk t L p + 3) := fun N e => by rw [e, show (3 : Int32) = nI 3 from rfl, nI_add]; rfl
    by_cases hck : c < 60 ∧ k < 12
    · rw [if_pos hck] at hres
      obtain ⟨hc, hk⟩ := hck
      obtain ⟨m', rfl⟩ : ∃ m', m = m' + 1 := ⟨m - 1, by omega⟩
      obtain ⟨N1, a1, a2, a3, a4, a5, a6⟩ := c_add (xs := xs) (xl := xl) (kind := kd) (w := nI (sk t L p)) s1 hc
      have s2 := a3.pl (q := sk t L p + 3) (by omega) wl
      have st2 : dp_den true xs xl (fu (m' + 1) d + 6) 154 [.ref 68, .int (nI k)] M = dp_bi (dp_bi (dp_den true xs xl (fu m' d + 7) 149 [.ref 68, .int (40 : Int32)] (plc N1 (sk t L p + 3))) (fun r3 M2 => if r3 = 0 then (some (.inl (some (.int (-1 : Int32))), M2)) else (dp_bi (dp_den true xs xl (fu m' d + 7) 153 [.ref 68, .int (nI (k + 1))] M2) (fun r5 M4 => if r5 = (-1 : Int32) then (D_X7_readPair_88 xs xl (fu m' d + 7) kd (nI k) (nI c) r5 (-1 : Int32) M4) else (dp_bi (dp_den true xs xl (fu m' d + 7) 149 [.ref 68, .int (44 : Int32)] M4) (fun r7 M6 => if r7 = 0 then (D_X7_readPair_88 xs xl (fu m' d + 7) kd (nI k) (nI c) r5 (-1 : Int32) M6) else (dp_bi (dp_den true xs xl (fu m' d + 7) 153 [.ref 68, .int (nI (k + 1))] M6) (fun r9 M8 => D_X7_readPair_88 xs xl (fu m' d + 7) kd (nI k) (nI c) r5 r9 M8)))))))) (fun r25 M24 => some (.inl (some (.int r25)), M24)) := by
        rw [st', D_X7_readPair_0_den, D_X7_readPair_0_eq, if_pos (show nI (k) < (12 : Int32) from nI_lt (a := k) (b := 12) (by omega) (by omega)), e9, a1, rb_bi, D_X7_readPair_26_eq]
        simp only [dp_w]
        rw [e3 N1 a3.2.1, if_neg (m1n (by omega))]
        simp only [nI_1]
        rfl
      have none88 : ∀ v5 N, D_X7_readPair_88 xs xl (fu m' d + 7) kd (nI k) (nI c) v5 (-1 : Int32) N = iR (-1) N := fun v5 N => by rw [D_X7_readPair_88_eq, if_pos rfl]
      obtain ⟨u1, u2⟩ := c_pass (xs := xs) (xl := xl) (d := fu m' d + 4) (c := 40) s2.1 s2.2.2.1 s2.2.1 s2.2.2.2.1 (by decide)
      have fN1 : FrC M N1 := FrC.pl.tr a2
      cases h40 : pss t L 40 (sk t L p + 3) with
      | inl b =>
        rw [h40] at hres
        injection hres with hres
        subst hres
        obtain ⟨M', j1, j2⟩ := u2 b h40
        exact ⟨M', by rw [st2, j1, rb_bi, if_pos rfl, rb_bi], (j2.fr FrC.pl).fr fN1⟩
      | inr q0 =>
        rw [h40] at hres
        (try dsimp only at hres)
        obtain ⟨v1, v2, v3⟩ := u1 q0 h40
        rw [plc_pl] at v1
        have s3 := a3.pl (q := q0) (by omega) v2
        rw [v1, rb_bi, if_neg r1_ne] at st2
        obtain ⟨N, hN⟩ : ∃ N, N = plc N1 q0 := ⟨_, rfl⟩
        rw [← hN] at st2 s3
        have fN : FrC (plc M (sk t L p)) N := by rw [hN]; exact a2.tr FrC.pl
        have n71 : dp_I N 71 = nwF (dp_I (plc M (sk t L p)) 71) c kd := by rw [hN, plc_I _ _ _ (by decide), a4]
        have n72 : dp_I N 72 = dp_I (plc M (sk t L p)) 72 := by rw [hN, plc_I _ _ _ (by decide), a5]
        have nu : dp_I N 68 12 = dp_I (plc M (sk t L p)) 68 12 := by rw [hN, plc_o _ _ _ (by decide)]; exact a6
        cases hp1 : ps t L n 1 [] (k + 1) q0 (c + 1) with
        | none => rw [hp1] at hres; cases hres
        | some res1 =>
          have i1 := (ih (k + 1) m' d N q0 (c + 1) s res1 (by omega) s3).2.1 hp1
          rw [hp1] at hres
          cases res1 with
          | inl b =>
            obtain ⟨M', j1, j2⟩ := i1
            injection hres with hres
            subst hres
            exact ⟨M', by rw [st2, j1, rb_bi, if_pos rfl, none88, rb_bi], (j2.fr fN).fr FrC.pl⟩
          | inr lq =>
            obtain ⟨l1, q1, c1⟩ := lq
            obtain ⟨M2, x1, j1, j2⟩ := i1
            have hx1 := j2.lt
            obtain ⟨sB, hsB, hsB0⟩ := j2.2.1
            (try dsimp only at hres)
            rw [j1, rb_bi, if_neg (m1n (by omega))] at st2
            obtain ⟨u3, u4⟩ := c_pass (xs := xs) (xl := xl) (d := fu m' d + 4) (c := 44) hsB.1 hsB.2.2.1 hsB.2.1 hsB.2.2.2.1 (by decide)
            cases h44 : pss t L 44 q1 with
            | inl b =>
              rw [h44] at hres
              injection hres with hres
              subst hres
              obtain ⟨M', g1, g2⟩ := u4 b h44
              exact ⟨M', by rw [st2, g1, rb_bi, if_pos rfl, none88, rb_bi], ((g2.fr j2.1).fr fN).fr FrC.pl⟩
            | inr q2 =>
              rw [h44] at hres
              (try dsimp only at hres)
              obtain ⟨g1, g2, g3⟩ := u3 q2 h44
              rw [g1, rb_bi, if_neg r1_ne] at st2
              have s4 := hsB.pl (q := q2) (by omega) g2
              cases hp2 : ps t L n 1 [] (k + 1) q2 c1 with
              | none => rw [hp2] at hres; cases hres
              | some res2 =>
                have i2 := (ih (k + 1) m' d (plc M2 q2) q2 c1 sB res2 (by omega) s4).2.1 hp2
                rw [hp2] at hres
                cases res2 with
                | inl b =>
                  obtain ⟨M', k1, k2⟩ := i2
                  injection hres with hres
                  subst hres
                  exact ⟨M', by rw [st2, k1, rb_bi, none88, rb_bi], (((k2.fr FrC.pl).fr j2.1).fr fN).fr FrC.pl⟩
                | inr rq =>
                  obtain ⟨l2, q3, c2⟩ := rq
                  obtain ⟨M3, x2, k1, k2⟩ := i2
                  have hx2 := k2.lt
                  obtain ⟨sC, hsC, hsC0⟩ := k2.2.1
                  (try dsimp only at hres)
                  rw [k1, rb_bi, D_X7_readPair_88_eq, if_neg (m1n (by omega))] at st2
                  obtain ⟨u5, u6⟩ := c_pass (xs := xs) (xl := xl) (d := fu m' d + 4) (c := 41) hsC.1 hsC.2.2.1 hsC.2.1 hsC.2.2.2.1 (by decide)
                  cases h41 : pss t L 41 q3 with
                  | inl b =>
                    rw [h41] at hres
                    injection hres with hres
                    subst hres
                    obtain ⟨M', f1, f2⟩ := u6 b h41
                    exact ⟨M', by rw [st2, f1, rb_bi, if_pos rfl, rb_bi], ((((f2.fr k2.1).fr FrC.pl).fr j2.1).fr fN).fr FrC.pl⟩
                  | inr q4 =>
                    rw [h41] at hres
                    (try dsimp only at hres)
                    rw [ekd] at hres
                    injection hres with hres
                    subst hres
                    obtain ⟨f1, f2, f3⟩ := u5 q4 h41
                    refine ⟨_, c, ?_, (PtC.pair (M := plc M (sk t L p)) (q0 := sk t L p) (q2 := q2) s1 fN n71 n72 nu kB j2 sB hsB hsB0 rfl (k2.pl (by omega) f2)).of_pl⟩
                    rw [st2, f1, rb_bi, if_neg r1_ne, c_below (by omega), rb_bv, rb_bi]
    · rw [if_neg hck] at hres
      injection hres with hres
      subst hres
      by_cases hk : k < 12
      · have hc : ¬ c < 60 := fun q => hck ⟨q, hk⟩
        obtain ⟨N1, a1, a2⟩ := c_addN (xs := xs) (xl := xl) (kind := kd) (w := sk t L p) s1 hc
        refine ⟨dp_setI N1 68 9 (dp_I N1 68 9 + 3), ?_, ⟨(FrC.pl.tr a2.1).s 9 (by decide) _, by rw [gII, if_pos rfl, uI_n (by decide)]; exact a2.2⟩⟩
        rw [st', D_X7_readPair_0_den, D_X7_readPair_0_eq, if_pos (show nI (k) < (12 : Int32) from nI_lt (a := k) (b := 12) (by omega) (by omega)), e9, a1, rb_bi, D_X7_readPair_26_eq]
        simp only [dp_w]
        rw [if_pos trivial, rb_bi]
      · refine ⟨dp_setI (dp_setI (plc M (sk t L p)) 68 2 (nI (sk t L p))) 68 9 (dp_I (dp_setI (plc M (sk t L p)) 68 2 (nI (sk t L p))) 68 9 + 3), ?_, ⟨(FrC.pl.s 2 (by decide) _).s 9 (by decide) _, by rw [gII, if_pos rfl, uI_n (by decide), gII, if_pos rfl, uI_s]⟩⟩
        rw [st', D_X7_readPair_0_den, D_X7_readPair_0_eq, if_neg (show ¬ nI (k) < (12 : Int32) from nI_nlt (a := k) (b := 12) (by omega) (by omega)), e9, c_ref s1.2.2.2.1, rb_bi, D_X7_readPair_26_eq]
        simp only [dp_w]
        rw [if_pos trivial, rb_bi]
  rw [if_neg w23] at hres
  rw [if_neg (fun q => w23 (Or.inl q)), if_neg (fun q => w23 (Or.inr q))] at st
  by_cases w4 : isWd t L (sk t L p) [115, 116, 101, 112]
  · rw [if_pos w4] at hres st
    have wl : sk t L p + 4 ≤ L := isWd_le sl w4
    obtain ⟨u1, u2⟩ := c_steps (xs := xs) (xl := xl) (d := fu m d) s1 wl
    by_cases hc : c < 60
    · rw [if_pos hc] at hres
      obtain ⟨v1, v2⟩ := u1 hc
      cases hN : rSp t L (sk t L p + 4) with
      | inl b =>
        rw [hN] at hres
        injection hres with hres
        subst hres
        obtain ⟨M', j1, j2⟩ := v2 b hN
        exact ⟨M', by rw [st, j1, rb_bi], j2.fr FrC.pl⟩
      | inr vq =>
        obtain ⟨v, q⟩ := vq
        rw [hN] at hres
        injection hres with hres
        subst hres
        obtain ⟨M', j1, j2⟩ := v1 v q hN
        exact ⟨M', c, by rw [st, j1, rb_bi], j2.of_pl⟩
    · rw [if_neg hc] at hres
      injection hres with hres
      subst hres
      obtain ⟨M', j1, j2⟩ := u2 hc
      exact ⟨M', by rw [st, j1, rb_bi], j2.fr FrC.pl⟩
  · rw [if_neg w4] at hres st
    injection hres with hres
    subst hres
    exact ⟨_, st, BdC.mk' FrC.pl⟩
theorem c_read : ∀ n, CRd xs xl t L n := by
  intro n
  induction n with
  | zero =>
    intro k m d M p c s res _ _
    refine ⟨fun e => ?_, fun e => ?_, fun _ _ _ _ _ _ _ _ _ e => ?_⟩
    · rw [ps] at e; cases e
    · rw [ps] at e; cases e
    · rw [ps] at e; cases e
  | succ n ih =>
    intro k m d M p c s res hkm h
    refine ⟨fun e => c_part ih k m d M p c s res hkm h e, fun e => ?_, fun M0 c0 s0 l x i hA hs0 hi e => c_loop ih k m d M p c s res hkm h M0 c0 s0 l x i hA hs0 hi e⟩
    rw [ps] at e
    have h3 := h.2.2.1
    cases hp : ps t L n 0 [] k p c with
    | none => rw [hp] at e; cases e
    | some res0 =>
      have i0 := (ih k m d M p c s res0 hkm h).1 hp
      rw [hp] at e
      cases res0 with
      | inl b =>
        obtain ⟨M', j1, j2⟩ := i0
        injection e with e
        subst e
        refine ⟨M', ?_, j2⟩
        rw [D_X7_readRate_0_den, D_X7_readRate_0_eq, j1, rb_bi]
        simp only [dp_w]
        rw [D_X7_readRate_8_eq, if_neg (by decide), if_pos rfl]
      | inr lq =>
        obtain ⟨l, q, c'⟩ := lq
        obtain ⟨M1, x, j1, j2⟩ := i0
        obtain ⟨s', hs', hs0⟩ := j2.2.1
        have gt := ps_gt (t := t) (L := L) n 0 [] k p c (by omega) h3 h.2.2.2.2.2.1 (fun e => by cases e) l q c' hp
        rw [if_neg (by decide)] at gt
        have hrc := (ih k m d M1 q c' s' res hkm hs').2.2 M c s l x 0 j2 hs0 (by omega) e
        have st : dp_den true xs xl (fu m d + 7) 153 [.ref 68, .int (nI k)] M = D_X7_readRate_8 xs xl (fu m d + 6) (nI k) (nI x) (nI 0) M1 := by
          rw [D_X7_readRate_0_den, D_X7_readRate_0_eq, j1, rb_bi]; rfl
        rw [st]; exact hrc
end RK
