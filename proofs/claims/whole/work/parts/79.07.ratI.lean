-- needs: 71 72 73 74
/-! RATES: the class reads a rate -/
section RI
variable {xs : Nat → Int32} {xl d : Nat} {M : dp_M} {t : Nat → Int32} {L : Nat}
theorem BdC.pl {M' : dp_M} {b q : Nat} (h : BdC M M' b) : BdC M (plc M' q) b := ⟨h.1.tr FrC.pl, by rw [plc_o _ _ _ (by decide)]; exact h.2⟩
theorem CSt.f6 {p c s : Nat} (h : CSt M t L p c s) {x k : Nat} {v : Int32} (hk : k = 5 ∨ k = 6) (hx : tN (if k = 6 then v else dp_I M 71 (x * 7 + 6)) + tN (if k = 5 then v else dp_I M 71 (x * 7 + 5)) ≤ s) : CSt (dp_setI M 71 (x * 7 + k) v) t L p c s := by
  obtain ⟨h1, h2, h3, h4, h5, h6, h7, h8, h9⟩ := h
  have e : ∀ i, dp_I (dp_setI M 71 (x * 7 + k) v) 68 i = dp_I M 68 i := fun i => by rw [gII, if_neg (by decide)]
  refine ⟨h1.fr ((FrC.r M).f _ _), by rw [e]; exact h2, h3, by rw [e]; exact h4, by rw [e]; exact h5, h6, by rw [e]; exact h7, h8, fun y hy => ?_⟩
  rw [gII, if_pos rfl]
  by_cases z : y = x
  · subst z
    rcases hk with rfl | rfl
    · rw [if_neg (by decide), if_pos rfl] at hx
      rw [uI_n (by omega), uI_s]; exact hx
    · rw [if_pos rfl, if_neg (by decide)] at hx
      rw [uI_s, uI_n (by omega)]; exact hx
  · rw [uI_n (by omega), uI_n (by omega)]; exact h9 y hy
theorem c_steps {p c s : Nat} (h : CSt M t L p c s) (hp4 : p + 4 ≤ L) : (c < 60 → (∀ v q, rSp t L (p + 4) = .inr (v, q) → ∃ M', dp_den true xs xl (d + 5) 166 [.ref 68] M = iR (nI c) M' ∧ PtC M t L c s [v] q (c + 1) M' c) ∧ (∀ b, rSp t L (p + 4) = .inl b → ∃ M', dp_den true xs xl (d + 5) 166 [.ref 68] M = iR (-1) M' ∧ BdC M M' b)) ∧
    (¬ c < 60 → ∃ M', dp_den true xs xl (d + 5) 166 [.ref 68] M = iR (-1) M' ∧ BdC M M' p) := by
  have hpl : dp_I M 68 9 = nI p := h.2.1
  have hL := h.1.2.1
  have e4 : ∀ N : dp_M, dp_I N 68 9 = nI p → dp_setI N 68 9 (dp_I N 68 9 + 4) = plc N (p + 4) := fun N e => by rw [e, show (4 : Int32) = nI 4 from rfl, nI_add]; rfl
  constructor
  · intro hc
    obtain ⟨M1, a1, a2, a3, a4, a5, a6⟩ := c_add (xs := xs) (xl := xl) (kind := 7) (w := nI p) h hc
    have nf := nwF_f (dp_I M 71) c 7
    have s1 := a3.pl (q := p + 4) (by omega) hp4
    have f1 : FrC M (plc M1 (p + 4)) := a2.tr FrC.pl
    have st : dp_den true xs xl (d + 5) 166 [.ref 68] M = (dp_bi (dp_den true xs xl (d + 4) 149 [.ref 68, .int (40 : Int32)] (plc M1 (p + 4))) (fun r5 M4 => if r5 = 0 then (some (.inl (some (.int (-1 : Int32))), M4)) else (dp_bi (dp_den true xs xl (d + 4) 165 [.ref 68] M4) (fun r7 M6 => if r7 = (-1 : Int32) then (some (.inl (some (.int (-1 : Int32))), M6)) else (dp_bi (dp_den true xs xl (d + 4) 149 [.ref 68, .int (58 : Int32)] M6) (fun r9 M8 => if r9 = 0 then (some (.inl (some (.int (-1 : Int32))), M8)) else (dp_bi (dp_den true xs xl (d + 4) 167 [.ref 68] M8) (fun r11 M10 => if r11 = (-1 : Int32) then (some (.inl (some (.int (-1 : Int32))), M10)) else (dp_bi (dp_den true xs xl (d + 4) 149 [.ref 68, .int (41 : Int32)] M10) (fun r13 M12 => if r13 = 0 then (some (.inl (some (.int (-1 : Int32))), M12)) else (dp_bv (dp_den true xs xl (d + 4) 151 [.ref 68, .int (nI c), .int (1 : Int32), .int r7] M12) (fun M14 => dp_bv (dp_den true xs xl (d + 4) 151 [.ref 68, .int (nI c), .int (5 : Int32), .int r11] M14) (fun M15 => dp_bv (dp_den true xs xl (d + 4) 151 [.ref 68, .int (nI c), .int (6 : Int32), .int ((dp_I M15 68 11) - r11)] M15) (fun M16 => some (.inl (some (.int (nI c))), M16))))))))))))))) := by
      rw [D_X7_readSteps_0_den, D_X7_readSteps_0_eq, hpl, a1, rb_bi]
      simp only [dp_w]
      rw [e4 M1 a3.2.1, if_neg (m1n (by omega))]
    have badF : ∀ b M', rSp t L (p + 4) = .inl b → dp_den true xs xl (d + 5) 166 [.ref 68] M = iR (-1) M' → BdC M M' b → (∀ v q, rSp t L (p + 4) = .inr (v, q) → ∃ M', dp_den true xs xl (d + 5) 166 [.ref 68] M = iR (nI c) M' ∧ PtC M t L c s [v] q (c + 1) M' c) ∧ (∀ b, rSp t L (p + 4) = .inl b → ∃ M', dp_den true xs xl (d + 5) 166 [.ref 68] M = iR (-1) M' ∧ BdC M M' b) := fun b M' e1 e2 e3 =>
      ⟨fun v q e => (by rw [e1] at e; cases e), fun b' e => (by rw [e1] at e; injection e with e; subst e; exact ⟨M', e2, e3⟩)⟩
    obtain ⟨p1, p2⟩ := c_pass (xs := xs) (xl := xl) (d := d + 1) (c := 40) s1.1 s1.2.2.1 s1.2.1 s1.2.2.2.1 (by decide)
    cases h40 : pss t L 40 (p + 4) with
    | inl b =>
      obtain ⟨M', b1, b2⟩ := p2 b h40
      exact badF b M' (by unfold rSp; rw [h40]) (by rw [st, b1, rb_bi, if_pos rfl]) (b2.fr f1)
    | inr q =>
      obtain ⟨b1, b2, b3⟩ := p1 q h40
      rw [plc_pl] at b1
      have s2 := a3.pl (q := q) (by omega) b2
      have f2 : FrC M (plc M1 q) := a2.tr FrC.pl
      rw [b1, rb_bi, if_neg r1_ne] at st
      obtain ⟨w1, w2⟩ := c_whole (xs := xs) (xl := xl) (d := d + 1) s2.1 s2.2.2.1 s2.2.1 s2.2.2.2.1
      cases hw : rWh t L q with
      | inl b =>
        obtain ⟨M', c1, c2⟩ := w2 b hw
        exact badF b M' (by unfold rSp; rw [h40]; simp only [hw]) (by rw [st, c1, rb_bi, if_pos rfl]) (c2.fr f2)
      | inr eq =>
        obtain ⟨en, q2⟩ := eq
        obtain ⟨c1, c2, c3, c4⟩ := w1 en q2 hw
        rw [plc_pl] at c1
        have s3 := a3.pl (q := q2) (by omega) c2
        have f3 : FrC M (plc M1 q2) := a2.tr FrC.pl
        rw [c1, rb_bi, if_neg (m1n (by omega))] at st
        obtain ⟨p3, p4⟩ := c_pass (xs := xs) (xl := xl) (d := d + 1) (c := 58) s3.1 s3.2.2.1 s3.2.1 s3.2.2.2.1 (by decide)
        cases h58 : pss t L 58 q2 with
        | inl b =>
          obtain ⟨M', d1, d2⟩ := p4 b h58
          exact badF b M' (by unfold rSp; rw [h40]; simp only [hw, h58]) (by rw [st, d1, rb_bi, if_pos rfl]) (d2.fr f3)
        | inr q3 =>
          obtain ⟨d1, d2, d3⟩ := p3 q3 h58
          rw [plc_pl] at d1
          have s4 := a3.pl (q := q3) (by omega) d2
          have f4 : FrC M (plc M1 q3) := a2.tr FrC.pl
          rw [d1, rb_bi, if_neg r1_ne, D_X7_readStepRows_0_den, D_X7_readStepRows_0_eq] at st
          simp only [dp_w] at st
          obtain ⟨i1, i2⟩ := c_rows (xs := xs) (xl := xl) (d := d) (t := t) (L := L) (c := c + 1) (s := s) 7 [] q3 (plc M1 q3) (-1) rfl (by simp) s4 (fun j hj => absurd hj (by simp)) rfl
          cases hr : rRo t L 7 [] q3 with
          | inl b =>
            obtain ⟨M', g1, g2⟩ := i2 b hr
            have g1' : D_X7_readStepRows_4 xs xl (d + 3) (-1) 0 (plc M1 q3) = iR (-1) M' := g1
            exact badF b M' (by unfold rSp; rw [h40]; simp only [hw, h58, hr]) (by rw [st, g1', rb_bi, if_pos rfl]) (g2.fr f4)
          | inr aq =>
            obtain ⟨a, q4⟩ := aq
            obtain ⟨M5, g1, g2, g3, g4, g5, g6, g7, g8⟩ := i1 a q4 hr
            have g1' : D_X7_readStepRows_4 xs xl (d + 3) (-1) 0 (plc M1 q3) = iR (nI a.length) M5 := g1
            rw [g1', rb_bi, if_neg (m1n (by omega))] at st
            obtain ⟨p5, p6⟩ := c_pass (xs := xs) (xl := xl) (d := d + 1) (c := 41) g3.1 g3.2.2.1 g3.2.1 g3.2.2.2.1 (by decide)
            have f5 : FrC M M5 := f4.tr g2
            cases h41 : pss t L 41 q4 with
            | inl b =>
              obtain ⟨M', k1, k2⟩ := p6 b h41
              exact badF b M' (by unfold rSp; rw [h40]; simp only [hw, h58, hr, h41]) (by rw [st, k1, rb_bi, if_pos rfl]) (k2.fr f5)
            | inr q5 =>
              obtain ⟨k1, k2, k3⟩ := p5 q5 h41
              rw [k1, rb_bi, if_neg r1_ne, c_setF (v2 := 1) (k := 1) rfl hc (by omega), rb_bv, c_setF (v2 := 5) (k := 5) rfl hc (by omega), rb_bv, c_setF (v2 := 6) (k := 6) rfl hc (by omega), rb_bv] at st
              have s6 := g3.pl (q := q5) (by omega) k2
              obtain ⟨M6, hM6⟩ : ∃ M6, M6 = dp_setI (dp_setI (dp_setI (plc M5 q5) 71 (c * 7 + 1) (nI en)) 71 (c * 7 + 6) (nI s)) 71 (c * 7 + 5) (nI a.length) := ⟨_, rfl⟩
              have as : dp_I (plc M5 q5) 68 11 = nI (s + a.length) := s6.2.2.2.2.2.2.1
              have hs := h.2.2.2.2.2.2.2.1
              have eM : dp_setI (dp_setI (dp_setI (plc M5 q5) 71 (c * 7 + 1) (nI en)) 71 (c * 7 + 5) (nI a.length)) 71 (c * 7 + 6) (dp_I (dp_setI (dp_setI (plc M5 q5) 71 (c * 7 + 1) (nI en)) 71 (c * 7 + 5) (nI a.length)) 68 11 - nI a.length) = M6 := by
                rw [gII, if_neg (by decide), gII, if_neg (by decide), as, ← nI_add, Int32.add_sub_cancel, hM6]
                refine mext (fun q => ?_) (fun q => by simp only [gJI]) rfl
                by_cases z : q = 71
                · subst z
                  simp only [gII, if_true]
                  funext j
                  by_cases y1 : j = c * 7 + 6
                  · rw [y1, uI_s, uI_n (by omega), uI_s]
                  · by_cases y2 : j = c * 7 + 5
                    · rw [y2, uI_n (by omega), uI_s, uI_s]
                    · rw [uI_n y1, uI_n y2, uI_n y2, uI_n y1]
                · simp only [gII, if_neg z]
              rw [eM] at st
              have e71 : dp_I M6 71 = uI (uI (uI (nwF (dp_I M 71) c 7) (c * 7 + 1) (nI en)) (c * 7 + 6) (nI s)) (c * 7 + 5) (nI a.length) := by rw [hM6, gII, if_pos rfl, gII, if_pos rfl, gII, if_pos rfl, plc_I _ _ _ (by decide), g5, plc_I _ _ _ (by decide), a4]
              have e72 : dp_I M6 72 = dp_I M5 72 := by rw [hM6, gII, if_neg (by decide), gII, if_neg (by decide), gII, if_neg (by decide), plc_I _ _ _ (by decide)]
              have s7 : CSt M6 t L q5 (c + 1) (s + a.length) := by
                rw [hM6]
                refine CSt.f6 (CSt.f6 (s6.f (by omega)) (k := 6) (Or.inr rfl) ?_) (k := 5) (Or.inl rfl) ?_
                · rw [if_pos rfl, if_neg (by decide), tN_n (by omega), gII, if_pos rfl, uI_n (by omega), plc_I _ _ _ (by decide), g5, plc_I _ _ _ (by decide), a4, nf.2.2.2.2.2.1]
                  show s + 0 ≤ s + a.length
                  omega
                · rw [if_neg (by decide), if_pos rfl, tN_n (by omega), gII, if_pos rfl, uI_s, tN_n (by omega)]
                  exact Nat.le_refl _
              have f6 : FrC M M6 := by rw [hM6]; exact ((f5.tr FrC.pl).f _ _).f _ _ |>.f _ _
              have hv : rSp t L (p + 4) = .inr ((7, nI en, -1, rws a), q5) := by unfold rSp; rw [h40]; simp only [hw, h58, hr, h41]
              refine ⟨fun v q e => ?_, fun b e => (by rw [hv] at e; cases e)⟩
              rw [hv] at e
              injection e with e
              injection e with e1 e2
              subst e1 e2
              refine ⟨M6, st, PtC.leaf f6 s7 (by omega) (fun i hi => by rw [e71, uI_n (by omega), uI_n (by omega), uI_n (by omega), nwF_o hi]) (fun i hi => by rw [e72, g6 i hi, plc_I _ _ _ (by decide), a5]) (by rfl) ?_ ?_⟩
              · have er : rwF (dp_I M6 71) (dp_I M6 72) c = rws a := by
                  unfold rwF
                  rw [e71, uI_s, uI_n (by omega), uI_s, nI_cl (by omega), nI_cl (by omega), e72]
                  exact rws_eq g4
                unfold rdF
                rw [er, e71, uI_n (by omega), uI_n (by omega), uI_n (by omega), uI_n (by omega), uI_n (by omega), uI_s, uI_n (by omega), uI_n (by omega), uI_n (by omega), uI_n (by omega), uI_n (by omega), uI_n (by omega), uI_n (by omega), uI_n (by omega), uI_n (by omega), nf.1, nf.2.2.1, nf.2.2.2.1, nf.2.2.2.2.1]
              · have u : dp_I M6 68 12 = dp_I M 68 12 := by
                  rw [hM6, gII, if_neg (by decide), gII, if_neg (by decide), gII, if_neg (by decide), plc_o _ _ _ (by decide)]
                  have g7' : dp_I M5 68 12 = dp_I (plc M1 q3) 68 12 := g7
                  have a6' : dp_I M1 68 12 = dp_I M 68 12 := a6
                  rw [g7', plc_o _ _ _ (by decide), a6']
                rw [u, umk_1, if_neg (show ¬ (7 : Int32) = 2 by decide), Int32.or_zero]
  · intro hc
    obtain ⟨M1, a1, a2⟩ := c_addN (xs := xs) (xl := xl) (kind := 7) (w := p) h hc
    refine ⟨dp_setI M1 68 9 (dp_I M1 68 9 + 4), ?_, ⟨a2.1.s 9 (by decide) _, by rw [gII, if_pos rfl, uI_n (by decide)]; exact a2.2⟩⟩
    rw [D_X7_readSteps_0_den, D_X7_readSteps_0_eq, hpl, a1, rb_bi]
    simp only [dp_w]
    rw [if_pos trivial]
end RI
