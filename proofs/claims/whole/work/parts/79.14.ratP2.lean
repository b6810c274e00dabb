-- needs: 71 72 73 74
/-! RATES: the model reads rows of steps -/
section RPp
variable {xs : Nat → Int32} {xl d : Nat} {M : dp_M} {t : Nat → Int32} {L : Nat}
theorem MSt.bad {p c nr k : Nat} (h : MSt M t L p c nr k) : dp_I M 114 81 = -1 := h.2.2.2.1
theorem StM.pl {y q : Nat} {a : List (Nat × Nat)} (h : StM M y a) : StM (plm M q) y a := ⟨by rw [plm_I _ _ _ (by decide)]; exact h.1, fun j hj => by rw [plm_I _ _ _ (by decide), plm_I _ _ _ (by decide)]; exact h.2 j hj⟩
theorem m_rows {c nr k y : Nat} : ∀ n (a : List (Nat × Nat)) (p : Nat) (M : dp_M), a.length + n = 7 → a.length ≤ 6 → MSt M t L p c nr k → y < nr → StM M y a →
    (∀ a' q, rRo t L n a p = .inr (a', q) → ∃ M', KpS M M' y ∧ MSt M' t L q c nr k ∧ StM M' y a' ∧ a'.length ≤ 6 ∧ ∀ v1, dp_bv (dp_den true xs xl (d + 4) 478 [.ref 114, .int (nI y)] M) (fun M7 => D_X12_takesSteps_42 xs xl (d + 4) v1 (nI y) M7) = dp_bv (dp_den true xs xl (d + 4) 468 [.ref 114, .int (41 : Int32)] M') (fun M1 => some (.inl (some (.int (nI y))), M1))) ∧
    (∀ b, rRo t L n a p = .inl b → ∃ M', BdS M M' b ∧ b ≤ L ∧ ∀ v1, dp_bv (dp_den true xs xl (d + 4) 478 [.ref 114, .int (nI y)] M) (fun M7 => D_X12_takesSteps_42 xs xl (d + 4) v1 (nI y) M7) = iR (nI y) M') := by
  intro n
  induction n with
  | zero => intro a p M h1 h2; omega
  | succ n ih =>
    intro a p M hn ha h hy hst
    have h3 := h.2.2.1
    have hL := h.1.2.1
    have sl := sk_le (t := t) h3
    obtain ⟨g1, g2⟩ := m_step (xs := xs) (xl := xl) (d := d) h hy hst ha
    have ended : ∀ M' b v1, BdS M M' b → b ≤ L → D_X12_takesSteps_42 xs xl (d + 4) v1 (nI y) M' = iR (nI y) M' := fun M' b v1 hb hbl => by
      have e : dp_I M' 114 81 = nI b := hb.1.2
      rw [D_X12_takesSteps_42_eq, e, if_pos (by rw [Int32.le_iff_toInt_le, nI_toInt (by omega)]; have : (0 : Int32).toInt = 0 := rfl; omega), m_takesN e (by omega), rb_bv]
    cases hS : rSt t L p with
    | inl b =>
      obtain ⟨M', b1, b2, b3⟩ := g1 b hS
      have hR : rRo t L (n + 1) a p = .inl b := by rw [rRo, hS]
      refine ⟨fun a' q e => (by rw [hR] at e; cases e), fun b' e => ?_⟩
      rw [hR] at e; injection e with e; subst e
      exact ⟨M', b2, b3, fun v1 => by rw [b1, rb_bv, ended M' b v1 b2 b3]⟩
    | inr x =>
      obtain ⟨f, ce, q⟩ := x
      obtain ⟨u1, u2⟩ := g2 f ce q hS
      have ro : rRo t L (n + 1) a p = if a.length = 6 ∨ (f : Int) ≤ lsf a then .inl (sk t L p) else if isAt t L (sk t L q) 44 then rRo t L n (a ++ [(f, ce)]) (sk t L q + 1) else .inr (a ++ [(f, ce)], sk t L q) := by rw [rRo, hS]
      rw [ro]
      by_cases z : a.length = 6 ∨ (f : Int) ≤ lsf a
      · rw [if_pos z]
        obtain ⟨M', b1, b2⟩ := u1 z
        refine ⟨fun a' q e => (by cases e), fun b' e => ?_⟩
        injection e with e; subst e
        exact ⟨M', b2, sl, fun v1 => by rw [b1, rb_bv, ended M' _ v1 b2 sl]⟩
      · rw [if_neg z]
        obtain ⟨M1, b1, b2, b3, b4⟩ := u2 z
        have q3 := b3.2.2.1
        have slq := sk_le (t := t) q3
        have al : (a ++ [(f, ce)]).length = a.length + 1 := by rw [List.length_append, List.length_singleton]
        have hlen : a.length < 6 := by
          have : ¬ a.length = 6 := fun q => z (Or.inl q)
          omega
        have e81 : dp_I M1 114 81 = -1 := b3.bad
        have e80 : dp_I (plm M1 (sk t L q)) 114 80 = nI (sk t L q) := plm_p _ _
        have nx : ∀ v1, D_X12_takesSteps_42 xs xl (d + 4) v1 (nI y) M1 = if isAt t L (sk t L q) 44 then dp_bv (dp_den true xs xl (d + 4) 478 [.ref 114, .int (nI y)] (plm M1 (sk t L q + 1))) (fun M5 => D_X12_takesSteps_42 xs xl (d + 4) v1 (nI y) M5) else dp_bv (dp_den true xs xl (d + 4) 468 [.ref 114, .int (41 : Int32)] (plm M1 (sk t L q))) (fun M6 => some (.inl (some (.int (nI y))), M6)) := fun v1 => by
          rw [D_X12_takesSteps_42_eq, e81, if_neg (by decide), m_next b3.1 q3 b3.2.1, rb_bi]
          by_cases w : isAt t L (sk t L q) 44
          · rw [if_pos ((sgM_at (by decide)).mpr w), if_pos w, e80]
            simp only [dp_w, nI_1]
            rw [show dp_setI (plm M1 (sk t L q)) 114 80 (nI (sk t L q + 1)) = plm (plm M1 (sk t L q)) (sk t L q + 1) from rfl, plm_pl]
          · rw [if_neg (fun u => w ((sgM_at (by decide)).mp u)), if_neg w]
        by_cases w : isAt t L (sk t L q) 44
        · rw [if_pos w]
          have w1 := w.1
          obtain ⟨i1, i2⟩ := ih (a ++ [(f, ce)]) (sk t L q + 1) (plm M1 (sk t L q + 1)) (by omega) (by omega) (b3.pl (by omega)) hy b4.pl
          refine ⟨fun a' q' e => ?_, fun b e => ?_⟩
          · obtain ⟨M', j1, j2, j3, j4, j5⟩ := i1 a' q' e
            exact ⟨M', (b2.tr KpS.pl).tr j1, j2, j3, j4, fun v1 => by rw [b1, rb_bv, nx, if_pos w, j5]⟩
          · obtain ⟨M', j1, j2, j3⟩ := i2 b e
            exact ⟨M', j1.pl.fr b2.1 b2.2.2.2.2, j2, fun v1 => by rw [b1, rb_bv, nx, if_pos w, j3]⟩
        · rw [if_neg w]
          refine ⟨fun a' q' e => ?_, fun b e => (by cases e)⟩
          injection e with e
          injection e with e1 e2
          subst e1 e2
          exact ⟨plm M1 (sk t L q), b2.tr KpS.pl, b3.pl slq, b4.pl, by omega, fun v1 => by rw [b1, rb_bv, nx, if_neg w]⟩
/-- the steps -/
theorem m_steps {p c nr k : Nat} (h : MSt M t L p (c + 1) nr k) (hn : nr ≤ c) : (∀ v q, rSp t L p = .inr (v, q) → ∃ M', dp_den true xs xl (d + 5) 479 [.ref 114] M = iR (nI nr) M' ∧ PtM M t L c nr k [v] q (c + 1) M' nr) ∧
    (∀ b, rSp t L p = .inl b → ∃ M' z, dp_den true xs xl (d + 5) 479 [.ref 114] M = iR z M' ∧ BdM M M' b ∧ b ≤ L ∧ (z = -1 ∨ z = nI nr) ∧ dp_I M' 114 97 = dp_I M 114 97 ∧ (dp_I M' 114 90 = nI nr ∨ dp_I M' 114 90 = nI (nr + 1))) := by
  have h0 := h
  obtain ⟨h1, h2, h3, h4, h5, h6, h7, h8, h9, h10, h11⟩ := h
  have hL := h1.2.1
  have h7' : dp_I M 114 90 = nI nr := h7
  have bad3 : ∀ M1 b, BdS M M1 b → b ≤ L → rSp t L p = .inl b → dp_den true xs xl (d + 5) 479 [.ref 114] M = iR (-1) M1 → (∀ v q, rSp t L p = .inr (v, q) → ∃ M', dp_den true xs xl (d + 5) 479 [.ref 114] M = iR (nI nr) M' ∧ PtM M t L c nr k [v] q (c + 1) M' nr) ∧ (∀ b, rSp t L p = .inl b → ∃ M' z, dp_den true xs xl (d + 5) 479 [.ref 114] M = iR z M' ∧ BdM M M' b ∧ b ≤ L ∧ (z = -1 ∨ z = nI nr) ∧ dp_I M' 114 97 = dp_I M 114 97 ∧ (dp_I M' 114 90 = nI nr ∨ dp_I M' 114 90 = nI (nr + 1))) := fun M1 b hb hbl e1 e2 =>
    ⟨fun v q e => (by rw [e1] at e; cases e), fun b' e => (by rw [e1] at e; injection e with e; subst e; exact ⟨M1, -1, e2, hb.1, hbl, Or.inl rfl, hb.2 97 (by decide), Or.inl (by rw [hb.2 90 (by decide)]; exact h7)⟩)⟩
  obtain ⟨p1, -⟩ := m_takes (xs := xs) (xl := xl) (d := d + 2) (c := 40) h1 h3 h2 h4 (by decide)
  have p2 := m_takes' (xs := xs) (xl := xl) (d := d + 2) (c := 40) h1 h3 h2 h4 (by decide)
  cases h40 : pss t L 40 p with
  | inl b =>
    obtain ⟨M1, b1, b2, b3⟩ := p2 b h40
    have e : dp_I M1 114 81 = nI b := b2.1.2
    refine bad3 M1 b b2 b3 (by unfold rSp; rw [h40]) ?_
    rw [D_X12_takesSteps_0_den, D_X12_takesSteps_0_eq, b1, rb_bv, m_wholeN e (by omega), rb_bi, m_takesN e (by omega), rb_bv, e, if_neg (r_nn (by omega))]
  | inr q =>
    have b1 := p1 q h40
    have b2 := pss_gt h40
    have s2 := h0.pl (q := q) b2.2
    obtain ⟨w1, -⟩ := m_whole (xs := xs) (xl := xl) (d := d + 1) s2.1 s2.2.2.1 s2.2.1 s2.2.2.2.1
    have w2 := m_whole' (xs := xs) (xl := xl) (d := d + 1) s2.1 s2.2.2.1 s2.2.1 s2.2.2.2.1
    cases hw : rWh t L q with
    | inl b =>
      obtain ⟨M1, c1, c2, c3⟩ := w2 b hw
      have e : dp_I M1 114 81 = nI b := c2.1.2
      refine bad3 M1 b c2.pl c3 (by unfold rSp; rw [h40]; simp only [hw]) ?_
      rw [D_X12_takesSteps_0_den, D_X12_takesSteps_0_eq, b1, rb_bv, c1, rb_bi, m_takesN e (by omega), rb_bv, e, if_neg (r_nn (by omega))]
    | inr eq =>
      obtain ⟨en, q2⟩ := eq
      have c1 := w1 en q2 hw
      have c2 := rWh_gt b2.2 hw
      rw [plm_pl] at c1
      have s3 := h0.pl (q := q2) c2.2
      obtain ⟨p3, -⟩ := m_takes (xs := xs) (xl := xl) (d := d + 2) (c := 58) s3.1 s3.2.2.1 s3.2.1 s3.2.2.2.1 (by decide)
      have p4 := m_takes' (xs := xs) (xl := xl) (d := d + 2) (c := 58) s3.1 s3.2.2.1 s3.2.1 s3.2.2.2.1 (by decide)
      cases h58 : pss t L 58 q2 with
      | inl b =>
        obtain ⟨M1, d1, d2, d3⟩ := p4 b h58
        have e : dp_I M1 114 81 = nI b := d2.1.2
        refine bad3 M1 b d2.pl d3 (by unfold rSp; rw [h40]; simp only [hw, h58]) ?_
        rw [D_X12_takesSteps_0_den, D_X12_takesSteps_0_eq, b1, rb_bv, c1, rb_bi, d1, rb_bv, e, if_neg (r_nn (by omega))]
      | inr q3 =>
        have d1 := p3 q3 h58
        have d2 := pss_gt h58
        rw [plm_pl] at d1
        have s4 := h0.pl (q := q3) d2.2
        have e81 : dp_I (plm M q3) 114 81 = -1 := s4.bad
        obtain ⟨m1, m2⟩ := m_make (xs := xs) (xl := xl) (v1 := 7) (v2 := nI en) (v3 := -1) (v4 := -1) (v5 := -1) s4 (by omega)
        obtain ⟨N, hN⟩ : ∃ N, N = mkM (plm M q3) nr 7 (nI en) (-1) (-1) (-1) := ⟨_, rfl⟩
        rw [← hN] at m1 m2
        have stN : StM N nr [] := ⟨by rw [hN, mkM_n.2.2.2.2.2, uI_s]; rfl, fun j hj => absurd hj (by simp)⟩
        have frN : FrM M N := by rw [hN]; exact FrM.pl.tr mkM_fr
        obtain ⟨i1, i2⟩ := m_rows (xs := xs) (xl := xl) (d := d) (t := t) (L := L) 7 [] q3 N rfl (by simp) m2 (by omega) stN
        have st : dp_den true xs xl (d + 5) 479 [.ref 114] M = dp_bv (dp_den true xs xl (d + 4) 478 [.ref 114, .int (nI nr)] N) (fun M7 => D_X12_takesSteps_42 xs xl (d + 4) (nI en) (nI nr) M7) := by
          rw [D_X12_takesSteps_0_den, D_X12_takesSteps_0_eq, b1, rb_bv, c1, rb_bi, d1, rb_bv, e81, if_pos (by decide), m1, rb_bi]
        have n97 : dp_I N 114 97 = dp_I M 114 97 := by rw [hN, mkM_114, uI_n (by decide), plm_o _ _ _ (by decide)]
        have n90 : dp_I N 114 90 = nI (nr + 1) := by rw [hN, mkM_114, uI_s]
        have badN : ∀ M1 b, BdS N M1 b → b ≤ L → rSp t L p = .inl b → dp_den true xs xl (d + 5) 479 [.ref 114] M = iR (nI nr) M1 → (∀ v q, rSp t L p = .inr (v, q) → ∃ M', dp_den true xs xl (d + 5) 479 [.ref 114] M = iR (nI nr) M' ∧ PtM M t L c nr k [v] q (c + 1) M' nr) ∧ (∀ b, rSp t L p = .inl b → ∃ M' z, dp_den true xs xl (d + 5) 479 [.ref 114] M = iR z M' ∧ BdM M M' b ∧ b ≤ L ∧ (z = -1 ∨ z = nI nr) ∧ dp_I M' 114 97 = dp_I M 114 97 ∧ (dp_I M' 114 90 = nI nr ∨ dp_I M' 114 90 = nI (nr + 1))) := fun M1 b hb hbl e1 e2 =>
          ⟨fun v q e => (by rw [e1] at e; cases e), fun b' e => (by rw [e1] at e; injection e with e; subst e; exact ⟨M1, nI nr, e2, hb.1.fr frN, hbl, Or.inr rfl, by rw [hb.2 97 (by decide)]; exact n97, Or.inr (by rw [hb.2 90 (by decide)]; exact n90)⟩)⟩
        cases hr : rRo t L 7 [] q3 with
        | inl b =>
          obtain ⟨M', g1, g2, g3⟩ := i2 b hr
          refine badN M' b g1 g2 (by unfold rSp; rw [h40]; simp only [hw, h58, hr]) (by rw [st, g3])
        | inr aq =>
          obtain ⟨a, q4⟩ := aq
          obtain ⟨M5, g1, g2, g3, g4, g5⟩ := i1 a q4 hr
          rw [g5] at st
          obtain ⟨p5, -⟩ := m_takes (xs := xs) (xl := xl) (d := d + 2) (c := 41) g2.1 g2.2.2.1 g2.2.1 g2.2.2.2.1 (by decide)
          have p6 := m_takes' (xs := xs) (xl := xl) (d := d + 2) (c := 41) g2.1 g2.2.2.1 g2.2.1 g2.2.2.2.1 (by decide)
          cases h41 : pss t L 41 q4 with
          | inl b =>
            obtain ⟨M', k1, k2, k3⟩ := p6 b h41
            exact badN M' b (k2.fr g1.1 g1.2.2.2.2) k3 (by unfold rSp; rw [h40]; simp only [hw, h58, hr, h41]) (by rw [st, k1, rb_bv])
          | inr q5 =>
            have k1 := p5 q5 h41
            have k2 := pss_gt h41
            have hv : rSp t L p = .inr ((7, nI en, -1, rws a), q5) := by unfold rSp; rw [h40]; simp only [hw, h58, hr, h41]
            refine ⟨fun v q e => ?_, fun b e => (by rw [hv] at e; cases e)⟩
            rw [hv] at e
            injection e with e
            injection e with e1 e2
            subst e1 e2
            have s6 := g2.pl (q := q5) k2.2
            have kk : KpS N (plm M5 q5) nr := g1.tr KpS.pl
            refine ⟨plm M5 q5, by rw [st, k1, rb_bv], PtM.leaf (frN.tr kk.1) s6 ?_ ?_ (by rfl) ?_⟩
            · refine LowM.tr (nr' := nr) (show LowM M N nr by rw [hN]; exact LowM.pl.tr mkM_low (Nat.le_refl _)) ⟨fun K hK i hi => ?_, fun i hi => kk.2.2.2.1 i hi⟩ (Nat.le_refl _)
              simp only [List.mem_cons, List.not_mem_nil, or_false] at hK
              rcases hK with rfl | rfl | rfl | rfl | rfl | rfl
              · rw [kk.2.1 174 (by decide)]
              · rw [kk.2.1 175 (by decide)]
              · rw [kk.2.1 176 (by decide)]
              · rw [kk.2.1 177 (by decide)]
              · rw [kk.2.1 178 (by decide)]
              · rw [kk.2.2.1 i (by omega)]
            · refine OpM.tr (k' := k + 1) (show OpM M N (k + 1) by rw [hN]; exact OpM.pl.tr mkM_op (Nat.le_refl _)) (fun K hK i _ => ?_) (Nat.le_refl _)
              have w : ∀ K ∈ [182, 183, 184, 185], K ∈ [174, 175, 176, 177, 178, 182, 183, 184, 185] := by decide
              rw [kk.2.1 K (w K hK)]
            · have er : rwN (plm M5 q5) nr = rws a := by
                unfold rwN
                rw [plm_I _ _ _ (by decide), plm_I _ _ _ (by decide), plm_I _ _ _ (by decide), g3.1, nI_cl (by omega)]
                unfold rws
                apply List.ext_getElem
                · simp
                · intro n h1 h2
                  simp only [List.length_map, List.length_range] at h1
                  rw [List.getElem_map, List.getElem_map, List.getElem_range, (g3.2 n h1).1, (g3.2 n h1).2.1]
                  simp [List.getD_eq_getElem?_getD, List.getElem?_eq_getElem h1]
              have rN := mkM_n (M := plm M q3) (nr := nr) (v1 := 7) (v2 := nI en) (v3 := -1) (v4 := -1) (v5 := -1)
              rw [← hN] at rN
              unfold rdN
              rw [er, kk.2.1 174 (by decide), kk.2.1 175 (by decide), kk.2.1 176 (by decide), kk.2.1 177 (by decide), kk.2.1 178 (by decide), rN.1, rN.2.1, rN.2.2.1, rN.2.2.2.1, rN.2.2.2.2.1, uI_s, uI_s, uI_s, uI_s, uI_s]
end RPp
