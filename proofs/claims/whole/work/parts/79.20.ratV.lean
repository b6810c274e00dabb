-- needs: 71 72 73 74
/-! RATES: the model's reader is ps -/
section RV
variable {xs : Nat → Int32} {xl d : Nat} {t : Nat → Int32} {L : Nat}
theorem op_91 {M : dp_M} {x : Int32} {k : Nat} : OpM M (dp_setI M 114 91 x) k := op_114
theorem mr_part {n : Nat} (ih : MRd xs xl d t L n) (k : Nat) (M : dp_M) (p c nr : Nat) (res : Nat ⊕ (List Nd × Nat × Nat)) (h : MSt M t L p c nr k) (hres : ps t L (n + 1) 0 [] k p c = some res) : MR0 xs xl d t L M c nr k res := by
  have h0 := h
  obtain ⟨h1, h2, h3, h4, h5, h6, h7, h8, h9, h10, h11⟩ := h
  have hL := h1.2.1
  have sl := sk_le (t := t) h3
  have s1 := h0.pl (q := sk t L p) sl
  have e80 : dp_I (plm M (sk t L p)) 114 80 = nI (sk t L p) := plm_p _ _
  have e79 : dp_I (plm M (sk t L p)) 114 79 = nI L := s1.1.1
  have hb : dp_I M 114 81 = -1 := h4
  rw [ps] at hres
  case x_8 => intro e; cases e
  case x_9 => intro e; cases e
  by_cases z : isAt t L (sk t L p) 40
  · -- a bracket
    rw [if_pos z] at hres
    have z1 := z.1
    obtain ⟨o1, o2⟩ := m_open (xs := xs) (xl := xl) (kind := 8) (w := sk t L p) s1
    by_cases hk : k < 12
    · rw [if_pos hk] at hres
      obtain ⟨p1, p2⟩ := o1 hk
      have b2 : dp_I (opN (plm M (sk t L p)) (k + 1) 8) 114 81 = -1 := p2.bad
      have b80 : dp_I (opN (plm M (sk t L p)) (k + 1) 8) 114 80 = nI (sk t L p) := p2.2.1
      obtain ⟨N, hN⟩ : ∃ N, N = plm (opN (plm M (sk t L p)) (k + 1) 8) (sk t L p + 1) := ⟨_, rfl⟩
      have tp : dp_den true xs xl (d + 8) 483 [.ref 114] M = iR (-1) N := by
        rw [D_X12_takesPart_0_den, D_X12_takesPart_0_eq, m_next h1 h3 h2, rb_bi]
        simp only [dp_w]
        rw [if_pos ((sgM_at (by decide)).mpr z), e80, p1, rb_bv, b2, if_neg (by decide), b80, nI_1, hN]; rfl
      have g1 := g_part1 (d := d + 8) hb tp
      have sN : MSt N t L (sk t L p + 1) c nr (k + 1) := by rw [hN]; exact p2.pl (by omega)
      have fN : FrM M N := by rw [hN]; exact (FrM.pl.tr opN_fr).tr FrM.pl
      have lN : LowM M N nr := by rw [hN]; exact (LowM.pl.tr (opN_low (nr := nr)) (Nat.le_refl _)).tr (LowM.pl (nr := nr)) (Nat.le_refl _)
      have oN : OpM M N (k + 1) := by rw [hN]; exact (OpM.pl.tr opN_op (Nat.le_refl _)).tr OpM.pl (Nat.le_refl _)
      have n182 : dp_I N 182 (k + 1) = 8 := by rw [hN, plm_I _ _ _ (by decide), opN_n.1, uI_s]
      have n185 : dp_I N 185 (k + 1) = 0 := by rw [hN, plm_I _ _ _ (by decide), opN_n.2.2.2, uI_s]
      cases hp1 : ps t L n 1 [] (k + 1) (sk t L p + 1) c with
      | none => rw [hp1] at hres; cases hres
      | some res1 =>
        have i1 := (ih (k + 1) N (sk t L p + 1) c nr res1 sN).2.1 hp1 n185
        rw [hp1] at hres
        cases res1 with
        | inl b =>
          injection hres with hres
          subst hres
          exact MB.go g1 fN i1
        | inr lq =>
          obtain ⟨l, q, c'⟩ := lq
          obtain ⟨M1, y, j1, j2⟩ := i1
          obtain ⟨t1, t2, t3⟩ := ps_stop n 1 [] (k + 1) _ c l q c' (Or.inl rfl) hp1
          have sM1 := j1.2.1
          have q3 := sM1.2.2.1
          have m182 : dp_I M1 182 (k + 1) = 8 := by rw [j1.2.2.2.2.2.2.1]; exact n182
          have m184 : dp_I M1 184 (k + 1) = nI y := j1.2.2.2.2.2.2.2.2.1
          have plq : plm M1 (sk t L q) = M1 := by rw [t1]; exact plm_self sM1.2.1
          (try dsimp only at hres)
          by_cases w : isAt t L q 41
          · have hp : pss t L 41 q = .inr (q + 1) := by unfold pss; rw [t1, if_pos w]
            rw [hp] at hres
            injection hres with hres
            subst hres
            have w1 := w.1
            refine ⟨_, y, PtM.close j1 fN lN oN (by omega), fun M2 hj => ?_⟩
            have bh := m_bhClose8 (xs := xs) (xl := xl) (d := d + 6) (M3 := M2) sM1 t1 w m182 (by rw [m184]; exact hj _)
            exact (g1.tr j2).tr (g_behind (d := d + 7) sM1 (Or.inr (by omega)) (Or.inl rfl) (by rw [plq]; exact bh))
          · have hp : pss t L 41 q = .inl q := by unfold pss; rw [t1, if_neg w]
            rw [hp] at hres
            injection hres with hres
            subst hres
            have bh := m_bhBad (xs := xs) (xl := xl) (d := d + 6) sM1 t1 t2 t3 (Or.inr (by omega)) (fun u => by rw [m182] at u; exact absurd u.2.1 (by decide)) (fun u => w u.1)
            exact ⟨_, 0, BdM.mk' (fN.tr j1.1), q3, (g1.tr j2).tr (g_behind (d := d + 7) sM1 (Or.inr (by omega)) (Or.inl rfl) (by rw [plq]; exact bh))⟩
    · rw [if_neg hk] at hres
      injection hres with hres
      subst hres
      have e81 : dp_I (dp_setI (plm M (sk t L p)) 114 81 (nI (sk t L p))) 114 81 = nI (sk t L p) := by rw [gII, if_pos rfl, uI_s]
      refine ⟨dp_setI (dp_setI (plm M (sk t L p)) 114 81 (nI (sk t L p))) 114 80 (dp_I (dp_setI (plm M (sk t L p)) 114 81 (nI (sk t L p))) 114 80 + 0), 1, ⟨(FrM.pl.s 81 (by decide) _).s 80 (by decide) _, by rw [gII, if_pos rfl, uI_n (by decide)]; exact e81⟩, sl, g_part1 (d := d + 8) hb ?_⟩
      rw [D_X12_takesPart_0_den, D_X12_takesPart_0_eq, m_next h1 h3 h2, rb_bi]
      simp only [dp_w]
      rw [if_pos ((sgM_at (by decide)).mpr z), e80, o2 hk, rb_bv, e81, if_pos (by rw [Int32.le_iff_toInt_le, nI_toInt (by omega)]; have : (0 : Int32).toInt = 0 := rfl; omega)]
  rw [if_neg z] at hres
  have nob : ¬ sgM t L (sk t L p) = 40 := fun u => z ((sgM_at (by decide)).mp u)
  by_cases y : sk t L p < L ∧ isDg (t (sk t L p))
  · -- a number
    rw [if_pos y] at hres
    have es : sgM t L (sk t L p) = t (sk t L p) := if_pos y.1
    obtain ⟨c1, c2⟩ := m_count (xs := xs) (xl := xl) (w := sk t L p) s1
    have tp : ∀ r, dp_bi (dp_den true xs xl (d + 7) 475 [.ref 114, .int (nI (sk t L p))] (plm M (sk t L p))) (fun r14 M13 => if r14 = 0 then (some (.inl (some (.int (-1 : Int32))), M13)) else (dp_bi (dp_den true xs xl (d + 7) 477 [.ref 114] M13) (fun r16 M15 => some (.inl (some (.int r16)), M15)))) = some r → dp_den true xs xl (d + 8) 483 [.ref 114] M = some r := fun r e => by
      rw [D_X12_takesPart_0_den, D_X12_takesPart_0_eq, m_next h1 h3 h2, rb_bi]
      simp only [dp_w]
      rw [if_neg nob, es, m_isS, rb_bi, ibz, if_neg (dg_lt y.2), m_isD, rb_bi, ibz, if_pos y.2, e80]; exact e
    by_cases hc : c < 60
    · rw [if_pos hc] at hres
      obtain ⟨g1, g2, g3, g4, g5⟩ := c1 hc
      obtain ⟨u1, u2⟩ := m_share (xs := xs) (xl := xl) (d := d + 3) g2 h8 (dgt_1 y)
      have fr : FrM M (dp_setI (plm M (sk t L p)) 114 91 (nI (c + 1))) := FrM.pl.tr g3
      cases hN : rNum t L (sk t L p) with
      | inl b =>
        rw [hN] at hres
        injection hres with hres
        subst hres
        obtain ⟨M', j1, j2⟩ := u2 b hN
        have bl : b ≤ L := by
          unfold rNum at hN
          cases hq : rNu t L (sk t L p) with
          | inl b' =>
            rw [hq] at hN; injection hN with hN; subst hN
            unfold rNu at hq
            split at hq
            · split at hq
              · split at hq
                · cases hq
                · injection hq with hq; omega
              · cases hq
            · injection hq with hq; omega
          | inr xq =>
            obtain ⟨x, q⟩ := xq
            rw [hq] at hN
            have gt := rNu_gt sl hq
            have k1 := sk_le (t := t) gt.2
            (try dsimp only at hN)
            unfold rUn at hN
            split at hN
            · cases hN
            · split at hN
              · rename_i z9
                have k2 := sk_le (t := t) (L := L) (p := sk t L q + 1) (by have := z9.1; omega)
                split at hN
                · cases hN
                · injection hN with hN; omega
              · injection hN with hN; omega
        exact ⟨M', 1, j2.fr fr, bl, g_part1 (d := d + 8) hb (tp _ (by rw [g1, rb_bi, if_neg (by decide), j1, rb_bi]))⟩
      | inr vq =>
        obtain ⟨v, q⟩ := vq
        rw [hN] at hres
        injection hres with hres
        subst hres
        obtain ⟨M', j1, j2⟩ := u1 v q hN
        obtain ⟨a1, a2, a3, a4, a5, a6⟩ := j2
        refine ⟨M', nr, ⟨fr.tr a1, a2, a3, (LowM.pl.tr g4 (Nat.le_refl _)).tr a4 (Nat.le_refl _), a5, (OpM.pl.tr (op_91 (k := k + 1)) (Nat.le_refl _)).tr a6 (Nat.le_refl _)⟩, fun M2 hj => ?_⟩
        exact g_part0 (d := d + 8) hb (tp _ (by rw [g1, rb_bi, if_neg (by decide), j1, rb_bi])) (m1_ne' (by omega)) (hj _)
    · rw [if_neg hc] at hres
      injection hres with hres
      subst hres
      obtain ⟨M', j1, j2⟩ := c2 hc
      exact ⟨M', 1, j2.fr FrM.pl, sl, g_part1 (d := d + 8) hb (tp _ (by rw [j1, rb_bi, if_pos rfl]))⟩
  rw [if_neg y] at hres
  -- words
  by_cases w0 : lt' t L (sk t L p) = 0
  · have nw : ∀ w : List Int32, w.length ≠ 0 → ¬ isWd t L (sk t L p) w := fun w hw u => hw (by rw [← u.1, w0])
    rw [if_neg (nw _ (by decide)), if_neg (fun u => u.elim (nw _ (by decide)) (nw _ (by decide))), if_neg (nw _ (by decide))] at hres
    injection hres with hres
    subst hres
    have ns : ¬ isLt (sgM t L (sk t L p)) := fun u => by
      by_cases v : sk t L p < L
      · rw [show sgM t L (sk t L p) = t (sk t L p) from if_pos v] at u
        have := rnN_s (P := fun i => decide (isLt (t i))) v (decide_eq_true u)
        unfold lt' at w0
        omega
      · rw [show sgM t L (sk t L p) = -1 from if_neg v] at u; exact absurd u (by decide)
    have nd' : ¬ isDg (sgM t L (sk t L p)) := fun u => by
      by_cases v : sk t L p < L
      · rw [show sgM t L (sk t L p) = t (sk t L p) from if_pos v] at u; exact y ⟨v, u⟩
      · rw [show sgM t L (sk t L p) = -1 from if_neg v] at u; exact absurd u (by decide)
    refine ⟨dp_setI (plm M (sk t L p)) 114 81 (nI (sk t L p)), 1, BdM.mk' FrM.pl, sl, g_part1 (d := d + 8) hb ?_⟩
    rw [D_X12_takesPart_0_den, D_X12_takesPart_0_eq, m_next h1 h3 h2, rb_bi]
    simp only [dp_w]
    rw [if_neg nob, m_isS, rb_bi, ibz, if_neg ns, m_isD, rb_bi, ibz, if_neg nd', e79, e80]
    by_cases v : sk t L p < L
    · rw [if_neg (fun u => (sgM_end h1).mp u v), m_stop s1.2.2.2.1, rb_bv]
    · have eL : nI L = nI (sk t L p) := congrArg nI (by omega)
      rw [if_pos ((sgM_end h1).mpr v), eL, m_stop s1.2.2.2.1, rb_bv]
  · obtain ⟨v1, v2⟩ := ltz_1 w0
    have es : sgM t L (sk t L p) = t (sk t L p) := if_pos v1
    have ll := lt_le (t := t) sl
    have tp : ∀ r, dp_den true xs xl (d + 7) 482 [.ref 114] (plm M (sk t L p)) = some r → (∃ v N, r = (.inl (some (.int v)), N)) → dp_den true xs xl (d + 8) 483 [.ref 114] M = some r := fun r e hr => by
      obtain ⟨v, N, rfl⟩ := hr
      rw [D_X12_takesPart_0_den, D_X12_takesPart_0_eq, m_next h1 h3 h2, rb_bi]
      simp only [dp_w]
      rw [if_neg nob, es, m_isS, rb_bi, ibz, if_pos v2, e, rb_bi]
    have wd := m_words (xs := xs) (xl := xl) (d := d + 5) s1
    have sw := s1.pl (q := sk t L p + lt' t L (sk t L p)) ll
    rw [plm_pl] at sw wd
    obtain ⟨c1, c2⟩ := m_count (xs := xs) (xl := xl) (w := sk t L p) sw
    have noc : ¬ c < 60 → isWd t L (sk t L p) [102, 114, 101, 101] ∨ isWd t L (sk t L p) [109, 105, 110] ∨ isWd t L (sk t L p) [109, 97, 120] ∨ isWd t L (sk t L p) [115, 116, 101, 112] → MB xs xl d L M 1 M (sk t L p) := fun hc hw => by
      obtain ⟨M', j1, j2⟩ := c2 hc
      refine ⟨M', 1, j2.fr FrM.pl, sl, g_part1 (d := d + 8) hb (tp _ (wd _ ?_) ⟨_, _, rfl⟩)⟩
      rw [if_pos hw, j1, rb_bi, if_pos rfl]
    obtain ⟨W, hW⟩ : ∃ W, W = dp_setI (plm M (sk t L p + lt' t L (sk t L p))) 114 91 (nI (c + 1)) := ⟨_, rfl⟩
    have fW : FrM M W := by rw [hW]; exact FrM.pl.s 91 (by decide) _
    have lW : LowM M W nr := by rw [hW]; exact LowM.pl.tr (low_114 (nr := nr)) (Nat.le_refl _)
    have oW : ∀ m, OpM M W m := fun m => by rw [hW]; exact OpM.pl.tr (op_114 (k := m)) (Nat.le_refl _)
    by_cases f1 : isWd t L (sk t L p) [102, 114, 101, 101]
    · rw [if_pos f1] at hres
      have l4 : lt' t L (sk t L p) = 4 := f1.1
      by_cases hc : c < 60
      · rw [if_pos hc] at hres
        injection hres with hres
        subst hres
        obtain ⟨g1, g2, -⟩ := c1 hc
        rw [← hW] at g1 g2
        obtain ⟨m1, m2⟩ := m_make (xs := xs) (xl := xl) (v1 := 0) (v2 := 0) (v3 := -1) (v4 := -1) (v5 := -1) g2 (by omega)
        rw [l4] at m2
        refine ⟨mkM W nr 0 0 (-1) (-1) (-1), nr, PtM.leaf (fW.tr mkM_fr) m2 (lW.tr mkM_low (Nat.le_refl _)) ((oW (k + 1)).tr mkM_op (Nat.le_refl _)) (by rfl) mkM_rd, fun M2 hj => ?_⟩
        refine g_part0 (d := d + 8) hb (tp _ (wd _ ?_) ⟨_, _, rfl⟩) (m1_ne' (by omega)) (hj _)
        rw [if_pos (Or.inl f1), g1, rb_bi, if_neg (by decide), if_pos f1, m1, rb_bi]
      · rw [if_neg hc] at hres
        injection hres with hres
        subst hres
        exact noc hc (Or.inl f1)
    rw [if_neg f1] at hres
    by_cases w23 : isWd t L (sk t L p) [109, 105, 110] ∨ isWd t L (sk t L p) [109, 97, 120]
    · rw [if_pos w23] at hres
      have l3 : lt' t L (sk t L p) = 3 := by rcases w23 with u | u <;> exact u.1
      have hw : isWd t L (sk t L p) [102, 114, 101, 101] ∨ isWd t L (sk t L p) [109, 105, 110] ∨ isWd t L (sk t L p) [109, 97, 120] ∨ isWd t L (sk t L p) [115, 116, 101, 112] := Or.inr (w23.elim Or.inl (fun u => Or.inr (Or.inl u)))
      have nstep : ¬ isWd t L (sk t L p) [115, 116, 101, 112] := fun u => by have := u.1; rw [l3] at this; exact absurd this (by decide)
      obtain ⟨kd, hkd⟩ : ∃ kd : Int32, kd = if isWd t L (sk t L p) [109, 105, 110] then 5 else 6 := ⟨_, rfl⟩
      have kB : isBn (kd, 0, -1, []) = true := by
        rw [hkd]; split <;> decide
      have k56 : kd = 5 ∨ kd = 6 := by
        rw [hkd]; split
        · exact Or.inl rfl
        · exact Or.inr rfl
      have ekd : (if isWd t L (sk t L p) [109, 105, 110] then ((5, 0, -1, []) : Nd) else (6, 0, -1, [])) = (kd, 0, -1, []) := by rw [hkd]; split <;> rfl
      by_cases hc : c < 60
      case neg =>
        rw [if_neg (fun u => hc u.1)] at hres
        injection hres with hres
        subst hres
        exact noc hc hw
      obtain ⟨g1, g2, -⟩ := c1 hc
      rw [← hW] at g1 g2
      obtain ⟨o1, o2⟩ := m_open (xs := xs) (xl := xl) (kind := kd) (w := sk t L p) g2
      have tw : ∀ r, dp_bv (dp_den true xs xl (d + 6) 480 [.ref 114, .int kd, .int (nI (sk t L p))] W) (fun M3 => dp_bv (dp_den true xs xl (d + 6) 468 [.ref 114, .int (40 : Int32)] M3) (fun M4 => iR (-1) M4)) = some r → (∃ v N, r = (.inl (some (.int v)), N)) → dp_den true xs xl (d + 8) 483 [.ref 114] M = some r := fun r e hr => tp r (wd r (by rw [if_pos hw, g1, rb_bi, if_neg (by decide), if_neg f1, if_neg nstep, ← hkd]; exact e)) hr
      by_cases hk : k < 12
      · rw [if_pos ⟨hc, hk⟩] at hres
        obtain ⟨p1, p2⟩ := o1 hk
        rw [l3] at p2
        obtain ⟨u1, u2⟩ := m_takes (xs := xs) (xl := xl) (d := d + 4) (c := 40) p2.1 p2.2.2.1 p2.2.1 p2.2.2.2.1 (by decide)
        cases h40 : pss t L 40 (sk t L p + 3) with
        | inl b =>
          rw [h40] at hres
          injection hres with hres
          subst hres
          obtain ⟨M', j1, j2, j3, -⟩ := u2 b h40
          exact ⟨M', 1, (j2.fr opN_fr).fr fW, j3, g_part1 (d := d + 8) hb (tw _ (by rw [p1, rb_bv, j1, rb_bv]) ⟨_, _, rfl⟩)⟩
        | inr q0 =>
          rw [h40] at hres
          (try dsimp only at hres)
          have j1 := u1 q0 h40
          have q0g := pss_gt h40
          obtain ⟨N, hN⟩ : ∃ N, N = plm (opN W (k + 1) kd) q0 := ⟨_, rfl⟩
          rw [← hN] at j1
          have go1 := g_part1 (d := d + 8) hb (tw _ (by rw [p1, rb_bv, j1, rb_bv]) ⟨_, _, rfl⟩)
          have sN : MSt N t L q0 (c + 1) nr (k + 1) := by rw [hN]; exact p2.pl q0g.2
          have fN : FrM M N := by rw [hN]; exact (fW.tr opN_fr).tr FrM.pl
          have lN : LowM M N nr := by rw [hN]; exact (lW.tr (opN_low (nr := nr)) (Nat.le_refl _)).tr (LowM.pl (nr := nr)) (Nat.le_refl _)
          have oN : OpM M N (k + 1) := by rw [hN]; exact ((oW (k + 1)).tr opN_op (Nat.le_refl _)).tr OpM.pl (Nat.le_refl _)
          have n182 : dp_I N 182 (k + 1) = kd := by rw [hN, plm_I _ _ _ (by decide), opN_n.1, uI_s]
          have n183 : dp_I N 183 (k + 1) = -1 := by rw [hN, plm_I _ _ _ (by decide), opN_n.2.1, uI_s]
          have n185 : dp_I N 185 (k + 1) = 0 := by rw [hN, plm_I _ _ _ (by decide), opN_n.2.2.2, uI_s]
          cases hp1 : ps t L n 1 [] (k + 1) q0 (c + 1) with
          | none => rw [hp1] at hres; cases hres
          | some res1 =>
            have i1 := (ih (k + 1) N q0 (c + 1) nr res1 sN).2.1 hp1 n185
            rw [hp1] at hres
            cases res1 with
            | inl b =>
              injection hres with hres
              subst hres
              exact MB.go go1 fN i1
            | inr lq =>
              obtain ⟨l1, q1, cc1⟩ := lq
              obtain ⟨M1, y1, r1, r2⟩ := i1
              obtain ⟨t1, t2, t3⟩ := ps_stop n 1 [] (k + 1) _ (c + 1) l1 q1 cc1 (Or.inl rfl) hp1
              have sM1 := r1.2.1
              have q13 := sM1.2.2.1
              have m182 : dp_I M1 182 (k + 1) = kd := by rw [r1.2.2.2.2.2.2.1]; exact n182
              have m183 : dp_I M1 183 (k + 1) = -1 := by rw [r1.2.2.2.2.2.2.2.1]; exact n183
              have m184 : dp_I M1 184 (k + 1) = nI y1 := r1.2.2.2.2.2.2.2.2.1
              have m185 : dp_I M1 185 (k + 1) = 0 := r1.2.2.2.2.2.2.2.2.2
              have two : dp_I M1 182 (k + 1) = 5 ∨ dp_I M1 182 (k + 1) = 6 := by rw [m182]; exact k56
              have plq : plm M1 (sk t L q1) = M1 := by rw [t1]; exact plm_self sM1.2.1
              have y1b : y1 < 60 := by
                obtain ⟨n', ix, x1, -, x3⟩ := r1.2.2.2.2.1
                have := (x3 y1 x1.hd).2
                have := sM1.2.2.2.2.2.2.2.1
                have := sM1.2.2.2.2.2.1
                omega
              (try dsimp only at hres)
              by_cases v44 : isAt t L q1 44
              case neg =>
                have hp : pss t L 44 q1 = .inl q1 := by unfold pss; rw [t1, if_neg v44]
                rw [hp] at hres
                injection hres with hres
                subst hres
                have bh := m_bhBad (xs := xs) (xl := xl) (d := d + 6) sM1 t1 t2 t3 (Or.inr (by omega)) (fun u => v44 u.1) (fun u => u.2.elim (fun v => by rw [m182] at v; rcases k56 with e | e <;> rw [e] at v <;> exact absurd v (by decide)) (fun v => v.2 m183))
                exact ⟨_, 0, BdM.mk' (fN.tr r1.1), q13, (go1.tr r2).tr (g_behind (d := d + 7) sM1 (Or.inr (by omega)) (Or.inl rfl) (by rw [plq]; exact bh))⟩
              have hp : pss t L 44 q1 = .inr (q1 + 1) := by unfold pss; rw [t1, if_pos v44]
              have v441 := v44.1
              rw [hp] at hres
              (try dsimp only at hres)
              have bh := m_bhComma (xs := xs) (xl := xl) (d := d + 6) sM1 t1 v44 two m183
              rw [m184] at bh
              obtain ⟨M2, hM2⟩ : ∃ M2, M2 = plm (dp_setI (dp_setI M1 183 (k + 1) (nI y1)) 184 (k + 1) (-1)) (q1 + 1) := ⟨_, rfl⟩
              rw [← hM2] at bh
              have go2 := (go1.tr r2).tr (g_behind (d := d + 7) sM1 (Or.inr (by omega)) (Or.inr rfl) (by rw [plq]; exact bh))
              have kk2 : ∀ K, K ≠ 114 → K ≠ 183 → K ≠ 184 → dp_I M2 K = dp_I M1 K := fun K e1 e2 e3 => by rw [hM2, plm_I _ _ _ e1, gII, if_neg e3, gII, if_neg e2]
              have f2 : FrM M1 M2 := by rw [hM2]; exact (((FrM.r M1).w 183 (by decide) _ _).w 184 (by decide) _ _).tr FrM.pl
              have sM2 : MSt M2 t L (q1 + 1) cc1 (nr + l1.length) (k + 1) := by
                obtain ⟨i1, i2, i3, i4, i5, i6, i7, i8, i9, i10, i11⟩ := sM1
                have e : ∀ i, i ≠ 80 → dp_I M2 114 i = dp_I M1 114 i := fun i hi => by rw [hM2, plm_o _ _ _ hi, gII, if_neg (by decide), gII, if_neg (by decide)]
                exact ⟨i1.fr f2, by rw [hM2]; exact plm_p _ _, by omega, by rw [e _ (by decide)]; exact i4, by rw [e _ (by decide)]; exact i5, i6, by rw [e _ (by decide)]; exact i7, i8, by rw [e _ (by decide)]; exact i9, i10, fun x hx => by rw [kk2 _ (by decide) (by decide) (by decide)]; exact i11 x hx⟩
              have m2_185 : dp_I M2 185 (k + 1) = 0 := by rw [kk2 _ (by decide) (by decide) (by decide)]; exact m185
              have m2_183 : dp_I M2 183 (k + 1) = nI y1 := by rw [hM2, plm_I _ _ _ (by decide), gII, if_neg (by decide), gII, if_pos rfl, uI_s]
              have m2_182 : dp_I M2 182 (k + 1) = kd := by rw [kk2 _ (by decide) (by decide) (by decide)]; exact m182
              cases hp2 : ps t L n 1 [] (k + 1) (q1 + 1) cc1 with
              | none => rw [hp2] at hres; cases hres
              | some res2 =>
                have i2 := (ih (k + 1) M2 (q1 + 1) cc1 (nr + l1.length) res2 sM2).2.1 hp2 m2_185
                rw [hp2] at hres
                cases res2 with
                | inl b =>
                  injection hres with hres
                  subst hres
                  exact MB.go go2 ((fN.tr r1.1).tr f2) i2
                | inr rq =>
                  obtain ⟨l2, q3, cc2⟩ := rq
                  obtain ⟨M3, y2, x1, x2⟩ := i2
                  obtain ⟨t4, t5, t6⟩ := ps_stop n 1 [] (k + 1) _ cc1 l2 q3 cc2 (Or.inl rfl) hp2
                  have sM3 := x1.2.1
                  have q33 := sM3.2.2.1
                  have m3_182 : dp_I M3 182 (k + 1) = kd := by rw [x1.2.2.2.2.2.2.1]; exact m2_182
                  have m3_183 : dp_I M3 183 (k + 1) = nI y1 := by rw [x1.2.2.2.2.2.2.2.1]; exact m2_183
                  have m3_184 : dp_I M3 184 (k + 1) = nI y2 := x1.2.2.2.2.2.2.2.2.1
                  have two3 : dp_I M3 182 (k + 1) = 5 ∨ dp_I M3 182 (k + 1) = 6 := by rw [m3_182]; exact k56
                  have n183' : ¬ dp_I M3 183 (k + 1) = -1 := by rw [m3_183]; exact m1_ne' (by omega)
                  have plq3 : plm M3 (sk t L q3) = M3 := by rw [t4]; exact plm_self sM3.2.1
                  have cc1e := r1.2.2.1
                  have cc2e := x1.2.2.1
                  (try dsimp only at hres)
                  by_cases v41 : isAt t L q3 41
                  case neg =>
                    have hp3 : pss t L 41 q3 = .inl q3 := by unfold pss; rw [t4, if_neg v41]
                    rw [hp3] at hres
                    injection hres with hres
                    subst hres
                    have bh3 := m_bhBad (xs := xs) (xl := xl) (d := d + 6) sM3 t4 t5 t6 (Or.inr (by omega)) (fun u => n183' u.2.2) (fun u => v41 u.1)
                    exact ⟨_, 0, BdM.mk' (((fN.tr r1.1).tr f2).tr x1.1), q33, (go2.tr x2).tr (g_behind (d := d + 7) sM3 (Or.inr (by omega)) (Or.inl rfl) (by rw [plq3]; exact bh3))⟩
                  have hp3 : pss t L 41 q3 = .inr (q3 + 1) := by unfold pss; rw [t4, if_pos v41]
                  have v411 := v41.1
                  rw [hp3] at hres
                  (try dsimp only at hres)
                  rw [ekd] at hres
                  injection hres with hres
                  subst hres
                  have hlt : nr + l1.length + l2.length < cc2 := by omega
                  refine ⟨_, nr + l1.length + l2.length, PtM.pair (kd := kd) (Or.inr h8) r1 fN lN oN hM2 x1 (by omega) rfl hlt kB, fun M6 hj => ?_⟩
                  have bh3 := m_bhClose2 (xs := xs) (xl := xl) (d := d + 6) (M3 := M6) sM3 hlt t4 v41 two3 n183' (by rw [m3_182, m3_183, m3_184]; exact hj _)
                  exact (go2.tr x2).tr (g_behind (d := d + 7) sM3 (Or.inr (by omega)) (Or.inl rfl) (by rw [plq3]; exact bh3))
      · rw [if_neg (fun u => hk u.2)] at hres
        injection hres with hres
        subst hres
        have e81 : dp_I (dp_setI W 114 81 (nI (sk t L p))) 114 81 = nI (sk t L p) := by rw [gII, if_pos rfl, uI_s]
        refine ⟨_, 1, BdM.mk' fW, sl, g_part1 (d := d + 8) hb (tw _ ?_ ⟨_, _, rfl⟩)⟩
        rw [o2 hk, rb_bv, m_takesN e81 (by omega), rb_bv]
    rw [if_neg w23] at hres
    by_cases f4 : isWd t L (sk t L p) [115, 116, 101, 112]
    · rw [if_pos f4] at hres
      have l4 : lt' t L (sk t L p) = 4 := f4.1
      by_cases hc : c < 60
      · rw [if_pos hc] at hres
        obtain ⟨g1, g2, -⟩ := c1 hc
        rw [← hW] at g1 g2
        rw [l4] at g2
        obtain ⟨u1, u2⟩ := m_steps (xs := xs) (xl := xl) (d := d + 1) g2 h8
        have tw : ∀ z N, dp_den true xs xl (d + 6) 479 [.ref 114] W = iR z N → dp_den true xs xl (d + 8) 483 [.ref 114] M = iR z N := fun z N e => tp _ (wd _ (by rw [if_pos (Or.inr (Or.inr (Or.inr f4))), g1, rb_bi, if_neg (by decide), if_neg f1, if_pos f4, e, rb_bi])) ⟨_, _, rfl⟩
        cases hS : rSp t L (sk t L p + 4) with
        | inl b =>
          rw [hS] at hres
          injection hres with hres
          subst hres
          obtain ⟨M', z, j1, j2, j3, j4, j5, j6⟩ := u2 b hS
          rcases j4 with rfl | rfl
          · exact ⟨M', 1, j2.fr fW, j3, g_part1 (d := d + 8) hb (tw _ _ j1)⟩
          · have w97 : dp_I M' 114 97 = nI (k + 1) := by
              have : dp_I M' 114 97 = dp_I W 114 97 := j5
              rw [this]; exact g2.2.2.2.2.2.2.2.2.1
            obtain ⟨nr', hnr', enr⟩ : ∃ nr', nr' < 120 ∧ dp_I M' 114 90 = nI nr' := by
              rcases j6 with e | e
              · exact ⟨nr, by omega, e⟩
              · exact ⟨nr + 1, by omega, e⟩
            obtain ⟨M5, k1, k2, k3⟩ := m_joinB (xs := xs) (xl := xl) (v := nI nr) w97 h10 enr hnr'
            refine ⟨M5, 0, ⟨(fW.tr j2.1).tr k2, by show dp_I M5 114 81 = nI b; rw [k3]; exact j2.2⟩, j3, g_part0 (d := d + 8) hb (tw _ _ j1) (m1_ne' (by omega)) k1⟩
        | inr vq =>
          obtain ⟨v, q⟩ := vq
          rw [hS] at hres
          injection hres with hres
          subst hres
          obtain ⟨M', j1, j2⟩ := u1 v q hS
          obtain ⟨a1, a2, a3, a4, a5, a6⟩ := j2
          refine ⟨M', nr, ⟨fW.tr a1, a2, a3, lW.tr a4 (Nat.le_refl _), a5, (oW (k + 1)).tr a6 (Nat.le_refl _)⟩, fun M2 hj => ?_⟩
          exact g_part0 (d := d + 8) hb (tw _ _ j1) (m1_ne' (by omega)) (hj _)
      · rw [if_neg hc] at hres
        injection hres with hres
        subst hres
        exact noc hc (Or.inr (Or.inr (Or.inr f4)))
    · rw [if_neg f4] at hres
      injection hres with hres
      subst hres
      refine ⟨dp_setI (plm M (sk t L p + lt' t L (sk t L p))) 114 81 (nI (sk t L p)), 1, BdM.mk' FrM.pl, sl, g_part1 (d := d + 8) hb (tp _ (wd _ ?_) ⟨_, _, rfl⟩)⟩
      rw [if_neg (fun u => u.elim f1 (fun u => u.elim (fun v => w23 (Or.inl v)) (fun u => u.elim (fun v => w23 (Or.inr v)) f4)))]
theorem m_read : ∀ n, MRd xs xl d t L n := by
  intro n
  induction n with
  | zero =>
    intro k M p c nr res _
    refine ⟨fun e => ?_, fun e _ => ?_, fun _ _ _ _ _ _ _ _ e => ?_⟩
    · rw [ps] at e; cases e
    · rw [ps] at e; cases e
    · rw [ps] at e; cases e
  | succ n ih =>
    intro k M p c nr res h
    refine ⟨fun e => mr_part ih k M p c nr res h e, fun e h185 => ?_, fun M0 c0 nr0 l y hA hn0 hnr e => mr_loop ih k M p c nr res h M0 c0 nr0 l y hA hn0 hnr e⟩
    rw [ps] at e
    cases hp : ps t L n 0 [] k p c with
    | none => rw [hp] at e; cases e
    | some res0 =>
      have i0 := (ih k M p c nr res0 h).1 hp
      rw [hp] at e
      cases res0 with
      | inl b =>
        injection e with e
        subst e
        exact i0
      | inr lq =>
        obtain ⟨l, q, c'⟩ := lq
        obtain ⟨M1, y, j1, j2⟩ := i0
        have e185 : dp_I M1 185 k = 0 := by rw [j1.2.2.2.2.2 185 (by decide) k (by omega)]; exact h185
        have jn : ∀ e, dp_den true xs xl (e + 2) 484 [.ref 114, .int (nI y)] M1 = vR (jnA M1 k y) := fun e => m_join0 j1.2.1 e185
        have go := j2 _ jn
        have rt := RtM.of j1
        have hrc := (ih k (jnA M1 k y) q c' _ res rt.2.1).2.2 M c nr l y rt h.2.2.2.2.2.2.2.1 rfl e
        cases res with
        | inl b =>
          obtain ⟨M2, w', u1, u2, u3⟩ := hrc
          exact ⟨M2, w', u1, u2, go.tr u3⟩
        | inr lq =>
          obtain ⟨l', q', c''⟩ := lq
          obtain ⟨M2, y', u1, u2⟩ := hrc
          exact ⟨M2, y', u1, go.tr u2⟩
end RV
