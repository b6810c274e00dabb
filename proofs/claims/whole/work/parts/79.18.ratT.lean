-- needs: 71 72 73 74
/-! RATES: the model's reader is ps -/
section RT
variable {xs : Nat → Int32} {xl d : Nat} {t : Nat → Int32} {L : Nat}
def MB (xs : Nat → Int32) (xl d : Nat) (L : Nat) (M0 : dp_M) (w : Int32) (M : dp_M) (b : Nat) : Prop := ∃ M1 w', BdM M0 M1 b ∧ b ≤ L ∧ GoM xs xl (d + 8) w M w' M1
def MR0 (xs : Nat → Int32) (xl d : Nat) (t : Nat → Int32) (L : Nat) (M : dp_M) (c nr k : Nat) (res : Nat ⊕ (List Nd × Nat × Nat)) : Prop := match res with
  | .inl b => MB xs xl d L M 1 M b
  | .inr (l, q, c') => ∃ M1 y, PtM M t L c nr k l q c' M1 y ∧ ∀ M2, (∀ e, dp_den true xs xl (e + 2) 484 [.ref 114, .int (nI y)] M1 = vR M2) → GoM xs xl (d + 8) 1 M 0 M2
def MR1 (xs : Nat → Int32) (xl d : Nat) (t : Nat → Int32) (L : Nat) (M0 : dp_M) (w : Int32) (M : dp_M) (c nr k : Nat) (res : Nat ⊕ (List Nd × Nat × Nat)) : Prop := match res with
  | .inl b => MB xs xl d L M0 w M b
  | .inr (l, q, c') => ∃ M1 y, RtM M0 t L c nr k l q c' M1 y ∧ GoM xs xl (d + 8) w M 0 M1
def MRd (xs : Nat → Int32) (xl d : Nat) (t : Nat → Int32) (L n : Nat) : Prop := ∀ (k : Nat) (M : dp_M) (p c nr : Nat) (res : Nat ⊕ (List Nd × Nat × Nat)), MSt M t L p c nr k →
  (ps t L n 0 [] k p c = some res → MR0 xs xl d t L M c nr k res) ∧
  (ps t L n 1 [] k p c = some res → dp_I M 185 k = 0 → MR1 xs xl d t L M 1 M c nr k res) ∧
  (∀ M0 c0 nr0 l y, RtM M0 t L c0 nr0 k l p c M y → nr0 ≤ c0 → nr = nr0 + l.length → ps t L n 2 l k p c = some res → MR1 xs xl d t L M0 0 M c0 nr0 k res)
theorem MB.go {M0 M M' : dp_M} {w w' : Int32} {b : Nat} (g : GoM xs xl (d + 8) w M w' M') (f : FrM M0 M') (h : MB xs xl d L M' w' M' b) : MB xs xl d L M0 w M b := by
  obtain ⟨M1, w1, h1, h2, h3⟩ := h
  exact ⟨M1, w1, h1.fr f, h2, g.tr h3⟩
theorem mr_loop {n : Nat} (ih : MRd xs xl d t L n) (k : Nat) (M : dp_M) (p c nr : Nat) (res : Nat ⊕ (List Nd × Nat × Nat)) (h : MSt M t L p c nr k) (M0 : dp_M) (c0 nr0 : Nat) (l : List Nd) (y : Nat) (hA : RtM M0 t L c0 nr0 k l p c M y) (hn0 : nr0 ≤ c0) (hnr : nr = nr0 + l.length) (hres : ps t L (n + 1) 2 l k p c = some res) : MR1 xs xl d t L M0 0 M c0 nr0 k res := by
  have h0 := h
  obtain ⟨h1, h2, h3, h4, h5, h6, h7, h8, h9, h10, h11⟩ := h
  have hL := h1.2.1
  have sl := sk_le (t := t) h3
  rw [ps] at hres
  by_cases z : isAt t L (sk t L p) 43 ∨ isAt t L (sk t L p) 45
  · rw [if_pos z] at hres
    have z1 : sk t L p < L := z.elim (fun q => q.1) (fun q => q.1)
    obtain ⟨kd, hkd⟩ : ∃ kd : Int32, kd = if t (sk t L p) = 43 then 3 else 4 := ⟨_, rfl⟩
    have kB : isBn (kd, 0, -1, []) = true := by
      rw [hkd]; split <;> decide
    have k0 : ¬ kd = 0 := by
      rw [hkd]; split <;> decide
    have hp : isAt t L (sk t L p) 43 ∧ kd = 3 ∨ ¬ isAt t L (sk t L p) 43 ∧ isAt t L (sk t L p) 45 ∧ kd = 4 := by
      by_cases w : isAt t L (sk t L p) 43
      · exact Or.inl ⟨w, by rw [hkd, if_pos w.2]⟩
      · exact Or.inr ⟨w, z.resolve_left w, by rw [hkd, if_neg (fun u => w ⟨z1, u⟩)]⟩
    obtain ⟨b1, b2⟩ := m_bhSign (xs := xs) (xl := xl) (d := d + 5) h0 hp
    by_cases hc : c < 60
    · rw [if_pos hc] at hres
      have b1' := b1 hc
      obtain ⟨N, hN⟩ : ∃ N, N = plm (dp_setI (dp_setI (plm M (sk t L p)) 114 91 (nI (c + 1))) 185 k kd) (sk t L p + 1) := ⟨_, rfl⟩
      rw [← hN] at b1'
      have g1 : GoM xs xl (d + 8) 0 M 1 N := g_behind h0 (Or.inl z1) (Or.inr rfl) b1'
      have s1 := ((m_count (xs := xs) (xl := xl) (w := 0) (h0.pl (q := sk t L p) sl)).1 hc)
      -- the rows of N
      have nK : ∀ K, K ≠ 114 → K ≠ 185 → dp_I N K = dp_I M K := fun K k1 k2 => by rw [hN, plm_I _ _ _ k1, gII, if_neg k2, gII, if_neg k1, plm_I _ _ _ k1]
      have n185 : dp_I N 185 = uI (dp_I M 185) k kd := by rw [hN, plm_I _ _ _ (by decide), gII, if_pos rfl, gII, if_neg (by decide), plm_I _ _ _ (by decide)]
      have fN : FrM M N := by rw [hN]; exact (((FrM.pl.s 91 (by decide) _).w 185 (by decide) _ _).tr FrM.pl)
      have sN : MSt N t L (sk t L p + 1) (c + 1) nr k := by
        obtain ⟨i1, i2, i3, i4, i5, i6, i7, i8, i9, i10, i11⟩ := s1.2.1
        have e : ∀ i, i ≠ 80 → dp_I N 114 i = dp_I (dp_setI (plm M (sk t L p)) 114 91 (nI (c + 1))) 114 i := fun i hi => by rw [hN, plm_o _ _ _ hi, gII, if_neg (by decide)]
        exact ⟨h1.fr fN, by rw [hN]; exact plm_p _ _, by omega, by rw [e _ (by decide)]; exact i4, by rw [e _ (by decide)]; exact i5, i6, by rw [e _ (by decide)]; exact i7, i8, by rw [e _ (by decide)]; exact i9, i10, fun x hx => by rw [nK _ (by decide) (by decide)]; exact h11 x hx⟩
      cases hp0 : ps t L n 0 [] k (sk t L p + 1) (c + 1) with
      | none => rw [hp0] at hres; cases hres
      | some res0 =>
        have i0 := (ih k N (sk t L p + 1) (c + 1) nr res0 sN).1 hp0
        rw [hp0] at hres
        cases res0 with
        | inl b =>
          injection hres with hres
          subst hres
          exact MB.go g1 (hA.1.tr fN) i0
        | inr rq =>
          obtain ⟨r, q, c'⟩ := rq
          obtain ⟨M4, y2, j1, j2⟩ := i0
          have j10 := j1
          obtain ⟨a1, a2, a3, a4, a5, a6, a7, a8, a9, a10⟩ := hA
          obtain ⟨q1, q2, q3, q4, q5, q6⟩ := j1
          have e185 : dp_I M4 185 k = kd := by rw [q6 185 (by decide) k (by omega), n185, uI_s]
          have e184 : dp_I M4 184 k = nI y := by rw [q6 184 (by decide) k (by omega), nK _ (by decide) (by decide)]; exact a9
          have hlt : nr + r.length < c' := by omega
          have jn : ∀ e, dp_den true xs xl (e + 2) 484 [.ref 114, .int (nI y2)] M4 = vR (jnA (mkM M4 (nr + r.length) kd 0 (-1) (dp_I M4 184 k) (nI y2)) k (nr + r.length)) := fun e => m_join1 (xs := xs) (xl := xl) (y := y2) q2 hlt e185 k0
          rw [e184] at jn
          obtain ⟨M5, hM5⟩ : ∃ M5, M5 = mkM M4 (nr + r.length) kd 0 (-1) (nI y) (nI y2) := ⟨_, rfl⟩
          rw [← hM5] at jn
          have go2 := j2 _ jn
          have mk2 := (m_make (xs := xs) (xl := xl) (v1 := kd) (v2 := 0) (v3 := -1) (v4 := nI y) (v5 := nI y2) q2 hlt).2
          rw [← hM5] at mk2
          have lowMN : LowM M N nr := ⟨fun K hK i _ => by
            have w : ∀ K ∈ [174, 175, 176, 177, 178, 179], K ≠ 114 ∧ K ≠ 185 := by decide
            rw [nK K (w K hK).1 (w K hK).2], fun i _ => by rw [nK _ (by decide) (by decide), nK _ (by decide) (by decide)]; exact ⟨rfl, rfl⟩⟩
          have lowM4 : LowM M M4 nr := lowMN.tr q4 (Nat.le_refl _)
          have rp1 : ∃ n ix, Rp (rdN M4) n y l ix ∧ ix.Nodup ∧ ∀ i, i ∈ ix → nr0 ≤ i ∧ i < nr := by
            obtain ⟨n, ix, x1, x2, x3⟩ := a5
            exact ⟨n, ix, x1.c (fun i hi => rdN_c lowM4 (by have := x3 i hi; omega) (h11 i (by have := x3 i hi; omega))), x2, fun i hi => by have := x3 i hi; omega⟩
          have bin := rp_bin (N := M4) (nr := nr0) (nr1 := nr) (nr2 := nr + r.length) (y1 := y) (y2 := y2) kB q2.2.2.2.2.2.2.2.2.2.2 rp1 q5 (by omega) (by omega)
          rw [← hM5] at bin
          have e43 : (if t (sk t L p) = 43 then ((3, 0, -1, []) : Nd) else (4, 0, -1, [])) = (kd, 0, -1, []) := by rw [hkd]; split <;> rfl
          (try dsimp only at hres)
          rw [e43] at hres
          have len : ((kd, 0, -1, []) :: (l ++ r) : List Nd).length = l.length + r.length + 1 := by rw [List.length_cons, List.length_append]
          have st5 : MSt (jnA M5 k (nr + r.length)) t L q c' (nr0 + ((kd, 0, -1, []) :: (l ++ r) : List Nd).length) k := by
            rw [len, show nr0 + (l.length + r.length + 1) = nr + r.length + 1 by omega]; exact jnA_st mk2
          have rt : RtM M0 t L c0 nr0 k ((kd, 0, -1, []) :: (l ++ r)) q c' (jnA M5 k (nr + r.length)) (nr + r.length) := by
            have f5 : FrM M M5 := by rw [hM5]; exact (fN.tr q1).tr mkM_fr
            have op5 : ∀ K ∈ [182, 183, 184, 185], ∀ i, i < k → dp_I (jnA M5 k (nr + r.length)) K i = dp_I M0 K i := fun K hK i hi => by
              have w : ∀ K ∈ [182, 183, 184, 185], K ∈ [180, 181, 182, 183, 184, 185] := by decide
              rw [jnA_op K hK i hi, hM5, mkM_o (w K hK), q6 K hK i (by omega), ← a6 K hK i hi]
              by_cases z5 : K = 185
              · subst z5; rw [n185, uI_n (by omega)]
              · have z6 : K ≠ 114 := by
                  have u : ∀ K ∈ [182, 183, 184, 185], K ≠ 114 := by decide
                  exact u K hK
                rw [nK K z6 z5]
            refine ⟨(a1.tr f5).tr jnA_fr, st5, by rw [len]; omega, ?_, ?_, op5, ?_, ?_, by rw [jnA_184, uI_s], by rw [jnA_185, uI_s]⟩
            · have l5 : LowM M M5 nr := lowM4.tr (by rw [hM5]; exact mkM_low) (by omega)
              exact (a4.tr l5 (by omega)).tr (jnA_low (nr := nr0)) (Nat.le_refl _)
            · obtain ⟨n', ix, x1, x2, x3⟩ := bin
              exact ⟨n', ix, x1.c (fun i _ => jnA_rd), x2, fun i hi => by rw [len]; have := x3 i hi; omega⟩
            · rw [jnA_o (by decide) (by decide), hM5, mkM_o (by decide), q6 182 (by decide) k (by omega), nK _ (by decide) (by decide)]; exact a7
            · rw [jnA_o (by decide) (by decide), hM5, mkM_o (by decide), q6 183 (by decide) k (by omega), nK _ (by decide) (by decide)]; exact a8
          have hrc := (ih k (jnA M5 k (nr + r.length)) q c' _ res st5).2.2 M0 c0 nr0 _ (nr + r.length) rt hn0 rfl hres
          have g12 : GoM xs xl (d + 8) 0 M 0 (jnA M5 k (nr + r.length)) := g1.tr go2
          cases res with
          | inl b =>
            obtain ⟨M1, w', u1, u2, u3⟩ := hrc
            exact ⟨M1, w', u1, u2, g12.tr u3⟩
          | inr lq =>
            obtain ⟨l', q', c''⟩ := lq
            obtain ⟨M1, y', u1, u2⟩ := hrc
            exact ⟨M1, y', u1, g12.tr u2⟩
    · rw [if_neg hc] at hres
      injection hres with hres
      subst hres
      obtain ⟨M', g1, g2⟩ := b2 hc
      exact ⟨M', 0, g2.fr hA.1, sl, g_behind h0 (Or.inl z1) (Or.inl rfl) g1⟩
  · rw [if_neg z] at hres
    injection hres with hres
    subst hres
    exact ⟨plm M (sk t L p), y, hA.pl sl, g_pl h0⟩
end RT
