-- needs: 71 72 73 74 75 76 77 78 85 86
/-! PLAN: the model's search from its start, and its plan -/
def MpS : List Nat := [126, 127, 128, 129, 130, 131]
def MpT : List Nat := [19, 23]
section PlP
variable {xs : Nat → Int32} {xl d : Nat} {M : dp_M}
theorem m_srch {N B T b m c0 : Nat} {port bay S D needs : Nat → Int32} (hs : HSt N B T port bay S D needs) (hT4 : T ≤ 4) (hb : b < B) (hN : N ≤ 100) (hm : m = ct (lyf bay S (nI b)) N) (ec : c0 = cod (fun k => pcl S D (lob (lyf bay S (nI b)) N k)) m) {l ah : Nat → Int32}
    (hl : ∀ k, k < m → (port (lob (lyf bay S (nI b)) N k) = 0 ↔ ¬ l k = 0)) (ha : ∀ k, k < m → ah k = ahm needs (lob (lyf bay S (nI b)) N) k m)
    (r2 : dp_I M 114 2 = nI T) (r3 : dp_I M 114 3 = nI N) (r115 : dp_I M 115 = port) (r116 : dp_I M 116 = bay) (r117 : dp_I M 117 = S) (r118 : dp_I M 118 = D) (r119 : dp_I M 119 = needs) :
    ∃ v M' i, dp_den true xs xl (d + 5) 386 [.ref 114, .int (nI b)] M = iR v M' ∧ mAn m T l ah [(c0, 0, 0)] M' v i ∧ MD M' m T l ah ∧ (∀ k, k < m → dp_I M' 130 k = nI (lob (lyf bay S (nI b)) N k)) ∧ Rf MpS MpT M M' := by
  obtain ⟨vv, ht, -⟩ := st_code hs hb hN hT4 hm
  rw [← ec] at vv ht
  have x := st_bx hs hb hm
  have m4 := x.2.1
  have fill := lpt (F := fun i P => D_X12_search_2 xs xl (d + 4) (nI b) (nI i) P) (a := 0) (N := 4096)
    (Inv := fun i P => (∀ s, s < i → dp_I P 129 s = 0) ∧ Rf MpS MpT M P) (Nat.zero_le _) ?_ M ⟨fun s hs => absurd hs (Nat.not_lt_zero s), Rf.r _ _ _⟩
  · obtain ⟨M1, ⟨f1, f2⟩, f3⟩ := fill
    obtain ⟨M2, e2⟩ : ∃ M2, M2 = dp_setI M1 114 19 0 := ⟨_, rfl⟩
    have g2 : Rf MpS MpT M M2 := by rw [e2]; exact f2.F 19 (by decide) _
    obtain ⟨M3, b1, b2, b3, b4, b5⟩ := m_bgn (xs := xs) (xl := xl) (d := d + 3) (M := M2) hs hT4 hb hN hm (by rw [g2.fld (by decide)]; exact r3) (by rw [g2.row (by decide) (by decide) (by decide)]; exact r116) (by rw [g2.row (by decide) (by decide) (by decide)]; exact r117) (by rw [g2.row (by decide) (by decide) (by decide)]; exact r118) (by rw [g2.row (by decide) (by decide) (by decide)]; exact r119)
    rw [← ec] at b1
    have g3 : Rf MpS MpT M M3 := g2.tr (b5.mono (by decide) (by decide))
    have h129 : dp_I M3 129 = dp_I M1 129 := by rw [b5.row (by decide) (by decide) (by decide), e2, gII, if_neg (by decide)]
    have h19 : dp_I M3 114 19 = nI 0 := by rw [b5.fld (by decide), e2, gII, if_pos rfl, uI_s]; rfl
    have hi0 : HI (dp_I M3 129) (dp_J M3 126) 0 := by
      refine ⟨fun s hs' => ⟨0, Nat.le_refl _, by rw [h129, f1 s hs']; rfl⟩, fun s s' h1 _ _ z => ?_, fun j hj => absurd hj (Nat.not_lt_zero j)⟩
      rw [h129, f1 s h1] at z; exact absurd rfl z
    obtain ⟨M4, c1, c2⟩ := m_comes (xs := xs) (xl := xl) (d := d + 3) (w := nJ (wN c0 m)) (f := -1) (b := 0) hi0 h19 (by decide)
    rcases c2 with ⟨j, j1, -⟩ | ⟨-, a2, a3, a4, a5, a6, a7, a8, a9⟩
    · exact absurd j1 (Nat.not_lt_zero j)
    have g4 : Rf MpS MpT M M4 := g3.tr ⟨a7.mono (by decide) (by decide), a8, a9⟩
    have ms : MS M4 m [(c0, 0, 0)] := by
      refine ⟨a2, a3, fun j hj => ?_⟩
      have : j = 0 := by rw [show ([(c0, 0, 0)] : List qE).length = 1 from rfl] at hj; omega
      subst this
      rw [a4, a5, uI_s, uI_s, if_pos rfl]
      exact ⟨rfl, rfl, fun q => absurd q (Nat.lt_irrefl 0)⟩
    have k34 : Rf [126, 127, 128, 129] [19] M3 M4 := ⟨a7, a8, a9⟩
    have md : MD M4 m T l ah := by
      refine ⟨by rw [g4.fld (by decide)]; exact r2, by rw [k34.fld (by decide)]; exact b2, fun k hk => ⟨lob (lyf bay S (nI b)) N k, by have := (x.lo hk).1; omega, by rw [k34.row (by decide) (by decide) (by decide)]; exact b3 k hk, ?_⟩, fun k hk => ?_⟩
      · rw [g4.row (k := 115) (by decide) (by decide) (by decide), r115]; exact hl k hk
      · rw [k34.row (by decide) (by decide) (by decide), b4 k hk, ha k hk]
    have q0 : QG m T [(c0, 0, 0)] := by
      have h1 : ∀ j, j < ([(c0, 0, 0)] : List qE).length → j = 0 := fun j hj => by rw [show ([(c0, 0, 0)] : List qE).length = 1 from rfl] at hj; omega
      refine ⟨⟨⟨fun j hj => ?_, fun i j hi hj _ => ?_⟩, fun j h0 hj => ?_⟩, fun j hj => ?_⟩
      · rw [h1 j hj]; exact vv
      · rw [h1 i hi, h1 j hj]
      · have := h1 j hj; omega
      · rw [h1 j hj]; exact ht
    obtain ⟨v, M', i, s1, s2, s3, s4⟩ := m_slp (xs := xs) (xl := xl) (d := d) (v1 := nI b) m4 hT4 ms md q0
    have s4' : Rf [126, 127, 128, 129] [19] M4 M' := s4
    refine ⟨v, M', i, ?_, s2, s3, fun k hk => ?_, g4.tr (s4'.mono (by decide) (by decide))⟩
    · rw [D_X12_search_0_den, D_X12_search_0_eq]
      simp only [dp_w]
      refine f3 _ ?_
      (try dsimp only)
      rw [D_X12_search_2_eq, if_pos (show (4096 : Int32) ≤ nI 4096 by decide)]
      simp only [dp_w]
      rw [← e2, b1, rb_bl, c1, rb_bv]
      exact s1
    · rw [s4'.row (by decide) (by decide) (by decide), k34.row (by decide) (by decide) (by decide)]; exact b3 k hk
  · rintro i P - hi ⟨h1, h2⟩
    refine ⟨dp_setI P 129 i 0, ⟨fun s hs' => ?_, h2.I 129 (by decide) _ _⟩, fun r hr => ?_⟩
    · rw [gII, if_pos rfl]
      by_cases z : s = i
      · rw [z, uI_s]
      · rw [uI_n z]; exact h1 s (by omega)
    · (try dsimp only at hr); (try dsimp only)
      rw [D_X12_search_2_eq, if_neg (show ¬ (4096 : Int32) ≤ nI i from nI_nge (n := 4096) hi (by omega))]
      simp only [nI_cl (show i < 2147483648 by omega), nI_o (show i < 4096 by omega) (by omega), if_false, dp_w, nI_1]
      exact hr
def MqS : List Nat := [121, 122, 123, 124, 125]
/-- the model writes the moves down -/
theorem m_wrp {m T b g L : Nat} {lo : Nat → Nat} {Q : List qE} {l ah : Nat → Int32} (hm : m ≤ 4) (hT4 : T ≤ 4) (hb : b < 12) (hL : L ≤ 16) (hl : ∀ k, k < m → lo k < 100 ∧ dp_I M 130 k = nI (lo k)) (ms : MS M m Q) (q : QG m T Q) (qs : QSm m T l ah Q) (md : MD M m T l ah) (hg : g < Q.length) (h0 : anc Q g L = 0) (h1 : ∀ j, j < L → 0 < anc Q g j) :
    ∃ M', D_X12_plan_51 xs xl (d + 3) (nI b) (nI g) 0 (nI g) M = iR (nI L) M' ∧ dp_I M' 121 = uI (dp_I M 121) b (nI L) ∧ dp_I M' 122 = uI (dp_I M 122) b 0 ∧
      (∀ j, j < L → dp_I M' 123 (b * 40 + (L - 1 - j)) = nI (lo ((qat Q (anc Q g j)).2.2 / 64)) ∧ dp_I M' 124 (b * 40 + (L - 1 - j)) = nI ((qat Q (anc Q g j)).2.2 % 64 / 8) ∧ dp_I M' 125 (b * 40 + (L - 1 - j)) = nI ((qat Q (anc Q g j)).2.2 % 8)) ∧
      (∀ j, (j < b * 40 ∨ b * 40 + 40 ≤ j) → dp_I M' 123 j = dp_I M 123 j ∧ dp_I M' 124 j = dp_I M 124 j ∧ dp_I M' 125 j = dp_I M 125 j) ∧ Rf MqS [] M M' := by
  have hQ := q.1.1.len hm
  have le := anc_le q.1.2 hg h1
  have par : ∀ j, j < L → dp_I M 127 (anc Q g j) = nI (anc Q g (j + 1)) := fun j hj => by
    have l1 := le j (by omega)
    have l2 := h1 j hj
    have := (ms.2.2 (anc Q g j) (by omega)).2.1
    rw [if_neg (by omega)] at this
    rw [this]; rfl
  have p0 : dp_I M 127 0 = -1 := by
    have := (ms.2.2 0 (by omega)).2.1
    rw [if_pos rfl] at this; exact this
  obtain ⟨P, eP⟩ : ∃ P, P = dp_setI (dp_setI M 121 b (nI L)) 122 b 0 := ⟨_, rfl⟩
  have fP : Rf MqS [] M P := by rw [eP]; exact ((Rf.r _ _ M).I 121 (by decide) _ _).I 122 (by decide) _ _
  have key := lpi (F := fun j R => D_X12_plan_101 xs xl (d + 3) (nI b) (nI g) (nI L) (nI (b * 40 + (L - j))) (nI (anc Q g j)) R) (a := 0) (N := L)
    (Inv := fun j R => (∀ i, i < j → dp_I R 123 (b * 40 + (L - 1 - i)) = nI (lo ((qat Q (anc Q g i)).2.2 / 64)) ∧ dp_I R 124 (b * 40 + (L - 1 - i)) = nI ((qat Q (anc Q g i)).2.2 % 64 / 8) ∧ dp_I R 125 (b * 40 + (L - 1 - i)) = nI ((qat Q (anc Q g i)).2.2 % 8)) ∧
      (∀ i, (i < b * 40 ∨ b * 40 + 40 ≤ i) → dp_I R 123 i = dp_I M 123 i ∧ dp_I R 124 i = dp_I M 124 i ∧ dp_I R 125 i = dp_I M 125 i) ∧ Rf [123, 124, 125] [] P R)
    (Post := fun r => ∃ M', r = (.inl (some (.int (nI L))), M') ∧ (∀ i, i < L → dp_I M' 123 (b * 40 + (L - 1 - i)) = nI (lo ((qat Q (anc Q g i)).2.2 / 64)) ∧ dp_I M' 124 (b * 40 + (L - 1 - i)) = nI ((qat Q (anc Q g i)).2.2 % 64 / 8) ∧ dp_I M' 125 (b * 40 + (L - 1 - i)) = nI ((qat Q (anc Q g i)).2.2 % 8)) ∧
      (∀ i, (i < b * 40 ∨ b * 40 + 40 ≤ i) → dp_I M' 123 i = dp_I M 123 i ∧ dp_I M' 124 i = dp_I M 124 i ∧ dp_I M' 125 i = dp_I M 125 i) ∧ Rf [123, 124, 125] [] P M') (Nat.zero_le _) ?_ ?_ P ⟨fun i hi => absurd hi (Nat.not_lt_zero i), fun i _ => by rw [eP, gII, if_neg (by decide), gII, if_neg (by decide), gII, if_neg (by decide), gII, if_neg (by decide), gII, if_neg (by decide), gII, if_neg (by decide)]; exact ⟨rfl, rfl, rfl⟩, Rf.r _ _ _⟩
  · obtain ⟨r, hr, M', rfl, k1, k2, k3⟩ := key
    refine ⟨M', ?_, ?_, ?_, k1, k2, fP.tr (k3.mono (by decide) (by decide))⟩
    · have := lpf (F := fun j => D_X12_plan_51 xs xl (d + 3) (nI b) (nI g) (nI j) (nI (anc Q g j)) M) (a := 0) (j := L) (r := (.inl (some (.int (nI L))), M')) (Nat.zero_le _) (fun j _ hj hr' => ?_) ?_
      · exact this
      · (try dsimp only at hr'); (try dsimp only)
        have l1 := le j (by omega)
        have l2 := le (j + 1) (by omega)
        rw [D_X12_plan_51_eq]
        simp only [nI_cl (show anc Q g j < 2147483648 by omega), nI_o (show anc Q g j < 2048 by omega) (by omega), if_false, dp_w]
        rw [par j hj, if_neg (nI_nn (by omega)), nI_1]; exact hr'
      · (try dsimp only)
        rw [h0, D_X12_plan_51_eq]
        simp only [nI_cl (show 0 < 2147483648 by decide), nI_o (show 0 < 2048 by decide) (by decide), if_false, dp_w, nI_cl (show b < 2147483648 by omega), nI_o (show b < 12 by omega) (by omega)]
        rw [p0, if_pos (by decide), ← eP, show (40 : Int32) = nI 40 from rfl, pk_mul, nI_add, show 40 * b + L = b * 40 + (L - 0) by omega]
        exact hr
    · rw [k3.row (by decide) (by decide) (by decide), eP, gII, if_neg (by decide), gII, if_pos rfl]
    · rw [k3.row (by decide) (by decide) (by decide), eP, gII, if_pos rfl, gII, if_neg (by decide)]
  · rintro R ⟨i1, i2, i3⟩
    refine ⟨(.inl (some (.int (nI L))), R), ?_, R, rfl, i1, i2, i3⟩
    (try dsimp only)
    have f := fP.tr (i3.mono (by decide) (by decide))
    rw [h0, D_X12_plan_101_eq, f.row (k := 127) (by decide) (by decide) (by decide)]
    simp only [nI_cl (show 0 < 2147483648 by decide), nI_o (show 0 < 2048 by decide) (by decide), if_false]
    rw [p0, if_pos (by decide)]
  · rintro j R - hj ⟨i1, i2, i3⟩
    have f := fP.tr (i3.mono (by decide) (by decide))
    have l1 := le j (by omega)
    have l2 := le (j + 1) (by omega)
    have l3 := h1 j hj
    obtain ⟨y, ey⟩ : ∃ y, y = b * 40 + (L - 1 - j) := ⟨_, rfl⟩
    obtain ⟨a, ea⟩ : ∃ a, a = anc Q g j := ⟨_, rfl⟩
    have eb : anc Q g (j + 1) = (qat Q a).2.1 := by rw [ea]; rfl
    obtain ⟨F, t, k, p, F1, t1, ek, ep, -, e6⟩ := qs a (by omega) (by omega)
    obtain ⟨k1, -, -⟩ := tkn_p ek
    obtain ⟨o1, o2⟩ := hl k k1
    have par' := par j hj
    rw [← ea, eb] at par'
    rw [eb] at l2
    rw [← ea] at l1 l3
    have r128 : dp_I M 128 a = nI (8 * F + t) := by
      rw [(ms.2.2 a (by omega)).2.2 (by omega), e6]; congr 1; omega
    have r126 : dp_J M 126 (qat Q a).2.1 = nJ (wN (qat Q (qat Q a).2.1).1 m) := (ms.2.2 _ (by omega)).1
    obtain ⟨v1, v2⟩ := q.1.1.1 (qat Q a).2.1 (by omega)
    have hh : ∀ s, s < 3 → hgt (qat Q (qat Q a).2.1).1 m s ≤ T := fun s _ => hgt_T m (q.2 _ (by omega))
    obtain ⟨R3, e3⟩ : ∃ R3, R3 = dp_setI (dp_setI R 124 y (nI F)) 125 y (nI t) := ⟨_, rfl⟩
    have f3 : Rf [123, 124, 125] [] P R3 := by rw [e3]; exact (i3.I 124 (by decide) _ _).I 125 (by decide) _ _
    have ff3 : Rf MqS [] M R3 := fP.tr (f3.mono (by decide) (by decide))
    have tk := m_tkn (xs := xs) (xl := xl) (d := d) (M := R3) hm (by rw [ff3.fld (by decide)]; exact md.1) hT4 (by rw [ff3.fld (by decide)]; exact md.2.1) (wk_t hm v1 v2) F1 hh
    rw [ek] at tk
    have d8 : nI (8 * F + t) / (8 : Int32) = nI F := by
      rw [show (8 : Int32) = nI 8 from rfl, nI_div (by omega) (by decide) (by decide)]; congr 1; omega
    have m8 : nI (8 * F + t) - nI F * (8 : Int32) = nI t := by
      rw [show (8 : Int32) = nI 8 from rfl, pk_mul, nI_mns (by omega)]; congr 1; omega
    refine ⟨dp_setI R3 123 y (nI (lo k)), ⟨fun i hi => ?_, fun i hi => ?_, f3.I 123 (by decide) _ _⟩, fun r hr => ?_⟩
    · rw [e3]
      by_cases z : i = j
      · subst z
        rw [← ey, ← ea, e6]
        refine ⟨?_, ?_, ?_⟩
        · rw [gII, if_pos rfl, uI_s]; congr 2; omega
        · rw [gII, if_neg (by decide), gII, if_neg (by decide), gII, if_pos rfl, uI_s]; congr 1; omega
        · rw [gII, if_neg (by decide), gII, if_pos rfl, uI_s]; congr 1; omega
      · obtain ⟨w1, w2, w3⟩ := i1 i (by omega)
        have ne : b * 40 + (L - 1 - i) ≠ y := by omega
        refine ⟨?_, ?_, ?_⟩
        · rw [gII, if_pos rfl, uI_n ne, gII, if_neg (by decide), gII, if_neg (by decide)]; exact w1
        · rw [gII, if_neg (by decide), gII, if_neg (by decide), gII, if_pos rfl, uI_n ne]; exact w2
        · rw [gII, if_neg (by decide), gII, if_pos rfl, uI_n ne, gII, if_neg (by decide)]; exact w3
    · rw [e3]
      obtain ⟨w1, w2, w3⟩ := i2 i hi
      have ne : i ≠ y := by omega
      refine ⟨?_, ?_, ?_⟩
      · rw [gII, if_pos rfl, uI_n ne, gII, if_neg (by decide), gII, if_neg (by decide)]; exact w1
      · rw [gII, if_neg (by decide), gII, if_neg (by decide), gII, if_pos rfl, uI_n ne]; exact w2
      · rw [gII, if_neg (by decide), gII, if_pos rfl, uI_n ne, gII, if_neg (by decide)]; exact w3
    · (try dsimp only at hr); (try dsimp only)
      rw [eb, show L - (j + 1) = L - 1 - j by omega, ← ey] at hr
      have at1 : nI (b * 40 + (L - j)) + (-1 : Int32) = nI y := by
        rw [← Int32.sub_eq_add_neg, hs_m1 (by omega) (by omega), ey]; congr 1; omega
      have q127 : dp_I R 127 = dp_I M 127 := f.row (by decide) (by decide) (by decide)
      have q128 : dp_I R 128 = dp_I M 128 := f.row (by decide) (by decide) (by decide)
      have u124 : ∀ X Y, dp_I (dp_setI R 124 X Y) 128 = dp_I M 128 := fun X Y => by rw [gII, if_neg (by decide)]; exact q128
      have q3 : dp_I R3 127 = dp_I M 127 := ff3.row (by decide) (by decide) (by decide)
      have q38 : dp_I R3 128 = dp_I M 128 := ff3.row (by decide) (by decide) (by decide)
      have q36 : dp_J R3 126 = dp_J M 126 := (ff3.1.1 126 (by decide) (by decide) (by decide)).2.1
      have q130 : dp_I R3 130 = dp_I M 130 := ff3.row (by decide) (by decide) (by decide)
      rw [← ea, D_X12_plan_101_eq]
      simp only [nI_cl (show a < 2147483648 by omega), nI_o (show a < 2048 by omega) (by omega), if_false, dp_w, at1]
      rw [q127, par', if_neg (nI_nn (by omega))]
      simp only [nI_cl (show y < 2147483648 by omega), nI_o (show y < 480 by omega) (by omega), if_false, q128, r128, d8, u124, m8, ← e3, q3, q38, par', nI_cl (show (qat Q a).2.1 < 2147483648 by omega), nI_o (show (qat Q a).2.1 < 2048 by omega) (by omega), q36, r126]
      rw [tk, rb_bi, show tkI (some k) = nI k from rfl]
      simp only [nI_cl (show k < 2147483648 by omega), nI_o (show k < 4 by omega) (by omega), if_false, q130, o2]
      have q9 : dp_I (dp_setI R3 123 y (nI (lo k))) 127 = dp_I M 127 := by rw [gII, if_neg (by decide)]; exact q3
      rw [q9, par']
      exact hr
end PlP
