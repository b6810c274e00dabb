-- needs: 71 72 73 74 75 76 77 78 85 86
/-! PLAN: the class's plan, up to its search and behind it -/
/-- memories that differ in rows S alone, nothing made -/
def Rf (S T : List Nat) (M M' : dp_M) : Prop := Off S T M M' ∧ dp_n M' = dp_n M ∧ dp_z M' = dp_z M
theorem Rf.r (S T : List Nat) (M : dp_M) : Rf S T M M := ⟨Off.rr _ _ _, rfl, rfl⟩
theorem Rf.tr {S T : List Nat} {M M' M'' : dp_M} (h : Rf S T M M') (h' : Rf S T M' M'') : Rf S T M M'' := ⟨h.1.tr h'.1, h'.2.1.trans h.2.1, h'.2.2.trans h.2.2⟩
theorem Rf.mono {S T S' T' : List Nat} {M M' : dp_M} (h : Rf S T M M') (hS : ∀ k ∈ S, k ∈ S') (hT : ∀ k ∈ T, k ∈ T') : Rf S' T' M M' := ⟨h.1.mono hS hT, h.2⟩
theorem Rf.I {S T : List Nat} {M M' : dp_M} (k : Nat) (hk : (k ∈ S ∧ k < 246) ∧ k ≠ 114) (i : Nat) (x : Int32) (h : Rf S T M M') : Rf S T M (dp_setI M' k i x) := ⟨h.1.I k hk i x, h.2.1, h.2.2⟩
theorem Rf.F {S T : List Nat} {M M' : dp_M} (i : Nat) (hi : i ∈ T) (x : Int32) (h : Rf S T M M') : Rf S T M (dp_setI M' 114 i x) := ⟨h.1.F i hi x, h.2.1, h.2.2⟩
theorem Rf.row {S T : List Nat} {M M' : dp_M} (h : Rf S T M M') {k : Nat} (hk : k < 246) (h1 : k ∉ S) (h2 : k ≠ 114) : dp_I M' k = dp_I M k := (h.1.1 k hk h1 h2).1
theorem Rf.fld {S T : List Nat} {M M' : dp_M} (h : Rf S T M M') {k : Nat} (h1 : k ∉ T) : dp_I M' 114 k = dp_I M 114 k := (h.1.2.1 k h1).1
section PlN
variable {xs : Nat → Int32} {xl d : Nat} {M : dp_M}
theorem c_ahd {m i : Nat} {lo : Nat → Nat} (h6 : ∀ k, dp_I M 12 k = 0 ∨ dp_I M 12 k = 1) (hm : m ≤ 4) (hi : i < m) (hl : ∀ j, j < m → lo j < 100 ∧ dp_I M 13 j = nI (lo j)) : dp_den true xs xl (d + 2) 64 [.ref 1, .int (nI i), .int (nI m)] M = iR (ahm (dp_I M 12) lo i m) M := by
  rw [D_X2_ahead_0_den, D_X2_ahead_0_eq]
  simp only [dp_w]
  refine lpb (F := fun (a : Int32) j => D_X2_ahead_5 xs xl (d + 1) (nI i) (nI m) a (nI j) M) (s := ahm (dp_I M 12) lo i) (N := m) ?_ (fun j hj hr => ?_)
  · (try dsimp only)
    rw [D_X2_ahead_5_eq, if_pos (nI_lle (Nat.le_refl _) (by omega))]
  · (try dsimp only at hr); (try dsimp only)
    obtain ⟨x1, x2⟩ := hl i hi
    obtain ⟨y1, y2⟩ := hl j hj
    rw [ahm] at hr
    rw [D_X2_ahead_5_eq, if_neg (nI_nge hj (by omega))]
    simp only [nI_cl (show i < 2147483648 by omega), nI_o (show i < 4 by omega) (by omega), nI_cl (show j < 2147483648 by omega), nI_o (show j < 4 by omega) (by omega), if_false, x2, y2]
    rw [hc_need y1 x1 h6, rb_bi]
    simp only [dp_w, nI_1]
    by_cases z : dp_I M 12 (lo j * 100 + lo i) = 0
    · rw [if_pos z] at hr
      rw [if_pos z]; exact hr
    · rw [if_neg z] at hr
      rw [if_neg z]; exact hr
/-- leaves, as the planner gets it -/
def lvo (port : Nat → Int32) (x : Nat) : Int32 := if port x = 0 then 1 else 0
theorem c_set {i : Nat} {v2 v3 v4 : Int32} (hi : i < 4) : dp_den true xs xl (d + 1) 105 [.ref 14, .int (nI i), .int v2, .int v3, .int v4] M = vR (dp_setI (dp_setI (dp_setI M 20 i v2) 21 i (v3 &&& 1)) 22 i v4) := by
  rw [D_X4_set_0_den, D_X4_set_0_eq]
  simp only [dp_w, nI_cl (show i < 2147483648 by omega), nI_o (show i < 4 by omega) (by omega), if_false]
theorem c_mk1 {m b T N B : Nat} {lo : Nat → Nat} (hs : HSt N B T (dp_I M 2) (dp_I M 8) (dp_I M 9) (dp_I M 10) (dp_I M 12)) (hT4 : T ≤ 4) (hb : b < B) (hN : N ≤ 100) (hm : m ≤ 4) (tT : dp_I M 1 1 = nI T)
    (hl : ∀ j, j < m → (lo j < N ∧ dp_I M 8 (lo j) = nI b ∧ ¬ dp_I M 9 (lo j) = 3) ∧ dp_I M 13 j = nI (lo j)) :
    ∃ M', (∀ j, j < m → dp_I M' 20 j = nI (pcl (dp_I M 9) (dp_I M 10) (lo j)) ∧ dp_I M' 21 j = lvo (dp_I M 2) (lo j) ∧ dp_I M' 22 j = ahm (dp_I M 12) lo j m) ∧ Rf [20, 21, 22] [] M M' ∧
      ∀ r, dp_bi (dp_den true xs xl (d + 6) 106 [.ref 14, .int (nI m), .int (nI T)] M') (fun r2 M1 => D_X2_makePlan_109 xs xl (d + 6) (nI b) (nI m) r2 0 M1) = some r → D_X2_makePlan_8 xs xl (d + 6) (nI b) (nI m) (nI 0) M = some r := by
  obtain ⟨S, eS⟩ : ∃ S, S = dp_I M 9 := ⟨_, rfl⟩
  obtain ⟨D, eD⟩ : ∃ D, D = dp_I M 10 := ⟨_, rfl⟩
  have key := lpt (F := fun i P => D_X2_makePlan_8 xs xl (d + 6) (nI b) (nI m) (nI i) P) (a := 0) (N := m)
    (Inv := fun i P => (∀ j, j < i → dp_I P 20 j = nI (pcl S D (lo j)) ∧ dp_I P 21 j = lvo (dp_I M 2) (lo j) ∧ dp_I P 22 j = ahm (dp_I M 12) lo j m) ∧ Rf [20, 21, 22] [] M P) (Nat.zero_le _) ?_ M ⟨fun j hj => absurd hj (Nat.not_lt_zero j), Rf.r _ _ _⟩
  · obtain ⟨M', ⟨k1, k2⟩, k3⟩ := key
    refine ⟨M', by rw [← eS, ← eD]; exact k1, k2, fun r hr => k3 r ?_⟩
    (try dsimp only)
    rw [D_X2_makePlan_8_eq, if_pos (nI_lle (Nat.le_refl _) (by omega)), k2.row (k := 1) (by decide) (by decide) (by decide), tT]
    simp only [dp_w]; exact hr
  · rintro i P - hi ⟨h1, h2⟩
    obtain ⟨⟨x1, x2, x3⟩, x4⟩ := hl i hi
    have r13 := h2.row (k := 13) (by decide) (by decide) (by decide)
    have r9 := h2.row (k := 9) (by decide) (by decide) (by decide)
    have r10 := h2.row (k := 10) (by decide) (by decide) (by decide)
    have r2 := h2.row (k := 2) (by decide) (by decide) (by decide)
    have r12 := h2.row (k := 12) (by decide) (by decide) (by decide)
    have ah := c_ahd (xs := xs) (xl := xl) (d := d + 4) (M := P) (m := m) (i := i) (lo := lo) (by rw [r12]; exact hs.2.2.2.2.2.1) hm hi (fun j hj => ⟨by have := (hl j hj).1.1; omega, by rw [r13]; exact (hl j hj).2⟩)
    rw [r12] at ah
    refine ⟨dp_setI (dp_setI (dp_setI P 20 i (nI (pcl S D (lo i)))) 21 i (lvo (dp_I M 2) (lo i))) 22 i (ahm (dp_I M 12) lo i m), ⟨fun j hj => ?_, ((h2.I 20 (by decide) _ _).I 21 (by decide) _ _).I 22 (by decide) _ _⟩, fun r hr => ?_⟩
    · by_cases z : j = i
      · subst z
        refine ⟨?_, ?_, ?_⟩
        · rw [gII, if_neg (by decide), gII, if_neg (by decide), gII, if_pos rfl, uI_s]
        · rw [gII, if_neg (by decide), gII, if_pos rfl, uI_s]
        · rw [gII, if_pos rfl, uI_s]
      · obtain ⟨a1, a2, a3⟩ := h1 j (by omega)
        refine ⟨?_, ?_, ?_⟩
        · rw [gII, if_neg (by decide), gII, if_neg (by decide), gII, if_pos rfl, uI_n z]; exact a1
        · rw [gII, if_neg (by decide), gII, if_pos rfl, uI_n z, gII, if_neg (by decide)]; exact a2
        · rw [gII, if_pos rfl, uI_n z, gII, if_neg (by decide), gII, if_neg (by decide)]; exact a3
    · (try dsimp only at hr); (try dsimp only)
      have fin : D_X2_makePlan_54 xs xl (d + 6) (nI b) (nI m) (nI i) (nI (lo i)) (nI (pcl S D (lo i))) P = some r := by
        rw [D_X2_makePlan_54_eq]
        simp only [nI_cl (show lo i < 2147483648 by omega), nI_o (show lo i < 100 by omega) (by omega), if_false, r2]
        by_cases z : dp_I M 2 (lo i) = 0
        · rw [show lvo (dp_I M 2) (lo i) = (1 : Int32) &&& 1 by unfold lvo; rw [if_pos z]; rfl] at hr
          rw [if_pos z, ah, rb_bi, c_set (by omega), rb_bv]
          simp only [dp_w, nI_1]
          exact D_X2_makePlan_8_to_8_a _ _ _ _ _ hr
        · rw [show lvo (dp_I M 2) (lo i) = (0 : Int32) &&& 1 by unfold lvo; rw [if_neg z]; rfl] at hr
          rw [if_neg z, ah, rb_bi, c_set (by omega), rb_bv]
          simp only [dp_w, nI_1]
          exact D_X2_makePlan_8_to_8_a _ _ _ _ _ hr
      rw [D_X2_makePlan_8_eq, if_neg (nI_nge hi (by omega))]
      simp only [nI_cl (show i < 2147483648 by omega), nI_o (show i < 4 by omega) (by omega), if_false, dp_w, r13, x4, nI_cl (show lo i < 2147483648 by omega), nI_o (show lo i < 100 by omega) (by omega), r9, r10]
      rcases pcl_i hs hT4 hb x1 x2 x3 with ⟨e1, e2⟩ | ⟨s, t, s1, s2, s3, -, -, s4⟩
      · rw [if_pos e1]
        rw [← eS, ← eD] at e2
        rw [e2] at fin
        exact fin
      · rw [← eS, ← eD] at s4
        rw [s4] at fin
        rw [if_neg (fun q => by rw [s2] at q; have := (nI_eq (by omega) (by omega)).mp (show nI s = nI 4 from q); omega), D_X4_placeOf_0_den, D_X4_placeOf_0_eq, rb_bi, s2, s3, show (4 : Int32) = nI 4 from rfl, pk_mul, nI_add]
        exact fin
/-- behind the search: no plan -/
theorem c_mk2n {m b B : Nat} (hb : b < B) (hB : B ≤ 12) (l25 : dp_len M 25 = B) (l26 : dp_len M 26 = B) : D_X2_makePlan_109 xs xl (d + 6) (nI b) (nI m) (-1) 0 M = iR (-1) (dp_setI (dp_setI M 25 b (-1)) 26 b 0) := by
  rw [D_X2_makePlan_109_eq, if_pos (by decide), l25]
  simp only [glI, l26, nI_cl (show b < 2147483648 by omega), nI_o hb (show b < 2147483648 by omega), if_false, dp_w]
/-- behind the search: the moves -/
theorem c_mk2 {m b B L : Nat} {lo we : Nat → Nat} (hb : b < B) (hB : B ≤ 12) (hL : L ≤ 16) (hm : m ≤ 4) (l25 : dp_len M 25 = B) (l26 : dp_len M 26 = B) (l27 : dp_len M 27 = B * 16) (hl : ∀ k, k < m → lo k < 100 ∧ dp_I M 13 k = nI (lo k))
    (hw : ∀ e, e < L → dp_I M 15 e = nI (we e) ∧ we e / 64 < m) :
    ∃ M', D_X2_makePlan_109 xs xl (d + 6) (nI b) (nI m) (nI L) 0 M = iR (nI L) M' ∧ dp_I M' 25 = uI (dp_I M 25) b (nI L) ∧ dp_I M' 26 = uI (dp_I M 26) b 0 ∧ (∀ e, e < L → dp_I M' 27 (b * 16 + e) = nI (lo (we e / 64) * 64 + we e % 64)) ∧
      (∀ j, (j < b * 16 ∨ b * 16 + 16 ≤ j) → dp_I M' 27 j = dp_I M 27 j) ∧ Rf [25, 26, 27] [] M M' := by
  have key := lpi (F := fun e P => D_X2_makePlan_109 xs xl (d + 6) (nI b) (nI m) (nI L) (nI e) P) (a := 0) (N := L)
    (Inv := fun e P => (∀ e', e' < e → dp_I P 27 (b * 16 + e') = nI (lo (we e' / 64) * 64 + we e' % 64)) ∧ (∀ j, (j < b * 16 ∨ b * 16 + 16 ≤ j) → dp_I P 27 j = dp_I M 27 j) ∧ Rf [27] [] M P)
    (Post := fun r => ∃ M', r = (.inl (some (.int (nI L))), M') ∧ dp_I M' 25 = uI (dp_I M 25) b (nI L) ∧ dp_I M' 26 = uI (dp_I M 26) b 0 ∧ (∀ e, e < L → dp_I M' 27 (b * 16 + e) = nI (lo (we e / 64) * 64 + we e % 64)) ∧
      (∀ j, (j < b * 16 ∨ b * 16 + 16 ≤ j) → dp_I M' 27 j = dp_I M 27 j) ∧ Rf [25, 26, 27] [] M M') (Nat.zero_le _) ?_ ?_ M ⟨fun e he => absurd he (Nat.not_lt_zero e), fun _ _ => rfl, Rf.r _ _ _⟩
  · obtain ⟨r, hr, M', rfl, q⟩ := key
    exact ⟨M', hr, q⟩
  · rintro P ⟨h1, h2, h3⟩
    have e25 : dp_len P 25 = B := by rw [h3.1.2.2.1 25 (by decide)]; exact l25
    have e26 : dp_len P 26 = B := by rw [h3.1.2.2.1 26 (by decide)]; exact l26
    refine ⟨(.inl (some (.int (nI L))), dp_setI (dp_setI P 25 b (nI L)) 26 b 0), ?_, _, rfl, ?_, ?_, fun e he => ?_, fun j hj => ?_, ((h3.mono (by decide) (by decide)).I 25 (by decide) _ _).I 26 (by decide) _ _⟩
    · (try dsimp only)
      rw [D_X2_makePlan_109_eq, if_pos (nI_lle (Nat.le_refl _) (by omega)), e25]
      simp only [glI, e26, nI_cl (show b < 2147483648 by omega), nI_o hb (show b < 2147483648 by omega), if_false, dp_w]
    · rw [gII, if_neg (by decide), gII, if_pos rfl, h3.row (by decide) (by decide) (by decide)]
    · rw [gII, if_pos rfl, gII, if_neg (by decide), h3.row (by decide) (by decide) (by decide)]
    · rw [gII, if_neg (by decide), gII, if_neg (by decide)]; exact h1 e he
    · rw [gII, if_neg (by decide), gII, if_neg (by decide)]; exact h2 j hj
  · rintro e P - he ⟨h1, h2, h3⟩
    obtain ⟨w1, w2⟩ := hw e he
    obtain ⟨o1, o2⟩ := hl _ w2
    have e27 : dp_len P 27 = B * 16 := by rw [h3.1.2.2.1 27 (by decide)]; exact l27
    refine ⟨dp_setI P 27 (b * 16 + e) (nI (lo (we e / 64) * 64 + we e % 64)), ⟨fun e' he' => ?_, fun j hj => ?_, h3.I 27 (by decide) _ _⟩, fun r hr => ?_⟩
    · rw [gII, if_pos rfl]
      by_cases z : e' = e
      · rw [z, uI_s]
      · rw [uI_n (by omega)]; exact h1 e' (by omega)
    · rw [gII, if_pos rfl, uI_n (by omega)]; exact h2 j hj
    · (try dsimp only at hr); (try dsimp only)
      have e1 : nI (we e) >>> ((6 : Int32) &&& 31) = nI (we e / 64) := by
        rw [show (6 : Int32) = nI 6 from rfl, nI_shr (by omega) (by omega)]
      have e2 : nI (we e) &&& (63 : Int32) = nI (we e % 64) := by
        rw [show (63 : Int32) = nI 63 from rfl, nI_and (by omega) (by omega), show (63 : Nat) = 2 ^ 6 - 1 from rfl, Nat.and_two_pow_sub_one_eq_mod]
      have e3 : nI b * (16 : Int32) + nI e = nI (b * 16 + e) := by rw [show (16 : Int32) = nI 16 from rfl, pk_mul, nI_add]
      rw [D_X2_makePlan_109_eq, if_neg (nI_nge he (by omega))]
      simp only [nI_cl (show e < 2147483648 by omega), nI_o (show e < 16 by omega) (by omega), if_false, dp_w]
      rw [h3.row (k := 15) (by decide) (by decide) (by decide), w1, e1, e2, e3, e27]
      simp only [nI_cl (show we e / 64 < 2147483648 by omega), nI_o (show we e / 64 < 4 by omega) (by omega), if_false, nI_cl (show b * 16 + e < 2147483648 by omega), nI_o (show b * 16 + e < B * 16 by omega) (by omega)]
      rw [h3.row (k := 13) (by decide) (by decide) (by decide), o2, show (64 : Int32) = nI 64 from rfl, pk_mul, nI_add, nI_1]
      exact D_X2_makePlan_109_to_109_a _ _ _ _ _ hr
end PlN
