-- needs: 71 72 73 74 75 76 77 78 85 86
/-! PLAN: the model begins -/
theorem wN_le (c : Nat) : ∀ n k, k ≤ n → wN c k ≤ wN c n
  | 0, k, h => by rw [show k = 0 by omega]; exact Nat.le_refl _
  | n + 1, k, h => by
    by_cases z : k = n + 1
    · rw [z]; exact Nat.le_refl _
    · have := wN_le c n k (by omega)
      rw [wN]; omega
section PlO
variable {xs : Nat → Int32} {xl d : Nat} {M : dp_M}
theorem m_bg1 {N B T b m : Nat} {port bay S D needs : Nat → Int32} (hs : HSt N B T port bay S D needs) (hT4 : T ≤ 4) (hb : b < B) (hN : N ≤ 100) (hm : m = ct (lyf bay S (nI b)) N)
    (r3 : dp_I M 114 3 = nI N) (r116 : dp_I M 116 = bay) (r117 : dp_I M 117 = S) (r118 : dp_I M 118 = D) (r23 : dp_I M 114 23 = nI 0) :
    ∃ M', dp_I M' 114 23 = nI m ∧ (∀ k, k < m → dp_I M' 130 k = nI (lob (lyf bay S (nI b)) N k)) ∧ Rf [130] [23] M M' ∧
      ∀ r, D_X12_begins_124 xs xl d (nI b) (nJ (wN (cod (fun k => pcl S D (lob (lyf bay S (nI b)) N k)) m) m)) 0 M' = some r → D_X12_begins_10 xs xl d (nI b) 0 0 M = some r := by
  obtain ⟨vv, -, cr⟩ := st_code hs hb hN hT4 hm
  have x := st_bx hs hb hm
  have m4 := x.2.1
  obtain ⟨c, ec⟩ : ∃ c, c = cod (fun k => pcl S D (lob (lyf bay S (nI b)) N k)) m := ⟨_, rfl⟩
  have hw := (wk_t m4 vv.1 vv.2).1
  rw [← ec] at vv cr hw ⊢
  obtain ⟨p, ep⟩ : ∃ p, p = lyf bay S (nI b) := ⟨_, rfl⟩
  rw [← ep] at hm x cr ec ⊢
  have key := lpt (F := fun i P => D_X12_begins_10 xs xl d (nI b) (nJ (wN c (ct p i))) (nI i) P) (a := 0) (N := N)
    (Inv := fun i P => dp_I P 114 23 = nI (ct p i) ∧ (∀ k, k < ct p i → dp_I P 130 k = nI (lob p N k)) ∧ Rf [130] [23] M P) (Nat.zero_le _) ?_ M ⟨r23, fun k hk => absurd hk (Nat.not_lt_zero k), Rf.r _ _ _⟩
  · obtain ⟨M', ⟨k1, k2, k3⟩, k4⟩ := key
    rw [← hm] at k1 k2 k4
    refine ⟨M', k1, k2, k3, fun r hr => ?_⟩
    have := k4 r
    (try dsimp only at this)
    refine this ?_
    rw [D_X12_begins_10_eq, k3.fld (by decide), r3, if_pos (nI_lle (Nat.le_refl _) (by omega))]
    simp only [dp_w]; exact hr
  · rintro i P - hi ⟨h1, h2, h3⟩
    have q3 : dp_I P 114 3 = nI N := by rw [h3.fld (by decide)]; exact r3
    have q116 : dp_I P 116 = bay := by rw [h3.row (by decide) (by decide) (by decide)]; exact r116
    have q117 : dp_I P 117 = S := by rw [h3.row (by decide) (by decide) (by decide)]; exact r117
    by_cases z : p i = true
    case neg =>
      have e : ct p (i + 1) = ct p i := by rw [ct, if_neg z]; rfl
      refine ⟨P, ⟨by rw [e]; exact h1, by rw [e]; exact h2, h3⟩, fun r hr => ?_⟩
      (try dsimp only at hr); (try dsimp only)
      rw [e] at hr
      rw [D_X12_begins_10_eq, q3, if_neg (nI_nge hi (by omega))]
      simp only [nI_cl (show i < 2147483648 by omega), nI_o (show i < 100 by omega) (by omega), if_false, q116, q117, dp_w, nI_1]
      by_cases y : bay i = nI b
      · have y2 : S i = 3 := Classical.byContradiction (fun w => z (by rw [ep]; exact lyf_t.mpr ⟨y, w⟩))
        rw [if_pos y, if_pos y2]; exact hr
      · rw [if_neg y]; exact hr
    have z' := z
    rw [ep] at z'
    obtain ⟨z1, z2⟩ := lyf_t.mp z'
    have e : ct p (i + 1) = ct p i + 1 := by rw [ct, if_pos z]
    obtain ⟨k, hk⟩ : ∃ k, k = ct p i := ⟨_, rfl⟩
    have km : k < m := by rw [hm, hk]; exact cts z hi
    have lk : lob p N k = i := by rw [hk]; exact lob_at z N hi
    have wl := wN_le c m (k + 1) km
    have wl0 := wN_le c m k (by omega)
    have wa : wN c (k + 1) = wN c k + wb k (pl c k) := rfl
    have wor := khg_w m4 vv km
    rw [← hk] at h1 h2 e
    obtain ⟨P2, eP⟩ : ∃ P2, P2 = dp_setI (dp_setI P 130 k (nI i)) 114 23 (nI (k + 1)) := ⟨_, rfl⟩
    have f3 : Rf [130] [23] M P2 := by rw [eP]; exact (h3.I 130 (by decide) _ _).F 23 (by decide) _
    have g117 : dp_I P2 117 = S := by rw [f3.row (by decide) (by decide) (by decide)]; exact r117
    have g118 : dp_I P2 118 = D := by rw [f3.row (by decide) (by decide) (by decide)]; exact r118
    refine ⟨P2, ⟨by rw [e, eP, gII, if_pos rfl, uI_s], fun j hj => ?_, f3⟩, fun r hr => ?_⟩
    · rw [e] at hj
      rw [eP, gII, if_neg (by decide), gII, if_pos rfl]
      by_cases y : j = k
      · rw [y, uI_s, lk]
      · rw [uI_n y]; exact h2 j (by omega)
    · (try dsimp only at hr); (try dsimp only)
      rw [e] at hr
      rw [← hk]
      have em : dp_setI (dp_setI P 130 k (nI i)) 114 23 (dp_I (dp_setI P 130 k (nI i)) 114 23 + 1) = P2 := by
        rw [eP, gII, if_neg (by decide), h1, nI_1]
      have sh : ∀ y, y < 45 → ∀ a, a < 8 → wb k (pl c k) = a <<< y → nJ (wN c k) ||| nJ a <<< nJ y = nJ (wN c (k + 1)) := fun y hy a ha e' => by
        have := shl_lt a ha y hy
        rw [nJ_shl this (by omega), nJ_or (by omega) this, ← e', wor, wa]
      rw [D_X12_begins_10_eq, q3, if_neg (nI_nge hi (by omega))]
      simp only [nI_cl (show i < 2147483648 by omega), nI_o (show i < 100 by omega) (by omega), if_false, q116, q117, dp_w]
      rw [if_pos z1, if_neg z2, h1, if_neg (nI_inn (show k < 4 by omega) (by omega)), nI_cl (by omega), em, g117, g118]
      have hp := (cr.1 k km)
      have hplc := pcl_i hs hT4 hb hi z1 z2
      have cpl : pl c k = pcl S D i := by
        rcases hplc with ⟨a1, a2⟩ | ⟨s, t, a1, a2, a3, a4, a5, a6⟩
        · have := vv.pl km
          rw [lk] at hp
          rw [a2]
          by_cases y : pl c k < 12
          · have := (hp.1 y).1
            rw [a1] at this
            have := (nI_eq (by omega) (by omega)).mp (show nI 4 = nI (pl c k / 4) from this); omega
          · by_cases y2 : pl c k = 12
            · have := hp.2.1 y2
              rw [a1] at this; exact absurd this (by decide)
            · omega
        · have := vv.pl km
          rw [lk] at hp
          rw [a6]
          by_cases y : pl c k < 12
          · have q1 := (hp.1 y).1
            have q2 := (hp.1 y).2
            rw [a2] at q1
            rw [a3] at q2
            have q1 := (nI_eq (by omega) (by omega)).mp q1
            have q2 := (nI_eq (by omega) (by omega)).mp q2
            omega
          · by_cases y2 : pl c k = 12
            · have := hp.2.1 y2
              rw [a2] at this
              have := (nI_eq (by omega) (by omega)).mp (show nI s = nI 3 from this); omega
            · have := hp.2.2 (by omega)
              rw [a2] at this
              have := (nI_eq (by omega) (by omega)).mp (show nI s = nI 4 from this); omega
      rcases hplc with ⟨a1, a2⟩ | ⟨s, t, a1, a2, a3, a4, a5, a6⟩
      · rw [if_pos a1, show (36 : Int32) = nI 36 from rfl, nI_add, nJ_63 _ (by omega), show (1 : Int64) = nJ 1 from rfl, sh (36 + k) (by omega) 1 (by decide) (by rw [cpl, a2]; rfl), nI_1]
        exact D_X12_begins_10_to_10_a _ _ _ _ hr
      · rw [if_neg (fun q => by rw [a2] at q; have := (nI_eq (by omega) (by omega)).mp (show nI s = nI 4 from q); omega), a2, a3, show (4 : Int32) = nI 4 from rfl, pk_mul, nI_add, show (3 : Int32) = nI 3 from rfl, pk_mul, nJ_63 _ (by omega), nI_1, nJ_l _ (by omega), sh (3 * (4 * s + t)) (by omega) (k + 1) (by omega) (by rw [cpl, a6]; unfold wb; rw [if_pos (by omega), show 3 * (s * 4 + t) = 3 * (4 * s + t) by omega]), nI_1]
        exact D_X12_begins_10_to_10_a _ _ _ _ hr
theorem m_bg2 {m N : Nat} {v1 : Int32} {v2 : Int64} {lo : Nat → Nat} {needs : Nat → Int32} (hm : m ≤ 4) (r23 : dp_I M 114 23 = nI m) (r130 : ∀ k, k < m → dp_I M 130 k = nI (lo k)) (r119 : dp_I M 119 = needs) (hl : ∀ k, k < m → lo k < 100) :
    ∃ M', D_X12_begins_124 xs xl d v1 v2 0 M = lR v2 M' ∧ (∀ k, k < m → dp_I M' 131 k = ahm needs lo k m) ∧ Rf [131] [] M M' := by
  have key := lpi (F := fun k P => D_X12_begins_124 xs xl d v1 v2 (nI k) P) (a := 0) (N := m)
    (Inv := fun k P => (∀ j, j < k → dp_I P 131 j = ahm needs lo j m) ∧ Rf [131] [] M P)
    (Post := fun r => ∃ M', r = (.inl (some (.long v2)), M') ∧ (∀ k, k < m → dp_I M' 131 k = ahm needs lo k m) ∧ Rf [131] [] M M') (Nat.zero_le _) ?_ ?_ M ⟨fun j hj => absurd hj (Nat.not_lt_zero j), Rf.r _ _ _⟩
  · obtain ⟨r, hr, M', rfl, q⟩ := key
    exact ⟨M', hr, q⟩
  · rintro P ⟨h1, h2⟩
    refine ⟨(.inl (some (.long v2)), P), ?_, P, rfl, h1, h2⟩
    (try dsimp only)
    rw [D_X12_begins_124_eq, h2.fld (by decide), r23, if_pos (nI_lle (Nat.le_refl _) (by omega))]
  · rintro k P - hk ⟨h1, h2⟩
    have inn := lpt (F := fun i P' => D_X12_begins_144 xs xl d v1 v2 (nI k) (nI i) P') (a := 0) (N := m)
      (Inv := fun i P' => dp_I P' 131 k = ahm needs lo k i ∧ (∀ j, j < k → dp_I P' 131 j = ahm needs lo j m) ∧ Rf [131] [] M P') (Nat.zero_le _) ?_ (dp_setI P 131 k 0) ⟨by rw [gII, if_pos rfl, uI_s]; rfl, fun j hj => by rw [gII, if_pos rfl, uI_n (by omega)]; exact h1 j hj, h2.I 131 (by decide) _ _⟩
    · obtain ⟨P', ⟨i1, i2, i3⟩, i4⟩ := inn
      refine ⟨P', ⟨fun j hj => ?_, i3⟩, fun r hr => ?_⟩
      · by_cases z : j = k
        · rw [z]; exact i1
        · exact i2 j (by omega)
      · (try dsimp only at hr); (try dsimp only)
        rw [D_X12_begins_124_eq, h2.fld (by decide), r23, if_neg (nI_nge hk (by omega))]
        simp only [nI_cl (show k < 2147483648 by omega), nI_o (show k < 4 by omega) (by omega), if_false, dp_w]
        refine i4 r ?_
        (try dsimp only)
        rw [D_X12_begins_144_eq, i3.fld (by decide), r23, if_pos (nI_lle (Nat.le_refl _) (by omega))]
        simp only [dp_w, nI_1]
        exact D_X12_begins_124_to_124_a _ _ _ _ hr
    · rintro i P' - hi ⟨i1, i2, i3⟩
      refine ⟨dp_setI P' 131 k (ahm needs lo k (i + 1)), ⟨by rw [gII, if_pos rfl, uI_s], fun j hj => by rw [gII, if_pos rfl, uI_n (by omega)]; exact i2 j hj, i3.I 131 (by decide) _ _⟩, fun r hr => ?_⟩
      (try dsimp only at hr); (try dsimp only)
      have a1 := hl i hi
      have a2 := hl k hk
      rw [D_X12_begins_144_eq, i3.fld (by decide), r23, if_neg (nI_nge hi (by omega))]
      simp only [nI_cl (show k < 2147483648 by omega), nI_o (show k < 4 by omega) (by omega), nI_cl (show i < 2147483648 by omega), nI_o (show i < 4 by omega) (by omega), if_false, dp_w, nI_1]
      rw [i3.row (k := 130) (by decide) (by decide) (by decide), r130 i hi, r130 k hk, i3.row (k := 119) (by decide) (by decide) (by decide), r119, show (100 : Int32) = nI 100 from rfl, pk_mul, nI_add, if_neg (nI_inn (show 100 * lo i + lo k < 10000 by omega) (by omega)), nI_cl (by omega), show 100 * lo i + lo k = lo i * 100 + lo k by omega, i1]
      rw [ahm] at hr
      by_cases z : needs (lo i * 100 + lo k) = 0
      · rw [if_pos z] at hr ⊢; exact hr
      · rw [if_neg z] at hr ⊢; exact hr
theorem m_bgn {N B T b m : Nat} {port bay S D needs : Nat → Int32} (hs : HSt N B T port bay S D needs) (hT4 : T ≤ 4) (hb : b < B) (hN : N ≤ 100) (hm : m = ct (lyf bay S (nI b)) N)
    (r3 : dp_I M 114 3 = nI N) (r116 : dp_I M 116 = bay) (r117 : dp_I M 117 = S) (r118 : dp_I M 118 = D) (r119 : dp_I M 119 = needs) :
    ∃ M', dp_den true xs xl (d + 1) 381 [.ref 114, .int (nI b)] M = lR (nJ (wN (cod (fun k => pcl S D (lob (lyf bay S (nI b)) N k)) m) m)) M' ∧ dp_I M' 114 23 = nI m ∧ (∀ k, k < m → dp_I M' 130 k = nI (lob (lyf bay S (nI b)) N k)) ∧ (∀ k, k < m → dp_I M' 131 k = ahm needs (lob (lyf bay S (nI b)) N) k m) ∧ Rf [130, 131] [23] M M' := by
  have x := st_bx hs hb hm
  have f0 : Rf [130] [23] M (dp_setI M 114 23 0) := (Rf.r _ _ M).F 23 (by decide) _
  obtain ⟨M1, a1, a2, a3, a4⟩ := m_bg1 (xs := xs) (xl := xl) (d := d) (M := dp_setI M 114 23 0) hs hT4 hb hN hm (by rw [f0.fld (by decide)]; exact r3) (by rw [f0.row (by decide) (by decide) (by decide)]; exact r116) (by rw [f0.row (by decide) (by decide) (by decide)]; exact r117) (by rw [f0.row (by decide) (by decide) (by decide)]; exact r118) (by rw [gII, if_pos rfl, uI_s]; rfl)
  have f1 := f0.tr a3
  obtain ⟨M2, b1, b2, b3⟩ := m_bg2 (xs := xs) (xl := xl) (d := d) (M := M1) (v1 := nI b) (v2 := nJ (wN (cod (fun k => pcl S D (lob (lyf bay S (nI b)) N k)) m) m)) (N := N) (needs := needs) x.2.1 a1 a2 (by rw [f1.row (by decide) (by decide) (by decide)]; exact r119) (fun k hk => by have := (x.lo hk).1; omega)
  refine ⟨M2, ?_, by rw [b3.fld (by decide)]; exact a1, fun k hk => by rw [b3.row (by decide) (by decide) (by decide)]; exact a2 k hk, b2, (f1.mono (by decide) (by decide)).tr (b3.mono (by decide) (by decide))⟩
  rw [D_X12_begins_0_den, D_X12_begins_0_eq]
  simp only [dp_w]
  exact a4 _ b1
end PlO
