-- needs: 71 72 73 74
/-! RATES: type -/
section Rh
variable {xs : Nat → Int32} {xl d : Nat} {M : dp_M}
theorem c_typ {v : Int64} {n L : Nat} (h : dp_I M 68 0 = nI L) (hL : L + n ≤ 400) (hn1 : 1 ≤ n) (hn : n ≤ 8) : ((∀ j, j < n → okb v j) ∧ dp_den true xs xl (d + 1) 143 [.ref 68, .long v, .int (nI n)] M = iR 1 (wT M 70 68 0 L n (fun j => bch v (n - 1 - j)))) ∨ ((∃ j, j < n ∧ ¬ okb v j) ∧ dp_den true xs xl (d + 1) 143 [.ref 68, .long v, .int (nI n)] M = iR 0 M) := by
  have st : dp_den true xs xl (d + 1) 143 [.ref 68, .long v, .int (nI n)] M = if byc v 0 < 32 then iR 0 M else if byc v 0 ≤ 126 then D_X7_addSigns_17_a xs xl d v (nI n) (nI 1) (byc v 0) M else iR 0 M := by
    rw [D_X7_addSigns_0_den, D_X7_addSigns_0_eq, h, nI_add, if_pos (show nI (L + n) ≤ (400 : Int32) from nI_lle (n := L + n) (i := 400) hL (by omega)), dpw, D_X7_addSigns_17_eq, if_neg (show ¬ nI n ≤ (0 : Int32) from nI_nge (i := 0) (n := n) (by omega) (by omega)), dpw]
    simp only [lg_cmp_lt, lg_cmp_le, dp_w]
    rfl
  rw [st]
  by_cases z : okb v 0
  · rw [if_neg (fun q => Int64.not_lt.mpr z.1 q), if_pos z.2]
    rcases c_chk (xs := xs) (xl := xl) (d := d) (M := M) (v := v) (n := n) (n - 1) 1 (byc v 0) (by omega) hn with ⟨h1, w', h2⟩ | ⟨h1, h2⟩
    · have ho : ∀ j, j < n → okb v j := fun j hj => by
        by_cases y : j = 0
        · rw [y]; exact z
        · exact h1 j (by omega) hj
      exact Or.inl ⟨ho, by rw [h2]; exact c_wrt h hL ho⟩
    · exact Or.inr ⟨h1, h2⟩
  · refine Or.inr ⟨⟨0, by omega, z⟩, ?_⟩
    by_cases y : byc v 0 < 32
    · rw [if_pos y]
    · rw [if_neg y, if_neg (fun q => z ⟨Int64.not_lt.mp y, q⟩)]
theorem s_type (h : RelR M) (v : Int64) (v3 : Int32) : ∃ r M1 M2, dp_den true xs xl (d + 3) 307 [.ref 0, .long v, .int v3] M = iR r M1 ∧ dp_den true xs xl (d + 3) 465 [.ref 114, .long v, .int v3] M1 = iR r M2 ∧ RelR M2 ∧ Off [68, 70, 170] [0, 75] M M2 ∧ Cst 0 0 M M2 := by
  have h0 := h
  obtain ⟨hn, ⟨L, t1, t2, t3, t4⟩, hr, hp⟩ := h
  have o0 : Off [68, 70, 170] [0, 75] M (dp_setI M 114 0 0) := (Off.rr _ _ M).F 0 (by decide) _
  have r0 : RelR (dp_setI M 114 0 0) := RelR_off h0 ((Off.rr [] [0] M).F 0 (by decide) _) (by decide) (by decide)
  have c8 : (8 : Int64).toInt = 8 := by decide
  have c1 : (1 : Int64).toInt = 1 := by decide
  have w : ((1 : Int64) ≤ v3.toInt64 ∧ v3.toInt64 ≤ (8 : Int64)) ↔ (¬ v3 < 1 ∧ ¬ 8 < v3) := by
    rw [Int64.le_iff_toInt_le, Int64.le_iff_toInt_le, Int32.toInt_toInt64, c8, c1, Int32.lt_iff_toInt_lt, Int32.lt_iff_toInt_lt]
    have d1 : (1 : Int32).toInt = 1 := by decide
    have d8 : (8 : Int32).toInt = 8 := by decide
    omega
  have cl : ∀ r N, dp_den true xs xl (d + 2) 143 [.ref 68, .long v, .int v3] M = iR r N → (r = 0 ∨ r = 1) → ((1 : Int64) ≤ v3.toInt64 ∧ v3.toInt64 ≤ (8 : Int64)) → dp_den true xs xl (d + 3) 307 [.ref 0, .long v, .int v3] M = iR r N := fun r N e hr q => by
    rw [D_X11_type_0_den, D_X11_type_0_eq, q_win, rb_bi, ibz, if_pos q, e, rb_bi]
    rcases hr with rfl | rfl
    · rw [if_pos rfl]
    · rw [if_neg (by decide)]
  by_cases q : (1 : Int64) ≤ v3.toInt64 ∧ v3.toInt64 ≤ (8 : Int64)
  case neg =>
    refine ⟨0, M, _, ?_, ?_, r0, o0, ⟨Nat.le_refl _, Nat.le_refl _⟩⟩
    · rw [D_X11_type_0_den, D_X11_type_0_eq, q_win, rb_bi, ibz, if_neg q]
    · rw [D_X12_type_0_den, D_X12_type_0_eq, dpw]
      by_cases z : v3 < 1
      · rw [if_pos z, dpw, dpw, m_no38]
      · rw [if_neg z, if_pos (Classical.byContradiction (fun y => q (w.mpr ⟨z, y⟩))), dpw, dpw, m_no38]
  have q' := w.mp q
  obtain ⟨n, hv, n1, n8⟩ : ∃ n, v3 = nI n ∧ 1 ≤ n ∧ n ≤ 8 := by
    have a := q'.1
    have b := q'.2
    rw [Int32.lt_iff_toInt_lt] at a b
    have d1 : (1 : Int32).toInt = 1 := by decide
    have d8 : (8 : Int32).toInt = 8 := by decide
    refine ⟨v3.toInt.toNat, Int32.toInt_inj.mp ?_, by omega, by omega⟩
    rw [nI_toInt (by omega)]
    omega
  subst hv
  have md : ∀ N, dp_I N 114 75 = nI L → dp_den true xs xl (d + 3) 465 [.ref 114, .long v, .int (nI n)] N = if 400 < L + n then iR 0 (dp_setI N 114 0 0) else D_X12_type_38 xs xl (d + 2) v (nI n) 1 (nI 0) (dp_setI N 114 0 0) := fun N e => by
    have e' : dp_I (dp_setI N 114 0 0) 114 75 = nI L := by rw [gII, if_pos rfl, uI_n (by decide)]; exact e
    rw [D_X12_type_0_den, D_X12_type_0_eq, dpw, if_neg q'.1, if_neg q'.2, e', nI_add]
    by_cases z : 400 < L + n
    · rw [if_pos z, if_pos (show (400 : Int32) < nI (L + n) from Int32.not_le.mp (nI_nge (i := 400) (n := L + n) z (by omega))), dpw, dpw, m_no38]
    · rw [if_neg z, if_neg (show ¬ (400 : Int32) < nI (L + n) from Int32.not_lt.mpr (nI_lle (n := L + n) (i := 400) (by omega) (by omega))), dpw, dpw]
      rfl
  by_cases z : 400 < L + n
  · refine ⟨0, M, _, cl 0 M ?_ (Or.inl rfl) q, (md M t2).trans (if_pos z), r0, o0, ⟨Nat.le_refl _, Nat.le_refl _⟩⟩
    rw [D_X7_addSigns_0_den, D_X7_addSigns_0_eq, t1, nI_add, if_neg (show ¬ nI (L + n) ≤ (400 : Int32) from nI_nge (i := 400) (n := L + n) z (by omega))]
  · rcases c_typ (xs := xs) (xl := xl) (d := d + 1) (v := v) t1 (show L + n ≤ 400 by omega) n1 n8 with ⟨h1, h2⟩ | ⟨⟨j, j1, j2⟩, h2⟩
    · obtain ⟨N1, hN1⟩ : ∃ N1, N1 = wT M 70 68 0 L n (fun j => bch v (n - 1 - j)) := ⟨_, rfl⟩
      rw [← hN1] at h2
      have N114 : dp_I N1 114 = dp_I M 114 := by rw [hN1]; exact wT_o (by decide) (by decide)
      obtain ⟨N2, hN2⟩ : ∃ N2, N2 = dp_setI N1 114 0 0 := ⟨_, rfl⟩
      have e2 : dp_I N2 114 75 = nI L := by rw [hN2, gII, if_pos rfl, uI_n (by decide), N114]; exact t2
      obtain ⟨N3, hN3⟩ : ∃ N3, N3 = wT N2 170 114 75 L n (fun j => bch v (n - 1 - j)) := ⟨_, rfl⟩
      have oo : Off [68, 70, 170] [0, 75] M N3 := by
        rw [hN3, hN2, hN1]
        unfold wT
        exact Off.F 75 (by decide) _ (Off.rI 170 (by decide) _ (Off.F 0 (by decide) _ (Off.I 68 (by decide) _ _ (Off.rI 70 (by decide) _ (Off.rr _ _ M)))))
      have keep : ∀ K, K ≠ 70 → K ≠ 68 → K ≠ 170 → K ≠ 114 → dp_I N3 K = dp_I M K := fun K a b c e => by
        rw [hN3, wT_o c e, hN2, gII, if_neg e, hN1, wT_o a b]
      have k70 : dp_I N3 70 = fN (dp_I M 70) L n (fun j => bch v (n - 1 - j)) := by rw [hN3, wT_o (by decide) (by decide), hN2, gII, if_neg (by decide), hN1, wT_P (by decide)]
      have k170 : dp_I N3 170 = fN (dp_I M 170) L n (fun j => bch v (n - 1 - j)) := by rw [hN3, wT_P (by decide), hN2, gII, if_neg (by decide), hN1, wT_o (by decide) (by decide)]
      have k68 : dp_I N3 68 = dp_I N1 68 := by rw [hN3, wT_o (by decide) (by decide), hN2, gII, if_neg (by decide)]
      refine ⟨1, N1, N3, cl 1 N1 h2 (Or.inr rfl) q, ?_, ⟨by have := oo.2.2.2.2; omega, ⟨L + n, ?_, ?_, by omega, fun i hi => ?_⟩, fun r hr' => (hr r hr').off oo (by decide), ?_⟩, oo, ?_⟩
      · rw [md N1 (by rw [N114]; exact t2), if_neg z, ← hN2]
        rcases m_chk (xs := xs) (xl := xl) (d := d + 1) (M := N2) (v := v) (n := n) n 0 (by omega) n8 with ⟨g1, g2⟩ | ⟨⟨j, j1, j2⟩, -⟩
        · rw [g2, m_wrt e2 (by omega) n8 h1, ← hN3]
        · exact absurd (h1 j j1) j2
      · rw [k68, hN1, wT_Q]
      · rw [hN3, wT_Q]
      · rw [k70, k170]
        by_cases y : i < L
        · rw [fN_lt y, fN_lt y]; exact t4 i y
        · obtain ⟨a, rfl⟩ : ∃ a, i = L + a := ⟨i - L, by omega⟩
          rw [fN_in (by omega), fN_in (by omega)]
          exact ⟨rfl, okb_r (h1 _ (by omega))⟩
      · obtain ⟨P, p1, p2, p3, p4⟩ := hp
        refine ⟨P, p1, ?_, ?_, fun i hi => ?_⟩
        · rw [k68, hN1, wT_f (by decide) (by decide)]; exact p2
        · rw [hN3, wT_f (by decide) (by decide), hN2, gII, if_pos rfl, uI_n (by decide), N114]; exact p3
        · rw [keep 69 (by decide) (by decide) (by decide) (by decide), keep 190 (by decide) (by decide) (by decide) (by decide)]; exact p4 i hi
      · rw [hN3, hN2, hN1]
        exact ⟨Nat.le_refl _, Nat.le_refl _⟩
    · refine ⟨0, M, _, cl 0 M h2 (Or.inl rfl) q, ?_, r0, o0, ⟨Nat.le_refl _, Nat.le_refl _⟩⟩
      rw [md M t2, if_neg z]
      rcases m_chk (xs := xs) (xl := xl) (d := d + 1) (M := dp_setI M 114 0 0) (v := v) (n := n) n 0 (by omega) n8 with ⟨g1, -⟩ | ⟨-, y, g2⟩
      · exact absurd (g1 j (by omega) j1) j2
      · rw [g2, m_no]
end Rh
