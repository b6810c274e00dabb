-- needs: 71 72 73 74
/-! RATES: the model's readsText, the class's readTape -/
theorem Rp.len' {rd : Nat → Nd × Int32 × Int32} : ∀ {n x l ix}, Rp rd n x l ix → Rp rd l.length x l ix
  | n + 1, x, l, ix, h => by
    rcases h with ⟨h0, h1, e1, e2⟩ | ⟨h0, x1, x2, l1, l2, i1, i2, h1, h2, h3, e1, e2⟩
    · rw [e1]; exact Or.inl ⟨h0, h1, rfl, e2⟩
    · rw [e1, List.length_cons]
      exact Or.inr ⟨h0, x1, x2, l1, l2, i1, i2, h1, h2.len'.up _ (by rw [List.length_append]; omega), h3.len'.up _ (by rw [List.length_append]; omega), rfl, e2⟩
section Ra
variable {xs : Nat → Int32} {xl d : Nat} {M : dp_M} {t : Nat → Int32} {L : Nat}
def Tx_S : List Nat := [174, 175, 176, 177, 178, 179, 180, 181, 182, 183, 184, 185, 186, 187]
def Tx_T : List Nat := [80, 81, 90, 91, 92, 97]
theorem g_bad {b : Nat} {w v2 : Int32} (hb : dp_I M 114 81 = nI b) (h : b < 2147483648) : D_X12_readsText_40 xs xl d w v2 M = iR (-1 - nI b) M := by
  rw [D_X12_readsText_40_eq, hb, if_pos (by rw [Int32.le_iff_toInt_le, nI_toInt h]; have : (0 : Int32).toInt = 0 := rfl; omega), D_X12_readsText_117_eq, hb, if_neg (r_nn h)]
theorem m_text (h : TxM M t L) : ∃ M', Off Tx_S Tx_T M M' ∧ Cst 0 0 M M' ∧ (∀ b, rdR t L = .inl b → b ≤ L ∧ dp_den true xs xl (d + 9) 487 [.ref 114] M = iR (-1 - nI b) M') ∧ (∀ l, rdR t L = .inr l → dp_den true xs xl (d + 9) 487 [.ref 114] M = iR (nI l.length) M' ∧ FnM M' l ∧ dp_I M' 114 92 = nI l.length) := by
  have hL := h.2.1
  obtain ⟨M6, hM6⟩ : ∃ M6, M6 = dp_setI (dp_setI (dp_setI (dp_setI (dp_setI (dp_setI M 114 80 0) 114 81 (-1)) 114 90 0) 114 91 0) 114 92 0) 114 97 0 := ⟨_, rfl⟩
  have o6 : Off Tx_S Tx_T M M6 := by rw [hM6]; exact ((((((Off.rr _ _ M).F 80 (by decide) _).F 81 (by decide) _).F 90 (by decide) _).F 91 (by decide) _).F 92 (by decide) _).F 97 (by decide) _
  have e6 : dp_I M6 114 = uI (uI (uI (uI (uI (uI (dp_I M 114) 80 0) 81 (-1)) 90 0) 91 0) 92 0) 97 0 := by rw [hM6]; simp only [gII, if_true]
  have e97 : dp_I M6 114 97 = 0 := by rw [e6, uI_s]
  obtain ⟨M7, hM7⟩ : ∃ M7, M7 = opN M6 0 0 := ⟨_, rfl⟩
  have f7 : FrM M6 M7 := by rw [hM7]; exact opN_fr
  have o7 : Off Tx_S Tx_T M M7 := o6.tr (f7.1.mono (by decide) (by decide))
  have c7 : Cst 0 0 M M7 := by rw [hM7, hM6]; exact ⟨Nat.le_refl _, Nat.le_refl _⟩
  have op : ∀ {d}, dp_den true xs xl (d + 2) 480 [.ref 114, .int (0 : Int32), .int (0 : Int32)] M6 = vR M7 := fun {d} => by
    rw [D_X12_opens_0_den, D_X12_opens_0_eq, e97, if_neg (by decide)]
    have z0 : Int32.toNatClampNeg (0 : Int32) = 0 := rfl
    simp only [dp_w, gII, Nat.reduceEqDiff, if_false, e97, z0]
    rw [hM7]
    rfl
  have e7 : dp_I M7 114 = uI (dp_I M6 114) 97 (nI 1) := by rw [hM7]; exact opN_114
  have s7 : MSt M7 t L 0 0 0 0 := by
    refine ⟨⟨?_, hL, fun i hi => ?_⟩, ?_, Nat.zero_le _, ?_, ?_, by omega, ?_, Nat.le_refl _, ?_, by omega, fun y hy => absurd hy (by omega)⟩
    · rw [(o7.2.1 79 (by decide)).1]; exact h.1
    · rw [(o7.1 173 (by decide) (by decide) (by decide)).1]; exact h.2.2 i hi
    · rw [e7, uI_n (by decide), e6, uI_n (by decide), uI_n (by decide), uI_n (by decide), uI_n (by decide), uI_n (by decide), uI_s]; rfl
    · rw [e7, uI_n (by decide), e6, uI_n (by decide), uI_n (by decide), uI_n (by decide), uI_n (by decide), uI_s]
    · rw [e7, uI_n (by decide), e6, uI_n (by decide), uI_n (by decide), uI_s]; rfl
    · rw [e7, uI_n (by decide), e6, uI_n (by decide), uI_n (by decide), uI_n (by decide), uI_s]; rfl
    · rw [e7, uI_s]
  have k185 : dp_I M7 185 0 = 0 := by rw [hM7, opN_n.2.2.2, uI_s]
  have k182 : dp_I M7 182 0 = 0 := by rw [hM7, opN_n.1, uI_s]
  have st : dp_den true xs xl (d + 9) 487 [.ref 114] M = D_X12_readsText_40 xs xl (d + 8) 1 1 M7 := by
    rw [D_X12_readsText_0_den, D_X12_readsText_0_eq]
    simp only [dp_w]
    rw [← hM6, op, rb_bv]
  obtain ⟨res, hp⟩ := ps_some (t := t) (L := L) 802 1 [] 0 0 0 (by omega) (Nat.zero_le _) (by omega) (fun e => by cases e) (by rw [if_pos rfl]; omega)
  have rd := (m_read (xs := xs) (xl := xl) (d := d) (t := t) (L := L) 802 0 M7 0 0 0 res s7).2.1 hp k185
  cases res with
  | inl b =>
    obtain ⟨M1, w, u1, u2, u3⟩ := rd
    have hr : rdR t L = .inl b := by unfold rdR; rw [hp]
    refine ⟨M1, o7.tr (u1.1.1.mono (by decide) (by decide)), ⟨by have := c7.1; have := u1.1.2.1; omega, by have := c7.2; have := u1.1.2.2; omega⟩, fun b' e => ?_, fun l e => (by rw [hr] at e; cases e)⟩
    rw [hr] at e; injection e with e; subst e
    exact ⟨u2, by rw [st]; exact u3 _ (g_bad u1.2 (by omega))⟩
  | inr lq =>
    obtain ⟨l, q, c'⟩ := lq
    obtain ⟨M1, y, r1, r2⟩ := rd
    obtain ⟨t1, t2, t3⟩ := ps_stop 802 1 [] 0 0 0 l q c' (Or.inl rfl) hp
    have sM1 := r1.2.1
    have q3 := sM1.2.2.1
    have plq : plm M1 (sk t L q) = M1 := by rw [t1]; exact plm_self sM1.2.1
    have m182 : dp_I M1 182 0 = 0 := by rw [r1.2.2.2.2.2.2.1]; exact k182
    have cM1 : Cst 0 0 M M1 := ⟨by have := c7.1; have := r1.1.2.1; omega, by have := c7.2; have := r1.1.2.2; omega⟩
    have oM1 : Off Tx_S Tx_T M M1 := o7.tr (r1.1.1.mono (by decide) (by decide))
    by_cases z : q < L
    · have hr : rdR t L = .inl q := by
        unfold rdR; rw [hp]; simp only [if_pos z]
      have bh := m_bhBad (xs := xs) (xl := xl) (d := d + 6) sM1 t1 t2 t3 (Or.inl z) (fun u => by rw [m182] at u; exact absurd u.2.1 (by decide)) (fun u => by rw [m182] at u; exact u.2.elim (fun v => absurd v (by decide)) (fun v => absurd v.1 (by decide)))
      have go := r2.tr (g_behind (d := d + 7) sM1 (Or.inl (by rw [t1]; exact z)) (Or.inl rfl) (by rw [plq]; exact bh))
      refine ⟨dp_setI M1 114 81 (nI q), oM1.F 81 (by decide) _, cM1, fun b' e => ?_, fun l e => (by rw [hr] at e; cases e)⟩
      rw [hr] at e; injection e with e; subst e
      exact ⟨q3, by rw [st]; exact go _ (g_bad (by rw [gII, if_pos rfl, uI_s]) (by omega))⟩
    · have hr : rdR t L = .inr l := by
        unfold rdR; rw [hp]; simp only [if_neg z]
      have l60 : l.length ≤ 60 := by have := r1.2.2.1; have := sM1.2.2.2.2.2.1; omega
      obtain ⟨n, ix, x1, x2, x3⟩ := r1.2.2.2.2.1
      have h6 : ∀ y, y < l.length → tN (dp_I M1 179 y) ≤ 6 := fun y hy => sM1.2.2.2.2.2.2.2.2.2.2 y (by omega)
      obtain ⟨N, n1, n2, n3, n4, n5⟩ := m_numbers (xs := xs) (xl := xl) (d := d + 7) h6 x1.len' (by omega) x2 (fun x hx => by have := x3 x hx; omega) l60
      refine ⟨N, oM1.tr (n2.mono (by decide) (by decide)), ⟨by have := cM1.1; have := n3.1; omega, by have := cM1.2; have := n3.2; omega⟩, fun b e => (by rw [hr] at e; cases e), fun l' e => ?_⟩
      rw [hr] at e; injection e with e; subst e
      refine ⟨?_, n4, n5⟩
      rw [st]
      refine r2 _ ?_
      have b1 : dp_I M1 114 81 = -1 := sM1.bad
      have e97' : dp_I M1 114 97 = nI (0 + 1) := sM1.2.2.2.2.2.2.2.2.1
      have e184 : dp_I M1 184 0 = nI y := r1.2.2.2.2.2.2.2.2.1
      rw [D_X12_readsText_40_eq, b1, if_neg (by decide), if_neg (by decide), if_pos rfl, m_next sM1.1 q3 sM1.2.1, rb_bi, plq, t1, if_pos ((sgM_end sM1.1).mpr z), e97', if_pos (by decide), D_X12_readsText_96_eq, if_pos rfl]
      simp only [dp_w]
      have z0 : Int32.toNatClampNeg (0 : Int32) = 0 := rfl
      rw [D_X12_readsText_40_eq, b1, if_neg (by decide), if_pos rfl, D_X12_readsText_117_eq, b1, if_pos (by decide), if_neg (by decide), z0, e184, n1, rb_bv, n5]
end Ra
