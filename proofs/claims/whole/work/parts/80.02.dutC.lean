-- needs: 71 72 73 74 75 76 77 78 79
/-! DUTY: the class goes through the rows found -/
/-- the rate of a row, as its text says -/
def lOf (M : dp_M) (r : Nat) : List Nd := match rdR (msk (fun i => dp_I M 171 (400 * r + i)) (dp_I M 172 r).toNatClampNeg) (dp_I M 172 r).toNatClampNeg with
  | .inr l => l
  | .inl _ => []
def wcD (M : dp_M) (i r : Nat) : Nat := wch (kf M r) (akB M i) (hsD M i) (wnD M i)
def amD (M : dp_M) (i wc u : Nat) : Int64 := if dp_J M 240 (i * 8 + u) = -1 then -1 else pt (hsD M i) (wnD M i) wc (dp_J M 240 (i * 8 + u))
/-- what a row gives: nothing, wanting, cents -/
def rvD (M : dp_M) (i r : Nat) : Option (Option Int64) := if dp_I M 172 r = 0 ∨ wcD M i r = 3 then none else if lkB (lOf M r) (amD M i (wcD M i r)) = true then some none else some (some ((rval (lOf M r) (pt (hsD M i) (wnD M i) (wcD M i r) (dp_J M 239 i)) (amD M i (wcD M i r)) + 500000) / 1000000))
def DyO (M : dp_M) (i : Nat) : Prop := i < 400 ∧ AkO M i ∧ (0 ≤ (hsD M i).toInt ∧ (hsD M i).toInt ≤ (wnD M i).toInt ∧ (wnD M i).toInt ≤ 1000000) ∧ DUn M i ∧ dp_J M 111 (i * 23 + 6) = dp_J M 239 i ∧ 0 ≤ (dp_J M 239 i).toInt ∧ (dp_J M 239 i).toInt ≤ 100000000
section DuD
variable {xs : Nat → Int32} {xl d : Nat} {M : dp_M} {i : Nat}
theorem lOf_eq {r L : Nat} {l : List Nd} (h1 : dp_I M 172 r = nI L) (hL : L ≤ 400) (h : rdR (msk (fun i => dp_I M 171 (400 * r + i)) L) L = .inr l) : lOf M r = l := by
  unfold lOf
  rw [h1, nI_cl (by omega), h]
theorem am_1 {wc u : Nat} (h : DyO M i) (hu : u < 8) (hw : ¬ wc = 0 → 0 < (wnD M i).toInt) : (amD M i wc u = -1 ↔ dp_J M 111 (i * 23 + (15 + u)) = -1) ∧ (¬ amD M i wc u = -1 → amD M i wc u = pt (hsD M i) (wnD M i) wc (if dp_J M 111 (i * 23 + (15 + u)) < 0 then 0 else dp_J M 111 (i * 23 + (15 + u)))) := by
  obtain ⟨h1, h2, ⟨h3, h4, h5⟩, h6, h7⟩ := h
  obtain ⟨e, u1, u2⟩ := h6 u hu
  have e' : dp_J M 111 (i * 23 + (15 + u)) = dp_J M 240 (i * 8 + u) := e
  have u1' : -1 ≤ (dp_J M 240 (i * 8 + u)).toInt := u1
  have u2' : (dp_J M 240 (i * 8 + u)).toInt ≤ 100000000 := u2
  have m1 : (-1 : Int64).toInt = -1 := by decide
  have z0 : (0 : Int64).toInt = 0 := by decide
  rw [e']
  unfold amD
  by_cases z : dp_J M 240 (i * 8 + u) = -1
  · rw [if_pos z]; exact ⟨⟨fun _ => z, fun _ => rfl⟩, fun q => absurd rfl q⟩
  · rw [if_neg z]
    have p : 0 ≤ (dp_J M 240 (i * 8 + u)).toInt := by
      have : ¬ (dp_J M 240 (i * 8 + u)).toInt = -1 := fun q => z (Int64.toInt_inj.mp (by rw [q, m1]))
      omega
    have b := pt_b (h := hsD M i) (w := wnD M i) (wc := wc) h3 h4 h5 hw p u2'
    refine ⟨⟨fun q => ?_, fun q => absurd q z⟩, fun _ => ?_⟩
    · rw [q, m1] at b; omega
    · rw [if_neg (by rw [Int64.lt_iff_toInt_lt, z0]; omega)]
theorem wc_w {r : Nat} (h : DyO M i) (h3 : ¬ wcD M i r = 3) : ¬ wcD M i r = 0 → 0 < (wnD M i).toInt ∧ akB M i = true := wch_w h.2.2.1.1 h.2.2.1.2.1 (fun q => akB_f q) h3
theorem r33_a {v1 v2 v3 v6 v8 : Int32} {v4 : Int64} {N : dp_M} : D_X0_reckon_33_a xs xl d v1 v2 v3 v4 v6 v8 N = D_X0_reckon_33 xs xl d v1 v2 v3 v4 v6 N := by
  rw [D_X0_reckon_33_a_eq, D_X0_reckon_33_eq]
  simp only [D_X0_reckon_91_b_eq, D_X0_reckon_91_c_eq, D_X0_reckon_91_eq, D_X0_reckon_91_a_eq]
theorem r33_b {v1 v2 v3 v6 v8 : Int32} {v4 : Int64} {p7 : Nat} {N : dp_M} : D_X0_reckon_33_b xs xl d v1 v2 v3 v4 v6 p7 v8 N = D_X0_reckon_33 xs xl d v1 v2 v3 v4 v6 N := by
  rw [D_X0_reckon_33_b_eq, D_X0_reckon_33_eq]
  simp only [D_X0_reckon_91_b_eq, D_X0_reckon_91_c_eq, D_X0_reckon_91_eq, D_X0_reckon_91_a_eq]
theorem rb_on {A : Option dp_Res} {B : Nat → Option dp_Res} : dp_o none A B = A := rfl
theorem dfn_n {rv : Nat → Option (Option Int64)} {j k : Nat} {s : Int64} (h : rv j = none) : dfn rv j (k + 1) s = dfn rv (j + 1) k s := by rw [dfn, h]
theorem dfn_w {rv : Nat → Option (Option Int64)} {j k : Nat} {s : Int64} (h : rv j = some none) : dfn rv j (k + 1) s = -1 := by rw [dfn, h]
theorem dfn_c {rv : Nat → Option (Option Int64)} {j k : Nat} {s c : Int64} (h : rv j = some (some c)) : dfn rv j (k + 1) s = dfn rv (j + 1) k (s + c) := by rw [dfn, h]
def Dr_S : List Nat := [51, 58, 66, 67, 112, 113]
theorem c_rloop {n : Nat} {on : Int32} {fd : Nat → Nat} (hD : DyO M i) (hr : ∀ r, r < 301 → RtR M r) (hn : n ≤ 300) (hT : ∀ j, j < n → fd j < 301 ∧ TRw M (fd j)) : ∀ k j s N, j + k = n → Off Dr_S [] M N → (∀ x, x < n → dp_I N 58 x = nI (fd x)) → ∃ N', D_X0_reckon_33 xs xl (d + 6) (nI i) on (nI n) s (nI j) N = lR (dfn (fun x => rvD M i (fd x)) j k s) N' ∧ Off [112, 113] [] N N' ∧ Cst 0 0 N N' ∧ dp_I N' = dp_I N := by
  intro k
  induction k with
  | zero =>
    intro j s N e o hf
    refine ⟨N, ?_, Off.rr _ _ _, Cst.r _, rfl⟩
    rw [D_X0_reckon_33_eq, if_pos (nI_lle (by omega) (by omega))]
    unfold dfn
    by_cases z : s ≤ 1000000000
    · rw [if_pos ((lg_cmp_le _ _).mpr z), if_pos z]
    · rw [if_neg (fun w => z ((lg_cmp_le _ _).mp w)), if_neg z]
  | succ k ih =>
    intro j s N e o hf
    have jn : j < n := by omega
    obtain ⟨r3, hTr⟩ := hT j jn
    obtain ⟨-, kd, k8⟩ := TRw_kf hTr
    have i4 := hD.1
    have ob := ak_off (i := i) o (by decide)
    have e53 : dp_I N 53 = dp_I M 53 := (o.1 53 (by decide) (by decide) (by decide)).1
    have e59 : dp_R N 59 = dp_R M 59 := (o.1 59 (by decide) (by decide) (by decide)).2.2
    have e111 : dp_J N 111 = dp_J M 111 := (o.1 111 (by decide) (by decide) (by decide)).2.1
    have kd' : dp_I N 53 (fd j) = nI (kf M (fd j)) := by rw [e53]; exact kd
    have st : D_X0_reckon_33 xs xl (d + 6) (nI i) on (nI n) s (nI j) N = dp_o (dp_R M 59 (fd j)) (D_X0_reckon_33 xs xl (d + 6) (nI i) on (nI n) s (nI (j + 1)) N) (fun q1 => D_X0_reckon_91_a xs xl (d + 6) (nI i) on (nI n) s (nI j) q1 (bs (wcD M i (fd j))) N) := by
      have no : ¬ (nI j < 0 ∨ 300 ≤ j) := by rw [nI_o (show j < 300 by omega) (by omega)]; exact id
      have nr : ¬ (nI (fd j) < 0 ∨ 301 ≤ fd j) := by rw [nI_o r3 (by omega)]; exact id
      have cb := c_base (xs := xs) (xl := xl) (d := d + 5) (M := N) (i := i) (k := kf M (fd j)) i4 k8 (ob.2.2.2 hD.2.1)
      rw [ob.1, ob.2.1, ob.2.2.1] at cb
      rw [D_X0_reckon_33_eq, if_neg (nI_nge jn (by omega)), nI_cl (by omega), if_neg no, hf j jn, nI_cl (by omega), if_neg nr, e59, D_X0_reckon_91_eq, dpw, nI_1, r33_a]
      simp only [if_neg no, if_neg nr, kd', cb, rb_bi]
      rfl
    rcases hr (fd j) r3 with ⟨h59, h172⟩ | ⟨q, l, L, h59, hR, h172, L1, L4, -, hrd⟩
    · have rv0 : rvD M i (fd j) = none := by unfold rvD; rw [if_pos (Or.inl h172)]
      obtain ⟨N', c1, c2⟩ := ih (j + 1) s N (by omega) o hf
      exact ⟨N', by rw [st, h59, rb_on, c1, dfn_n (rv := fun x => rvD M i (fd x)) (j := j) rv0], c2⟩
    have hRN : RtO N q l := hR.off o
    have lo := lOf_eq h172 L4 hrd
    have hk := rdR_ok hrd
    have n172 : ¬ dp_I M 172 (fd j) = 0 := by rw [h172]; exact nI_n0' (by omega) (by omega)
    by_cases z3 : wcD M i (fd j) = 3
    · have rv0 : rvD M i (fd j) = none := by unfold rvD; rw [if_pos (Or.inr z3)]
      obtain ⟨N', c1, c2⟩ := ih (j + 1) s N (by omega) o hf
      refine ⟨N', ?_, c2⟩
      rw [st, h59, rb_o, D_X0_reckon_91_a_eq, z3, if_pos (show bs 3 = 0 from rfl), dpw, nI_1, r33_b, c1, dfn_n (rv := fun x => rvD M i (fd x)) (j := j) rv0]
    have w4 : wcD M i (fd j) < 4 := wch_lt _ _ _ _
    have ww := wc_w hD z3
    obtain ⟨wc, hwc⟩ : ∃ wc, wc = wcD M i (fd j) := ⟨_, rfl⟩
    have b1 : bs wc = nI (wc + 1) := by unfold bs; rw [if_neg (by rw [hwc]; exact z3)]
    have am1 := fun u hu => am_1 (wc := wc) (u := u) hD hu (fun q => (ww (by rw [← hwc]; exact q)).1)
    have lk := lkB_u (l := l) (am := amD M i wc) (tbl := fun u => dp_J M 111 (i * 23 + (15 + u))) hk (fun u hu => (am1 u hu).1)
    obtain ⟨ly, ln⟩ := c_lks (xs := xs) (xl := xl) (d := d + 4) (i := i) hRN i4
    rw [e111] at ly ln
    rw [st, h59, rb_o, ← hwc, D_X0_reckon_91_a_eq, b1, if_neg (nI_n0' (by omega) (by omega))]
    by_cases zl : lkB l (amD M i wc) = true
    · have rv1 : rvD M i (fd j) = some none := by unfold rvD; rw [if_neg (fun q => q.elim n172 z3), lo, ← hwc, if_pos zl]
      exact ⟨N, by rw [ly (lk.mp zl), rb_bi, if_neg (by decide), dfn_w (rv := fun x => rvD M i (fd x)) (j := j) rv1], Off.rr _ _ _, Cst.r _, rfl⟩
    · have nl := ln (fun u hu h1 h2 => zl (lk.mpr ⟨u, hu, h1, h2⟩))
      obtain ⟨N1, am, c1, c2, c3, c4, c5⟩ := c_cents (xs := xs) (xl := xl) (d := d) (i := i) (wc := wc) hRN hk i4 (ob.2.2.2 hD.2.1) (by omega) (by rw [ob.2.2.1, ob.1]; exact fun q => ww (by rw [← hwc]; exact q))
      rw [ob.2.1, ob.2.2.1, e111] at c1 c5
      have ev : rval l (pt (hsD M i) (wnD M i) wc (dp_J M 111 (i * 23 + 6))) am = rval l (pt (hsD M i) (wnD M i) wc (dp_J M 239 i)) (amD M i wc) := by
        rw [hD.2.2.2.2.1]
        refine rval_am (fun x hx x2 => ?_)
        have mem : l.getD x v0 ∈ l := by rw [gE hx]; exact List.getElem_mem hx
        obtain ⟨u, u8, hu⟩ : ∃ u, u < 8 ∧ (l.getD x v0).2.2.1 = nI u := by
          rcases hk _ mem with k0 | k1 | ⟨-, hu⟩ | kb | ⟨k7, -⟩
          · rw [k0] at x2; exact absurd x2 (by decide)
          · rw [k1] at x2; exact absurd x2 (by decide)
          · exact hu
          · rw [x2] at kb; exact absurd kb (by decide)
          · rw [k7] at x2; exact absurd x2 (by decide)
        rw [hu, nI_cl (by omega), c5 u u8]
        refine ((am1 u u8).2 (fun q => zl (lkB_t.mpr ⟨x, hx, x2, ?_⟩))).symm
        rw [hu, nI_cl (by omega)]; exact q
      have rv2 : rvD M i (fd j) = some (some ((rval l (pt (hsD M i) (wnD M i) wc (dp_J M 239 i)) (amD M i wc) + 500000) / 1000000)) := by unfold rvD; rw [if_neg (fun q => q.elim n172 z3), lo, ← hwc, if_neg zl]
      obtain ⟨N', d1, d2, d3, d4⟩ := ih (j + 1) (s + (rval l (pt (hsD M i) (wnD M i) wc (dp_J M 239 i)) (amD M i wc) + 500000) / 1000000) N1 (by omega) (o.tr (c2.mono (by decide) (by decide))) (by rw [c4]; exact hf)
      refine ⟨N', ?_, c2.tr d2, ⟨by have := c3.1; have := d3.1; omega, by have := c3.2; have := d3.2; omega⟩, by rw [d4, c4]⟩
      rw [nl, rb_bi, if_pos rfl, c1, rb_bl, dpw, dpw, nI_1, r33_b, ev, d1, dfn_c (rv := fun x => rvD M i (fd x)) (j := j) rv2]
end DuD
