-- needs: 71 72 73 74 75 76 77 78 79
/-! DUTY: the value of a rate does not run over -/
section DuF
variable {l : List Nd} {pr : Int64} {am : Nat → Int64}
theorem vrow_at {w0 : Nat → Int64} (hs : Shp l) (hl : l.length ≤ 60) : ∀ n, n ≤ l.length → ∀ i, l.length - n ≤ i → i < l.length → vrow l pr am w0 n i = nvl l pr am (vrow l pr am w0 n) i
  | 0, _, i, h1, h2 => by omega
  | n + 1, hn, i, h1, h2 => by
    have ih := vrow_at (w0 := w0) hs hl n (by omega)
    have ag : nvl l pr am (vrow l pr am w0 n) i = nvl l pr am (vrow l pr am w0 (n + 1)) i := nvl_c hs h2 hl (fun x x1 x2 => by
      show _ = uI _ _ _ x
      rw [uI_n (by omega)])
    rw [← ag]
    show uI (vrow l pr am w0 n) (l.length - 1 - n) (nvl l pr am (vrow l pr am w0 n) (l.length - 1 - n)) i = _
    by_cases z : i = l.length - 1 - n
    · rw [z, uI_s]
    · rw [uI_n z]; exact ih i (by omega) h2
theorem nJ64 {x : Nat} (h : x < 2147483648) : (nI x).toInt64.toInt = x := by rw [Int32.toInt_toInt64, nI_toInt h]
theorem stF_b {a : List (Nat × Nat)} {x : Int64} (ha : ∀ y, y ∈ a → y.1 < 1000000 ∧ y.2 < 1000000) : ∀ k, k ≤ a.length → 0 ≤ (stF (rws a) x k).toInt ∧ (stF (rws a) x k).toInt ≤ 1000000
  | 0, _ => by show 0 ≤ (0 : Int64).toInt ∧ (0 : Int64).toInt ≤ 1000000; decide
  | k + 1, h => by
    have ih : 0 ≤ (stF (rws a) x k).toInt ∧ (stF (rws a) x k).toInt ≤ 1000000 := stF_b ha k (by omega)
    obtain ⟨e, m⟩ := rws_at (a := a) (k := k) (by omega)
    have b := (ha _ m).2
    show 0 ≤ (if x < ((rws a).getD k (0, 0)).1.toInt64 then stF (rws a) x k else ((rws a).getD k (0, 0)).2.toInt64).toInt ∧ (if x < ((rws a).getD k (0, 0)).1.toInt64 then stF (rws a) x k else ((rws a).getD k (0, 0)).2.toInt64).toInt ≤ 1000000
    split
    · exact ih
    · rw [e, nJ64 (by omega)]; omega
theorem stc_b {v : Nd} (h1 : 1 ≤ v.2.2.2.length) {a : List (Nat × Nat)} (e : v.2.2.2 = rws a) (ha : ∀ y, y ∈ a → y.1 < 1000000 ∧ y.2 < 1000000) : 0 ≤ (stc v pr).toInt ∧ (stc v pr).toInt ≤ 1000000 := by
  have ln : (rws a).length = a.length := by unfold rws; rw [List.length_map]
  rw [e, ln] at h1
  unfold stc
  rw [e, ln]
  split
  · exact stF_b ha _ (Nat.le_refl _)
  · obtain ⟨e2, m⟩ := rws_at (a := a) (k := a.length - 1) (by omega)
    have b := (ha _ m).2
    rw [e2, nJ64 (by omega)]; omega
theorem lf_b {w : Nat → Int64} {j : Nat} (hb : isBn (l.getD j v0) = false) (hk : ndk (l.getD j v0)) (hn : nmk (l.getD j v0)) (p0 : 0 ≤ pr.toInt) (p1 : pr.toInt ≤ 100000000) (ha : (l.getD j v0).1 = 2 → 0 ≤ (am (l.getD j v0).2.2.1.toNatClampNeg).toInt ∧ (am (l.getD j v0).2.2.1.toNatClampNeg).toInt ≤ 100000000) : 0 ≤ (nvl l pr am w j).toInt ∧ (nvl l pr am w j).toInt ≤ 100000000000000000 := by
  have z0 : (0 : Int64).toInt = 0 := by decide
  have t0 : (10 : Int64).toInt = 10 := by decide
  have m0 : (1000000 : Int64).toInt = 1000000 := by decide
  unfold nvl
  rw [if_neg (by rw [hb]; decide)]
  split
  · rename_i k1
    obtain ⟨x, x8, hx⟩ := hn.1 (Or.inl k1)
    have ex : ((l.getD j v0).2.1.toInt64).toInt = x := by rw [hx, nJ64 (by omega)]
    have m1 : 0 ≤ pr.toInt * (x : Int) := Int.mul_nonneg p0 (by omega)
    have m2 : pr.toInt * (x : Int) ≤ 100000000 * 100000000 := Int.mul_le_mul p1 (by omega) (by omega) (by omega)
    have e1 : (pr * (l.getD j v0).2.1.toInt64).toInt = pr.toInt * x := by rw [q_mulJ (by rw [ex]; omega) (by rw [ex]; omega), ex]
    rw [q_mulJ (by rw [e1, t0]; omega) (by rw [e1, t0]; omega), e1, t0]
    omega
  · split
    · rename_i k2
      obtain ⟨x, x8, hx⟩ := hn.1 (Or.inr k2)
      have ex : ((l.getD j v0).2.1.toInt64).toInt = x := by rw [hx, nJ64 (by omega)]
      obtain ⟨a0, a1⟩ := ha k2
      generalize am (l.getD j v0).2.2.1.toNatClampNeg = A at *
      have m1 : 0 ≤ A.toInt * (x : Int) := Int.mul_nonneg a0 (by omega)
      have m2 : A.toInt * (x : Int) ≤ 100000000 * 100000000 := Int.mul_le_mul a1 (by omega) (by omega) (by omega)
      rw [q_mulJ (by rw [ex]; omega) (by rw [ex]; omega), ex]
      omega
    · split
      · rename_i k7
        obtain ⟨-, a, e, hab⟩ := hn.2 k7
        have h1 : 1 ≤ (l.getD j v0).2.2.2.length := by
          rcases hk with k0 | k1 | ⟨k2, -⟩ | kb | ⟨-, n1, -⟩
          · rw [k0] at k7; exact absurd k7 (by decide)
          · rw [k1] at k7; exact absurd k7 (by decide)
          · rw [k2] at k7; exact absurd k7 (by decide)
          · rw [k7] at kb; exact absurd kb (by decide)
          · exact n1
        have b := stc_b (pr := pr) h1 e hab
        rw [q_mulJ (by rw [m0]; omega) (by rw [m0]; omega), m0]
        omega
      · rw [z0]; omega
theorem val_b {w : Nat → Int64} (hw : ∀ j, j < l.length → w j = nvl l pr am w j) (hl : l.length ≤ 60) (hk : ndl l) (hn : nml l) (p0 : 0 ≤ pr.toInt) (p1 : pr.toInt ≤ 100000000) (ha : ∀ j, j < l.length → (l.getD j v0).1 = 2 → 0 ≤ (am (l.getD j v0).2.2.1.toNatClampNeg).toInt ∧ (am (l.getD j v0).2.2.1.toNatClampNeg).toInt ≤ 100000000) :
    ∀ n la s, Pr n la s → n ≤ 100 → ∀ j r, l.drop j = la ++ r → -(100000000000000000 * (la.length : Int)) ≤ (w j).toInt ∧ (w j).toInt ≤ 100000000000000000 * (la.length : Int) := by
  intro n
  induction n with
  | zero => intro la s h; exact absurd h (by rw [Pr]; exact id)
  | succ n ih =>
    intro la s h hn' j r hd
    have hp := h.pos
    have hjl : j + (la.length + r.length) = l.length := by
      have := congrArg List.length hd
      rw [List.length_drop, List.length_append] at this
      omega
    have hj : j < l.length := by omega
    have mem : l.getD j v0 ∈ l := by rw [gE hj]; exact List.getElem_mem hj
    have ev' : l.getD j v0 = (la ++ r).getD 0 v0 := by
      rw [← hd]
      simp [List.getD_eq_getElem?_getD, List.getElem?_drop]
    rw [hw j hj]
    rcases h with ⟨v, h1, e, h2⟩ | ⟨v, l1, l2, s1, s2, h1, h2, h3, e, h4⟩
    · have ev : l.getD j v0 = v := by rw [e] at ev'; exact ev'
      have b := lf_b (w := w) (by rw [ev]; exact h1) (hk _ mem) (hn _ mem) p0 p1 (ha j hj)
      rw [e, List.length_singleton]
      omega
    · have ev : l.getD j v0 = v := by rw [e] at ev'; exact ev'
      have q1 := h2.pos
      have q2 := h3.pos
      have ll : la.length = l1.length + l2.length + 1 := by rw [e, List.length_cons, List.length_append]
      have dr : l.drop (j + 1) = l1 ++ (l2 ++ r) := by
        have : l.drop (j + 1) = (l.drop j).drop 1 := by rw [List.drop_drop]
        rw [this, hd, e, List.cons_append, List.append_assoc]
        rfl
      have tl : ts 100 (l.drop (j + 1)) = l1.length := by rw [dr]; exact h2.tsl 100 _ (by omega)
      have hb : isBn (l.getD j v0) = true := by rw [ev]; exact h1
      have fm : (fR l j).toNatClampNeg = j + 1 + l1.length := by unfold fR; rw [if_pos hb, tl, nI_cl (by omega)]
      have fl : (fL l j).toNatClampNeg = j + 1 := by unfold fL; rw [if_pos hb, nI_cl (by omega)]
      have dm : l.drop (j + 1 + l1.length) = l2 ++ r := by
        have : l.drop (j + 1 + l1.length) = (l.drop (j + 1)).drop l1.length := by rw [List.drop_drop]
        rw [this, dr, List.drop_left]
      have b1 := ih l1 s1 h2 (by omega) (j + 1) (l2 ++ r) dr
      have b2 := ih l2 s2 h3 (by omega) (j + 1 + l1.length) r dm
      unfold nvl
      rw [if_pos hb, fm, fl, ll]
      generalize w (j + 1) = x at *
      generalize w (j + 1 + l1.length) = y at *
      split
      · rw [q_addJ (by omega) (by omega)]; omega
      · split
        · rw [q_subJ (by omega) (by omega)]; omega
        · split
          · split <;> omega
          · split <;> omega
theorem rval_b {n : Nat} {s : List Int32} (hs : Shp l) (hp : Pr n l s) (hl : l.length ≤ 60) (hk : ndl l) (hn : nml l) (p0 : 0 ≤ pr.toInt) (p1 : pr.toInt ≤ 100000000) (ha : ∀ j, j < l.length → (l.getD j v0).1 = 2 → 0 ≤ (am (l.getD j v0).2.2.1.toNatClampNeg).toInt ∧ (am (l.getD j v0).2.2.1.toNatClampNeg).toInt ≤ 100000000) : 0 ≤ (rval l pr am).toInt ∧ (rval l pr am).toInt ≤ 6000000000000000000 := by
  have b := val_b (w := vrow l pr am (fun _ => 0) l.length) (fun j hj => vrow_at hs hl l.length (Nat.le_refl _) j (by omega) hj) hl hk hn p0 p1 ha l.length l s hp.len (by omega) 0 [] (by rw [List.drop_zero, List.append_nil])
  have z0 : (0 : Int64).toInt = 0 := by decide
  unfold rval
  split
  · rw [z0]; omega
  · rename_i q
    rw [Int64.lt_iff_toInt_lt, z0] at q
    omega
theorem cents_b {v : Int64} (h0 : 0 ≤ v.toInt) (h1 : v.toInt ≤ 6000000000000000000) : 0 ≤ ((v + 500000) / 1000000).toInt ∧ ((v + 500000) / 1000000).toInt ≤ 10000000000000 := by
  have a : (500000 : Int64).toInt = 500000 := by decide
  have b : (1000000 : Int64).toInt = 1000000 := by decide
  have e : (v + 500000).toInt = v.toInt + 500000 := by rw [q_addJ (by rw [a]; omega) (by rw [a]; omega), a]
  rw [q_divJ (by rw [e]; omega) (by rw [b]; omega), e, b]
  omega
theorem dfn_b {rv : Nat → Option (Option Int64)} : ∀ k j s, (∀ x c, j ≤ x → x < j + k → rv x = some (some c) → 0 ≤ c.toInt ∧ c.toInt ≤ 10000000000000) → j + k ≤ 300 → 0 ≤ s.toInt → s.toInt ≤ 10000000000000 * (j : Int) → dfn rv j k s = -1 ∨ (0 ≤ (dfn rv j k s).toInt ∧ (dfn rv j k s).toInt ≤ 1000000000)
  | 0, j, s, _, _, h0, _ => by
    have b : (1000000000 : Int64).toInt = 1000000000 := by decide
    unfold dfn
    split
    · rename_i q
      rw [Int64.le_iff_toInt_le, b] at q
      exact Or.inr ⟨h0, q⟩
    · exact Or.inl rfl
  | k + 1, j, s, h, hj, h0, h1 => by
    cases e : rv j with
    | none =>
      rw [dfn_n e]
      exact dfn_b k (j + 1) s (fun x c a b => h x c (by omega) (by omega)) (by omega) h0 (by omega)
    | some o =>
      cases o with
      | none => rw [dfn_w e]; exact Or.inl rfl
      | some c =>
        rw [dfn_c e]
        have b := h j c (Nat.le_refl _) (by omega) e
        have es : (s + c).toInt = s.toInt + c.toInt := q_addJ (by omega) (by omega)
        exact dfn_b k (j + 1) (s + c) (fun x c a b => h x c (by omega) (by omega)) (by omega) (by rw [es]; omega) (by rw [es]; omega)
end DuF
section DuG
variable {M : dp_M} {i : Nat}
theorem rvD_b {r : Nat} {c : Int64} (hD : DyO M i) (hr : RtR M r) (h : rvD M i r = some (some c)) : 0 ≤ c.toInt ∧ c.toInt ≤ 10000000000000 := by
  unfold rvD at h
  split at h
  · cases h
  · rename_i n1
    split at h
    · cases h
    · rename_i zl
      injection h with h; injection h with h
      rcases hr with ⟨-, h172⟩ | ⟨q, l, L, -, hR, h172, L1, L4, h171, hrd⟩
      · exact absurd (Or.inl h172) n1
      · have z3 : ¬ wcD M i r = 3 := fun q => n1 (Or.inr q)
        have lo := lOf_eq h172 L4 hrd
        rw [lo] at h zl
        have hk := rdR_ok hrd
        have ww := wc_w hD z3
        obtain ⟨n, s, hp, -⟩ := rdR_pr L4 hrd
        have pb := pt_b (h := hsD M i) (w := wnD M i) (wc := wcD M i r) hD.2.2.1.1 hD.2.2.1.2.1 hD.2.2.1.2.2 (fun q => (ww q).1) hD.2.2.2.2.2.1 hD.2.2.2.2.2.2
        have b := rval_b (pr := pt (hsD M i) (wnD M i) (wcD M i r) (dp_J M 239 i)) (am := amD M i (wcD M i r)) hR.shp hp hR.2.2.2.2.2.2.1 hk (rdR_nm hrd) pb.1 (by have := hD.2.2.2.2.2.2; omega) (fun x hx x2 => by
          have mem : l.getD x v0 ∈ l := by rw [gE hx]; exact List.getElem_mem hx
          obtain ⟨u, u8, hu⟩ : ∃ u, u < 8 ∧ (l.getD x v0).2.2.1.toNatClampNeg = u := by
            rcases hk _ mem with k0 | k1 | ⟨-, u, u8, hu⟩ | kb | ⟨k7, -⟩
            · rw [k0] at x2; exact absurd x2 (by decide)
            · rw [k1] at x2; exact absurd x2 (by decide)
            · exact ⟨u, u8, by rw [hu, nI_cl (by omega)]⟩
            · rw [x2] at kb; exact absurd kb (by decide)
            · rw [k7] at x2; exact absurd x2 (by decide)
          have na : ¬ amD M i (wcD M i r) u = -1 := fun q => zl (lkB_t.mpr ⟨x, hx, x2, by rw [hu]; exact q⟩)
          rw [hu]
          have nz : ¬ dp_J M 240 (i * 8 + u) = -1 := fun q => na (by unfold amD; rw [if_pos q])
          obtain ⟨-, u1, u2⟩ := hD.2.2.2.1 u u8
          have u1' : -1 ≤ (dp_J M 240 (i * 8 + u)).toInt := u1
          have u2' : (dp_J M 240 (i * 8 + u)).toInt ≤ 100000000 := u2
          have m1 : (-1 : Int64).toInt = -1 := by decide
          have p : 0 ≤ (dp_J M 240 (i * 8 + u)).toInt := by
            have : ¬ (dp_J M 240 (i * 8 + u)).toInt = -1 := fun q => nz (Int64.toInt_inj.mp (by rw [q, m1]))
            omega
          have b := pt_b (h := hsD M i) (w := wnD M i) (wc := wcD M i r) hD.2.2.1.1 hD.2.2.1.2.1 hD.2.2.1.2.2 (fun q => (ww q).1) p u2'
          unfold amD
          rw [if_neg nz]
          omega)
        rw [← h]
        exact cents_b b.1 b.2
end DuG
