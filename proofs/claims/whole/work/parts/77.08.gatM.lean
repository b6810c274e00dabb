-- needs: 75 76
/-! GATE: the bars of a group, one by one -/
theorem nI_mns {a b : Nat} (h : b ≤ a) : nI a - nI b = nI (a - b) := by
  obtain ⟨k, rfl⟩ : ∃ k, a = k + b := ⟨a - b, by omega⟩
  rw [Nat.add_sub_cancel, ← nI_add]
  exact Int32.add_sub_cancel _ _
theorem nI_nn {a : Nat} (h : a < 2147483648) : ¬ nI a < 0 := fun q => by
  have := nI_o (n := a + 1) (Nat.lt_succ_self a) h
  rw [← this]; exact Or.inl q
section GI
variable {xs : Nat → Int32} {xl d : Nat} {M : dp_M}
theorem nbF_le (M : dp_M) (K D x : Nat) : nbF M K D x ≤ 45 := ct_le _ _
/-- class, found -/
theorem gc_gbar {n K D j x b k : Nat} (h : GGk M n K D) (p2 : dp_I M 1 2 = nI n) (hn : n ≤ 100) (hj : j < 2147483648) (hx : x < n) (hb : b < n) (hg : grf (dp_I M 43) x b = true) (h1 : ttb (grf (dp_I M 43) x) (nbF M K D) b ≤ j) (hk : k < 45) (hk1 : sp M K D b k = true) (hk2 : ct (sp M K D b) k = j - ttb (grf (dp_I M 43) x) (nbF M K D) b) : dp_den true xs xl (d + 5) 41 [.ref 37, .int (nI x), .int (nI j)] M = iR (sw M K D b k) M := by
  rw [D_X1_barOfGroup_0_den, D_X1_barOfGroup_0_eq]
  simp only [dp_w]
  obtain ⟨T, hT⟩ : ∃ T, T = ttb (grf (dp_I M 43) x) (nbF M K D) := ⟨_, rfl⟩
  rw [← hT] at h1 hk2
  have hlt : ct (sp M K D b) k + 1 ≤ nbF M K D b := by
    have := ctm (p := sp M K D b) 45 (show k + 1 ≤ 45 by omega)
    rw [ct, if_pos hk1] at this
    exact this
  have key := lpb (F := fun (a : Nat) i => D_X1_barOfGroup_5 xs xl (d + 4) (nI x) (nI j) (nI a) (nI i) M) (s := fun i => j - T i) (N := b) (r := (.inl (some (.int (sw M K D b k))), M)) ?_ (fun i hi hr => ?_)
  · have T0 : T 0 = 0 := by rw [hT, ttb]
    (try dsimp only at key)
    rw [T0, Nat.sub_zero] at key; exact key
  · (try dsimp only)
    rw [D_X1_barOfGroup_5_eq, p2, if_neg (nI_nge hb (by omega)), if_neg (nI_nn (by omega))]
    simp only [nI_cl (show b < 2147483648 by omega), nI_o (show b < 100 by omega) (by omega), nI_cl (show x < 2147483648 by omega), nI_o (show x < 100 by omega) (by omega), if_false]
    have := nbF_le M K D b
    rw [if_pos (grf_t.mp hg), gc_barsOf h (by omega), rb_bi, if_neg (nI_nge (by omega) (by omega)), gc_barOf h (by omega) (by omega) hk hk1 hk2, rb_bi]
  · (try dsimp only at hr); (try dsimp only)
    have hm := ttb_m (G := grf (dp_I M 43) x) (nb := nbF M K D) (a := i + 1) b hi
    have hs : T (i + 1) = T i + (if grf (dp_I M 43) x i = true then nbF M K D i else 0) := by rw [hT, ttb]
    rw [← hT] at hm
    rw [D_X1_barOfGroup_5_eq, p2, if_neg (nI_nge (by omega) (by omega)), if_neg (nI_nn (by omega))]
    simp only [nI_cl (show i < 2147483648 by omega), nI_o (show i < 100 by omega) (by omega), nI_cl (show x < 2147483648 by omega), nI_o (show x < 100 by omega) (by omega), if_false, dp_w, nI_1]
    by_cases z : dp_I M 43 i = dp_I M 43 x
    · rw [if_pos (grf_t.mpr z)] at hs
      rw [if_pos z, gc_barsOf h (by omega), rb_bi, if_pos (nI_lle (by omega) (by omega)), nI_mns (by omega)]
      apply D_X1_barOfGroup_5_to_5_a
      rw [show j - T i - nbF M K D i = j - T (i + 1) by omega]
      exact hr
    · rw [if_neg (fun q => z (grf_t.mp q))] at hs
      rw [if_neg z, show j - T i = j - T (i + 1) by omega]
      exact hr
/-- class, none -/
theorem gc_gnone {n K D j x : Nat} (h : GGk M n K D) (p2 : dp_I M 1 2 = nI n) (hn : n ≤ 100) (hj : j < 2147483648) (hx : x < n) (h1 : ttb (grf (dp_I M 43) x) (nbF M K D) n ≤ j) : dp_den true xs xl (d + 5) 41 [.ref 37, .int (nI x), .int (nI j)] M = iR (-1) M := by
  rw [D_X1_barOfGroup_0_den, D_X1_barOfGroup_0_eq]
  simp only [dp_w]
  obtain ⟨T, hT⟩ : ∃ T, T = ttb (grf (dp_I M 43) x) (nbF M K D) := ⟨_, rfl⟩
  rw [← hT] at h1
  have key := lpb (F := fun (a : Nat) i => D_X1_barOfGroup_5 xs xl (d + 4) (nI x) (nI j) (nI a) (nI i) M) (s := fun i => j - T i) (N := n) (r := (.inl (some (.int (-1))), M)) ?_ (fun i hi hr => ?_)
  · have T0 : T 0 = 0 := by rw [hT, ttb]
    (try dsimp only at key)
    rw [T0, Nat.sub_zero] at key; exact key
  · (try dsimp only)
    rw [D_X1_barOfGroup_5_eq, p2, if_pos (nI_lle (Nat.le_refl _) (by omega))]
  · (try dsimp only at hr); (try dsimp only)
    have hm := ttb_m (G := grf (dp_I M 43) x) (nb := nbF M K D) (a := i + 1) n hi
    have hs : T (i + 1) = T i + (if grf (dp_I M 43) x i = true then nbF M K D i else 0) := by rw [hT, ttb]
    rw [← hT] at hm
    have := nbF_le M K D i
    rw [D_X1_barOfGroup_5_eq, p2, if_neg (nI_nge (by omega) (by omega)), if_neg (nI_nn (by omega))]
    simp only [nI_cl (show i < 2147483648 by omega), nI_o (show i < 100 by omega) (by omega), nI_cl (show x < 2147483648 by omega), nI_o (show x < 100 by omega) (by omega), if_false, dp_w, nI_1]
    by_cases z : dp_I M 43 i = dp_I M 43 x
    · rw [if_pos (grf_t.mpr z)] at hs
      rw [if_pos z, gc_barsOf h (by omega), rb_bi, if_pos (nI_lle (by omega) (by omega)), nI_mns (by omega)]
      apply D_X1_barOfGroup_5_to_5_a
      rw [show j - T i - nbF M K D i = j - T (i + 1) by omega]
      exact hr
    · rw [if_neg (fun q => z (grf_t.mp q))] at hs
      rw [if_neg z, show j - T i = j - T (i + 1) by omega]
      exact hr
/-- the model's memory N against the class's rows in M -/
def GMk (N M : dp_M) (n K D : Nat) : Prop := (n ≤ 100 ∧ K ≤ 300 ∧ D ≤ 400) ∧ dp_I N 114 3 = nI n ∧ dp_I N 114 44 = nI K ∧ dp_I N 114 160 = nI D ∧ (∀ i, i < n → dp_I N 146 i = dp_I M 43 i) ∧ dp_I N 149 = dp_I M 48 ∧
  (dp_I N 151 = dp_I M 38 ∧ dp_I N 152 = dp_I M 39 ∧ dp_I N 137 = dp_I M 5) ∧ dp_I N 147 = dp_I M 147 ∧ dp_I N 233 = dp_I M 233 ∧ dp_I N 241 = dp_I M 241
theorem ownF_p (M : dp_M) (K D x : Nat) : (0 < ownF M K D x ↔ ¬ ownF M K D x = 0) ∧ (ownF M K D x ≤ 0 ↔ ownF M K D x = 0) := by
  unfold ownF obv
  split
  · decide
  split <;> decide
theorem vdF_p (M : dp_M) (K x s : Nat) : vdF M K x s ≤ 0 ↔ vdF M K x s = 0 := by
  unfold vdF vdv
  split
  · split <;> decide
  split
  · split <;> decide
  split
  · split <;> decide
  split <;> decide
/-- a slot of the model -/
theorem gm_slot {N : dp_M} {n K D e b k : Nat} {g w : Int32} (h : GMk N M n K D) (he : e < 2147483648) (hb : b < n) (hk : k < 45) (hg : dp_I M 43 b = g) {r : dp_Res} (h1 : sp M K D b k = true → e = 0 → r = (.inl (some (.int (sw M K D b k))), N))
    (h2 : ¬ (sp M K D b k = true ∧ e = 0) → D_X12_barAt_17 xs xl (d + 4) g w (nI (e - if sp M K D b k = true then 1 else 0)) (nI b) (nI (k + 1)) N = some r) : D_X12_barAt_17 xs xl (d + 4) g w (nI e) (nI b) (nI k) N = some r := by
  obtain ⟨⟨hn, hK, hD⟩, e1, e2, e3, e4, e5, ⟨e6, e7, e8⟩, e9, e10, e11⟩ := h
  have own : dp_den true xs xl (d + 4) 427 [.ref 114, .int (nI b)] N = iR (ownF M K D b) N := by
    rw [gm_own hK hD e2 e3, e9, e10, e11]; rfl
  have vd : ∀ s, s < 4 → dp_den true xs xl (d + 4) 432 [.ref 114, .int (nI s), .int (nI b)] N = iR (vdF M K b s) N := fun s hs => by
    rw [gm_vd hK e2 hs (by omega), e6, e7, e8, e9]; rfl
  -- what follows a slot, known to bar or not
  have t0 : ∀ v6 v7 v8, sp M K D b k = false → D_X12_barAt_150 xs xl (d + 4) g w (nI e) (nI b) (nI k) v6 v7 v8 0 N = some r := fun v6 v7 v8 q => by
    have h2' := h2 (fun z => by rw [q] at z; cases z.1)
    rw [q, if_neg (by decide), Nat.sub_zero] at h2'
    rw [D_X12_barAt_150_eq, if_pos rfl, if_pos rfl]
    simp only [dp_w, Int32.sub_zero, nI_1]
    exact D_X12_barAt_17_to_17_a _ _ _ _ _ _ _ _ _ h2'
  have t1 : ∀ v6 v7 v8, sp M K D b k = true → (if k = 0 then v8 else 100 + 100 * v6 + v8) = sw M K D b k → D_X12_barAt_150 xs xl (d + 4) g w (nI e) (nI b) (nI k) v6 v7 v8 1 N = some r := fun v6 v7 v8 q q2 => by
    rw [D_X12_barAt_150_eq, if_neg one_ne]
    by_cases z : e = 0
    · rw [h1 q z, ← q2, if_pos (by rw [z]; rfl)]
      by_cases z0 : k = 0
      · rw [if_pos (by rw [z0]; rfl), if_pos z0]
      · rw [if_neg (nI_n0 (by omega) z0), if_neg z0]
    · have h2' := h2 (fun y => z y.2)
      rw [if_pos q] at h2'
      rw [if_neg (nI_n0 he z), if_neg one_ne]
      simp only [dp_w, nI_1]
      rw [show (1 : Int32) = nI 1 from rfl, nI_mns (by omega)]
      exact D_X12_barAt_17_to_17_a _ _ _ _ _ _ _ _ _ h2'
  rw [D_X12_barAt_17_eq, if_neg (show ¬ (45 : Int32) ≤ nI (k) from nI_ge (a := k) (b := 45) (by omega) (by omega))]
  simp only [nI_cl (show b < 2147483648 by omega), nI_o (show b < 100 by omega) (by omega), if_false, dp_w]
  rw [e4 b hb, if_pos hg]
  by_cases k0 : k = 0
  · subst k0
    rw [if_pos (by rfl), own, rb_bi, D_X12_barAt_113_eq, if_pos (by rfl)]
    by_cases z : ownF M K D b = 0
    · rw [if_pos ((ownF_p M K D b).2.mpr z)]
      exact t0 _ _ _ (show decide (¬ ownF M K D b = 0) = false from decide_eq_false (fun q => q z))
    · rw [if_neg (fun q => z ((ownF_p M K D b).2.mp q))]
      refine t1 _ _ _ (show decide (¬ ownF M K D b = 0) = true from decide_eq_true z) ?_
      rw [if_pos rfl]; rfl
  obtain ⟨s, i, hs, hi, hk2⟩ : ∃ s i, s < 4 ∧ i < 11 ∧ k = 1 + s * 11 + i := ⟨(k - 1) / 11, (k - 1) % 11, by omega, Nat.mod_lt _ (by omega), by omega⟩
  have y2 : (nI k - 1) / (11 : Int32) = nI s := by
    rw [show (1 : Int32) = nI 1 from rfl, nI_mns (by omega), show (11 : Int32) = nI 11 from rfl, nI_div (by omega) (by omega) (by omega)]
    congr 1; omega
  have y3 : (nI k - 1) - (nI k - 1) / (11 : Int32) * (11 : Int32) = nI i := by
    rw [show (1 : Int32) = nI 1 from rfl, nI_mns (by omega), show (11 : Int32) = nI 11 from rfl, nI_rem (by omega) (by omega) (by omega)]
    congr 1; omega
  rw [if_neg (nI_n0 (by omega) k0), y3, y2]
  have es : sw M K D b k = if i = 10 then 100 + 100 * nI s + vdF M K b s else 100 + 100 * nI s + nI i := by
    unfold sw slw
    rw [if_neg k0, show (k - 1) / 11 = s by omega, show (k - 1) % 11 = i by omega]
  by_cases z : i = 10
  · subst z
    have ep : sp M K D b k = vnz (vdF M K b) s := by rw [hk2]; exact slp_r
    rw [if_pos (by rfl), vd s hs, rb_bi, D_X12_barAt_113_eq, if_neg (nI_n0 (by omega) k0), if_pos (by rfl)]
    by_cases y : vdF M K b s = 0
    · rw [if_pos ((vdF_p M K b s).mpr y)]
      exact t0 _ _ _ (by rw [ep]; exact Bool.eq_false_iff.mpr (fun q => vnz_t.mp q y))
    · rw [if_neg (fun q => y ((vdF_p M K b s).mp q))]
      refine t1 _ _ _ (by rw [ep]; exact vnz_t.mpr y) ?_
      rw [if_neg k0, es, if_pos rfl]
  · have ep : sp M K D b k = brf (dp_I M 48) b (s * 10 + i) := by rw [hk2]; exact slp_k (by omega)
    have zz : ¬ nI i = (10 : Int32) := fun q => z (by
      rw [show (10 : Int32) = nI 10 from rfl, nI_eq (by omega) (by omega)] at q; exact q)
    rw [if_neg zz, t_cell]
    simp only [nI_cl (show b * 40 + (s * 10 + i) < 2147483648 by omega), nI_o (show b * 40 + (s * 10 + i) < 4000 by omega) (by omega), if_false]
    rw [e5]
    by_cases y : dp_I M 48 (b * 40 + (s * 10 + i)) ≤ 0
    · rw [if_pos y, D_X12_barAt_113_eq, if_neg (nI_n0 (by omega) k0), if_neg zz, if_pos (by decide)]
      exact t0 _ _ _ (by rw [ep]; exact Bool.eq_false_iff.mpr (fun q => Int32.not_lt.mpr y (brf_t.mp q)))
    · rw [if_neg y, D_X12_barAt_113_eq, if_neg (nI_n0 (by omega) k0), if_neg zz, if_neg (nI_nn (by omega))]
      refine t1 _ _ _ (by rw [ep]; exact brf_t.mpr (Int32.not_le.mp y)) ?_
      rw [if_neg k0, es, if_neg z]
/-- the slots of a box, all passed -/
theorem gm_slots {N : dp_M} {n K D e b : Nat} {g w : Int32} (h : GMk N M n K D) (he : e < 2147483648) (hb : b < n) (hg : dp_I M 43 b = g) (hc : nbF M K D b ≤ e) {r : dp_Res} (hr : D_X12_barAt_5 xs xl (d + 4) g w (nI (e - nbF M K D b)) (nI (b + 1)) N = some r) : D_X12_barAt_17 xs xl (d + 4) g w (nI e) (nI b) 0 N = some r := by
  have key := lpb (F := fun (a : Nat) k => D_X12_barAt_17 xs xl (d + 4) g w (nI a) (nI b) (nI k) N) (s := fun k => e - ct (sp M K D b) k) (N := 45) (r := r) ?_ (fun k hk hq => ?_)
  · exact key
  · (try dsimp only)
    rw [D_X12_barAt_17_eq, if_pos (by decide)]
    simp only [dp_w, nI_1]
    exact D_X12_barAt_5_to_5_a _ _ _ _ _ hr
  · (try dsimp only at hq); (try dsimp only)
    have hm := ctm (p := sp M K D b) 45 (show k + 1 ≤ 45 by omega)
    have hc' : ct (sp M K D b) 45 ≤ e := hc
    have hs : ct (sp M K D b) (k + 1) = ct (sp M K D b) k + (if sp M K D b k = true then 1 else 0) := rfl
    refine gm_slot h (by omega) hb hk hg (fun q1 q2 => ?_) (fun _ => ?_)
    · rw [if_pos q1] at hs; omega
    · rw [show e - ct (sp M K D b) k - (if sp M K D b k = true then 1 else 0) = e - ct (sp M K D b) (k + 1) by rw [hs]; omega]
      exact hq
/-- model, found -/
theorem gm_gbar {N : dp_M} {n K D j x b k : Nat} (h : GMk N M n K D) (hj : j < 2147483648) (hb : b < n) (hg : grf (dp_I M 43) x b = true) (h1 : ttb (grf (dp_I M 43) x) (nbF M K D) b ≤ j) (hk : k < 45) (hk1 : sp M K D b k = true) (hk2 : ct (sp M K D b) k = j - ttb (grf (dp_I M 43) x) (nbF M K D) b) : dp_den true xs xl (d + 5) 433 [.ref 114, .int (dp_I M 43 x), .int (nI j)] N = iR (sw M K D b k) N := by
  rw [D_X12_barAt_0_den, D_X12_barAt_0_eq]
  simp only [dp_w]
  obtain ⟨T, hT⟩ : ∃ T, T = ttb (grf (dp_I M 43) x) (nbF M K D) := ⟨_, rfl⟩
  rw [← hT] at h1 hk2
  have hn := h.1.1
  have key := lpb (F := fun (a : Nat) i => D_X12_barAt_5 xs xl (d + 4) (dp_I M 43 x) (nI j) (nI a) (nI i) N) (s := fun i => j - T i) (N := b) (r := (.inl (some (.int (sw M K D b k))), N)) ?_ (fun i hi hr => ?_)
  · have T0 : T 0 = 0 := by rw [hT, ttb]
    (try dsimp only at key)
    rw [T0, Nat.sub_zero] at key; exact key
  · (try dsimp only)
    rw [D_X12_barAt_5_eq, h.2.1, if_neg (nI_nge hb (by omega))]
    simp only [dp_w]
    refine lpb (F := fun (a : Nat) q => D_X12_barAt_17 xs xl (d + 4) (dp_I M 43 x) (nI j) (nI a) (nI b) (nI q) N) (s := fun q => j - T b - ct (sp M K D b) q) (N := k) ?_ (fun q hq hr => ?_)
    · (try dsimp only)
      exact gm_slot h (by omega) hb hk (grf_t.mp hg) (fun _ _ => rfl) (fun y => absurd ⟨hk1, by omega⟩ y)
    · (try dsimp only at hr); (try dsimp only)
      have hm := ctm (p := sp M K D b) k (show q + 1 ≤ k by omega)
      have hs : ct (sp M K D b) (q + 1) = ct (sp M K D b) q + (if sp M K D b q = true then 1 else 0) := rfl
      refine gm_slot h (by omega) hb (by omega) (grf_t.mp hg) (fun q1 q2 => ?_) (fun _ => ?_)
      · rw [if_pos q1] at hs; omega
      · rw [show j - T b - ct (sp M K D b) q - (if sp M K D b q = true then 1 else 0) = j - T b - ct (sp M K D b) (q + 1) by rw [hs]; omega]
        exact hr
  · (try dsimp only at hr); (try dsimp only)
    have hm := ttb_m (G := grf (dp_I M 43) x) (nb := nbF M K D) (a := i + 1) b hi
    have hs : T (i + 1) = T i + (if grf (dp_I M 43) x i = true then nbF M K D i else 0) := by rw [hT, ttb]
    rw [← hT] at hm
    rw [D_X12_barAt_5_eq, h.2.1, if_neg (nI_nge (show i < n by omega) (by omega))]
    simp only [dp_w]
    by_cases z : dp_I M 43 i = dp_I M 43 x
    · rw [if_pos (grf_t.mpr z)] at hs
      refine gm_slots h (by omega) (by omega) z (by omega) ?_
      rw [show j - T i - nbF M K D i = j - T (i + 1) by omega]
      exact hr
    · rw [if_neg (fun q => z (grf_t.mp q))] at hs
      rw [D_X12_barAt_17_eq, if_neg (by decide)]
      simp only [nI_cl (show i < 2147483648 by omega), nI_o (show i < 100 by omega) (by omega), if_false, dp_w, nI_1]
      rw [h.2.2.2.2.1 i (by omega), if_neg z, show j - T i = j - T (i + 1) by omega]
      exact D_X12_barAt_5_to_5_a _ _ _ _ _ hr
/-- model, none -/
theorem gm_gnone {N : dp_M} {n K D j x : Nat} (h : GMk N M n K D) (hj : j < 2147483648) (h1 : ttb (grf (dp_I M 43) x) (nbF M K D) n ≤ j) : dp_den true xs xl (d + 5) 433 [.ref 114, .int (dp_I M 43 x), .int (nI j)] N = iR (-1) N := by
  rw [D_X12_barAt_0_den, D_X12_barAt_0_eq]
  simp only [dp_w]
  obtain ⟨T, hT⟩ : ∃ T, T = ttb (grf (dp_I M 43) x) (nbF M K D) := ⟨_, rfl⟩
  rw [← hT] at h1
  have hn := h.1.1
  have key := lpb (F := fun (a : Nat) i => D_X12_barAt_5 xs xl (d + 4) (dp_I M 43 x) (nI j) (nI a) (nI i) N) (s := fun i => j - T i) (N := n) (r := (.inl (some (.int (-1))), N)) ?_ (fun i hi hr => ?_)
  · have T0 : T 0 = 0 := by rw [hT, ttb]
    (try dsimp only at key)
    rw [T0, Nat.sub_zero] at key; exact key
  · (try dsimp only)
    rw [D_X12_barAt_5_eq, h.2.1, if_pos (nI_lle (Nat.le_refl _) (by omega))]
  · (try dsimp only at hr); (try dsimp only)
    have hm := ttb_m (G := grf (dp_I M 43) x) (nb := nbF M K D) (a := i + 1) n hi
    have hs : T (i + 1) = T i + (if grf (dp_I M 43) x i = true then nbF M K D i else 0) := by rw [hT, ttb]
    rw [← hT] at hm
    rw [D_X12_barAt_5_eq, h.2.1, if_neg (nI_nge (show i < n by omega) (by omega))]
    simp only [dp_w]
    by_cases z : dp_I M 43 i = dp_I M 43 x
    · rw [if_pos (grf_t.mpr z)] at hs
      refine gm_slots h (by omega) (by omega) z (by omega) ?_
      rw [show j - T i - nbF M K D i = j - T (i + 1) by omega]
      exact hr
    · rw [if_neg (fun q => z (grf_t.mp q))] at hs
      rw [D_X12_barAt_17_eq, if_neg (by decide)]
      simp only [nI_cl (show i < 2147483648 by omega), nI_o (show i < 100 by omega) (by omega), if_false, dp_w, nI_1]
      rw [h.2.2.2.2.1 i (by omega), if_neg z, show j - T i = j - T (i + 1) by omega]
      exact D_X12_barAt_5_to_5_a _ _ _ _ _ hr
end GI
