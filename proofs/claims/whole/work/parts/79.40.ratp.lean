-- needs: 71 72 73 74
/-! RATES: the model reckons -/
section Rp
variable {xs : Nat → Int32} {xl d : Nat} {M : dp_M} {l : List Nd}
theorem fnm_at {j : Nat} (h : FnM M l) (hj : j < l.length) : dp_I M 174 (60 + j) = (l.getD j v0).1 ∧ dp_I M 175 (60 + j) = (l.getD j v0).2.1 ∧ dp_I M 176 (60 + j) = (l.getD j v0).2.2.1 ∧ dp_I M 177 (60 + j) = fL l j ∧ dp_I M 178 (60 + j) = fR l j ∧ dp_I M 179 (60 + j) = nI (l.getD j v0).2.2.2.length ∧ ∀ k, k < (l.getD j v0).2.2.2.length → (l.getD j v0).2.2.2.getD k (0, 0) = (dp_I M 180 ((60 + j) * 6 + k), dp_I M 181 ((60 + j) * 6 + k)) := by
  obtain ⟨b1, b2⟩ := h.2.2 j hj
  have a5 : rwN M (60 + j) = (l.getD j v0).2.2.2 := congrArg (fun x => x.1.2.2.2) b1
  have e : (rwN M (60 + j)).length = (dp_I M 179 (60 + j)).toNatClampNeg := by unfold rwN; rw [List.length_map, List.length_range]
  refine ⟨congrArg (fun x => x.1.1) b1, congrArg (fun x => x.1.2.1) b1, congrArg (fun x => x.1.2.2.1) b1, congrArg (fun x => x.2.1) b1, congrArg (fun x => x.2.2) b1, ?_, fun k hk => ?_⟩
  · have n5 := tN_lt (x := dp_I M 179 (60 + j)) (by omega)
    have : (nI (tN (dp_I M 179 (60 + j)))).toNatClampNeg = tN (dp_I M 179 (60 + j)) := nI_cl (by omega)
    rw [← n5] at this
    rw [← a5, e, this]
    exact n5
  · rw [← a5, e] at hk
    rw [← a5]
    unfold rwN
    rw [List.getD_eq_getElem?_getD, List.getElem?_map, List.getElem?_range hk]
    rfl
theorem m_stc {j : Nat} {pr : Int64} (h : FnM M l) (hj : j < l.length) (h1 : 1 ≤ (l.getD j v0).2.2.2.length) (h6 : (l.getD j v0).2.2.2.length ≤ 6) (hp : dp_J M 114 100 = pr) (h0 : 0 ≤ pr) : dp_den true xs xl (d + 1) 491 [.ref 114, .int (nI (60 + j))] M = lR (stc (l.getD j v0) pr * 1000000) M := by
  obtain ⟨f0, f1, f2, f3, f4, f5, fr⟩ := fnm_at h hj
  have l60 := h.1
  obtain ⟨a, ha⟩ : ∃ a, a = (l.getD j v0).2.2.2 := ⟨_, rfl⟩
  rw [← ha] at h1 h6 f5 fr
  have no : ¬ (nI (60 + j) < 0 ∨ 120 ≤ (nI (60 + j)).toNatClampNeg) := by rw [nI_cl (by omega), nI_o (show 60 + j < 120 by omega) (by omega)]; exact id
  have ix : ∀ k, ((6 : Int32) * nI (60 + j)) + nI k = nI ((60 + j) * 6 + k) := fun k => by rw [show (6 : Int32) = nI 6 from rfl, pk_mul, nI_add, Nat.mul_comm]
  have no7 : ∀ k, k < a.length → ¬ (nI ((60 + j) * 6 + k) < 0 ∨ 720 ≤ (nI ((60 + j) * 6 + k)).toNatClampNeg) := fun k hk => by rw [nI_cl (by omega), nI_o (show (60 + j) * 6 + k < 720 by omega) (by omega)]; exact id
  have c2 : ∀ k, k < a.length → dp_I M 181 ((60 + j) * 6 + k) = (a.getD k (0, 0)).2 := fun k hk => by rw [fr k hk]
  have c1 : ∀ k, k < a.length → dp_I M 180 ((60 + j) * 6 + k) = (a.getD k (0, 0)).1 := fun k hk => by rw [fr k hk]
  rw [D_X12_stepOf_0_den, D_X12_stepOf_0_eq, hp]
  unfold stc
  rw [← ha]
  by_cases z : pr = 0
  · have nz : ¬ 0 < pr := by rw [z]; decide
    rw [if_pos (by rw [lg_cmp_eq]; exact z), dpw, dpw, dpw, if_neg nz]
    have key := lpb (F := fun (_ : Nat) k => D_X12_stepOf_36 xs xl d (nI (60 + j)) 0 (if k = 0 then 0 else (a.getD (k - 1) (0, 0)).2.toInt64) (nI k) M) (s := fun _ => 0) (N := a.length) (r := (.inl (some (.long ((a.getD (a.length - 1) (0, 0)).2.toInt64 * 1000000))), M)) ?_ (fun k hk hr => ?_)
    · (try dsimp only at key)
      rw [if_pos rfl] at key
      exact key
    · (try dsimp only)
      rw [if_neg (by omega), D_X12_stepOf_36_eq, if_neg no, nI_cl (by omega), f5, if_pos (nI_lle (Nat.le_refl _) (by omega))]
    · (try dsimp only at hr); (try dsimp only)
      rw [if_neg (Nat.succ_ne_zero k), Nat.add_sub_cancel] at hr
      rw [D_X12_stepOf_36_eq, if_neg no, nI_cl (show 60 + j < 2147483648 by omega), f5, if_neg (nI_nge hk (by omega)), hp, if_pos (by rw [lg_cmp_eq]; exact z), ix, if_neg (no7 k hk), nI_cl (by omega), c2 k hk, dpw, dpw, nI_1]
      exact hr
  · have nz : 0 < pr := by
      rw [Int64.lt_iff_toInt_lt]
      rw [Int64.le_iff_toInt_le] at h0
      have : pr.toInt ≠ (0 : Int64).toInt := fun e => z (Int64.toInt_inj.mp e)
      omega
    rw [if_neg (by rw [lg_cmp_eq]; exact z), if_neg no, if_neg z, nI_cl (by omega), f1, dpw, dpw, dpw, if_pos nz]
    obtain ⟨x, hx⟩ : ∃ x, x = (l.getD j v0).2.1.toInt64 * 100 / pr := ⟨_, rfl⟩
    rw [← hx]
    have key := lpb (F := fun (_ : Nat) k => D_X12_stepOf_36 xs xl d (nI (60 + j)) x (stF a x k) (nI k) M) (s := fun _ => 0) (N := a.length) (r := (.inl (some (.long (stF a x a.length * 1000000))), M)) ?_ (fun k hk hr => ?_)
    · exact key
    · (try dsimp only)
      rw [D_X12_stepOf_36_eq, if_neg no, nI_cl (by omega), f5, if_pos (nI_lle (Nat.le_refl _) (by omega))]
    · (try dsimp only at hr); (try dsimp only)
      rw [show stF a x (k + 1) = if x < (a.getD k (0, 0)).1.toInt64 then stF a x k else (a.getD k (0, 0)).2.toInt64 from rfl] at hr
      rw [D_X12_stepOf_36_eq, if_neg no, nI_cl (show 60 + j < 2147483648 by omega), f5, if_neg (nI_nge hk (by omega)), hp, if_neg (by rw [lg_cmp_eq]; exact z), ix, if_neg (no7 k hk), nI_cl (show (60 + j) * 6 + k < 2147483648 by omega), c1 k hk, c2 k hk]
      by_cases y : x < (a.getD k (0, 0)).1.toInt64
      · rw [if_pos y] at hr
        rw [if_pos (by rw [lg_cmp_gt]; exact y), dpw, nI_1]; exact hr
      · rw [if_neg y] at hr
        rw [if_neg (by rw [lg_cmp_gt]; exact y), if_neg (by have := no7 k hk; rw [nI_cl (by omega)] at this; exact this), dpw, dpw, nI_1]; exact hr
def lack (l : List Nd) (am : Nat → Int64) (j : Nat) : Prop := (l.getD j v0).1 = 2 ∧ am (l.getD j v0).2.2.1.toNatClampNeg = -1
theorem m_st0 {j : Nat} {pr : Int64} {am w : Nat → Int64}  (h : FnM M l) (hj : j < l.length) (hk : ndk (l.getD j v0)) (hs : Shp l) (hp : dp_J M 114 100 = pr) (h0 : 0 ≤ pr) (ham : dp_J M 188 = am) : (lack l am j → D_X12_reckons_7 xs xl (d + 1) (nI j)  (rJ M 189 w) = lR (-1) (rJ M 189 w)) ∧ (¬ lack l am j → ∃ a b c e, D_X12_reckons_7 xs xl (d + 1) (nI j)  (rJ M 189 w) = D_X12_reckons_7_a xs xl (d + 1) (nI j + -1) a b c e (rJ M 189 (uI w j (nvl l pr am w j)))) := by
  have H : FnM (rJ M 189 w) l := h
  obtain ⟨f0, f1, f2, f3, f4, f5, -⟩ := fnm_at H hj
  have l60 := h.1
  obtain ⟨N, hN⟩ : ∃ N, N = rJ M 189 w := ⟨_, rfl⟩
  have jp : dp_J N 114 100 = pr := by rw [hN, rJ_J, if_neg (by decide)]; exact hp
  have j8 : dp_J N 188 = am := by rw [hN, rJ_J, if_neg (by decide)]; exact ham
  have j9 : dp_J N 189 = w := by rw [hN, rJ_J, if_pos rfl]
  have sc : (1 ≤ (l.getD j v0).2.2.2.length ∧ (l.getD j v0).2.2.2.length ≤ 6) → dp_den true xs xl (d + 1) 491 [.ref 114, .int (nI (60 + j))] N = lR (stc (l.getD j v0) pr * 1000000) N := fun hh => by
    rw [hN]
    exact m_stc H hj hh.1 hh.2 (by rw [← hN]; exact jp) h0
  have up : ∀ x, dp_setJ N 189 j x = rJ M 189 (uI w j x) := fun x => by rw [hN, rJ_set]
  rw [← hN] at f0 f1 f2 f3 f4 f5 ⊢
  have no : ¬ (nI (60 + j) < 0 ∨ 120 ≤ 60 + j) := by rw [nI_o (show 60 + j < 120 by omega) (by omega)]; exact id
  have nj : ¬ (nI j < 0 ∨ 60 ≤ j) := by rw [nI_o (show j < 60 by omega) (by omega)]; exact id
  have ix : (60 : Int32) + nI j = nI (60 + j) := by rw [show (60 : Int32) = nI 60 from rfl, nI_add]
  have c6 : (nI (60 + j)).toNatClampNeg = 60 + j := nI_cl (by omega)
  have cj : (nI j).toNatClampNeg = j := nI_cl (by omega)
  obtain ⟨K, hK⟩ : ∃ K, K = (l.getD j v0).1 := ⟨_, rfl⟩
  rw [← hK] at f0
  have e59 : ∃ x y, D_X12_reckons_59 xs xl (d + 1) (nI j) (nI (60 + j)) K  N = D_X12_reckons_139 xs xl (d + 1) (nI j) (nI (60 + j)) K x  y N ∧ (isBn (l.getD j v0) = true → x = w (fL l j).toNatClampNeg ∧ y = w (fR l j).toNatClampNeg) := by
    rw [D_X12_reckons_59_eq, c6, if_neg no, f3]
    cases hb : isBn (l.getD j v0) with
    | false =>
      have eL : fL l j = -1 := by unfold fL; rw [if_neg (by rw [hb]; decide)]
      rw [eL, if_pos rfl, D_X12_reckons_98_eq, c6, if_neg no, f3, eL, if_pos rfl]
      exact ⟨_, _, rfl, fun x => by cases x⟩
    | true =>
      obtain ⟨m, m1, m2, m3⟩ := hs j hj hb
      have eL : fL l j = nI (j + 1) := by unfold fL; rw [if_pos hb]
      rw [eL, if_neg (m1n (by omega)), if_neg no, if_neg (m1n (by omega)), if_neg no, nI_cl (by omega), if_neg (by rw [nI_o (show j + 1 < 60 by omega) (by omega)]; exact id), D_X12_reckons_98_eq, c6, if_neg no, f3, eL, if_neg (m1n (by omega)), if_neg no, if_neg (m1n (by omega)), if_neg no, f4, m1, nI_cl (show m < 2147483648 by omega), if_neg (by rw [nI_o (show m < 60 by omega) (by omega)]; exact id), j9]
      exact ⟨_, _, rfl, fun _ => ⟨rfl, rfl⟩⟩
  have e139 : ∀ x y, (isBn (l.getD j v0) = true → x = w (fL l j).toNatClampNeg ∧ y = w (fR l j).toNatClampNeg) → ∃ a b c e, D_X12_reckons_139 xs xl (d + 1) (nI j) (nI (60 + j)) K x  y N = D_X12_reckons_7_a xs xl (d + 1) (nI j + -1) a b c e (rJ M 189 (uI w j (nvl l pr am w j))) := fun x y hxy => by
    rw [D_X12_reckons_139_eq]
    simp only [cj, c6, if_neg nj, if_neg no, dpw, f1, f2, jp, j8, up]
    unfold nvl
    rcases hk with k0 | k1 | ⟨k2, u, u8, hu⟩ | kb | ⟨k7, n1, n6⟩
    · have hb : ¬ isBn (l.getD j v0) = true := by unfold isBn; rw [k0]; decide
      rw [if_neg hb, hK, k0, if_pos rfl, if_neg (show ¬ (0 : Int32) = 1 by decide), if_neg (show ¬ (0 : Int32) = 2 by decide), if_neg (show ¬ (0 : Int32) = 7 by decide)]
      exact ⟨_, _, _, _, rfl⟩
    · have hb : ¬ isBn (l.getD j v0) = true := by unfold isBn; rw [k1]; decide
      rw [if_neg hb, hK, k1, if_neg (show ¬ (1 : Int32) = 0 by decide), if_pos rfl, if_pos rfl]
      exact ⟨_, _, _, _, rfl⟩
    · have hb : ¬ isBn (l.getD j v0) = true := by unfold isBn; rw [k2]; decide
      rw [if_neg hb, hK, k2, if_neg (show ¬ (2 : Int32) = 0 by decide), if_neg (show ¬ (2 : Int32) = 1 by decide), if_pos rfl, if_neg (show ¬ (2 : Int32) = 1 by decide), if_pos rfl, hu, nI_cl (by omega), if_neg (show ¬ (nI u < 0 ∨ 8 ≤ u) by rw [nI_o (show u < 8 by omega) (by omega)]; exact id), Int64.mul_comm]
      exact ⟨_, _, _, _, rfl⟩
    · have hb : isBn (l.getD j v0) = true := by unfold isBn; exact decide_eq_true kb
      obtain ⟨rfl, rfl⟩ := hxy hb
      rw [if_pos hb, hK]
      rcases kb with k | k | k | k
      · rw [k, if_neg (show ¬ (3 : Int32) = 0 by decide), if_neg (show ¬ (3 : Int32) = 1 by decide), if_neg (show ¬ (3 : Int32) = 2 by decide), if_pos rfl, if_pos rfl]
        exact ⟨_, _, _, _, rfl⟩
      · rw [k, if_neg (show ¬ (4 : Int32) = 0 by decide), if_neg (show ¬ (4 : Int32) = 1 by decide), if_neg (show ¬ (4 : Int32) = 2 by decide), if_neg (show ¬ (4 : Int32) = 3 by decide), if_pos rfl, if_neg (show ¬ (4 : Int32) = 3 by decide), if_pos rfl]
        exact ⟨_, _, _, _, rfl⟩
      · rw [k, if_neg (show ¬ (5 : Int32) = 0 by decide), if_neg (show ¬ (5 : Int32) = 1 by decide), if_neg (show ¬ (5 : Int32) = 2 by decide), if_neg (show ¬ (5 : Int32) = 3 by decide), if_neg (show ¬ (5 : Int32) = 4 by decide), if_pos rfl, if_pos rfl, if_neg (show ¬ (5 : Int32) = 3 by decide), if_neg (show ¬ (5 : Int32) = 4 by decide), if_pos rfl, D_X12_reckons_308_eq]
        simp only [cj, if_neg nj, dpw, up]
        by_cases ge : w (fR l j).toNatClampNeg ≤ w (fL l j).toNatClampNeg
        · rw [if_pos (by rw [lg_cmp_ge]; exact ge), if_neg (by decide)]
          by_cases lt : w (fR l j).toNatClampNeg < w (fL l j).toNatClampNeg
          · rw [if_pos lt]; exact ⟨_, _, _, _, rfl⟩
          · rw [if_neg lt, Int64.le_antisymm (Int64.not_lt.mp lt) ge]; exact ⟨_, _, _, _, rfl⟩
        · rw [if_neg (by rw [lg_cmp_ge]; exact ge), if_pos trivial, if_neg (fun lt => ge (Int64.le_of_lt lt))]; exact ⟨_, _, _, _, rfl⟩
      · rw [k, if_neg (show ¬ (6 : Int32) = 0 by decide), if_neg (show ¬ (6 : Int32) = 1 by decide), if_neg (show ¬ (6 : Int32) = 2 by decide), if_neg (show ¬ (6 : Int32) = 3 by decide), if_neg (show ¬ (6 : Int32) = 4 by decide), if_neg (show ¬ (6 : Int32) = 5 by decide), if_pos rfl, if_neg (show ¬ (6 : Int32) = 5 by decide), if_neg (show ¬ (6 : Int32) = 3 by decide), if_neg (show ¬ (6 : Int32) = 4 by decide), if_neg (show ¬ (6 : Int32) = 5 by decide), D_X12_reckons_308_eq]
        simp only [cj, if_neg nj, dpw, up]
        by_cases ge : w (fR l j).toNatClampNeg ≤ w (fL l j).toNatClampNeg
        · rw [if_pos (by rw [lg_cmp_ge]; exact ge), if_pos trivial]
          by_cases lt : w (fR l j).toNatClampNeg < w (fL l j).toNatClampNeg
          · rw [if_pos lt]; exact ⟨_, _, _, _, rfl⟩
          · rw [if_neg lt, Int64.le_antisymm (Int64.not_lt.mp lt) ge]; exact ⟨_, _, _, _, rfl⟩
        · rw [if_neg (by rw [lg_cmp_ge]; exact ge), if_neg (by decide), if_neg (fun lt => ge (Int64.le_of_lt lt))]; exact ⟨_, _, _, _, rfl⟩
    · have hb : ¬ isBn (l.getD j v0) = true := by unfold isBn; rw [k7]; decide
      rw [if_neg hb, hK, k7, if_neg (show ¬ (7 : Int32) = 0 by decide), if_neg (show ¬ (7 : Int32) = 1 by decide), if_neg (show ¬ (7 : Int32) = 2 by decide), if_neg (show ¬ (7 : Int32) = 3 by decide), if_neg (show ¬ (7 : Int32) = 4 by decide), if_neg (show ¬ (7 : Int32) = 5 by decide), if_neg (show ¬ (7 : Int32) = 6 by decide), if_pos rfl, if_neg (show ¬ (7 : Int32) = 1 by decide), if_neg (show ¬ (7 : Int32) = 2 by decide), if_pos rfl, sc ⟨n1, n6⟩, rb_bl, up]
      exact ⟨_, _, _, _, rfl⟩
  have e7 : D_X12_reckons_7 xs xl (d + 1) (nI j)  N = if K = 2 then (if (dp_I N 176 (60 + j)) < 0 ∨ 8 ≤ Int32.toNatClampNeg (dp_I N 176 (60 + j)) then none else (if (lg_cmp (dp_J N 188 (Int32.toNatClampNeg (dp_I N 176 (60 + j)))) (-1 : Int64)) = 0 then (some (.inl (some (.long (-1 : Int64))), N)) else (D_X12_reckons_59 xs xl (d + 1) (nI j) (nI (60 + j)) K  N))) else D_X12_reckons_59 xs xl (d + 1) (nI j) (nI (60 + j)) K  N := by
    rw [D_X12_reckons_7_eq, if_neg (r_nn (by omega)), dpw, ix, c6, if_neg no, dpw, f0]
    by_cases k2 : K = 2
    · rw [if_pos k2, if_pos k2, if_neg no, if_pos k2]
    · rw [if_neg k2, if_neg k2]
  obtain ⟨x, y, g1, g2⟩ := e59
  constructor
  · intro ⟨q1, q2⟩
    rcases hk with k0 | k1 | ⟨k2, u, u8, hu⟩ | kb | ⟨k7, n1, n6⟩
    · rw [k0] at q1; exact absurd q1 (by decide)
    · rw [k1] at q1; exact absurd q1 (by decide)
    · rw [hu, nI_cl (by omega)] at q2
      rw [e7, if_pos (hK.trans q1), f2, hu, nI_cl (by omega), if_neg (show ¬ (nI u < 0 ∨ 8 ≤ u) by rw [nI_o (show u < 8 by omega) (by omega)]; exact id), j8, q2, if_pos (by rw [lg_cmp_eq])]
    · rw [q1] at kb; exact absurd kb (by decide)
    · rw [k7] at q1; exact absurd q1 (by decide)
  · intro nl
    rw [e7]
    by_cases k2 : K = 2
    · have hu' : ∃ u, u < 8 ∧ (l.getD j v0).2.2.1 = nI u := by
        rcases hk with k0 | k1 | ⟨-, hu⟩ | kb | ⟨k7, n1, n6⟩
        · rw [hK, k0] at k2; exact absurd k2 (by decide)
        · rw [hK, k1] at k2; exact absurd k2 (by decide)
        · exact hu
        · rw [hK] at k2; rw [k2] at kb; exact absurd kb (by decide)
        · rw [hK, k7] at k2; exact absurd k2 (by decide)
      obtain ⟨u, u8, hu⟩ := hu'
      have nl' : ¬ am u = -1 := fun e => nl ⟨hK.symm.trans k2, by rw [hu, nI_cl (by omega)]; exact e⟩
      rw [if_pos k2, f2, hu, nI_cl (by omega), if_neg (show ¬ (nI u < 0 ∨ 8 ≤ u) by rw [nI_o (show u < 8 by omega) (by omega)]; exact id), j8, if_neg (by rw [lg_cmp_eq]; exact nl'), g1]
      exact e139 x y g2
    · rw [if_neg k2, g1]
      exact e139 x y g2
theorem m_st1 {j : Nat} {pr : Int64} {am w : Nat → Int64} {a1 a2 : Int32} {a3 a4 : Int64} (h : FnM M l) (hj : j < l.length) (hk : ndk (l.getD j v0)) (hs : Shp l) (hp : dp_J M 114 100 = pr) (h0 : 0 ≤ pr) (ham : dp_J M 188 = am) : (lack l am j → D_X12_reckons_7_a xs xl (d + 1) (nI j) a1 a2 a3 a4 (rJ M 189 w) = lR (-1) (rJ M 189 w)) ∧ (¬ lack l am j → ∃ a b c e, D_X12_reckons_7_a xs xl (d + 1) (nI j) a1 a2 a3 a4 (rJ M 189 w) = D_X12_reckons_7_a xs xl (d + 1) (nI j + -1) a b c e (rJ M 189 (uI w j (nvl l pr am w j)))) := by
  have H : FnM (rJ M 189 w) l := h
  obtain ⟨f0, f1, f2, f3, f4, f5, -⟩ := fnm_at H hj
  have l60 := h.1
  obtain ⟨N, hN⟩ : ∃ N, N = rJ M 189 w := ⟨_, rfl⟩
  have jp : dp_J N 114 100 = pr := by rw [hN, rJ_J, if_neg (by decide)]; exact hp
  have j8 : dp_J N 188 = am := by rw [hN, rJ_J, if_neg (by decide)]; exact ham
  have j9 : dp_J N 189 = w := by rw [hN, rJ_J, if_pos rfl]
  have sc : (1 ≤ (l.getD j v0).2.2.2.length ∧ (l.getD j v0).2.2.2.length ≤ 6) → dp_den true xs xl (d + 1) 491 [.ref 114, .int (nI (60 + j))] N = lR (stc (l.getD j v0) pr * 1000000) N := fun hh => by
    rw [hN]
    exact m_stc H hj hh.1 hh.2 (by rw [← hN]; exact jp) h0
  have up : ∀ x, dp_setJ N 189 j x = rJ M 189 (uI w j x) := fun x => by rw [hN, rJ_set]
  rw [← hN] at f0 f1 f2 f3 f4 f5 ⊢
  have no : ¬ (nI (60 + j) < 0 ∨ 120 ≤ 60 + j) := by rw [nI_o (show 60 + j < 120 by omega) (by omega)]; exact id
  have nj : ¬ (nI j < 0 ∨ 60 ≤ j) := by rw [nI_o (show j < 60 by omega) (by omega)]; exact id
  have ix : (60 : Int32) + nI j = nI (60 + j) := by rw [show (60 : Int32) = nI 60 from rfl, nI_add]
  have c6 : (nI (60 + j)).toNatClampNeg = 60 + j := nI_cl (by omega)
  have cj : (nI j).toNatClampNeg = j := nI_cl (by omega)
  obtain ⟨K, hK⟩ : ∃ K, K = (l.getD j v0).1 := ⟨_, rfl⟩
  rw [← hK] at f0
  have e59 : ∃ x y, D_X12_reckons_59_a xs xl (d + 1) (nI j) (nI (60 + j)) K a3 a4 N = D_X12_reckons_139_a xs xl (d + 1) (nI j) (nI (60 + j)) K x a4 y N ∧ (isBn (l.getD j v0) = true → x = w (fL l j).toNatClampNeg ∧ y = w (fR l j).toNatClampNeg) := by
    rw [D_X12_reckons_59_a_eq, c6, if_neg no, f3]
    cases hb : isBn (l.getD j v0) with
    | false =>
      have eL : fL l j = -1 := by unfold fL; rw [if_neg (by rw [hb]; decide)]
      rw [eL, if_pos rfl, D_X12_reckons_98_a_eq, c6, if_neg no, f3, eL, if_pos rfl]
      exact ⟨_, _, rfl, fun x => by cases x⟩
    | true =>
      obtain ⟨m, m1, m2, m3⟩ := hs j hj hb
      have eL : fL l j = nI (j + 1) := by unfold fL; rw [if_pos hb]
      rw [eL, if_neg (m1n (by omega)), if_neg no, if_neg (m1n (by omega)), if_neg no, nI_cl (by omega), if_neg (by rw [nI_o (show j + 1 < 60 by omega) (by omega)]; exact id), D_X12_reckons_98_a_eq, c6, if_neg no, f3, eL, if_neg (m1n (by omega)), if_neg no, if_neg (m1n (by omega)), if_neg no, f4, m1, nI_cl (show m < 2147483648 by omega), if_neg (by rw [nI_o (show m < 60 by omega) (by omega)]; exact id), j9]
      exact ⟨_, _, rfl, fun _ => ⟨rfl, rfl⟩⟩
  have e139 : ∀ x y, (isBn (l.getD j v0) = true → x = w (fL l j).toNatClampNeg ∧ y = w (fR l j).toNatClampNeg) → ∃ a b c e, D_X12_reckons_139_a xs xl (d + 1) (nI j) (nI (60 + j)) K x a4 y N = D_X12_reckons_7_a xs xl (d + 1) (nI j + -1) a b c e (rJ M 189 (uI w j (nvl l pr am w j))) := fun x y hxy => by
    rw [D_X12_reckons_139_a_eq]
    simp only [cj, c6, if_neg nj, if_neg no, dpw, f1, f2, jp, j8, up]
    unfold nvl
    rcases hk with k0 | k1 | ⟨k2, u, u8, hu⟩ | kb | ⟨k7, n1, n6⟩
    · have hb : ¬ isBn (l.getD j v0) = true := by unfold isBn; rw [k0]; decide
      rw [if_neg hb, hK, k0, if_pos rfl, if_neg (show ¬ (0 : Int32) = 1 by decide), if_neg (show ¬ (0 : Int32) = 2 by decide), if_neg (show ¬ (0 : Int32) = 7 by decide)]
      exact ⟨_, _, _, _, rfl⟩
    · have hb : ¬ isBn (l.getD j v0) = true := by unfold isBn; rw [k1]; decide
      rw [if_neg hb, hK, k1, if_neg (show ¬ (1 : Int32) = 0 by decide), if_pos rfl, if_pos rfl]
      exact ⟨_, _, _, _, rfl⟩
    · have hb : ¬ isBn (l.getD j v0) = true := by unfold isBn; rw [k2]; decide
      rw [if_neg hb, hK, k2, if_neg (show ¬ (2 : Int32) = 0 by decide), if_neg (show ¬ (2 : Int32) = 1 by decide), if_pos rfl, if_neg (show ¬ (2 : Int32) = 1 by decide), if_pos rfl, hu, nI_cl (by omega), if_neg (show ¬ (nI u < 0 ∨ 8 ≤ u) by rw [nI_o (show u < 8 by omega) (by omega)]; exact id), Int64.mul_comm]
      exact ⟨_, _, _, _, rfl⟩
    · have hb : isBn (l.getD j v0) = true := by unfold isBn; exact decide_eq_true kb
      obtain ⟨rfl, rfl⟩ := hxy hb
      rw [if_pos hb, hK]
      rcases kb with k | k | k | k
      · rw [k, if_neg (show ¬ (3 : Int32) = 0 by decide), if_neg (show ¬ (3 : Int32) = 1 by decide), if_neg (show ¬ (3 : Int32) = 2 by decide), if_pos rfl, if_pos rfl]
        exact ⟨_, _, _, _, rfl⟩
      · rw [k, if_neg (show ¬ (4 : Int32) = 0 by decide), if_neg (show ¬ (4 : Int32) = 1 by decide), if_neg (show ¬ (4 : Int32) = 2 by decide), if_neg (show ¬ (4 : Int32) = 3 by decide), if_pos rfl, if_neg (show ¬ (4 : Int32) = 3 by decide), if_pos rfl]
        exact ⟨_, _, _, _, rfl⟩
      · rw [k, if_neg (show ¬ (5 : Int32) = 0 by decide), if_neg (show ¬ (5 : Int32) = 1 by decide), if_neg (show ¬ (5 : Int32) = 2 by decide), if_neg (show ¬ (5 : Int32) = 3 by decide), if_neg (show ¬ (5 : Int32) = 4 by decide), if_pos rfl, if_pos rfl, if_neg (show ¬ (5 : Int32) = 3 by decide), if_neg (show ¬ (5 : Int32) = 4 by decide), if_pos rfl, D_X12_reckons_308_eq]
        simp only [cj, if_neg nj, dpw, up]
        by_cases ge : w (fR l j).toNatClampNeg ≤ w (fL l j).toNatClampNeg
        · rw [if_pos (by rw [lg_cmp_ge]; exact ge), if_neg (by decide)]
          by_cases lt : w (fR l j).toNatClampNeg < w (fL l j).toNatClampNeg
          · rw [if_pos lt]; exact ⟨_, _, _, _, rfl⟩
          · rw [if_neg lt, Int64.le_antisymm (Int64.not_lt.mp lt) ge]; exact ⟨_, _, _, _, rfl⟩
        · rw [if_neg (by rw [lg_cmp_ge]; exact ge), if_pos trivial, if_neg (fun lt => ge (Int64.le_of_lt lt))]; exact ⟨_, _, _, _, rfl⟩
      · rw [k, if_neg (show ¬ (6 : Int32) = 0 by decide), if_neg (show ¬ (6 : Int32) = 1 by decide), if_neg (show ¬ (6 : Int32) = 2 by decide), if_neg (show ¬ (6 : Int32) = 3 by decide), if_neg (show ¬ (6 : Int32) = 4 by decide), if_neg (show ¬ (6 : Int32) = 5 by decide), if_pos rfl, if_neg (show ¬ (6 : Int32) = 5 by decide), if_neg (show ¬ (6 : Int32) = 3 by decide), if_neg (show ¬ (6 : Int32) = 4 by decide), if_neg (show ¬ (6 : Int32) = 5 by decide), D_X12_reckons_308_eq]
        simp only [cj, if_neg nj, dpw, up]
        by_cases ge : w (fR l j).toNatClampNeg ≤ w (fL l j).toNatClampNeg
        · rw [if_pos (by rw [lg_cmp_ge]; exact ge), if_pos trivial]
          by_cases lt : w (fR l j).toNatClampNeg < w (fL l j).toNatClampNeg
          · rw [if_pos lt]; exact ⟨_, _, _, _, rfl⟩
          · rw [if_neg lt, Int64.le_antisymm (Int64.not_lt.mp lt) ge]; exact ⟨_, _, _, _, rfl⟩
        · rw [if_neg (by rw [lg_cmp_ge]; exact ge), if_neg (by decide), if_neg (fun lt => ge (Int64.le_of_lt lt))]; exact ⟨_, _, _, _, rfl⟩
    · have hb : ¬ isBn (l.getD j v0) = true := by unfold isBn; rw [k7]; decide
      rw [if_neg hb, hK, k7, if_neg (show ¬ (7 : Int32) = 0 by decide), if_neg (show ¬ (7 : Int32) = 1 by decide), if_neg (show ¬ (7 : Int32) = 2 by decide), if_neg (show ¬ (7 : Int32) = 3 by decide), if_neg (show ¬ (7 : Int32) = 4 by decide), if_neg (show ¬ (7 : Int32) = 5 by decide), if_neg (show ¬ (7 : Int32) = 6 by decide), if_pos rfl, if_neg (show ¬ (7 : Int32) = 1 by decide), if_neg (show ¬ (7 : Int32) = 2 by decide), if_pos rfl, sc ⟨n1, n6⟩, rb_bl, up]
      exact ⟨_, _, _, _, rfl⟩
  have e7 : D_X12_reckons_7_a xs xl (d + 1) (nI j) a1 a2 a3 a4 N = if K = 2 then (if (dp_I N 176 (60 + j)) < 0 ∨ 8 ≤ Int32.toNatClampNeg (dp_I N 176 (60 + j)) then none else (if (lg_cmp (dp_J N 188 (Int32.toNatClampNeg (dp_I N 176 (60 + j)))) (-1 : Int64)) = 0 then (some (.inl (some (.long (-1 : Int64))), N)) else (D_X12_reckons_59_a xs xl (d + 1) (nI j) (nI (60 + j)) K a3 a4 N))) else D_X12_reckons_59_a xs xl (d + 1) (nI j) (nI (60 + j)) K a3 a4 N := by
    rw [D_X12_reckons_7_a_eq, if_neg (r_nn (by omega)), dpw, ix, c6, if_neg no, dpw, f0]
    by_cases k2 : K = 2
    · rw [if_pos k2, if_pos k2, if_neg no, if_pos k2]
    · rw [if_neg k2, if_neg k2]
  obtain ⟨x, y, g1, g2⟩ := e59
  constructor
  · intro ⟨q1, q2⟩
    rcases hk with k0 | k1 | ⟨k2, u, u8, hu⟩ | kb | ⟨k7, n1, n6⟩
    · rw [k0] at q1; exact absurd q1 (by decide)
    · rw [k1] at q1; exact absurd q1 (by decide)
    · rw [hu, nI_cl (by omega)] at q2
      rw [e7, if_pos (hK.trans q1), f2, hu, nI_cl (by omega), if_neg (show ¬ (nI u < 0 ∨ 8 ≤ u) by rw [nI_o (show u < 8 by omega) (by omega)]; exact id), j8, q2, if_pos (by rw [lg_cmp_eq])]
    · rw [q1] at kb; exact absurd kb (by decide)
    · rw [k7] at q1; exact absurd q1 (by decide)
  · intro nl
    rw [e7]
    by_cases k2 : K = 2
    · have hu' : ∃ u, u < 8 ∧ (l.getD j v0).2.2.1 = nI u := by
        rcases hk with k0 | k1 | ⟨-, hu⟩ | kb | ⟨k7, n1, n6⟩
        · rw [hK, k0] at k2; exact absurd k2 (by decide)
        · rw [hK, k1] at k2; exact absurd k2 (by decide)
        · exact hu
        · rw [hK] at k2; rw [k2] at kb; exact absurd kb (by decide)
        · rw [hK, k7] at k2; exact absurd k2 (by decide)
      obtain ⟨u, u8, hu⟩ := hu'
      have nl' : ¬ am u = -1 := fun e => nl ⟨hK.symm.trans k2, by rw [hu, nI_cl (by omega)]; exact e⟩
      rw [if_pos k2, f2, hu, nI_cl (by omega), if_neg (show ¬ (nI u < 0 ∨ 8 ≤ u) by rw [nI_o (show u < 8 by omega) (by omega)]; exact id), j8, if_neg (by rw [lg_cmp_eq]; exact nl'), g1]
      exact e139 x y g2
    · rw [if_neg k2, g1]
      exact e139 x y g2
end Rp
