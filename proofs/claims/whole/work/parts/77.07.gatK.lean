-- needs: 75 76
/-! GATE: the slots of a box -/
def slp (own : Int32) (vd cn : Nat → Int32) (x k : Nat) : Bool := if k = 0 then decide (¬ own = 0) else if (k - 1) % 11 = 10 then decide (¬ vd ((k - 1) / 11) = 0) else decide (0 < cn (x * 40 + ((k - 1) / 11 * 10 + (k - 1) % 11)))
def slw (own : Int32) (vd : Nat → Int32) (k : Nat) : Int32 := if k = 0 then own else if (k - 1) % 11 = 10 then 100 + 100 * nI ((k - 1) / 11) + vd ((k - 1) / 11) else 100 + 100 * nI ((k - 1) / 11) + nI ((k - 1) % 11)
def vnz (vd : Nat → Int32) (s : Nat) : Bool := decide (¬ vd s = 0)
theorem vnz_t {vd : Nat → Int32} {s : Nat} : vnz vd s = true ↔ ¬ vd s = 0 := decide_eq_true_iff
theorem ct_app {p : Nat → Bool} {a : Nat} : ∀ b, ct p (a + b) = ct p a + ct (fun i => p (a + i)) b
  | 0 => rfl
  | b + 1 => by rw [← Nat.add_assoc, ct, ct_app b, ct, Nat.add_assoc]
theorem slp_k {own : Int32} {vd cn : Nat → Int32} {x s i : Nat} (hi : i < 10) : slp own vd cn x (1 + s * 11 + i) = brf cn x (s * 10 + i) := by
  unfold slp brf
  rw [if_neg (by omega), if_neg (by omega), show (1 + s * 11 + i - 1) / 11 = s by omega, show (1 + s * 11 + i - 1) % 11 = i by omega]
theorem slp_r {own : Int32} {vd cn : Nat → Int32} {x s : Nat} : slp own vd cn x (1 + s * 11 + 10) = vnz vd s := by
  unfold slp vnz
  rw [if_neg (by omega), if_pos (by omega), show (1 + s * 11 + 10 - 1) / 11 = s by omega]
theorem ct_slp {own : Int32} {vd cn : Nat → Int32} {x : Nat} : ∀ m, ct (slp own vd cn x) (1 + m * 11) = (if own = 0 then 0 else 1) + ct (brf cn x) (m * 10) + ct (vnz vd) m
  | 0 => by
    show ct (slp own vd cn x) 1 = _
    rw [ct, ct]
    unfold slp
    by_cases z : own = 0
    · simp [z, ct]
    · simp [z, ct]
  | m + 1 => by
    have e1 : ct (slp own vd cn x) (1 + (m + 1) * 11) = ct (slp own vd cn x) (1 + m * 11) + ct (fun i => slp own vd cn x (1 + m * 11 + i)) 11 := by
      rw [show 1 + (m + 1) * 11 = (1 + m * 11) + 11 by omega, ct_app]
    have e2 : ct (fun i => slp own vd cn x (1 + m * 11 + i)) 11 = ct (fun i => brf cn x (m * 10 + i)) 10 + (if vnz vd m then 1 else 0) := by
      rw [ct, ct_c (q := fun i => brf cn x (m * 10 + i)) (fun i hi => slp_k hi), slp_r]
    have e3 : ct (brf cn x) ((m + 1) * 10) = ct (brf cn x) (m * 10) + ct (fun i => brf cn x (m * 10 + i)) 10 := by
      rw [show (m + 1) * 10 = m * 10 + 10 by omega, ct_app]
    have e4 : ct (vnz vd) (m + 1) = ct (vnz vd) m + (if vnz vd m then 1 else 0) := rfl
    rw [e1, e2, e3, e4, ct_slp m]
    omega
/-- those of a group, before a box -/
def ttb (G : Nat → Bool) (nb : Nat → Nat) : Nat → Nat
  | 0 => 0
  | i + 1 => ttb G nb i + (if G i = true then nb i else 0)
theorem ttb_m {G : Nat → Bool} {nb : Nat → Nat} {a : Nat} : ∀ n, a ≤ n → ttb G nb a ≤ ttb G nb n
  | 0, h => by rw [show a = 0 by omega]; exact Nat.le_refl _
  | n + 1, h => by
    by_cases e : a = n + 1
    · rw [e]; exact Nat.le_refl _
    · have := ttb_m (G := G) (nb := nb) n (show a ≤ n by omega)
      rw [ttb]; omega
theorem ttb_f {G : Nat → Bool} {nb : Nat → Nat} {j : Nat} : ∀ n, j < ttb G nb n → ∃ b, b < n ∧ G b = true ∧ ttb G nb b ≤ j ∧ j < ttb G nb b + nb b
  | 0, h => by rw [ttb] at h; omega
  | n + 1, h => by
    by_cases z : j < ttb G nb n
    · obtain ⟨b, b1, b2⟩ := ttb_f n z
      exact ⟨b, by omega, b2⟩
    · rw [ttb] at h
      by_cases y : G n = true
      · rw [if_pos y] at h; exact ⟨n, by omega, y, by omega, h⟩
      · rw [if_neg y] at h; omega
section GH
variable {xs : Nat → Int32} {xl d : Nat} {M : dp_M}
def ownF (M : dp_M) (K D x : Nat) : Int32 := obv (dp_I M 147) (dp_I M 233) (dp_I M 241) D K x
def vdF (M : dp_M) (K x s : Nat) : Int32 := vdv (dp_I M 38) (dp_I M 39) (dp_I M 5) (mny (dp_I M 147) K x) s x
def sp (M : dp_M) (K D x : Nat) : Nat → Bool := slp (ownF M K D x) (vdF M K x) (dp_I M 48) x
def sw (M : dp_M) (K D x : Nat) : Nat → Int32 := slw (ownF M K D x) (vdF M K x)
def nbF (M : dp_M) (K D x : Nat) : Nat := ct (sp M K D x) 45
theorem nbF_e (M : dp_M) (K D x : Nat) : nbF M K D x = (if ownF M K D x = 0 then 0 else 1) + ct (brf (dp_I M 48) x) 40 + ct (vnz (vdF M K x)) 4 := ct_slp 4
/-- the goods, their numbers given -/
def GGk (M : dp_M) (n K D : Nat) : Prop := K ≤ 300 ∧ D ≤ 400 ∧ dp_I M 114 44 = nI K ∧ dp_I M 114 160 = nI D ∧ ∀ x, x < 100 → dp_I M 42 x = nI (mny (dp_I M 147) K x) ∧ dp_I M 45 x = nI (mnf (dp_I M 147) (dp_I M 233) (dp_I M 241) D K x)
theorem GGd.k {n : Nat} (h : GGd M n) : ∃ K D, GGk M n K D := by
  obtain ⟨K, D, hK, hD, g1, g2, g3, g4, g5, -⟩ := h
  exact ⟨K, D, hK, hD, g2, g3, fun x hx => ⟨(g5 x hx).1, (g5 x hx).2.2⟩⟩
theorem gc_own2 {n K D x : Nat} (h : GGk M n K D) (hx : x < 100) : dp_den true xs xl (d + 1) 37 [.ref 37, .int (nI x)] M = iR (ownF M K D x) M := by
  obtain ⟨hK, hD, g2, g3, g5⟩ := h
  obtain ⟨q1, q3⟩ := g5 x hx
  have l1 : mny (dp_I M 147) K x ≤ K := ct_le _ _
  have l2 : mnf (dp_I M 147) (dp_I M 233) (dp_I M 241) D K x ≤ K := ct_le _ _
  rw [D_X1_ownBar_0_den, D_X1_ownBar_0_eq]
  simp only [nI_cl (show x < 2147483648 by omega), nI_o hx (by omega), if_false, q1, q3]
  unfold ownF obv
  by_cases z : mny (dp_I M 147) K x = 0
  · rw [if_pos (show nI (mny (dp_I M 147) K x) = 0 by rw [z]; rfl), if_pos z]
  · rw [if_neg (nI_n0 (by omega) z), if_neg z]
    by_cases y : mny (dp_I M 147) K x ≤ mnf (dp_I M 147) (dp_I M 233) (dp_I M 241) D K x
    · rw [if_pos (nI_lle y (by omega)), if_pos y]
    · rw [if_neg (nI_nge (by omega) (by omega)), if_neg y]
theorem gc_vd2 {n K D s x : Nat} (h : GGk M n K D) (hs : s < 4) (hx : x < 100) : dp_den true xs xl (d + 2) 38 [.ref 37, .int (nI s), .int (nI x)] M = iR (vdF M K x s) M := by
  obtain ⟨hK, hD, g2, g3, g5⟩ := h
  have l1 : mny (dp_I M 147) K x ≤ K := ct_le _ _
  rw [D_X1_verdict_0_den, D_X1_verdict_0_eq]
  simp only [nI_cl (show s < 2147483648 by omega), nI_o hs (by omega), if_false, gc_kg hx, rb_bi, nI_cl (show x < 2147483648 by omega), nI_o hx (by omega), (g5 x hx).1]
  unfold vdF vdv
  by_cases z1 : dp_I M 38 s = 1
  · rw [if_pos z1, if_pos z1]; split <;> rfl
  rw [if_neg z1, if_neg z1]
  by_cases z2 : dp_I M 38 s = 2
  · rw [if_pos z2, if_pos z2]; split <;> rfl
  rw [if_neg z2, if_neg z2]
  by_cases z3 : dp_I M 38 s = 3
  · rw [if_pos z3, if_pos z3]
    by_cases y : mny (dp_I M 147) K x = 0
    · rw [if_pos y, if_pos (show nI (mny (dp_I M 147) K x) ≤ 0 by rw [y]; decide)]
    · rw [if_neg y, if_neg (show ¬ nI (mny (dp_I M 147) K x) ≤ (0 : Int32) from nI_nge (i := 0) (n := mny (dp_I M 147) K x) (by omega) (by omega))]
  rw [if_neg z3, if_neg z3]
  split <;> rfl
theorem gc_barsOf {n K D x : Nat} (h : GGk M n K D) (hx : x < 100) : dp_den true xs xl (d + 3) 42 [.ref 37, .int (nI x)] M = iR (nI (nbF M K D x)) M := by
  have main : ∀ a : Nat, a = (if ownF M K D x = 0 then 0 else 1) + ct (brf (dp_I M 48) x) 40 → D_X1_barsOf_22 xs xl (d + 2) (nI x) (nI a) 0 M = iR (nI (nbF M K D x)) M := fun a ha => by
    refine lpb (F := fun (b : Nat) i => D_X1_barsOf_22 xs xl (d + 2) (nI x) (nI b) (nI i) M) (s := fun i => a + ct (vnz (vdF M K x)) i) (N := 4) ?_ (fun i hi hr => ?_)
    · (try dsimp only)
      rw [D_X1_barsOf_22_eq, if_pos (by decide), nbF_e, ha]
    · (try dsimp only at hr); (try dsimp only)
      rw [ct] at hr
      rw [D_X1_barsOf_22_eq, if_neg (show ¬ (4 : Int32) ≤ nI (i) from nI_ge (a := i) (b := 4) (by omega) (by omega)), gc_vd2 h hi hx, rb_bi]
      simp only [dp_w, nI_1, Int32.add_zero]
      by_cases z : vdF M K x i = 0
      · rw [if_neg (fun q => vnz_t.mp q z)] at hr
        rw [if_pos z]; exact hr
      · rw [if_pos (vnz_t.mpr z)] at hr
        rw [if_neg z]; exact hr
  rw [D_X1_barsOf_0_den, D_X1_barsOf_0_eq, gc_obs hx, rb_bi, gc_own2 h hx, rb_bi]
  simp only [dp_w, nI_1, Int32.add_zero]
  by_cases z : ownF M K D x = 0
  · rw [if_pos z]; exact main _ (by rw [if_pos z]; omega)
  · rw [if_neg z]; exact main _ (by rw [if_neg z]; omega)
theorem gc_in {n K D s k x : Nat} (h : GGk M n K D) (hs : s < 4) (hk : k < 11) (hx : x < 100) : dp_den true xs xl (d + 3) 44 [.ref 37, .int (nI x), .int (nI s), .int (nI k)] M = iR (if sp M K D x (1 + s * 11 + k) = true then sw M K D x (1 + s * 11 + k) else -1) M := by
  have es : sw M K D x (1 + s * 11 + k) = if k = 10 then 100 + 100 * nI s + vdF M K x s else 100 + 100 * nI s + nI k := by
    unfold sw slw
    rw [if_neg (by omega), show (1 + s * 11 + k - 1) / 11 = s by omega, show (1 + s * 11 + k - 1) % 11 = k by omega]
  rw [D_X1_barIn_0_den, D_X1_barIn_0_eq, es]
  by_cases z : k = 10
  · subst z
    have ep : sp M K D x (1 + s * 11 + 10) = vnz (vdF M K x) s := slp_r
    rw [if_pos (by decide), if_pos rfl, ep]
    simp only [dp_w]
    rw [if_pos trivial, gc_vd2 h hs hx, rb_bi, D_X1_barIn_28_eq, if_pos rfl]
    by_cases y : vdF M K x s = 0
    · rw [if_pos y, if_neg (fun q => vnz_t.mp q y)]
      simp only [dp_w]
      rw [if_pos trivial]
    · rw [if_neg y, if_pos (vnz_t.mpr y)]
      simp only [dp_w]
      rw [if_neg one_ne]
  · have ep : sp M K D x (1 + s * 11 + k) = brf (dp_I M 48) x (s * 10 + k) := slp_k (by omega)
    rw [if_neg (show ¬ (10 : Int32) ≤ nI (k) from nI_ge (a := k) (b := 10) (by omega) (by omega)), if_neg z, ep]
    simp only [dp_w]
    rw [if_neg one_ne, D_X1_barIn_28_eq, if_neg one_ne, gc_cell, rb_bi]
    simp only [nI_cl (show x * 40 + (s * 10 + k) < 2147483648 by omega), nI_o (show x * 40 + (s * 10 + k) < 4000 by omega) (by omega), if_false, dp_w]
    by_cases y : dp_I M 48 (x * 40 + (s * 10 + k)) ≤ 0
    · rw [if_pos y, if_neg (fun q => Int32.not_lt.mpr y (brf_t.mp q)), if_pos trivial]
    · rw [if_neg y, if_pos (brf_t.mpr (Int32.not_le.mp y)), if_neg one_ne]
/-- the bar at a slot, reached with as many left as are before it -/
theorem sub_j {j a : Nat} (h : a + 1 ≤ j) : nI (j - a) - 1 = nI (j - (a + 1)) := by
  obtain ⟨k, hk⟩ : ∃ k, j - a = k + 1 := ⟨j - a - 1, by omega⟩
  rw [hk, nI_pred]; congr 1; omega
theorem sw_ne {K D x k : Nat} (hk : k < 45) (h0 : k ≠ 0) : ¬ sw M K D x k = -1 := by
  unfold sw slw
  rw [if_neg h0]
  have hs : (k - 1) / 11 < 4 := by omega
  have e : ∀ s, s < 4 → ∀ v : Int32, (v = 0 ∨ v = 13 ∨ v = 14 ∨ ∃ q, q < 11 ∧ v = nI q) → ¬ (100 + 100 * nI s + v = (-1 : Int32)) := by
    intro s hs v hv
    have : ∀ s, s < 4 → ∀ q, q < 15 → ¬ (100 + 100 * nI s + nI q = (-1 : Int32)) := by decide
    rcases hv with q | q | q | ⟨q, q1, q2⟩
    · rw [q]; exact this s hs 0 (by omega)
    · rw [q]; exact this s hs 13 (by omega)
    · rw [q]; exact this s hs 14 (by omega)
    · rw [q2]; exact this s hs q (by omega)
  have hv : vdF M K x ((k - 1) / 11) = 0 ∨ vdF M K x ((k - 1) / 11) = 13 ∨ vdF M K x ((k - 1) / 11) = 14 := by
    unfold vdF vdv
    split
    · split <;> simp
    split
    · split <;> simp
    split
    · split <;> simp
    split <;> simp
  split
  · exact e _ hs _ (hv.imp id (fun q => q.imp id (fun q => Or.inl q)))
  · exact e _ hs _ (Or.inr (Or.inr (Or.inr ⟨_, Nat.mod_lt _ (by omega), rfl⟩)))
theorem gc_barOf {n K D j k x : Nat} (h : GGk M n K D) (hx : x < 100) (hj : j < 100) (hk : k < 45) (h1 : sp M K D x k = true) (h2 : ct (sp M K D x) k = j) : dp_den true xs xl (d + 4) 43 [.ref 37, .int (nI x), .int (nI j)] M = iR (sw M K D x k) M := by
  have e0 : sp M K D x 0 = decide (¬ ownF M K D x = 0) := rfl
  have c1 : ct (sp M K D x) 1 = if ownF M K D x = 0 then 0 else 1 := by
    rw [ct, ct, e0]
    by_cases z : ownF M K D x = 0 <;> simp [z]
  -- the loop over the slots
  have loop : 1 ≤ k → D_X1_barOf_26 xs xl (d + 3) (nI x) (nI j) (nI (j - ct (sp M K D x) 1)) 0 M = iR (sw M K D x k) M := fun k1 => by
    have st35 : ∀ s q r, s < 4 → q < 11 → 1 + s * 11 + q ≤ k → (1 + s * 11 + q = k → r = (.inl (some (.int (sw M K D x k))), M)) → (1 + s * 11 + q < k → D_X1_barOf_35 xs xl (d + 3) (nI x) (nI j) (nI (j - ct (sp M K D x) (1 + s * 11 + (q + 1)))) (nI s) (nI (q + 1)) M = some r) → D_X1_barOf_35 xs xl (d + 3) (nI x) (nI j) (nI (j - ct (sp M K D x) (1 + s * 11 + q))) (nI s) (nI q) M = some r := fun s q r hs hq hle he hn => by
      have hm := ctm (p := sp M K D x) k hle
      rw [D_X1_barOf_35_eq, if_neg (show ¬ (10 : Int32) < nI (q) from nI_nlt (a := 10) (b := q) (by omega) (by omega)), gc_in h hs hq hx, rb_bi]
      by_cases zk : 1 + s * 11 + q = k
      · rw [zk, if_pos h1, if_neg (sw_ne hk (by omega)), h2, Nat.sub_self, if_pos (by rfl), he zk]
      · have hn' := hn (by omega)
        have hc : ct (sp M K D x) (1 + s * 11 + (q + 1)) = ct (sp M K D x) (1 + s * 11 + q) + (if sp M K D x (1 + s * 11 + q) = true then 1 else 0) := rfl
        have hm2 := ctm (p := sp M K D x) k (show 1 + s * 11 + q + 1 ≤ k by omega)
        by_cases zp : sp M K D x (1 + s * 11 + q) = true
        · rw [if_pos zp] at hc
          rw [if_pos zp, if_neg (sw_ne (by omega) (by omega)), if_neg (nI_n0 (by omega) (by
            have : ct (sp M K D x) (1 + s * 11 + q + 1) = ct (sp M K D x) (1 + s * 11 + q) + 1 := hc
            omega)), D_X1_barOf_66_eq, if_neg (sw_ne (by omega) (by omega))]
          simp only [dp_w, nI_1]
          apply D_X1_barOf_35_to_35_a
          rw [sub_j (by
            have : ct (sp M K D x) (1 + s * 11 + q + 1) = ct (sp M K D x) (1 + s * 11 + q) + 1 := hc
            omega)]
          rw [hc] at hn'
          exact hn'
        · rw [if_neg zp] at hc
          rw [if_neg zp, if_pos rfl, D_X1_barOf_66_eq, if_pos rfl]
          simp only [dp_w, nI_1, Int32.sub_zero]
          apply D_X1_barOf_35_to_35_a
          rw [hc] at hn'
          exact hn'
    -- one source
    have st26 : ∀ s r, s < 4 → 1 + s * 11 ≤ k → ((k < 1 + s * 11 + 11) → r = (.inl (some (.int (sw M K D x k))), M)) → (1 + s * 11 + 11 ≤ k → D_X1_barOf_26 xs xl (d + 3) (nI x) (nI j) (nI (j - ct (sp M K D x) (1 + s * 11 + 11))) (nI (s + 1)) M = some r) → D_X1_barOf_26 xs xl (d + 3) (nI x) (nI j) (nI (j - ct (sp M K D x) (1 + s * 11))) (nI s) M = some r := fun s r hs hle he hn => by
      rw [D_X1_barOf_26_eq, if_neg (show ¬ (4 : Int32) ≤ nI (s) from nI_ge (a := s) (b := 4) (by omega) (by omega))]
      simp only [dp_w]
      have go : ∀ m q, q + m = 11 → 1 + s * 11 + q ≤ k → D_X1_barOf_35 xs xl (d + 3) (nI x) (nI j) (nI (j - ct (sp M K D x) (1 + s * 11 + q))) (nI s) (nI q) M = some r := by
        intro m
        induction m with
        | zero =>
          intro q hq hqk
          have : q = 11 := by omega
          subst this
          rw [D_X1_barOf_35_eq, if_pos (by decide)]
          simp only [dp_w, nI_1]
          apply D_X1_barOf_26_to_26_a
          exact hn hqk
        | succ m ih =>
          intro q hq hqk
          refine st35 s q r hs (by omega) hqk (fun e => he (by omega)) (fun e => ih (q + 1) (by omega) (by omega))
      exact go 11 0 (by omega) (by omega)
    have all : ∀ m s, s + m = 4 → 1 + s * 11 ≤ k → D_X1_barOf_26 xs xl (d + 3) (nI x) (nI j) (nI (j - ct (sp M K D x) (1 + s * 11))) (nI s) M = iR (sw M K D x k) M := by
      intro m
      induction m with
      | zero => intro s hs hle; omega
      | succ m ih =>
        intro s hs hle
        refine st26 s _ (by omega) hle (fun _ => rfl) (fun e => ?_)
        rw [show 1 + s * 11 + 11 = 1 + (s + 1) * 11 by omega]
        exact ih (s + 1) (by omega) (by omega)
    exact all 4 0 (by omega) (by omega)
  rw [D_X1_barOf_0_den, D_X1_barOf_0_eq, gc_own2 h hx, rb_bi]
  by_cases z : ownF M K D x = 0
  · rw [if_pos z]
    simp only [dp_w]
    have k0 : 1 ≤ k := Nat.pos_of_ne_zero (fun q => by subst q; rw [e0, decide_eq_true_eq] at h1; exact h1 z)
    have := loop k0
    rw [c1, if_pos z, Nat.sub_zero] at this
    exact this
  · rw [if_neg z]
    by_cases y : j = 0
    · subst y
      have k0 : k = 0 := Classical.byContradiction (fun q => by
        have := ctm (p := sp M K D x) k (show 1 ≤ k by omega)
        rw [c1, if_neg z] at this; omega)
      subst k0
      rw [if_pos (by rfl), gc_own2 h hx, rb_bi]; rfl
    · rw [if_neg (nI_n0 (by omega) y)]
      simp only [dp_w]
      have k0 : 1 ≤ k := Nat.pos_of_ne_zero (fun q => by subst q; rw [ct] at h2; omega)
      have := loop k0
      rw [c1, if_neg z] at this
      have e1 : nI j + (-1 : Int32) = nI (j - 1) := by
        obtain ⟨q, hq⟩ : ∃ q, j = q + 1 := ⟨j - 1, by omega⟩
        rw [hq, ← Int32.sub_eq_add_neg, nI_pred, Nat.add_sub_cancel]
      rw [e1]; exact this
end GH
