-- needs: 75
/-! YARD: the best row -/
def isB (ok : Nat → Bool) (sc : Nat → Int32) (a b r : Nat) : Prop := a ≤ r ∧ r < b ∧ ok r = true ∧ ∀ k, a ≤ k → k < b → ok k = true → sc k ≤ sc r ∧ (k < r → sc k < sc r)
def bsV (ok : Nat → Bool) (sc : Nat → Int32) (a b : Nat) (v : Int32) : Prop := (v = -1 ∧ ∀ k, a ≤ k → k < b → ok k = false) ∨ ∃ r, v = nI r ∧ isB ok sc a b r
theorem bsV_u {ok : Nat → Bool} {sc : Nat → Int32} {a b : Nat} {v v' : Int32} (h : bsV ok sc a b v) (h' : bsV ok sc a b v') : v = v' := by
  rcases h with ⟨h1, h2⟩ | ⟨r, h1, r1, r2, r3, r4⟩
  · rcases h' with ⟨k1, k2⟩ | ⟨s, k1, s1, s2, s3, s4⟩
    · rw [h1, k1]
    · rw [h2 s s1 s2] at s3; cases s3
  · rcases h' with ⟨k1, k2⟩ | ⟨s, k1, s1, s2, s3, s4⟩
    · rw [k2 r r1 r2] at r3; cases r3
    · have e : r = s := by
        obtain ⟨p1, p2⟩ := r4 s s1 s2 s3
        obtain ⟨q1, q2⟩ := s4 r r1 r2 r3
        by_cases z : r < s
        · exact absurd p1 (Int32.not_le.mpr (q2 z))
        · by_cases y : s < r
          · exact absurd q1 (Int32.not_le.mpr (p2 y))
          · omega
      rw [h1, k1, e]
theorem bsV_up {ok : Nat → Bool} {sc : Nat → Int32} {i : Nat} {v : Int32} (hi : i < 2147483648) (h : bsV ok sc 0 i v) : bsV ok sc 0 (i + 1) (if ok i = true then (if v = -1 then nI i else if sc i ≤ sc v.toNatClampNeg then v else nI i) else v) := by
  by_cases z : ok i = true
  · rw [if_pos z]
    rcases h with ⟨h1, h2⟩ | ⟨r, h1, r1, r2, r3, r4⟩
    · rw [if_pos h1]
      refine Or.inr ⟨i, rfl, by omega, by omega, z, fun k _ k2 k3 => ?_⟩
      by_cases e : k = i
      · subst e; exact ⟨Int32.le_refl _, fun q => by omega⟩
      · rw [h2 k (by omega) (by omega)] at k3; cases k3
    · rw [if_neg (by rw [h1]; exact m1_ne (by omega)), h1, nI_cl (by omega)]
      by_cases y : sc i ≤ sc r
      · rw [if_pos y]
        refine Or.inr ⟨r, rfl, r1, by omega, r3, fun k _ k2 k3 => ?_⟩
        by_cases e : k = i
        · subst e; exact ⟨y, fun q => by omega⟩
        · exact r4 k (by omega) (by omega) k3
      · rw [if_neg y]
        refine Or.inr ⟨i, rfl, by omega, by omega, z, fun k _ k2 k3 => ?_⟩
        by_cases e : k = i
        · subst e; exact ⟨Int32.le_refl _, fun q => by omega⟩
        · have := (r4 k (by omega) (by omega) k3).1
          have lt := Int32.lt_of_le_of_lt this (Int32.not_le.mp y)
          exact ⟨Int32.le_of_lt lt, fun _ => lt⟩
  · rw [if_neg z]
    rcases h with ⟨h1, h2⟩ | ⟨r, h1, r1, r2, r3, r4⟩
    · refine Or.inl ⟨h1, fun k _ k2 => ?_⟩
      by_cases e : k = i
      · subst e; exact Bool.eq_false_iff.mpr z
      · exact h2 k (by omega) (by omega)
    · refine Or.inr ⟨r, h1, r1, by omega, r3, fun k _ k2 k3 => ?_⟩
      by_cases e : k = i
      · subst e; exact absurd k3 z
      · exact r4 k (by omega) (by omega) k3
theorem bsV_dn {ok : Nat → Bool} {sc : Nat → Int32} {i b : Nat} {v : Int32} (hi : i < b) (hb : b < 2147483648) (h : bsV ok sc (i + 1) b v) : bsV ok sc i b (if ok i = true then (if v < 0 then nI i else if sc i < sc v.toNatClampNeg then v else nI i) else v) := by
  by_cases z : ok i = true
  · rw [if_pos z]
    rcases h with ⟨h1, h2⟩ | ⟨r, h1, r1, r2, r3, r4⟩
    · rw [if_pos (by rw [h1]; decide)]
      refine Or.inr ⟨i, rfl, by omega, by omega, z, fun k k1 k2 k3 => ?_⟩
      by_cases e : k = i
      · subst e; exact ⟨Int32.le_refl _, fun q => by omega⟩
      · rw [h2 k (by omega) (by omega)] at k3; cases k3
    · rw [if_neg (by rw [h1]; exact nI_pos (by omega)), h1, nI_cl (by omega)]
      by_cases y : sc i < sc r
      · rw [if_pos y]
        refine Or.inr ⟨r, rfl, by omega, r2, r3, fun k k1 k2 k3 => ?_⟩
        by_cases e : k = i
        · subst e; exact ⟨Int32.le_of_lt y, fun _ => y⟩
        · exact r4 k (by omega) (by omega) k3
      · rw [if_neg y]
        refine Or.inr ⟨i, rfl, by omega, by omega, z, fun k k1 k2 k3 => ?_⟩
        by_cases e : k = i
        · subst e; exact ⟨Int32.le_refl _, fun q => by omega⟩
        · have := (r4 k (by omega) (by omega) k3).1
          exact ⟨Int32.le_trans this (Int32.not_lt.mp y), fun q => by omega⟩
  · rw [if_neg z]
    rcases h with ⟨h1, h2⟩ | ⟨r, h1, r1, r2, r3, r4⟩
    · refine Or.inl ⟨h1, fun k k1 k2 => ?_⟩
      by_cases e : k = i
      · subst e; exact Bool.eq_false_iff.mpr z
      · exact h2 k (by omega) (by omega)
    · refine Or.inr ⟨r, h1, by omega, r2, r3, fun k k1 k2 k3 => ?_⟩
      by_cases e : k = i
      · subst e; exact absurd k3 z
      · exact r4 k (by omega) (by omega) k3
theorem bsV_ok {ok : Nat → Bool} {sc : Nat → Int32} {a b : Nat} {v : Int32} (h : bsV ok sc a b v) : v = -1 ∨ ∃ r, v = nI r ∧ a ≤ r ∧ r < b ∧ ok r = true := by
  rcases h with ⟨h1, -⟩ | ⟨r, h1, r1, r2, r3, -⟩
  · exact Or.inl h1
  · exact Or.inr ⟨r, h1, r1, r2, r3⟩
def ok1 (n H G : Nat) (R L wt sz sp kd gd rs : Nat → Int32) (x r : Nat) : Bool := decide (brk n H G R L wt sz sp kd gd rs x r = 0)
theorem ok1_t {n H G : Nat} {R L wt sz sp kd gd rs : Nat → Int32} {x r : Nat} : ok1 n H G R L wt sz sp kd gd rs x r = true ↔ brk n H G R L wt sz sp kd gd rs x r = 0 := decide_eq_true_iff
def ok2 (n H G : Nat) (R L wt sz sp kd gd rs lv : Nat → Int32) (x r : Nat) : Bool := decide (¬ R x = nI r ∧ brk n H G R L wt sz sp kd gd rs x r = 0 ∧ ct (sof R L lv (nI r) (nI (hR R n r)) x) n = 0)
theorem ok2_t {n H G : Nat} {R L wt sz sp kd gd rs lv : Nat → Int32} {x r : Nat} : ok2 n H G R L wt sz sp kd gd rs lv x r = true ↔ ¬ R x = nI r ∧ brk n H G R L wt sz sp kd gd rs x r = 0 ∧ ct (sof R L lv (nI r) (nI (hR R n r)) x) n = 0 := decide_eq_true_iff
theorem nI_n0 {k : Nat} (h : k < 2147483648) (h0 : ¬ k = 0) : ¬ nI k = 0 := fun e => h0 (by rw [show (0 : Int32) = nI 0 from rfl, nI_eq h (by omega)] at e; exact e)
section YE
variable {xs : Nat → Int32} {xl d : Nat} {C M : dp_M}
theorem yc_best {n W H G : Nat} {R L : Nat → Int32} {h : List (Nat × Int32)} {m : Int32} (y : CY C n W H G R L h m) (w : YW n W H R L) (hn : n ≤ 100) {x : Nat} (hx : x < n) (hW : W ≤ 20) (hH : H ≤ 8) (hG : G ≤ 400) (hwt : ∀ i, i < n → wi (dp_I C 5 i) 1 40) : ∃ v, dp_den true xs xl (d + 4) 242 [.ref 28, .int (nI x)] C = iR v C ∧ bsV (ok1 n H G R L (dp_I C 5) (dp_I C 4) (dp_I C 7) (dp_I C 3) (dp_I C 34) (dp_I C 35) x) (scr n R L (dp_I C 5) (dp_I C 6) (dp_I C 7) (dp_I C 35) x) 0 W v := by
  have y' := y
  obtain ⟨a1, -⟩ := y'
  have key := lpi (F := fun i (v : Int32) => D_X10_bestRow_4 xs xl (d + 3) (nI x) v (nI i) C) (a := 0) (N := W) (Inv := fun i v => bsV (ok1 n H G R L (dp_I C 5) (dp_I C 4) (dp_I C 7) (dp_I C 3) (dp_I C 34) (dp_I C 35) x) (scr n R L (dp_I C 5) (dp_I C 6) (dp_I C 7) (dp_I C 35) x) 0 i v) (Post := fun r => ∃ v, r = (.inl (some (.int v)), C) ∧ bsV (ok1 n H G R L (dp_I C 5) (dp_I C 4) (dp_I C 7) (dp_I C 3) (dp_I C 34) (dp_I C 35) x) (scr n R L (dp_I C 5) (dp_I C 6) (dp_I C 7) (dp_I C 35) x) 0 W v) (Nat.zero_le _) ?_ ?_ (-1) (Or.inl ⟨rfl, fun k _ q => by omega⟩)
  · obtain ⟨r, hr, v, e, hv⟩ := key
    refine ⟨v, ?_, hv⟩
    rw [D_X10_bestRow_0_den, D_X10_bestRow_0_eq]
    simp only [dp_w]
    rw [e] at hr
    exact hr
  · intro v hv
    refine ⟨_, ?_, v, rfl, hv⟩
    (try dsimp only)
    rw [D_X10_bestRow_4_eq, a1, if_pos (nI_lle (Nat.le_refl _) (by omega))]
  · intro i v _ hi hv
    refine ⟨_, bsV_up (by omega) hv, fun r hr => ?_⟩
    (try dsimp only at hr); (try dsimp only)
    rw [D_X10_bestRow_4_eq, a1, if_neg (nI_nge hi (by omega)), yc_brk y w hn hi hx hW hH hG, rb_bi]
    by_cases z : brk n H G R L (dp_I C 5) (dp_I C 4) (dp_I C 7) (dp_I C 3) (dp_I C 34) (dp_I C 35) x i = 0
    · rw [if_pos (ok1_t.mpr z)] at hr
      rw [if_pos z]
      by_cases u : v = -1
      · rw [if_pos u] at hr
        rw [if_pos u]
        simp only [dp_w, nI_1]; exact hr
      · rw [if_neg u] at hr
        rw [if_neg u]
        obtain ⟨s, e1, -, e2, e3⟩ := (bsV_ok hv).resolve_left u
        subst e1
        rw [nI_cl (by omega)] at hr
        rw [yc_scr y w hn hi hx hW hH hwt (brk_0 z).2, rb_bi, yc_scr y w hn (by omega) hx hW hH hwt (brk_0 (ok1_t.mp e3)).2, rb_bi]
        simp only [dp_w, nI_1]
        split at hr
        · rename_i q; rw [if_pos q]; exact hr
        · rename_i q; rw [if_neg q]; exact hr
    · rw [if_neg (fun q => z (ok1_t.mp q))] at hr
      rw [if_neg z]
      simp only [dp_w, nI_1]; exact hr
/-- loops that go down -/
theorem lpd {β : Type} {F : Nat → β → Option dp_Res} {Inv : Nat → β → Prop} {Post : dp_Res → Prop} {N : Nat} (he : ∀ s, Inv 0 s → ∃ r, F 0 s = some r ∧ Post r)
    (hs : ∀ i s, i < N → Inv (i + 1) s → ∃ s', Inv i s' ∧ ∀ r, F i s' = some r → F (i + 1) s = some r) : ∀ s, Inv N s → ∃ r, F N s = some r ∧ Post r := by
  have key : ∀ n, n ≤ N → ∀ s, Inv n s → ∃ r, F n s = some r ∧ Post r := by
    intro n
    induction n with
    | zero => intro _ s h; exact he s h
    | succ n ih =>
      intro hn s h
      obtain ⟨s', h1, h2⟩ := hs n s (by omega) h
      obtain ⟨r, h3, h4⟩ := ih (by omega) s' h1
      exact ⟨r, h2 r h3, h4⟩
  exact key N (Nat.le_refl _)
theorem nI_dn (a : Nat) : nI (a + 1) - 1 + (-1 : Int32) = nI a - 1 := by rw [nI_pred, Int32.sub_eq_add_neg]
theorem ym_best {n W H G : Nat} {R L : Nat → Int32} {h : List (Nat × Int32)} {m : Int32} (y : MY M n W H G R L h m) (w : YW n W H R L) (h3 : dp_I M 114 3 = nI n) (hn : n ≤ 100) {x : Nat} (hx : x < n) (hW : W ≤ 20) (hH : H ≤ 8) (hG : G ≤ 400) (hrs : ∀ r, r < W → qin (dp_I M 134 r) 10) (lvl : ∀ r, r < W → ∀ l, l < hR R n r → ∃ i, i < n ∧ R i = nI r ∧ L i = nI l) (hwt : ∀ i, i < n → wi (dp_I M 137 i) 1 40) : ∃ v, dp_den true xs xl (d + 4) 405 [.ref 114, .int (nI x)] M = iR v M ∧ bsV (ok1 n H G R L (dp_I M 137) (dp_I M 135) (dp_I M 139) (dp_I M 136) (dp_I M 133) (dp_I M 134) x) (scr n R L (dp_I M 137) (dp_I M 138) (dp_I M 139) (dp_I M 134) x) 0 W v := by
  have y' := y
  obtain ⟨a1, -⟩ := y'
  have key := lpd (F := fun i (v : Int32) => D_X12_bestRow_9 xs xl (d + 3) (nI x) v (nI i - 1) M) (N := W) (Inv := fun i v => bsV (ok1 n H G R L (dp_I M 137) (dp_I M 135) (dp_I M 139) (dp_I M 136) (dp_I M 133) (dp_I M 134) x) (scr n R L (dp_I M 137) (dp_I M 138) (dp_I M 139) (dp_I M 134) x) i W v) (Post := fun r => ∃ v, r = (.inl (some (.int v)), M) ∧ bsV (ok1 n H G R L (dp_I M 137) (dp_I M 135) (dp_I M 139) (dp_I M 136) (dp_I M 133) (dp_I M 134) x) (scr n R L (dp_I M 137) (dp_I M 138) (dp_I M 139) (dp_I M 134) x) 0 W v) ?_ ?_ (-1) (Or.inl ⟨rfl, fun k _ q => by omega⟩)
  · obtain ⟨r, hr, v, e, hv⟩ := key
    refine ⟨v, ?_, hv⟩
    rw [D_X12_bestRow_0_den, D_X12_bestRow_0_eq, a1]
    simp only [dp_w]
    rw [e] at hr
    exact hr
  · intro v hv
    refine ⟨_, ?_, v, rfl, hv⟩
    (try dsimp only)
    rw [D_X12_bestRow_9_eq, if_pos (by decide)]
  · intro i v hi hv
    refine ⟨_, bsV_dn hi (by omega) hv, fun r hr => ?_⟩
    (try dsimp only at hr); (try dsimp only)
    rw [D_X12_bestRow_9_eq, nI_dn, nI_pred, if_neg (nI_pos (by omega)), ym_brk y w h3 hn hi hx hW hH hG (hrs i hi) (lvl i hi), rb_bi]
    by_cases z : brk n H G R L (dp_I M 137) (dp_I M 135) (dp_I M 139) (dp_I M 136) (dp_I M 133) (dp_I M 134) x i = 0
    · rw [if_pos (ok1_t.mpr z)] at hr
      rw [if_pos z]
      by_cases u : v < 0
      · rw [if_pos u] at hr
        rw [if_pos u]
        simp only [dp_w]; exact hr
      · rw [if_neg u] at hr
        rw [if_neg u]
        obtain ⟨s, e1, -, e2, e3⟩ := (bsV_ok hv).resolve_left (fun q => u (by rw [q]; decide))
        subst e1
        rw [nI_cl (by omega)] at hr
        rw [ym_scr y w h3 hn hi hx hW hH (hrs i hi) (lvl i hi) hwt (brk_0 z).2, rb_bi, ym_scr y w h3 hn e2 hx hW hH (hrs s e2) (lvl s e2) hwt (brk_0 (ok1_t.mp e3)).2, rb_bi]
        simp only [dp_w]
        split at hr
        · rename_i q; rw [if_pos q]; exact hr
        · rename_i q; rw [if_neg q]; exact hr
    · rw [if_neg (fun q => z (ok1_t.mp q))] at hr
      rw [if_neg z]
      simp only [dp_w]; exact hr
/-- the best clear row -/
theorem hc_here {x n : Nat} (hx : x < n) (hn : n ≤ 100) : dp_den true xs xl (d + 1) 53 [.ref 1, .int (nI x)] C = iR (bI (dp_I C 9 x = 3 ∧ dp_I C 11 x = 0)) C := by
  rw [D_X2_isHere_0_den, D_X2_isHere_0_eq]
  simp only [nI_cl (show x < 2147483648 by omega), nI_o (show x < 100 by omega) (by omega), if_false]
  by_cases z1 : dp_I C 9 x = 3
  · rw [if_pos z1]
    by_cases z2 : dp_I C 11 x = 0
    · rw [if_pos z2, bI_t ⟨z1, z2⟩]
    · rw [if_neg z2, bI_f (fun q => z2 q.2)]
  · rw [if_neg z1, bI_f (fun q => z1 q.1)]
theorem hm_here {x n : Nat} (hx : x < n) (hn : n ≤ 100) : dp_den true xs xl (d + 1) 402 [.ref 114, .int (nI x)] M = iR (bI (dp_I M 117 x = 3 ∧ dp_I M 144 x = 0)) M := by
  rw [D_X12_isHere_0_den, D_X12_isHere_0_eq]
  simp only [nI_cl (show x < 2147483648 by omega), nI_o (show x < 100 by omega) (by omega), if_false]
  by_cases z1 : dp_I M 117 x = 3
  · rw [if_pos z1]
    by_cases z2 : dp_I M 144 x = 0
    · rw [if_pos z2, bI_t ⟨z1, z2⟩]
    · rw [if_neg z2, bI_f (fun q => z2 q.2)]
  · rw [if_neg z1, bI_f (fun q => z1 q.1)]
theorem yc_clear {n W H G : Nat} {R L : Nat → Int32} {h : List (Nat × Int32)} {m : Int32} (y : CY C n W H G R L h m) (w : YW n W H R L) (hn : n ≤ 100) {x : Nat} (hx : x < n) (hW : W ≤ 20) (hH : H ≤ 8) (hG : G ≤ 400) (hwt : ∀ i, i < n → wi (dp_I C 5 i) 1 40) (hh : dp_I C 9 x = 3 ∧ dp_I C 11 x = 0) : ∃ v, dp_den true xs xl (d + 5) 243 [.ref 28, .int (nI x)] C = iR v C ∧ bsV (ok2 n H G R L (dp_I C 5) (dp_I C 4) (dp_I C 7) (dp_I C 3) (dp_I C 34) (dp_I C 35) (dp_I C 6) x) (scr n R L (dp_I C 5) (dp_I C 6) (dp_I C 7) (dp_I C 35) x) 0 W v := by
  have y' := y
  obtain ⟨a1, a2, a3, a4, a5, a6, a7, a8, a9, a10, a11, -⟩ := y'
  have sh : ∀ i, i < W → dp_den true xs xl (d + 4) 239 [.ref 28, .int (nI x), .int (nI i)] C = iR (if R x = nI i then 1 else brk n H G R L (dp_I C 5) (dp_I C 4) (dp_I C 7) (dp_I C 3) (dp_I C 34) (dp_I C 35) x i) C := fun i hi => by
    rw [D_X10_brokenByShift_0_den, D_X10_brokenByShift_0_eq, hc_here hx hn, rb_bi, bI_t hh, if_neg one_ne]
    simp only [nI_cl (show x < 2147483648 by omega), nI_o (show x < 100 by omega) (by omega), if_false, (a8 x hx).1]
    by_cases z : R x = nI i
    · rw [if_pos z, if_pos z]
    · rw [if_neg z, if_neg z, yc_brk y w hn hi hx hW hH hG, rb_bi]
  have key := lpi (F := fun i (v : Int32) => D_X10_bestClearRow_4 xs xl (d + 4) (nI x) v (nI i) C) (a := 0) (N := W) (Inv := fun i v => bsV (ok2 n H G R L (dp_I C 5) (dp_I C 4) (dp_I C 7) (dp_I C 3) (dp_I C 34) (dp_I C 35) (dp_I C 6) x) (scr n R L (dp_I C 5) (dp_I C 6) (dp_I C 7) (dp_I C 35) x) 0 i v) (Post := fun r => ∃ v, r = (.inl (some (.int v)), C) ∧ bsV (ok2 n H G R L (dp_I C 5) (dp_I C 4) (dp_I C 7) (dp_I C 3) (dp_I C 34) (dp_I C 35) (dp_I C 6) x) (scr n R L (dp_I C 5) (dp_I C 6) (dp_I C 7) (dp_I C 35) x) 0 W v) (Nat.zero_le _) ?_ ?_ (-1) (Or.inl ⟨rfl, fun k _ q => by omega⟩)
  · obtain ⟨r, hr, v, e, hv⟩ := key
    refine ⟨v, ?_, hv⟩
    rw [D_X10_bestClearRow_0_den, D_X10_bestClearRow_0_eq]
    simp only [dp_w]
    rw [e] at hr
    exact hr
  · intro v hv
    refine ⟨_, ?_, v, rfl, hv⟩
    (try dsimp only)
    rw [D_X10_bestClearRow_4_eq, a1, if_pos (nI_lle (Nat.le_refl _) (by omega))]
  · intro i v _ hi hv
    refine ⟨_, bsV_up (by omega) hv, fun r hr => ?_⟩
    (try dsimp only at hr); (try dsimp only)
    have hle : hR R n i ≤ n := ct_le _ _
    have hct : ct (sof R L (dp_I C 6) (nI i) (nI (hR R n i)) x) n ≤ n := ct_le _ _
    have no : ¬ ok2 n H G R L (dp_I C 5) (dp_I C 4) (dp_I C 7) (dp_I C 3) (dp_I C 34) (dp_I C 35) (dp_I C 6) x i = true → D_X10_bestClearRow_41 xs xl (d + 4) (nI x) v (nI i) 0 C = some r := fun q => by
      rw [if_neg q] at hr
      rw [D_X10_bestClearRow_41_eq, if_pos rfl]
      simp only [dp_w, nI_1]
      apply D_X10_bestClearRow_4_to_4_a
      exact hr
    rw [D_X10_bestClearRow_4_eq, a1, if_neg (nI_nge hi (by omega)), sh i hi, rb_bi]
    by_cases z1 : R x = nI i
    · rw [if_pos z1, if_neg one_ne]
      exact no (fun q => (ok2_t.mp q).1 z1)
    rw [if_neg z1]
    by_cases z2 : brk n H G R L (dp_I C 5) (dp_I C 4) (dp_I C 7) (dp_I C 3) (dp_I C 34) (dp_I C 35) x i = 0
    case neg =>
      rw [if_neg z2]
      exact no (fun q => z2 (ok2_t.mp q).2.1)
    rw [if_pos z2]
    simp only [nI_cl (show i < 2147483648 by omega), a4, nI_o hi (by omega), if_false, a10 i hi]
    rw [yc_soo y w hn hi hW hH (Nat.le_refl _) hx, rb_bi]
    by_cases z3 : ct (sof R L (dp_I C 6) (nI i) (nI (hR R n i)) x) n = 0
    case neg =>
      rw [if_neg (nI_n0 (by omega) z3)]
      exact no (fun q => z3 (ok2_t.mp q).2.2)
    rw [if_pos (show nI (ct (sof R L (dp_I C 6) (nI i) (nI (hR R n i)) x) n) = 0 by rw [z3]; rfl)]
    rw [if_pos (ok2_t.mpr ⟨z1, z2, z3⟩)] at hr
    rw [D_X10_bestClearRow_41_eq, if_neg one_ne]
    by_cases u : v = -1
    · rw [if_pos u] at hr
      rw [if_pos u]
      simp only [dp_w, nI_1]
      apply D_X10_bestClearRow_4_to_4_a
      exact hr
    · rw [if_neg u] at hr
      rw [if_neg u]
      obtain ⟨s, e1, -, e2, e3⟩ := (bsV_ok hv).resolve_left u
      subst e1
      rw [nI_cl (by omega)] at hr
      rw [yc_scr y w hn hi hx hW hH hwt (brk_0 z2).2, rb_bi, yc_scr y w hn (by omega) hx hW hH hwt (brk_0 (ok2_t.mp e3).2.1).2, rb_bi]
      simp only [dp_w, nI_1]
      split at hr
      · rename_i q; rw [if_pos q]; apply D_X10_bestClearRow_4_to_4_a; exact hr
      · rename_i q; rw [if_neg q]; apply D_X10_bestClearRow_4_to_4_a; exact hr
/-- all of a row are below its height -/
theorem so_H {n W H : Nat} {R L lv : Nat → Int32} (w : YW n W H R L) (hn : n ≤ 100) (hW : W ≤ 20) (hH : H ≤ 8) {r x : Nat} (hr : r < W) : ct (sof R L lv (nI r) (nI H) x) n = ct (sof R L lv (nI r) (nI (hR R n r)) x) n := by
  have hle : hR R n r ≤ n := ct_le _ _
  have hle2 := w.2.2 r hr
  refine ct_c (fun i hi => ?_)
  unfold sof
  by_cases z : R i = nI r
  · rcases w.1 i hi with q | ⟨r', l, q1, q2, q3, q4⟩
    · exact absurd (by rw [← z, q.1]) (m1_ne (r := r) (by omega))
    · have : r' = r := by rw [z, nI_eq (by omega) (by omega)] at q3; exact q3.symm
      subst this
      rw [q4]
      simp only [nI_lt q2 (show hR R n r' < 2147483648 by omega), nI_lt (show l < H by omega) (show H < 2147483648 by omega)]
  · simp only [z, false_and]
theorem ym_aside {n W H G : Nat} {R L : Nat → Int32} {h : List (Nat × Int32)} {m : Int32} (y : MY M n W H G R L h m) (w : YW n W H R L) (h3 : dp_I M 114 3 = nI n) (hn : n ≤ 100) {x : Nat} (hx : x < n) (hW : W ≤ 20) (hH : H ≤ 8) (hG : G ≤ 400) (hrs : ∀ r, r < W → qin (dp_I M 134 r) 10) (lvl : ∀ r, r < W → ∀ l, l < hR R n r → ∃ i, i < n ∧ R i = nI r ∧ L i = nI l) (hwt : ∀ i, i < n → wi (dp_I M 137 i) 1 40) : ∃ v, dp_den true xs xl (d + 4) 414 [.ref 114, .int (nI x)] M = iR v M ∧ bsV (ok2 n H G R L (dp_I M 137) (dp_I M 135) (dp_I M 139) (dp_I M 136) (dp_I M 133) (dp_I M 134) (dp_I M 138) x) (scr n R L (dp_I M 137) (dp_I M 138) (dp_I M 139) (dp_I M 134) x) 0 W v := by
  obtain ⟨m1, m2, m3, m4, m5⟩ := MYc y
  have y' := y
  obtain ⟨a1, a2, a3, a4, -⟩ := y'
  have key := lpd (F := fun i (v : Int32) => D_X12_asideRow_9 xs xl (d + 3) (nI x) v (nI i - 1) M) (N := W) (Inv := fun i v => bsV (ok2 n H G R L (dp_I M 137) (dp_I M 135) (dp_I M 139) (dp_I M 136) (dp_I M 133) (dp_I M 134) (dp_I M 138) x) (scr n R L (dp_I M 137) (dp_I M 138) (dp_I M 139) (dp_I M 134) x) i W v) (Post := fun r => ∃ v, r = (.inl (some (.int v)), M) ∧ bsV (ok2 n H G R L (dp_I M 137) (dp_I M 135) (dp_I M 139) (dp_I M 136) (dp_I M 133) (dp_I M 134) (dp_I M 138) x) (scr n R L (dp_I M 137) (dp_I M 138) (dp_I M 139) (dp_I M 134) x) 0 W v) ?_ ?_ (-1) (Or.inl ⟨rfl, fun k _ q => by omega⟩)
  · obtain ⟨r, hr, v, e, hv⟩ := key
    refine ⟨v, ?_, hv⟩
    rw [D_X12_asideRow_0_den, D_X12_asideRow_0_eq, a1]
    simp only [dp_w]
    rw [e] at hr
    exact hr
  · intro v hv
    refine ⟨_, ?_, v, rfl, hv⟩
    (try dsimp only)
    rw [D_X12_asideRow_9_eq, if_pos (by decide)]
  · intro i v hi hv
    refine ⟨_, bsV_dn hi (by omega) hv, fun r hr => ?_⟩
    (try dsimp only at hr); (try dsimp only)
    have hct : ct (sof R L (dp_I M 138) (nI i) (nI (hR R n i)) x) n ≤ n := ct_le _ _
    have no : ¬ ok2 n H G R L (dp_I M 137) (dp_I M 135) (dp_I M 139) (dp_I M 136) (dp_I M 133) (dp_I M 134) (dp_I M 138) x i = true → D_X12_asideRow_50 xs xl (d + 3) (nI x) v (nI i) 0 M = some r := fun q => by
      rw [if_neg q] at hr
      rw [D_X12_asideRow_50_eq, if_pos rfl]
      simp only [dp_w]
      apply D_X12_asideRow_9_to_9_a
      rw [show nI i + (-1 : Int32) = nI i - 1 from (Int32.sub_eq_add_neg _ _).symm]
      exact hr
    rw [D_X12_asideRow_9_eq, nI_pred, if_neg (nI_pos (by omega))]
    simp only [nI_cl (show x < 2147483648 by omega), nI_o (show x < 100 by omega) (by omega), if_false, (a4 x hx).1]
    by_cases z1 : R x = nI i
    · rw [if_pos z1.symm]
      exact no (fun q => (ok2_t.mp q).1 z1)
    rw [if_neg (fun q => z1 q.symm), ym_brk y w h3 hn hi hx hW hH hG (hrs i hi) (lvl i hi), rb_bi]
    by_cases z2 : brk n H G R L (dp_I M 137) (dp_I M 135) (dp_I M 139) (dp_I M 136) (dp_I M 133) (dp_I M 134) x i = 0
    case neg =>
      rw [if_neg z2]
      exact no (fun q => z2 (ok2_t.mp q).2.1)
    rw [if_pos z2, ym_soo h3 hn hx, rb_bi, m5, a2, so_H w hn hW hH hi]
    by_cases z3 : ct (sof R L (dp_I M 138) (nI i) (nI (hR R n i)) x) n = 0
    case neg =>
      rw [if_neg (nI_n0 (by omega) z3)]
      exact no (fun q => z3 (ok2_t.mp q).2.2)
    rw [if_pos (show nI (ct (sof R L (dp_I M 138) (nI i) (nI (hR R n i)) x) n) = 0 by rw [z3]; rfl)]
    rw [if_pos (ok2_t.mpr ⟨z1, z2, z3⟩)] at hr
    rw [D_X12_asideRow_50_eq, if_neg one_ne, show nI i + (-1 : Int32) = nI i - 1 from (Int32.sub_eq_add_neg _ _).symm]
    by_cases u : v < 0
    · rw [if_pos u] at hr
      rw [if_pos u]
      simp only [dp_w]
      apply D_X12_asideRow_9_to_9_a
      exact hr
    · rw [if_neg u] at hr
      rw [if_neg u]
      obtain ⟨s, e1, -, e2, e3⟩ := (bsV_ok hv).resolve_left (fun q => u (by rw [q]; decide))
      subst e1
      rw [nI_cl (by omega)] at hr
      rw [ym_scr y w h3 hn hi hx hW hH (hrs i hi) (lvl i hi) hwt (brk_0 z2).2, rb_bi, ym_scr y w h3 hn e2 hx hW hH (hrs s e2) (lvl s e2) hwt (brk_0 (ok2_t.mp e3).2.1).2, rb_bi]
      simp only [dp_w]
      split at hr
      · rename_i q; rw [if_pos q]; apply D_X12_asideRow_9_to_9_a; exact hr
      · rename_i q; rw [if_neg q]; apply D_X12_asideRow_9_to_9_a; exact hr
end YE
