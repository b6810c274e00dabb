/-! HOLD: swap -/
theorem ct_u {p : Nat → Bool} {j : Nat} {v : Bool} : ∀ n, j < n → ct (uI p j v) n + (if p j then 1 else 0) = ct p n + (if v then 1 else 0)
  | 0, h => by omega
  | n + 1, h => by
    rw [ct, ct]
    by_cases e : j = n
    · subst e
      rw [uI_s, ct_c (q := p) (fun i hi => uI_n (by omega))]; omega
    · rw [uI_n (show n ≠ j by omega)]
      have := ct_u (p := p) (v := v) n (show j < n by omega)
      omega
/-- two that change places -/
def swp {α : Type} (f : Nat → α) (x y : Nat) : Nat → α := uI (uI f x (f y)) y (f x)
def swi (x y i : Nat) : Nat := if i = y then x else if i = x then y else i
theorem swp_i {α : Type} (f : Nat → α) (x y i : Nat) : swp f x y i = f (swi x y i) := by
  unfold swp swi uI
  by_cases h1 : i = y
  · rw [if_pos h1, if_pos h1]
  · rw [if_neg h1, if_neg h1]
    by_cases h2 : i = x
    · rw [if_pos h2, if_pos h2]
    · rw [if_neg h2, if_neg h2]
theorem swi_lt {x y i n : Nat} (hx : x < n) (hy : y < n) (hi : i < n) : swi x y i < n := by unfold swi; split <;> (try split) <;> omega
theorem swi_inj {x y i j : Nat} (h : swi x y i = swi x y j) : i = j := by
  unfold swi at h
  split at h <;> split at h <;> (try split at h) <;> (try split at h) <;> omega
theorem swi_ne {x y i : Nat} (h1 : i ≠ x) (h2 : i ≠ y) : swi x y i = i := by unfold swi; rw [if_neg h2, if_neg h1]
theorem ct_sw {p : Nat → Bool} {x y n : Nat} (hx : x < n) (hy : y < n) (hxy : x ≠ y) : ct (fun i => p (swi x y i)) n = ct p n := by
  have e : (fun i => p (swi x y i)) = uI (uI p x (p y)) y (p x) := by
    funext i; exact (swp_i p x y i).symm
  rw [e]
  have h1 := ct_u (p := uI p x (p y)) (v := p x) n hy
  have h2 := ct_u (p := p) (v := p y) n hx
  rw [uI_n (show y ≠ x from fun q => hxy q.symm)] at h1
  omega
theorem HSt.swap {n B T x y : Nat} {port bay S D needs : Nat → Int32} (h : HSt n B T port bay S D needs) (hx : x < n) (hy : y < n) (hn : n ≤ 100) (hxy : x ≠ y) (h1 : ∀ i, i < n → needs (x * 100 + i) ≠ 1 ∧ needs (i * 100 + x) ≠ 1) (h2 : ∀ i, i < n → needs (y * 100 + i) ≠ 1 ∧ needs (i * 100 + y) ≠ 1) : HSt n B T port (swp bay x y) (swp S x y) (swp D x y) needs := by
  obtain ⟨a1, a2, a3, a4, a5, a6, a7⟩ := h
  have hb : ∀ b s, ct (hbf (swp bay x y) (swp S x y) b s) n = ct (hbf bay S b s) n := fun b s => by
    rw [← ct_sw (p := hbf bay S b s) hx hy hxy]
    exact ct_c (fun i _ => by unfold hbf; rw [swp_i, swp_i])
  have hl : ∀ b, ct (lyf (swp bay x y) (swp S x y) b) n = ct (lyf bay S b) n := fun b => by
    rw [← ct_sw (p := lyf bay S b) hx hy hxy]
    exact ct_c (fun i _ => by unfold lyf; rw [swp_i, swp_i])
  refine ⟨fun i hi => ?_, fun i hi s hs e => ?_, fun i j s hi hj hs e1 e2 e3 e4 => ?_, fun b s q1 q2 => by rw [hb]; exact a4 b s q1 q2, fun b q1 => by rw [hl]; exact a5 b q1, a6, fun u v hv e => ?_⟩
  · rw [swp_i, swp_i]
    have := a1 _ (swi_lt hx hy hi)
    exact ⟨(a1 i hi).1, this.2.1, this.2.2⟩
  · rw [swp_i] at e
    rw [hb, swp_i, swp_i]
    exact a2 _ (swi_lt hx hy hi) s hs e
  · rw [swp_i] at e2 e3
    rw [swp_i, swp_i] at e1 e4
    exact swi_inj (a3 _ _ s (swi_lt hx hy hi) (swi_lt hx hy hj) hs e1 e2 e3 e4)
  · obtain ⟨y1, y2, y3, y4⟩ := a7 u v hv e
    have ux : u ≠ x := fun q => (h1 v y2).1 (by rw [← q]; exact e)
    have uy : u ≠ y := fun q => (h2 v y2).1 (by rw [← q]; exact e)
    have vx : v ≠ x := fun q => (h1 u y1).2 (by rw [← q]; exact e)
    have vy : v ≠ y := fun q => (h2 u y1).2 (by rw [← q]; exact e)
    rw [swp_i, swp_i, swp_i, swp_i, swi_ne ux uy, swi_ne vx vy]
    exact ⟨y1, y2, y3, y4⟩
def hnf (needs : Nat → Int32) (x i : Nat) : Bool := decide (needs (x * 100 + i) = 1 ∨ needs (i * 100 + x) = 1)
theorem hnf_t {needs : Nat → Int32} {x i : Nat} : hnf needs x i = true ↔ needs (x * 100 + i) = 1 ∨ needs (i * 100 + x) = 1 := decide_eq_true_iff
section HE
variable {xs : Nat → Int32} {xl d : Nat} {M : dp_M}
theorem t_100 {b i : Nat} : nI b * (100 : Int32) + nI i = nI (b * 100 + i) := by rw [show (100 : Int32) = nI 100 from rfl, pk_mul, nI_add]
theorem t_100' {b i : Nat} : (100 : Int32) * nI b + nI i = nI (b * 100 + i) := by rw [show (100 : Int32) = nI 100 from rfl, pk_mul, nI_add, Nat.mul_comm]
theorem hc_need {x y : Nat} (hx : x < 100) (hy : y < 100) (h : ∀ k, dp_I M 12 k = 0 ∨ dp_I M 12 k = 1) : dp_den true xs xl (d + 1) 60 [.ref 1, .int (nI x), .int (nI y)] M = iR (dp_I M 12 (x * 100 + y)) M := by
  rw [D_X2_isNeeded_0_den, D_X2_isNeeded_0_eq]
  simp only [t_100, nI_cl (show x * 100 + y < 2147483648 by omega), nI_o (show x * 100 + y < 10000 by omega) (by omega), if_false]
  rw [if_pos (h _)]
theorem hc_hn {n x : Nat} (h : dp_I M 1 2 = nI n) (hn : n ≤ 100) (hx : x < n) (h6 : ∀ k, dp_I M 12 k = 0 ∨ dp_I M 12 k = 1) : dp_den true xs xl (d + 2) 73 [.ref 1, .int (nI x)] M = iR (bI (an (hnf (dp_I M 12) x) n = true)) M := by
  rw [D_X2_hasNeeds_0_den, D_X2_hasNeeds_0_eq]
  simp only [dp_w]
  refine lp_ex (F := fun i => D_X2_hasNeeds_2 xs xl (d + 1) (nI x) (nI i) M) (hnf (dp_I M 12) x) (N := n) ?_ (fun i hi hp => ?_) (fun i r hi hp hr => ?_)
  · (try dsimp only)
    rw [D_X2_hasNeeds_2_eq, h, if_pos (nI_lle (Nat.le_refl _) (by omega))]
  · (try dsimp only)
    rw [D_X2_hasNeeds_2_eq, h, if_neg (nI_nge hi (by omega)), hc_need (by omega) (by omega) h6, rb_bi, hc_need (by omega) (by omega) h6, rb_bi]
    rcases of_decide_eq_true hp with q | q
    · rw [q, if_neg (by decide)]
    · by_cases z : dp_I M 12 (x * 100 + i) = 0
      · rw [if_pos z, q, if_neg (by decide)]
      · rw [if_neg z]
  · (try dsimp only at hr); (try dsimp only)
    have hp' : ¬ (dp_I M 12 (x * 100 + i) = 1 ∨ dp_I M 12 (i * 100 + x) = 1) := of_decide_eq_false hp
    rw [D_X2_hasNeeds_2_eq, h, if_neg (nI_nge hi (by omega)), hc_need (by omega) (by omega) h6, rb_bi, hc_need (by omega) (by omega) h6, rb_bi, if_pos ((h6 _).resolve_right (fun q => hp' (Or.inl q))), if_pos ((h6 _).resolve_right (fun q => hp' (Or.inr q)))]
    simp only [dp_w, nI_1]
    exact hr
theorem hm_hn {n x : Nat} (h : dp_I M 114 3 = nI n) (hn : n ≤ 100) (hx : x < n) (h6 : ∀ k, dp_I M 119 k = 0 ∨ dp_I M 119 k = 1) : dp_den true xs xl (d + 1) 392 [.ref 114, .int (nI x)] M = iR (bI (an (hnf (dp_I M 119) x) n = true)) M := by
  rw [D_X12_hasNeeds_0_den, D_X12_hasNeeds_0_eq]
  simp only [dp_w]
  refine lpb (F := fun (a : Int32) i => D_X12_hasNeeds_4 xs xl d (nI x) a (nI i) M) (s := fun i => bI (an (hnf (dp_I M 119) x) i = true)) (N := n) ?_ (fun i hi hr => ?_)
  · (try dsimp only)
    rw [D_X12_hasNeeds_4_eq, h, if_pos (nI_lle (Nat.le_refl _) (by omega)), if_pos (by rw [bI_01]; trivial)]
  · (try dsimp only at hr); (try dsimp only)
    rw [D_X12_hasNeeds_4_eq, h, if_neg (nI_nge hi (by omega)), ibz]
    simp only [t_100', nI_cl (show x * 100 + i < 2147483648 by omega), nI_o (show x * 100 + i < 10000 by omega) (by omega), nI_cl (show i * 100 + x < 2147483648 by omega), nI_o (show i * 100 + x < 10000 by omega) (by omega), if_false, dp_w, nI_1]
    have e : bI (an (hnf (dp_I M 119) x) (i + 1) = true) = if an (hnf (dp_I M 119) x) i = true then 1 else bI (hnf (dp_I M 119) x i = true) := by
      rw [an]
      by_cases y : an (hnf (dp_I M 119) x) i = true
      · rw [if_pos y, y, Bool.true_or, bI_t rfl]
      · rw [if_neg y, Bool.eq_false_iff.mpr y, Bool.false_or]
    rw [e] at hr
    by_cases y : an (hnf (dp_I M 119) x) i = true
    · rw [if_pos y] at hr
      rw [if_pos y]; exact hr
    · rw [if_neg y] at hr
      rw [if_neg y]
      by_cases z1 : dp_I M 119 (x * 100 + i) = 0
      · rw [if_pos z1]
        by_cases z2 : dp_I M 119 (i * 100 + x) = 0
        · rw [if_pos z2]
          rw [bI_f (fun q => by rcases hnf_t.mp q with w | w; · rw [z1] at w; exact absurd w (by decide)
                                · rw [z2] at w; exact absurd w (by decide))] at hr
          exact hr
        · rw [if_neg z2]
          rw [bI_t (hnf_t.mpr (Or.inr ((h6 _).resolve_left z2)))] at hr; exact hr
      · rw [if_neg z1]
        rw [bI_t (hnf_t.mpr (Or.inl ((h6 _).resolve_left z1)))] at hr; exact hr
theorem hc_chg {p x y : Nat} (ht : ∀ N : dp_M, dp_t true N p = 1) (hl : ∀ N : dp_M, dp_ln true N p = 100) (hx : x < 100) (hy : y < 100) : dp_den true xs xl (d + 1) 76 [.ref p, .int (nI x), .int (nI y)] M = vR (dp_setI (dp_setI M p x (dp_I M p y)) p y (dp_I M p x)) := by
  rw [D_X2_change_0_den, D_X2_change_0_eq]
  simp only [ht, hl, if_true, nI_cl (show x < 2147483648 by omega), nI_o hx (by omega), nI_cl (show y < 2147483648 by omega), nI_o hy (by omega), if_false, dp_w]
theorem swp_set (M : dp_M) (p x y : Nat) : dp_setI (dp_setI M p x (dp_I M p y)) p y (dp_I M p x) = rI M p (swp (dp_I M p) x y) := by
  rw [rI_of M, rI_set]; rfl
theorem s_swap {n B T : Nat} (h : HR M n B T) (hn : 246 ≤ dp_n M) (v1 v2 : Int32) : ∃ k b M1 M2, dp_den true xs xl (d + 6) 600 [.ref 0, .int v1, .int v2, .ref 245] M = iR k M1 ∧ dp_den true xs xl (d + 6) 393 [.ref 114, .int v1, .int v2] M1 = iR b M2 ∧
    dp_I M2 114 0 = k ∧ (k = 0 → dp_J M2 245 0 = b.toInt64) ∧ HR M2 n B T ∧ Off (245 :: 8 :: 9 :: 10 :: 25 :: 116 :: 117 :: 118 :: 120 :: []) [0] M M2 ∧ Cst 1 6 M M2 ∧ ∀ i, dp_I M 9 i = 3 ↔ dp_I M2 9 i = 3 := by
  have h0 := h
  obtain ⟨a1, a2, a3, a4, a5, a6, a7, a8, a9, a10, a11, a12, a13, a14, a15, b1, b2, b3, b4, b5, b6, b7, b8, b9, b10, c1, c2, c3⟩ := h
  have h6 := c2.2.2.2.2.2.1
  by_cases g : qin v1 n ∧ qin v2 n
  case neg =>
    obtain ⟨r1, r2, r3⟩ := h0.refused hn 1
    refine ⟨1, 0, dp_new M 0 0 6, dp_setI (dp_new M 0 0 6) 114 0 1, wL_swap_x0 ?_, ?_, rfl, (fun e => by cases e), r1, r2.mono (by simp) (by simp), r3, fun i => by rw [gII, if_neg (by decide), gIN (by omega)]⟩
    · rw [D_X11_swap_0_den, D_X11_swap_0_eq, pc_box a6 a1]
      simp only [rb_bi, ibz, q_nk hn]
      by_cases z1 : qin v1 n
      case neg => rw [if_neg z1]
      rw [if_pos z1, pc_box a6 a1, rb_bi, ibz, if_neg (fun q => g ⟨z1, q⟩), q_nk hn]
    · have e3 : dp_I (dp_new M 0 0 6) 114 3 = nI n := by rw [gIN (by omega)]; exact a7
      rw [D_X12_swap_0_den, D_X12_swap_0_eq, pm_box e3 a1]
      simp only [rb_bi, ibz, q_ref]
      by_cases z1 : qin v1 n
      case neg => rw [if_neg z1]
      rw [if_pos z1, pm_box e3 a1, rb_bi, ibz, if_neg (fun q => g ⟨z1, q⟩)]
  obtain ⟨g1, g2⟩ := g
  obtain ⟨x, hx, rfl⟩ := qin_of g1 (by omega)
  obtain ⟨y, hy, rfl⟩ := qin_of g2 (by omega)
  obtain ⟨sx, hsx, esx⟩ := qin_of (c2.1 x hx).2.2 (by omega)
  obtain ⟨sy, hsy, esy⟩ := qin_of (c2.1 y hy).2.2 (by omega)
  obtain ⟨bx, hbx, ebx⟩ := qin_of (c2.1 x hx).2.1 (by omega)
  obtain ⟨by', hby, eby⟩ := qin_of (c2.1 y hy).2.1 (by omega)
  have hst : ∀ z s : Nat, z < n → dp_I M 9 z = nI s → s < 5 → dp_den true xs xl (d + 3) 74 [.ref 1, .int (nI z)] M = iR (bI (s < 3)) M := fun z s hz es hs => by
    rw [D_X2_isInStack_0_den, D_X2_isInStack_0_eq]
    simp only [nI_cl (show z < 2147483648 by omega), nI_o (show z < 100 by omega) (by omega), if_false, es]
    by_cases q : s < 3
    · rw [bI_t q, if_neg (show ¬ (3 : Int32) ≤ nI (s) from nI_ge (a := s) (b := 3) (by omega) (by omega))]
    · rw [bI_f q, if_pos (show (3 : Int32) ≤ nI (s) from nI_le (a := 3) (b := s) (by omega) (by omega))]
  have hc0 : ∀ r, dp_den true xs xl (d + 4) 75 [.ref 1, .int (nI x), .int (nI y)] M = r → (∀ v N, r = iR v N → (v = 0 ∨ v = 1) → dp_den true xs xl (d + 5) 270 [.ref 0, .int (nI x), .int (nI y)] M = iR v N) := fun r hr v N e hv => by
    rw [D_X11_swap_0_den, D_X11_swap_0_eq, pc_box a6 a1, rb_bi, ibz, if_pos g1, pc_box a6 a1, rb_bi, ibz, if_pos g2, hr, e, rb_bi]
    rcases hv with rfl | rfl
    · rw [if_pos rfl]
    · rw [if_neg (by decide)]
  obtain ⟨nx, hnx⟩ : ∃ b, b = an (hnf (dp_I M 12) x) n := ⟨_, rfl⟩
  obtain ⟨ny, hny⟩ : ∃ b, b = an (hnf (dp_I M 12) y) n := ⟨_, rfl⟩
  have n41 : dp_den true xs xl (d + 4) 75 [.ref 1, .int (nI x), .int (nI y)] M = if ¬ x = y ∧ dp_I M 2 x = dp_I M 2 y ∧ sx < 3 ∧ sy < 3 then D_X2_exchange_41 xs xl (d + 3) (nI x) (nI y) 1 M else iR 0 M := by
    rw [D_X2_exchange_0_den, D_X2_exchange_0_eq]
    have z0 : D_X2_exchange_41 xs xl (d + 3) (nI x) (nI y) 0 M = iR 0 M := by rw [D_X2_exchange_41_eq, if_pos rfl]
    simp only [z0, hst x sx hx esx hsx, hst y sy hy esy hsy, rb_bi, ibz, nI_cl (show x < 2147483648 by omega), nI_o (show x < 100 by omega) (by omega), nI_cl (show y < 2147483648 by omega), nI_o (show y < 100 by omega) (by omega), if_false, nI_eq (show x < 2147483648 by omega) (show y < 2147483648 by omega), z0]
    by_cases q1 : x = y
    · rw [if_pos q1, if_neg (fun q => q.1 q1)]
    rw [if_neg q1]
    by_cases q2 : dp_I M 2 x = dp_I M 2 y
    case neg => rw [if_neg q2, if_neg (fun q => q2 q.2.1)]
    rw [if_pos q2]
    by_cases q3 : sx < 3
    case neg => rw [if_neg q3, if_neg (fun q => q3 q.2.2.1)]
    rw [if_pos q3]
    by_cases q4 : sy < 3
    case neg => rw [if_neg q4, if_neg (fun q => q4 q.2.2.2)]
    rw [if_pos q4, if_pos ⟨q1, q2, q3, q4⟩]
  have mm : ∀ N : dp_M, dp_I N 114 3 = nI n → dp_I N 115 = dp_I M 2 → dp_I N 117 = dp_I M 9 → dp_I N 116 = dp_I M 8 → dp_I N 118 = dp_I M 10 → dp_I N 119 = dp_I M 12 → dp_den true xs xl (d + 6) 393 [.ref 114, .int (nI x), .int (nI y)] N = if (¬ x = y ∧ dp_I M 2 x = dp_I M 2 y ∧ sx < 3 ∧ sy < 3) ∧ ¬ nx = true ∧ ¬ ny = true then iR 1 (dp_setI (dp_setI (rI (rI (rI (dp_setI N 114 0 0) 116 (swp (dp_I M 8) x y)) 117 (swp (dp_I M 9) x y)) 118 (swp (dp_I M 10) x y)) 120 by' 0) 120 bx 0) else iR 0 (dp_setI N 114 0 0) := fun N e3 e115 e117 e116 e118 e119 => by
    obtain ⟨N', hN'⟩ : ∃ N', N' = dp_setI N 114 0 0 := ⟨_, rfl⟩
    have f3 : dp_I N' 114 3 = nI n := by rw [hN', gII, if_pos rfl, uI_n (by decide)]; exact e3
    have f115 : dp_I N' 115 = dp_I M 2 := by rw [hN', gII, if_neg (by decide)]; exact e115
    have f116 : dp_I N' 116 = dp_I M 8 := by rw [hN', gII, if_neg (by decide)]; exact e116
    have f117 : dp_I N' 117 = dp_I M 9 := by rw [hN', gII, if_neg (by decide)]; exact e117
    have f118 : dp_I N' 118 = dp_I M 10 := by rw [hN', gII, if_neg (by decide)]; exact e118
    have f119 : dp_I N' 119 = dp_I M 12 := by rw [hN', gII, if_neg (by decide)]; exact e119
    rw [D_X12_swap_0_den, D_X12_swap_0_eq, pm_box e3 a1, rb_bi, ibz, if_pos g1, pm_box e3 a1, rb_bi, ibz, if_pos g2]
    simp only [dp_w]
    rw [← hN']
    simp only [nI_cl (show x < 2147483648 by omega), nI_o (show x < 100 by omega) (by omega), nI_cl (show y < 2147483648 by omega), nI_o (show y < 100 by omega) (by omega), if_false, nI_eq (show x < 2147483648 by omega) (show y < 2147483648 by omega), f115, f117, esx, esy]
    by_cases q1 : x = y
    · rw [if_pos q1, if_neg (fun q => q.1.1 q1)]
    rw [if_neg q1]
    by_cases q2 : dp_I M 2 x = dp_I M 2 y
    case neg => rw [if_neg q2, if_neg (fun q => q2 q.1.2.1)]
    rw [if_pos q2]
    by_cases q3 : sx < 3
    case neg => rw [if_pos (show (2 : Int32) < nI (sx) from nI_lt (a := 2) (b := sx) (by omega) (by omega)), if_neg (fun q => q3 q.1.2.2.1)]
    rw [if_neg (show ¬ (2 : Int32) < nI (sx) from nI_nlt (a := 2) (b := sx) (by omega) (by omega))]
    by_cases q4 : sy < 3
    case neg => rw [if_pos (show (2 : Int32) < nI (sy) from nI_lt (a := 2) (b := sy) (by omega) (by omega)), if_neg (fun q => q4 q.1.2.2.2)]
    rw [if_neg (show ¬ (2 : Int32) < nI (sy) from nI_nlt (a := 2) (b := sy) (by omega) (by omega)), hm_hn f3 a1 hx (by rw [f119]; exact h6), rb_bi, ibz, hm_hn f3 a1 hy (by rw [f119]; exact h6), rb_bi, ibz, f119, ← hnx, ← hny]
    by_cases q5 : nx = true
    · rw [if_pos q5, if_neg (fun q => q.2.1 q5)]
    rw [if_neg q5]
    by_cases q6 : ny = true
    · rw [if_pos q6, if_neg (fun q => q.2.2 q6)]
    rw [if_neg q6, if_pos (show (¬ x = y ∧ dp_I M 2 x = dp_I M 2 y ∧ sx < 3 ∧ sy < 3) ∧ ¬ nx = true ∧ ¬ ny = true from ⟨⟨q1, q2, q3, q4⟩, q5, q6⟩)]
    have yx : y ≠ x := fun q => q1 q.symm
    simp only [gII, Nat.reduceEqDiff, if_false, if_true, uI_s, uI_n yx, uI_n q1, f116, f117, f118, eby, ebx, nI_cl (show bx < 2147483648 by omega), nI_o (show bx < 12 by omega) (by omega), nI_cl (show by' < 2147483648 by omega), nI_o (show by' < 12 by omega) (by omega), show (0 : Int32) &&& 1 = 0 from rfl]
    congr 2
    have : ∀ (A B : dp_M), (∀ k, dp_I A k = dp_I B k) → A.2 = B.2 → A = B := fun A B h1 h2 => Prod.ext (funext h1) h2
    congr 1
    congr 1
    refine this _ _ (fun k => ?_) rfl
    simp only [rI_I, gII]
    by_cases k6 : k = 116
    · subst k6
      simp only [Nat.reduceEqDiff, if_false, if_true, f116, ebx, eby, ← hN']
      unfold swp; rw [ebx, eby]
    · by_cases k7 : k = 117
      · subst k7
        simp only [Nat.reduceEqDiff, if_false, if_true, f117, ← hN']
        unfold swp; rw [esx, esy]
      · by_cases k8 : k = 118
        · subst k8
          simp only [Nat.reduceEqDiff, if_false, if_true, f118, ← hN']; rfl
        · simp only [if_neg k6, if_neg k7, if_neg k8]
  by_cases gg : (¬ x = y ∧ dp_I M 2 x = dp_I M 2 y ∧ sx < 3 ∧ sy < 3) ∧ ¬ nx = true ∧ ¬ ny = true
  case neg =>
    have hex : dp_den true xs xl (d + 4) 75 [.ref 1, .int (nI x), .int (nI y)] M = iR 0 M := by
      rw [n41]
      by_cases q : ¬ x = y ∧ dp_I M 2 x = dp_I M 2 y ∧ sx < 3 ∧ sy < 3
      · rw [if_pos q, D_X2_exchange_41_eq, if_neg (by decide), hc_hn a6 a1 hx h6, rb_bi, ibz, hc_hn a6 a1 hy h6, rb_bi, ibz, ← hnx, ← hny]
        by_cases q5 : nx = true
        · rw [if_pos q5]
        · rw [if_neg q5]
          by_cases q6 : ny = true
          · rw [if_pos q6]
          · exact absurd ⟨q, q5, q6⟩ gg
      · rw [if_neg q]
    obtain ⟨r1, r2, r3⟩ := h0.looked ((0 : Int32).toInt64)
    refine ⟨0, 0, _, dp_setI (dp_setJ M 245 0 (0 : Int32).toInt64) 114 0 0, wL_swap_ok (hc0 _ hex 0 M rfl (Or.inl rfl)), ?_, by simp [gII, uI], fun _ => by simp [gJI, gJJ, uI], r1, r2.mono (by simp) (by simp), r3, fun i => by rw [gII, if_neg (by decide), gIJ]⟩
    rw [mm _ (by rw [gIJ]; exact a7) (by rw [gIJ]; exact b1) (by rw [gIJ]; exact b3) (by rw [gIJ]; exact b2) (by rw [gIJ]; exact b4) (by rw [gIJ]; exact b5), if_neg gg]
  obtain ⟨q, q5, q6⟩ := gg
  obtain ⟨q1, q2, q3, q4⟩ := q
  obtain ⟨C, hC⟩ : ∃ C, C = rI (rI (rI (dp_setI (dp_setI M 25 bx (-1)) 25 by' (-1)) 8 (swp (dp_I M 8) x y)) 9 (swp (dp_I M 9) x y)) 10 (swp (dp_I M 10) x y) := ⟨_, rfl⟩
  have hex : dp_den true xs xl (d + 4) 75 [.ref 1, .int (nI x), .int (nI y)] M = iR 1 C := by
    rw [n41, if_pos ⟨q1, q2, q3, q4⟩, D_X2_exchange_41_eq, if_neg (by decide), hc_hn a6 a1 hx h6, rb_bi, ibz, hc_hn a6 a1 hy h6, rb_bi, ibz, ← hnx, ← hny, if_neg q5, if_neg q6]
    simp only [dp_w, gII, glI, Nat.reduceEqDiff, if_false, ebx, eby, a13, nI_cl (show x < 2147483648 by omega), nI_o (show x < 100 by omega) (by omega), nI_cl (show y < 2147483648 by omega), nI_o (show y < 100 by omega) (by omega), nI_cl (show bx < 2147483648 by omega), nI_o hbx (by omega), nI_cl (show by' < 2147483648 by omega), nI_o hby (by omega)]
    rw [hc_chg (fun _ => rfl) (fun _ => rfl) (by omega) (by omega), rb_bv, hc_chg (fun _ => rfl) (fun _ => rfl) (by omega) (by omega), rb_bv, hc_chg (fun _ => rfl) (fun _ => rfl) (by omega) (by omega), rb_bv, swp_set, swp_set, swp_set, hC]
    simp only [rI_I, gII, Nat.reduceEqDiff, if_false]
  obtain ⟨K, hK⟩ : ∃ K, K = dp_setI (dp_setI (rI (rI (rI (dp_setI (dp_setJ C 245 0 (1 : Int32).toInt64) 114 0 0) 116 (swp (dp_I M 8) x y)) 117 (swp (dp_I M 9) x y)) 118 (swp (dp_I M 10) x y)) 120 by' 0) 120 bx 0 := ⟨_, rfl⟩
  have cI : ∀ k, k ≠ 8 → k ≠ 9 → k ≠ 10 → k ≠ 25 → dp_I C k = dp_I M k := fun k h1 h2 h3 h4 => by
    rw [hC]; simp only [rI_I, gII, if_neg h1, if_neg h2, if_neg h3, if_neg h4]
  have kI : ∀ k, k ≠ 114 → k ≠ 116 → k ≠ 117 → k ≠ 118 → k ≠ 120 → dp_I K k = dp_I C k := fun k h1 h2 h3 h4 h5 => by
    rw [hK]; simp only [rI_I, gII, gIJ, if_neg h1, if_neg h2, if_neg h3, if_neg h4, if_neg h5]
  have k8 : dp_I K 8 = swp (dp_I M 8) x y := by rw [kI 8 (by decide) (by decide) (by decide) (by decide) (by decide), hC]; simp only [rI_I, Nat.reduceEqDiff, if_false, if_true]
  have k9 : dp_I K 9 = swp (dp_I M 9) x y := by rw [kI 9 (by decide) (by decide) (by decide) (by decide) (by decide), hC]; simp only [rI_I, Nat.reduceEqDiff, if_false, if_true]
  have k10 : dp_I K 10 = swp (dp_I M 10) x y := by rw [kI 10 (by decide) (by decide) (by decide) (by decide) (by decide), hC]; simp only [rI_I, Nat.reduceEqDiff, if_false, if_true]
  have k25 : dp_I K 25 = uI (uI (dp_I M 25) bx (-1)) by' (-1) := by rw [kI 25 (by decide) (by decide) (by decide) (by decide) (by decide), hC]; simp only [rI_I, gII, Nat.reduceEqDiff, if_false, if_true]
  have k116 : dp_I K 116 = swp (dp_I M 8) x y := by rw [hK]; simp only [rI_I, gII, Nat.reduceEqDiff, if_false, if_true]
  have k117 : dp_I K 117 = swp (dp_I M 9) x y := by rw [hK]; simp only [rI_I, gII, Nat.reduceEqDiff, if_false, if_true]
  have k118 : dp_I K 118 = swp (dp_I M 10) x y := by rw [hK]; simp only [rI_I, gII, Nat.reduceEqDiff, if_false, if_true]
  have k120 : dp_I K 120 = uI (uI (dp_I M 120) by' 0) bx 0 := by rw [hK]; simp only [rI_I, gII, gIJ, Nat.reduceEqDiff, if_false, if_true, cI 120 (by decide) (by decide) (by decide) (by decide)]
  have k114 : ∀ i, i ≠ 0 → dp_I K 114 i = dp_I M 114 i := fun i hi => by rw [hK]; simp only [rI_I, gII, gIJ, Nat.reduceEqDiff, if_false, if_true, uI_n hi, cI 114 (by decide) (by decide) (by decide) (by decide)]
  have ko : ∀ k, k ≠ 114 → k ≠ 116 → k ≠ 117 → k ≠ 118 → k ≠ 120 → k ≠ 8 → k ≠ 9 → k ≠ 10 → k ≠ 25 → dp_I K k = dp_I M k := fun k h1 h2 h3 h4 h5 h6 h7 h8 h9 => by rw [kI k h1 h2 h3 h4 h5, cI k h6 h7 h8 h9]
  have kl : dp_len K = dp_len M := by rw [hK, hC]; rfl
  have k1 := ko 1 (by decide) (by decide) (by decide) (by decide) (by decide) (by decide) (by decide) (by decide) (by decide)
  have ne : ∀ (z : Nat) (w : Bool), w = an (hnf (dp_I M 12) z) n → ¬ w = true → ∀ i, i < n → dp_I M 12 (z * 100 + i) ≠ 1 ∧ dp_I M 12 (i * 100 + z) ≠ 1 := fun z w hw hz i hi =>
    ⟨fun e => hz (by rw [hw]; exact an_iff.mpr ⟨i, hi, decide_eq_true (Or.inl e)⟩), fun e => hz (by rw [hw]; exact an_iff.mpr ⟨i, hi, decide_eq_true (Or.inr e)⟩)⟩
  refine ⟨0, 1, _, K, wL_swap_ok (hc0 _ hex 1 C rfl (Or.inr rfl)), ?_, ?_, fun _ => ?_, ?_, ?_, ?_, fun i => ?_⟩
  · rw [mm _ (by rw [gIJ, cI 114 (by decide) (by decide) (by decide) (by decide)]; exact a7) (by rw [gIJ, cI 115 (by decide) (by decide) (by decide) (by decide)]; exact b1) (by rw [gIJ, cI 117 (by decide) (by decide) (by decide) (by decide)]; exact b3) (by rw [gIJ, cI 116 (by decide) (by decide) (by decide) (by decide)]; exact b2) (by rw [gIJ, cI 118 (by decide) (by decide) (by decide) (by decide)]; exact b4) (by rw [gIJ, cI 119 (by decide) (by decide) (by decide) (by decide)]; exact b5), if_pos ⟨⟨q1, q2, q3, q4⟩, q5, q6⟩, hK]
  · rw [hK]; simp [rI_I, gII, uI]
  · rw [hK]; simp [rI_J, gJI, gJJ, uI]
  · refine ⟨a1, a2, a3, a4, a5, by rw [k1]; exact a6, by rw [k114 _ (by decide)]; exact a7, by rw [k1]; exact a8, by rw [k114 _ (by decide)]; exact a9, by rw [k1]; exact a10, by rw [k114 _ (by decide)]; exact a11, by rw [k1, k114 _ (by decide)]; exact a12, by rw [kl]; exact a13, by rw [kl]; exact a14, by rw [kl]; exact a15, ?_, by rw [k116, k8], by rw [k117, k9], by rw [k118, k10], ?_, ?_, ?_, ?_, ?_, ?_, ?_, ?_, fun b' hb' => ?_⟩
    · rw [ko 115 (by decide) (by decide) (by decide) (by decide) (by decide) (by decide) (by decide) (by decide) (by decide), ko 2 (by decide) (by decide) (by decide) (by decide) (by decide) (by decide) (by decide) (by decide) (by decide)]; exact b1
    · rw [ko 119 (by decide) (by decide) (by decide) (by decide) (by decide) (by decide) (by decide) (by decide) (by decide), ko 12 (by decide) (by decide) (by decide) (by decide) (by decide) (by decide) (by decide) (by decide) (by decide)]; exact b5
    · rw [ko 136 (by decide) (by decide) (by decide) (by decide) (by decide) (by decide) (by decide) (by decide) (by decide), ko 3 (by decide) (by decide) (by decide) (by decide) (by decide) (by decide) (by decide) (by decide) (by decide)]; exact b6
    · rw [ko 135 (by decide) (by decide) (by decide) (by decide) (by decide) (by decide) (by decide) (by decide) (by decide), ko 4 (by decide) (by decide) (by decide) (by decide) (by decide) (by decide) (by decide) (by decide) (by decide)]; exact b7
    · rw [ko 137 (by decide) (by decide) (by decide) (by decide) (by decide) (by decide) (by decide) (by decide) (by decide), ko 5 (by decide) (by decide) (by decide) (by decide) (by decide) (by decide) (by decide) (by decide) (by decide)]; exact b8
    · rw [ko 138 (by decide) (by decide) (by decide) (by decide) (by decide) (by decide) (by decide) (by decide) (by decide), ko 6 (by decide) (by decide) (by decide) (by decide) (by decide) (by decide) (by decide) (by decide) (by decide)]; exact b9
    · rw [ko 139 (by decide) (by decide) (by decide) (by decide) (by decide) (by decide) (by decide) (by decide) (by decide), ko 7 (by decide) (by decide) (by decide) (by decide) (by decide) (by decide) (by decide) (by decide) (by decide)]; exact b10
    · rw [ko 3 (by decide) (by decide) (by decide) (by decide) (by decide) (by decide) (by decide) (by decide) (by decide), ko 4 (by decide) (by decide) (by decide) (by decide) (by decide) (by decide) (by decide) (by decide) (by decide), ko 5 (by decide) (by decide) (by decide) (by decide) (by decide) (by decide) (by decide) (by decide) (by decide), ko 6 (by decide) (by decide) (by decide) (by decide) (by decide) (by decide) (by decide) (by decide) (by decide), ko 7 (by decide) (by decide) (by decide) (by decide) (by decide) (by decide) (by decide) (by decide) (by decide)]; exact c1
    · rw [k8, k9, k10, ko 2 (by decide) (by decide) (by decide) (by decide) (by decide) (by decide) (by decide) (by decide) (by decide), ko 12 (by decide) (by decide) (by decide) (by decide) (by decide) (by decide) (by decide) (by decide) (by decide)]
      exact c2.swap hx hy a1 q1 (ne x nx hnx q5) (ne y ny hny q6)
    · by_cases z1 : b' = bx
      · subst z1
        refine Or.inl ⟨by rw [k120, uI_s], ?_⟩
        rw [k25]; unfold uI; split <;> simp
      · by_cases z2 : b' = by'
        · subst z2
          exact Or.inl ⟨by rw [k120, uI_n z1, uI_s], by rw [k25, uI_s]⟩
        · have k := fun (k : Nat) h1 h2 h3 h4 h5 h6 h7 h8 h9 => ko k h1 h2 h3 h4 h5 h6 h7 h8 h9
          refine (c3 b' hb').mono (by rw [k120, uI_n z1, uI_n z2]) (by rw [k25, uI_n z2, uI_n z1]) (by rw [ko 121 (by decide) (by decide) (by decide) (by decide) (by decide) (by decide) (by decide) (by decide) (by decide)]) (by rw [ko 26 (by decide) (by decide) (by decide) (by decide) (by decide) (by decide) (by decide) (by decide) (by decide)]) (by rw [ko 122 (by decide) (by decide) (by decide) (by decide) (by decide) (by decide) (by decide) (by decide) (by decide)]) (fun i _ => by rw [ko 27 (by decide) (by decide) (by decide) (by decide) (by decide) (by decide) (by decide) (by decide) (by decide)]) (fun i _ => by rw [ko 123 (by decide) (by decide) (by decide) (by decide) (by decide) (by decide) (by decide) (by decide) (by decide)]) (fun i _ => by rw [ko 124 (by decide) (by decide) (by decide) (by decide) (by decide) (by decide) (by decide) (by decide) (by decide)]) (fun i _ => by rw [ko 125 (by decide) (by decide) (by decide) (by decide) (by decide) (by decide) (by decide) (by decide) (by decide)]) (fun mb mt k e => ?_)
          rw [k8, k9, k10, ko 12 (by decide) (by decide) (by decide) (by decide) (by decide) (by decide) (by decide) (by decide) (by decide)]
          have nb : ∀ i, i < n → dp_I M 8 i = nI b' → i ≠ x ∧ i ≠ y := fun i _ e => ⟨fun w => z1 (by rw [w, ebx, nI_eq (by omega) (by omega)] at e; exact e.symm), fun w => z2 (by rw [w, eby, nI_eq (by omega) (by omega)] at e; exact e.symm)⟩
          refine PV_c (Nat.le_refl _) (fun i hi => ?_) (fun i h1 h2 => by omega) (fun _ _ _ _ _ _ => rfl) k e _ _ _ _ (fun i hi e => ?_)
          · rw [swp_i]
            by_cases w1 : i = x
            · subst w1
              have : swi i y i = y := by unfold swi; rw [if_neg q1, if_pos rfl]
              rw [this, ebx, eby, nI_eq (by omega) (by omega), nI_eq (by omega) (by omega)]; omega
            · by_cases w2 : i = y
              · subst w2
                have : swi x i i = x := by unfold swi; rw [if_pos rfl]
                rw [this, ebx, eby, nI_eq (by omega) (by omega), nI_eq (by omega) (by omega)]; omega
              · rw [swi_ne w1 w2]
          · obtain ⟨w1, w2⟩ := nb i hi e
            rw [swp_i, swp_i, swi_ne w1 w2]; exact ⟨rfl, rfl⟩
  · rw [hK, hC]
    refine ((((((((((((Off.rr _ _ M).I 25 (by decide) _ _).I 25 (by decide) _ _).rI 8 (by decide) _).rI 9 (by decide) _).rI 10 (by decide) _).J 245 (by decide) _ _).F 0 (by decide) _).rI 116 (by decide) _).rI 117 (by decide) _).rI 118 (by decide) _).I 120 (by decide) _ _).I 120 (by decide) _ _
  · rw [hK, hC]; exact ⟨Nat.le_add_right _ _, Nat.le_add_right _ _⟩
  · rw [k9, swp_i]
    by_cases w1 : i = x
    · subst w1
      have : swi i y i = y := by unfold swi; rw [if_neg q1, if_pos rfl]
      rw [this, esx, esy]
      exact ⟨fun e => absurd e (show ¬ nI (sx) = (3 : Int32) from fun e => absurd ((nI_eq (a := sx) (b := 3) (by omega) (by omega)).mp e) (by omega)), fun e => absurd e (show ¬ nI (sy) = (3 : Int32) from fun e => absurd ((nI_eq (a := sy) (b := 3) (by omega) (by omega)).mp e) (by omega))⟩
    · by_cases w2 : i = y
      · subst w2
        have : swi x i i = x := by unfold swi; rw [if_pos rfl]
        rw [this, esx, esy]
        exact ⟨fun e => absurd e (show ¬ nI (sy) = (3 : Int32) from fun e => absurd ((nI_eq (a := sy) (b := 3) (by omega) (by omega)).mp e) (by omega)), fun e => absurd e (show ¬ nI (sx) = (3 : Int32) from fun e => absurd ((nI_eq (a := sx) (b := 3) (by omega) (by omega)).mp e) (by omega))⟩
      · rw [swi_ne w1 w2]
end HE
