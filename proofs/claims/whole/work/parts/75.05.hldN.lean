/-! HOLD: who goes ahead of whom -/
/-- those that are meant, one after the other in a row -/
def gth (p : Nat → Bool) (f : Nat → Int32) : Nat → Nat → Int32
  | 0 => f
  | i + 1 => if p i = true then uI (gth p f i) (ct p i) (nI i) else gth p f i
theorem gth_same {p : Nat → Bool} {f : Nat → Int32} {i : Nat} : ∀ n, i ≤ n → ct p i = ct p n → gth p f n = gth p f i
  | 0, h, _ => by rw [show i = 0 by omega]
  | n + 1, h, e => by
    by_cases z : i = n + 1
    · rw [z]
    · have h1 : ct p i ≤ ct p n := ct_nm p i n (by omega)
      have h2 : ct p n ≤ ct p (n + 1) := ct_nm p n (n + 1) (by omega)
      have hp : ¬ p n = true := fun q => by
        rw [ct, if_pos q] at e; omega
      rw [gth, if_neg hp]
      exact gth_same n (by omega) (by omega)
where
  ct_nm (p : Nat → Bool) (a : Nat) : ∀ n, a ≤ n → ct p a ≤ ct p n
    | 0, h => by rw [show a = 0 by omega]; exact Nat.le_refl _
    | n + 1, h => by
      by_cases e : a = n + 1
      · rw [e]; exact Nat.le_refl _
      · have := ct_nm p a n (by omega)
        rw [ct]; omega
theorem ctm {p : Nat → Bool} {a : Nat} : ∀ n, a ≤ n → ct p a ≤ ct p n
  | 0, h => by rw [show a = 0 by omega]; exact Nat.le_refl _
  | n + 1, h => by
    by_cases e : a = n + 1
    · rw [e]; exact Nat.le_refl _
    · have := ctm (p := p) n (show a ≤ n by omega)
      rw [ct]; omega
theorem cts {p : Nat → Bool} {a n : Nat} (h : p a = true) (hn : a < n) : ct p a < ct p n := by
  have := ctm (p := p) n (show a + 1 ≤ n by omega)
  rw [ct, if_pos h] at this; omega
theorem ctd {p : Nat → Bool} : ∀ n i, i < ct p n → ∃ j, j < n ∧ p j = true ∧ ct p j = i
  | 0, i, h => by rw [ct] at h; omega
  | n + 1, i, h => by
    by_cases z : i < ct p n
    · obtain ⟨j, h1, h2, h3⟩ := ctd n i z
      exact ⟨j, by omega, h2, h3⟩
    · rw [ct] at h
      by_cases y : p n = true
      · rw [if_pos y] at h
        exact ⟨n, by omega, y, by omega⟩
      · rw [if_neg y] at h; omega
theorem gth_at {p : Nat → Bool} {f : Nat → Int32} {i : Nat} (hp : p i = true) : ∀ n, i < n → gth p f n (ct p i) = nI i
  | 0, h => by omega
  | n + 1, h => by
    rw [gth]
    by_cases z : i = n
    · subst z
      rw [if_pos hp, uI_s]
    · have ih := gth_at (f := f) hp n (by omega)
      by_cases y : p n = true
      · have := cts hp (show i < n by omega)
        rw [if_pos y, uI_n (by omega), ih]
      · rw [if_neg y, ih]
/-- reached over needs -/
def Rch (needs : Nat → Int32) (n a z : Nat) : Prop := ∀ P : Nat → Prop, P a → (∀ k i, P k → needs (k * 100 + i) = 1 → i < n → P i) → P z
theorem Rch.rf {needs : Nat → Int32} {n a : Nat} : Rch needs n a a := fun _ h _ => h
theorem Rch.st {needs : Nat → Int32} {n a k i : Nat} (h : Rch needs n a k) (e : needs (k * 100 + i) = 1) (hi : i < n) : Rch needs n a i := fun P h0 hs => hs k i (h P h0 hs) e hi
/-- sets of few bits that grow -/
def ginn (bh : Nat → Int32) (w : Int32) : Nat → Int32
  | 0 => w
  | i + 1 => if tb (ginn bh w i) i = true then ginn bh w i ||| bh i else ginn bh w i
def outr (bh : Nat → Int32) (m : Nat) (w : Int32) : Nat → Int32
  | 0 => w
  | r + 1 => ginn bh (outr bh m w r) m
def Clo (bh : Nat → Int32) (m : Nat) (w : Int32) : Prop := ∀ i j, i < m → j < m → tb w i = true → tb (bh i) j = true → tb w j = true
theorem ginn_m {bh : Nat → Int32} {w : Int32} {j : Nat} (h : tb w j = true) : ∀ i, tb (ginn bh w i) j = true
  | 0 => h
  | i + 1 => by
    have ih := ginn_m (bh := bh) h i
    rw [ginn]
    split
    · rw [tb_or, ih]; rfl
    · exact ih
theorem ginn_mm {bh : Nat → Int32} {w : Int32} {j i : Nat} (h : tb (ginn bh w i) j = true) : ∀ i', i ≤ i' → tb (ginn bh w i') j = true
  | 0, hi => by rw [show i = 0 by omega] at h; exact h
  | i' + 1, hi => by
    by_cases e : i = i' + 1
    · rw [← e]; exact h
    · have ih := ginn_mm h i' (by omega)
      rw [ginn]
      split
      · rw [tb_or, ih]; rfl
      · exact ih
theorem ginn_cl {bh : Nat → Int32} {w : Int32} {m j : Nat} (hc : Clo bh m w) (hj : j < m) : ∀ i, i ≤ m → tb (ginn bh w i) j = true → tb w j = true
  | 0, _, h => h
  | i + 1, hi, h => by
    rw [ginn] at h
    by_cases z : tb (ginn bh w i) i = true
    · rw [if_pos z, tb_or, Bool.or_eq_true] at h
      rcases h with h | h
      · exact ginn_cl hc hj i (by omega) h
      · have hw : tb w i = true := ginn_cl hc (by omega) i (by omega) z
        exact hc i j (by omega) hj hw h
    · rw [if_neg z] at h
      exact ginn_cl hc hj i (by omega) h
theorem Clo.next {bh : Nat → Int32} {w : Int32} {m : Nat} (hc : Clo bh m w) : Clo bh m (ginn bh w m) := fun i j hi hj h1 h2 =>
  ginn_m (hc i j hi hj (ginn_cl hc hi m (Nat.le_refl _) h1) h2) m
theorem clo_or {bh : Nat → Int32} {w : Int32} {m : Nat} : Clo bh m w ∨ ct (tb w) m < ct (tb (ginn bh w m)) m := by
  by_cases h : Clo bh m w
  · exact Or.inl h
  · right
    unfold Clo at h
    obtain ⟨i, h⟩ := Classical.not_forall.mp h
    obtain ⟨j, h⟩ := Classical.not_forall.mp h
    simp only [Classical.not_imp] at h
    obtain ⟨hi, hj, h1, h2, h3⟩ := h
    refine ct_lt m hj (fun k _ hk => ginn_m hk m) (Bool.eq_false_iff.mpr h3) ?_
    have : tb (ginn bh w (i + 1)) j = true := by
      rw [ginn, if_pos (ginn_m h1 i), tb_or, h2, Bool.or_true]
    exact ginn_mm this m (by omega)
theorem outr_cl {bh : Nat → Int32} {w : Int32} {m a : Nat} (ha : a < m) (hw : tb w a = true) : Clo bh m (outr bh m w m) := by
  have key : ∀ r, r ≤ m → Clo bh m (outr bh m w r) ∨ r + 1 ≤ ct (tb (outr bh m w r)) m := by
    intro r
    induction r with
    | zero =>
      intro _
      right
      have := ct_lt (p := fun _ => false) (q := tb w) m ha (fun _ _ q => by cases q) rfl hw
      show 1 ≤ ct (tb w) m
      omega
    | succ r ih =>
      intro hr
      rcases ih (by omega) with h | h
      · exact Or.inl h.next
      · rcases clo_or (bh := bh) (w := outr bh m w r) (m := m) with h2 | h2
        · exact Or.inl h2.next
        · right; show r + 1 + 1 ≤ ct (tb (ginn bh (outr bh m w r) m)) m; omega
  rcases key m (Nat.le_refl _) with h | h
  · exact h
  · have := ct_le (tb (outr bh m w m)) m; omega
theorem outr_m {bh : Nat → Int32} {w : Int32} {m j : Nat} (h : tb w j = true) : ∀ r, tb (outr bh m w r) j = true
  | 0 => h
  | r + 1 => ginn_m (outr_m h r) m
theorem outr_s {bh : Nat → Int32} {w : Int32} {m : Nat} {P : Nat → Prop} (h0 : ∀ j, tb w j = true → P j) (hs : ∀ i j, i < m → P i → tb (bh i) j = true → P j) : ∀ r j, tb (outr bh m w r) j = true → P j
  | 0, j, h => h0 j h
  | r + 1, j, h => by
    have key : ∀ i, i ≤ m → ∀ j, tb (ginn bh (outr bh m w r) i) j = true → P j := by
      intro i
      induction i with
      | zero => intro _ j h; exact outr_s h0 hs r j h
      | succ i ih =>
        intro hi j h
        rw [ginn] at h
        by_cases z : tb (ginn bh (outr bh m w r) i) i = true
        · rw [if_pos z, tb_or, Bool.or_eq_true] at h
          rcases h with h | h
          · exact ih (by omega) j h
          · exact hs i j (by omega) (ih (by omega) i z) h
        · rw [if_neg z] at h
          exact ih (by omega) j h
    exact key m (Nat.le_refl _) j h
/-- those behind one, as bits -/
def bhm (needs : Nat → Int32) (lo : Nat → Nat) (i : Nat) : Nat → Int32
  | 0 => 0
  | j + 1 => bhm needs lo i j ||| (if needs (lo i * 100 + lo j) = 0 then 0 else (1 : Int32) <<< (nI j &&& 31))
theorem bhm_tb {needs : Nat → Int32} {lo : Nat → Nat} {i j : Nat} (hj : j < 32) : ∀ m, m ≤ 32 → (tb (bhm needs lo i m) j = true ↔ j < m ∧ ¬ needs (lo i * 100 + lo j) = 0)
  | 0, _ => by rw [bhm, tb_0]; simp
  | m + 1, hm => by
    rw [bhm, tb_or, Bool.or_eq_true, bhm_tb hj m (by omega)]
    by_cases z : needs (lo i * 100 + lo m) = 0
    · rw [if_pos z, tb_0]
      constructor
      · rintro (⟨h1, h2⟩ | h)
        · exact ⟨by omega, h2⟩
        · cases h
      · rintro ⟨h1, h2⟩
        left
        refine ⟨?_, h2⟩
        by_cases e : j = m
        · subst e; exact absurd z h2
        · omega
    · rw [if_neg z, tb_one (by omega) hj, decide_eq_true_eq]
      constructor
      · rintro (⟨h1, h2⟩ | h)
        · exact ⟨by omega, h2⟩
        · subst h; exact ⟨by omega, z⟩
      · rintro ⟨h1, h2⟩
        by_cases e : j = m
        · exact Or.inr e
        · exact Or.inl ⟨by omega, h2⟩
section HF
variable {xs : Nat → Int32} {xl d : Nat} {M : dp_M}
theorem hc_gth {n b : Nat} (h : dp_I M 1 2 = nI n) (hn : n ≤ 100) (h4 : ct (lyf (dp_I M 8) (dp_I M 9) (nI b)) n ≤ 4) : dp_den true xs xl (d + 1) 65 [.ref 1, .int (nI b)] M = iR (nI (ct (lyf (dp_I M 8) (dp_I M 9) (nI b)) n)) (rI M 13 (gth (lyf (dp_I M 8) (dp_I M 9) (nI b)) (dp_I M 13) n)) := by
  rw [D_X2_gather_0_den, D_X2_gather_0_eq]
  simp only [dp_w]
  generalize hp : lyf (dp_I M 8) (dp_I M 9) (nI b) = p at h4
  have key := lpb (F := fun (s : Nat × dp_M) i => D_X2_gather_4 xs xl d (nI b) (nI s.1) (nI i) s.2) (s := fun i => (ct p i, rI M 13 (gth p (dp_I M 13) i))) (N := n) (r := (.inl (some (.int (nI (ct p n)))), rI M 13 (gth p (dp_I M 13) n))) ?_ (fun i hi hr => ?_)
  · (try dsimp only at key)
    rw [gth, rI_id] at key
    exact key
  · (try dsimp only)
    rw [D_X2_gather_4_eq]
    simp only [rI_I, Nat.reduceEqDiff, if_false, h]
    rw [if_pos (nI_lle (Nat.le_refl _) (by omega))]
  · (try dsimp only at hr); (try dsimp only)
    have hm := ctm (p := p) n (show i ≤ n by omega)
    rw [D_X2_gather_4_eq]
    simp only [rI_I, Nat.reduceEqDiff, if_false, h]
    rw [if_neg (nI_nge hi (by omega))]
    by_cases z : 4 ≤ ct p i
    · rw [if_pos (show (4 : Int32) ≤ nI (ct p i) from nI_le (a := 4) (b := ct p i) (by omega) (by omega))]
      have e : ct p i = ct p n := by omega
      rw [gth_same n (by omega) e, e]
    · rw [if_neg (show ¬ (4 : Int32) ≤ nI (ct p i) from nI_ge (a := ct p i) (b := 4) (by omega) (by omega))]
      simp only [nI_cl (show i < 2147483648 by omega), nI_o (show i < 100 by omega) (by omega), nI_cl (show ct p i < 2147483648 by omega), nI_o (show ct p i < 4 by omega) (by omega), if_false, dp_w, nI_1, rI_set]
      rw [ct, gth] at hr
      by_cases z1 : dp_I M 8 i = nI b
      · rw [if_pos z1]
        by_cases z2 : dp_I M 9 i = 3
        · have hpi : ¬ p i = true := fun q => by rw [← hp] at q; exact (of_decide_eq_true q).2 z2
          rw [if_neg hpi, if_neg hpi] at hr
          rw [if_pos z2]; exact hr
        · have hpi : p i = true := by rw [← hp]; exact decide_eq_true ⟨z1, z2⟩
          rw [if_pos hpi, if_pos hpi] at hr
          rw [if_neg z2]; exact hr
      · have hpi : ¬ p i = true := fun q => by rw [← hp] at q; exact z1 (of_decide_eq_true q).1
        rw [if_neg hpi, if_neg hpi] at hr
        rw [if_neg z1]; exact hr
/-- where one stands among those that are meant -/
theorem hc_ix {p : Nat → Bool} {n x : Nat} (hn : n ≤ 100) (h4 : ct p n ≤ 4) (hx : x < n) (hp : p x = true) (g : ∀ i, i < n → p i = true → dp_I M 13 (ct p i) = nI i) : dp_den true xs xl (d + 1) 66 [.ref 1, .int (nI x), .int (nI (ct p n))] M = iR (nI (ct p x)) M := by
  rw [D_X2_indexOf_0_den, D_X2_indexOf_0_eq]
  simp only [dp_w]
  have hc := cts hp hx
  refine lpf (F := fun i => D_X2_indexOf_2 xs xl d (nI x) (nI (ct p n)) (nI i) M) (a := 0) (j := ct p x) (Nat.zero_le _) (fun i _ hi hr => ?_) ?_
  · obtain ⟨j, j1, j2, j3⟩ := ctd (p := p) n i (by omega)
    have gj := g j j1 j2
    rw [j3] at gj
    rw [D_X2_indexOf_2_eq, if_neg (nI_nge (by omega) (by omega))]
    simp only [nI_cl (show i < 2147483648 by omega), nI_o (show i < 4 by omega) (by omega), if_false, gj, dp_w, nI_1]
    rw [if_neg (fun e => by rw [nI_eq (by omega) (by omega)] at e; subst e; omega)]
    exact hr
  · (try dsimp only)
    rw [D_X2_indexOf_2_eq, if_neg (nI_nge (by omega) (by omega))]
    simp only [nI_cl (show ct p x < 2147483648 by omega), nI_o (show ct p x < 4 by omega) (by omega), if_false, g x hx hp, if_true]
theorem hc_bh {m i : Nat} {lo : Nat → Nat} (h6 : ∀ k, dp_I M 12 k = 0 ∨ dp_I M 12 k = 1) (hm : m ≤ 4) (hi : i < m) (hl : ∀ j, j < m → lo j < 100 ∧ dp_I M 13 j = nI (lo j)) : dp_den true xs xl (d + 2) 63 [.ref 1, .int (nI i), .int (nI m)] M = iR (bhm (dp_I M 12) lo i m) M := by
  rw [D_X2_behind_0_den, D_X2_behind_0_eq]
  simp only [dp_w]
  refine lpb (F := fun (a : Int32) j => D_X2_behind_5 xs xl (d + 1) (nI i) (nI m) a (nI j) M) (s := bhm (dp_I M 12) lo i) (N := m) ?_ (fun j hj hr => ?_)
  · (try dsimp only)
    rw [D_X2_behind_5_eq, if_pos (nI_lle (Nat.le_refl _) (by omega))]
  · (try dsimp only at hr); (try dsimp only)
    obtain ⟨x1, x2⟩ := hl i hi
    obtain ⟨y1, y2⟩ := hl j hj
    rw [bhm] at hr
    rw [D_X2_behind_5_eq, if_neg (nI_nge hj (by omega))]
    simp only [nI_cl (show i < 2147483648 by omega), nI_o (show i < 4 by omega) (by omega), nI_cl (show j < 2147483648 by omega), nI_o (show j < 4 by omega) (by omega), if_false, x2, y2]
    rw [hc_need x1 y1 h6, rb_bi]
    simp only [dp_w, nI_1]
    by_cases z : dp_I M 12 (lo i * 100 + lo j) = 0
    · rw [if_pos z] at hr
      rw [if_pos z]; exact hr
    · rw [if_neg z] at hr
      rw [if_neg z]; exact hr
theorem hc_ahead {n B T x y b : Nat} (a6 : dp_I M 1 2 = nI n) (a1 : n ≤ 100) (hB : B ≤ 12) (c2 : HSt n B T (dp_I M 2) (dp_I M 8) (dp_I M 9) (dp_I M 10) (dp_I M 12)) (hx : x < n) (hy : y < n) (hb : b < B) (ex : dp_I M 8 x = nI b) (ey : dp_I M 8 y = nI b) (sx : ¬ dp_I M 9 x = 3) (sy : ¬ dp_I M 9 y = 3) : ∃ (v : Int32) (f : Nat → Int32), dp_den true xs xl (d + 3) 62 [.ref 1, .int (nI y), .int (nI x)] M = iR v (rI M 13 f) ∧ (v = 0 ∨ v = 1) ∧ (v = 1 ↔ Rch (dp_I M 12) n y x) := by
  obtain ⟨s1, s2, s3, s4, s5, s6, s7⟩ := c2
  have h4 := s5 b hb
  obtain ⟨p, hp⟩ : ∃ p, p = lyf (dp_I M 8) (dp_I M 9) (nI b) := ⟨_, rfl⟩
  rw [← hp] at h4
  have px : p x = true := by rw [hp]; exact decide_eq_true ⟨ex, sx⟩
  have py : p y = true := by rw [hp]; exact decide_eq_true ⟨ey, sy⟩
  obtain ⟨f, hf⟩ : ∃ f, f = gth p (dp_I M 13) n := ⟨_, rfl⟩
  obtain ⟨N, hN⟩ : ∃ N, N = rI M 13 f := ⟨_, rfl⟩
  have n12 : dp_I N 12 = dp_I M 12 := by rw [hN, rI_I, if_neg (by decide)]
  have n13 : dp_I N 13 = f := by rw [hN, rI_I, if_pos rfl]
  have gat : ∀ i, i < n → p i = true → dp_I N 13 (ct p i) = nI i := fun i hi q => by rw [n13, hf]; exact gth_at q n hi
  obtain ⟨m, hm⟩ : ∃ m, m = ct p n := ⟨_, rfl⟩
  have lo' : ∀ j, ∃ i, j < m → i < n ∧ p i = true ∧ ct p i = j := fun j => by
    by_cases z : j < m
    · obtain ⟨i, h1, h2, h3⟩ := ctd n j (by rw [← hm]; exact z)
      exact ⟨i, fun _ => ⟨h1, h2, h3⟩⟩
    · exact ⟨0, fun q => absurd q z⟩
  obtain ⟨lo, hlo⟩ : ∃ lo : Nat → Nat, ∀ j, j < m → lo j < n ∧ p (lo j) = true ∧ ct p (lo j) = j := ⟨fun j => Classical.choose (lo' j), fun j => Classical.choose_spec (lo' j)⟩
  have loi : ∀ i, i < n → p i = true → lo (ct p i) = i := fun i hi q => by
    have hc := cts q hi
    obtain ⟨h1, h2, h3⟩ := hlo (ct p i) (by omega)
    by_cases z : lo (ct p i) < i
    · have := cts h2 z; omega
    · by_cases w : i < lo (ct p i)
      · have := cts q w; omega
      · omega
  have hl : ∀ j, j < m → lo j < 100 ∧ dp_I N 13 j = nI (lo j) := fun j hj => by
    obtain ⟨h1, h2, h3⟩ := hlo j hj
    have := gat _ h1 h2
    rw [h3] at this
    exact ⟨by omega, this⟩
  have cy := cts py hy
  have cx := cts px hx
  obtain ⟨w0, hw0⟩ : ∃ w0, w0 = (1 : Int32) <<< (nI (ct p y) &&& 31) := ⟨_, rfl⟩
  obtain ⟨bh, hbh⟩ : ∃ bh, bh = fun i => bhm (dp_I M 12) lo i m := ⟨_, rfl⟩
  have main : ∀ r, D_X2_isAheadOf_24 xs xl (d + 2) (nI y) (nI x) (nI m) (outr bh m w0 m) (nI m) N = some r → D_X2_isAheadOf_24 xs xl (d + 2) (nI y) (nI x) (nI m) w0 0 N = some r := fun r hr => by
    refine lpb (F := fun (w : Int32) i => D_X2_isAheadOf_24 xs xl (d + 2) (nI y) (nI x) (nI m) w (nI i) N) (s := outr bh m w0) (N := m) hr (fun i hi hr2 => ?_)
    (try dsimp only at hr2); (try dsimp only)
    rw [D_X2_isAheadOf_24_eq, if_neg (nI_nge hi (by omega))]
    simp only [dp_w]
    refine lpb (F := fun (w : Int32) j => D_X2_isAheadOf_33 xs xl (d + 2) (nI y) (nI x) (nI m) w (nI i) (nI j) N) (s := ginn bh (outr bh m w0 i)) (N := m) ?_ (fun j hj hr3 => ?_)
    · (try dsimp only)
      rw [D_X2_isAheadOf_33_eq, if_pos (nI_lle (Nat.le_refl _) (by omega))]
      simp only [dp_w, nI_1]
      apply D_X2_isAheadOf_24_to_24_a
      exact hr2
    · (try dsimp only at hr3); (try dsimp only)
      rw [ginn] at hr3
      rw [D_X2_isAheadOf_33_eq, if_neg (nI_nge hj (by omega))]
      simp only [dp_w, nI_1, tb_sh (show j < 32 by omega)]
      by_cases z : tb (ginn bh (outr bh m w0 i) j) j = true
      · rw [if_pos z] at hr3
        rw [if_pos z, hc_bh (lo := lo) (by rw [n12]; exact s6) (by omega) hj hl, rb_bi, n12]
        rw [hbh] at hr3 ⊢
        exact hr3
      · rw [if_neg z] at hr3
        rw [if_neg z]; exact hr3
  have hcl : Clo bh m (outr bh m w0 m) := outr_cl (a := ct p y) (by omega) (by rw [hw0, tb_one (by omega) (by omega)]; simp)
  have hcy : tb (outr bh m w0 m) (ct p y) = true := outr_m (by rw [hw0, tb_one (by omega) (by omega)]; simp) m
  have hb1 : ∀ i j, i < m → j < m → (tb (bh i) j = true ↔ dp_I M 12 (lo i * 100 + lo j) = 1) := fun i j hi hj => by
    rw [hbh]; dsimp only
    rw [bhm_tb (by omega) m (by omega)]
    constructor
    · rintro ⟨-, h⟩; exact (s6 _).resolve_left h
    · intro h; exact ⟨hj, fun q => by rw [h] at q; exact absurd q (by decide)⟩
  have snd : ∀ j, tb (outr bh m w0 m) j = true → j < m ∧ Rch (dp_I M 12) n y (lo j) := outr_s (P := fun j => j < m ∧ Rch (dp_I M 12) n y (lo j)) (fun j h => by
      by_cases z : j < 32
      · rw [hw0, tb_one (by omega) z, decide_eq_true_eq] at h
        subst h
        exact ⟨by omega, by rw [loi y hy py]; exact Rch.rf⟩
      · rw [tb_ge (by omega)] at h; cases h) (fun i j hi hr h => by
      by_cases z : j < 32
      · have h' := h
        rw [hbh] at h'; dsimp only at h'
        rw [bhm_tb z m (by omega)] at h'
        exact ⟨h'.1, hr.2.st ((hb1 i j hi h'.1).mp h) (hlo j h'.1).1⟩
      · rw [tb_ge (by omega)] at h; cases h) m
  have cmp : ∀ z, Rch (dp_I M 12) n y z → z < n ∧ p z = true ∧ tb (outr bh m w0 m) (ct p z) = true := fun z hz =>
    hz (fun z => z < n ∧ p z = true ∧ tb (outr bh m w0 m) (ct p z) = true) ⟨hy, py, hcy⟩ (fun k i ih e hi => by
      obtain ⟨k1, k2, k3⟩ := ih
      obtain ⟨r1, r2, r3, r4⟩ := s7 k i (by omega) e
      have kb : dp_I M 8 k = nI b ∧ ¬ dp_I M 9 k = 3 := by rw [hp] at k2; exact of_decide_eq_true k2
      have pi : p i = true := by rw [hp]; exact decide_eq_true ⟨by rw [← r3]; exact kb.1, fun q => kb.2 (r4 q)⟩
      have ci := cts pi hi
      have ck := cts k2 k1
      refine ⟨hi, pi, hcl (ct p k) (ct p i) (by omega) (by omega) k3 ?_⟩
      rw [hb1 _ _ (by omega) (by omega), loi k k1 k2, loi i hi pi]; exact e)
  refine ⟨bI (tb (outr bh m w0 m) (ct p x) = true), f, ?_, by rw [bI_01]; trivial, ?_⟩
  · rw [D_X2_isAheadOf_0_den, D_X2_isAheadOf_0_eq]
    simp only [nI_cl (show y < 2147483648 by omega), nI_o (show y < 100 by omega) (by omega), if_false, ey]
    rw [hc_gth a6 a1 (by rw [← hp]; exact h4), rb_bi, ← hp, ← hf, ← hN, hc_ix a1 h4 hy py gat, rb_bi]
    simp only [dp_w]
    rw [← hm, ← hw0]
    refine main _ ?_
    rw [D_X2_isAheadOf_24_eq, if_pos (nI_lle (Nat.le_refl _) (by omega)), hm, hc_ix a1 h4 hx px gat, rb_bi, ← hm]
    simp only [tb_sh (show ct p x < 32 by omega), ibb]
  · rw [bI_1]
    constructor
    · intro h
      have := (snd _ h).2
      rwa [loi x hx px] at this
    · intro h; exact (cmp x h).2.2
end HF
