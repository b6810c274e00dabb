/-! SECURITIES: laying a sum on the guarantees of a holder; the class's way -/
def mnJ (m r : Int64) : Int64 := if m < r then m else r
/-- failed, parts, rest, their guarantees, what they cover -/
abbrev LyT : Type := Bool × Nat × Int64 × (Nat → Int32) × (Nat → Int64)
def ly1 (s : LyT) (m : Int64) (g : Int32) : LyT := if s.1 = true ∨ s.2.2.1 ≤ 0 then s else if mnJ m s.2.2.1 ≤ 0 then s else if s.2.1 = 4 then (true, s.2) else (false, s.2.1 + 1, s.2.2.1 - mnJ m s.2.2.1, uI s.2.2.2.1 s.2.1 g, uI s.2.2.2.2 s.2.1 (mnJ m s.2.2.1))
def ly (M : dp_M) (w R : Nat) (cn : Int64) : Nat → LyT
  | 0 => (false, 0, cn, fun _ => 0, fun _ => 0)
  | k + 1 => ly1 (ly M w R cn k) (if hp M (nI w) k = true then mc M (dp_I M 213 k).toNatClampNeg R else 0) (dp_I M 213 k)
theorem ly1_k {s : LyT} {m : Int64} {g : Int32} (h : s.1 = true ∨ s.2.2.1 ≤ 0) : ly1 s m g = s := by unfold ly1; rw [if_pos h]
theorem ly1_x {s : LyT} {m : Int64} {g : Int32} (h : mnJ m s.2.2.1 ≤ 0) : ly1 s m g = s := by
  unfold ly1
  by_cases z : s.1 = true ∨ s.2.2.1 ≤ 0
  · rw [if_pos z]
  · rw [if_neg z, if_pos h]
theorem ly1_0 {s : LyT} {g : Int32} : ly1 s 0 g = s := by
  by_cases z : s.2.2.1 ≤ 0
  · exact ly1_k (Or.inr z)
  · refine ly1_x ?_
    unfold mnJ; rw [if_pos (Int64.not_le.mp z)]; decide
theorem ly_k {M : dp_M} {w R : Nat} {cn : Int64} {k : Nat} (h : (ly M w R cn k).1 = true ∨ (ly M w R cn k).2.2.1 ≤ 0) : ∀ m, ly M w R cn (k + m) = ly M w R cn k
  | 0 => rfl
  | m + 1 => by
    rw [← Nat.add_assoc, ly, ly_k h m, ly1_k h]
/-- what holds along the way -/
def LI (O : Nat → Int32) (cn : Int64) (k : Nat) (s : LyT) : Prop := s.2.1 ≤ 4 ∧ 0 ≤ s.2.2.1.toInt ∧ s.2.2.1.toInt ≤ cn.toInt ∧ s.2.2.1 + sl s.2.2.2.2 s.2.1 = cn ∧ (∀ j, j < s.2.1 → (∃ i, i < k ∧ s.2.2.2.1 j = O i) ∧ 1 ≤ (s.2.2.2.2 j).toInt ∧ (s.2.2.2.2 j).toInt ≤ cn.toInt) ∧ ∀ i j, i < s.2.1 → j < s.2.1 → s.2.2.2.1 i = s.2.2.2.1 j → i = j
theorem sl_up {f : Nat → Int64} {n : Nat} {x : Int64} : sl (uI f n x) (n + 1) = sl f n + x := by
  rw [sl, uI_s, sl_c (fun i hi => uI_n (show i ≠ n by omega))]
theorem LI.up {O : Nat → Int32} {cn : Int64} {k : Nat} {s : LyT} (h : LI O cn k s) : LI O cn (k + 1) s := by
  obtain ⟨h1, h2, h3, h4, h5, h6⟩ := h
  exact ⟨h1, h2, h3, h4, fun j hj => ⟨by obtain ⟨⟨i, a, b⟩, -⟩ := h5 j hj; exact ⟨i, by omega, b⟩, (h5 j hj).2⟩, h6⟩
theorem LI.s1 {O : Nat → Int32} {cn : Int64} {k : Nat} {s : LyT} (h : LI O cn k s) (ho : ∀ i, i < k → O i ≠ O k) (m : Int64) : LI O cn (k + 1) (ly1 s m (O k)) := by
  unfold ly1
  by_cases z : s.1 = true ∨ s.2.2.1 ≤ 0
  · rw [if_pos z]; exact h.up
  rw [if_neg z]
  by_cases y : mnJ m s.2.2.1 ≤ 0
  · rw [if_pos y]; exact h.up
  rw [if_neg y]
  by_cases x : s.2.1 = 4
  · rw [if_pos x]; exact h.up
  rw [if_neg x]
  obtain ⟨h1, h2, h3, h4, h5, h6⟩ := h
  have y0 : 1 ≤ (mnJ m s.2.2.1).toInt := by
    rw [Int64.le_iff_toInt_le] at y
    have e : (0 : Int64).toInt = 0 := rfl
    omega
  have y1 : (mnJ m s.2.2.1).toInt ≤ s.2.2.1.toInt := by
    unfold mnJ
    split
    · rename_i q; rw [Int64.lt_iff_toInt_lt] at q; omega
    · exact Int.le_refl _
  have cb := Int64.toInt_lt cn
  have e1 : (s.2.2.1 - mnJ m s.2.2.1).toInt = s.2.2.1.toInt - (mnJ m s.2.2.1).toInt := by
    rw [Int64.toInt_sub]
    apply Int.bmod_eq_of_le <;> omega
  refine ⟨by dsimp only; omega, by dsimp only; omega, by dsimp only; omega, ?_, fun j hj => ?_, fun i j hi hj e => ?_⟩
  · dsimp only
    rw [sl_up, ← h4]
    have : ∀ a b c : Int64, a - b + (c + b) = a + c := fun a b c => by
      rw [Int64.add_comm c b, ← Int64.add_assoc, Int64.sub_add_cancel]
    exact this _ _ _
  · dsimp only at hj ⊢
    by_cases w : j = s.2.1
    · subst w; rw [uI_s, uI_s]; exact ⟨⟨k, by omega, rfl⟩, y0, by omega⟩
    · rw [uI_n w, uI_n w]
      obtain ⟨⟨i, a, b⟩, q⟩ := h5 j (by omega)
      exact ⟨⟨i, by omega, b⟩, q⟩
  · dsimp only at hi hj e
    by_cases w : i = s.2.1
    · by_cases w' : j = s.2.1
      · omega
      · subst w; rw [uI_s, uI_n w'] at e
        obtain ⟨⟨q, a, b⟩, -⟩ := h5 j (by omega)
        exact absurd (b.symm.trans e.symm) (ho q a)
    · by_cases w' : j = s.2.1
      · subst w'; rw [uI_s, uI_n w] at e
        obtain ⟨⟨q, a, b⟩, -⟩ := h5 i (by omega)
        exact absurd (b.symm.trans e) (ho q a)
      · rw [uI_n w, uI_n w'] at e; exact h6 i j (by omega) (by omega) e
theorem ly_I {M : dp_M} {G w R : Nat} {cn : Int64} (c0 : 0 ≤ cn.toInt) (s2 : ∀ k l, k < G → l < G → dp_I M 213 k = dp_I M 213 l → k = l) : ∀ k, k ≤ G → LI (dp_I M 213) cn k (ly M w R cn k)
  | 0, _ => ⟨by show (0 : Nat) ≤ 4; omega, c0, Int.le_refl _, by show cn + sl _ 0 = cn; rw [sl, Int64.add_zero], fun j hj => absurd hj (by show ¬ j < 0; omega), fun i j hi _ _ => absurd hi (by show ¬ i < 0; omega)⟩
  | k + 1, hk => by
    rw [ly]
    exact (ly_I c0 s2 k (by omega)).s1 (fun i hi e => by have := s2 i k (by omega) (by omega) e; omega) _
/-- the class's row with the parts laid over -/
def ovC (f : Nat → Int64) (a n : Nat) (P : Nat → Int32) (C : Nat → Int64) : Nat → Int64 := fun i => if a + 4 ≤ i ∧ i < a + 4 + n then (P (i - (a + 4))).toInt64 else if a + 8 ≤ i ∧ i < a + 8 + n then C (i - (a + 8)) else f i
theorem ovC_0 (f : Nat → Int64) (a : Nat) (P : Nat → Int32) (C : Nat → Int64) : ovC f a 0 P C = f := by
  funext i; unfold ovC; rw [if_neg (by omega), if_neg (by omega)]
theorem ovC_b {f : Nat → Int64} {a n : Nat} {P : Nat → Int32} {C : Nat → Int64} {i : Nat} (h : i < a + 4) : ovC f a n P C i = f i := by
  unfold ovC; rw [if_neg (by omega), if_neg (by omega)]
theorem ovC_s {f : Nat → Int64} {a n : Nat} {P : Nat → Int32} {C : Nat → Int64} (hn : n < 4) (g : Int32) (x : Int64) : uI (uI (ovC f a n P C) (a + 4 + n) g.toInt64) (a + 8 + n) x = ovC f a (n + 1) (uI P n g) (uI C n x) := by
  funext i
  by_cases z : i = a + 8 + n
  · subst z
    rw [uI_s]; unfold ovC
    rw [if_neg (show ¬ (a + 4 ≤ a + 8 + n ∧ a + 8 + n < a + 4 + (n + 1)) by omega), if_pos (show a + 8 ≤ a + 8 + n ∧ a + 8 + n < a + 8 + (n + 1) by omega), show a + 8 + n - (a + 8) = n by omega, uI_s]
  rw [uI_n z]
  by_cases y : i = a + 4 + n
  · subst y
    rw [uI_s]; unfold ovC
    rw [if_pos (show a + 4 ≤ a + 4 + n ∧ a + 4 + n < a + 4 + (n + 1) by omega), show a + 4 + n - (a + 4) = n by omega, uI_s]
  rw [uI_n y]; unfold ovC
  by_cases w : a + 4 ≤ i ∧ i < a + 4 + n
  · rw [if_pos w, if_pos (show a + 4 ≤ i ∧ i < a + 4 + (n + 1) by omega), uI_n (by omega)]
  rw [if_neg w, if_neg (show ¬ (a + 4 ≤ i ∧ i < a + 4 + (n + 1)) by omega)]
  by_cases v : a + 8 ≤ i ∧ i < a + 8 + n
  · rw [if_pos v, if_pos (show a + 8 ≤ i ∧ i < a + 8 + (n + 1) by omega), uI_n (by omega)]
  · rw [if_neg v, if_neg (show ¬ (a + 8 ≤ i ∧ i < a + 8 + (n + 1)) by omega)]
def ovH (f : Nat → Int64) (a w : Nat) (cn : Int64) (n : Nat) : Nat → Int64 := uI (uI (uI (uI f a (nI w).toInt64) (a + 1) cn) (a + 2) 0) (a + 3) (nI n).toInt64
theorem mc_e {M M' : dp_M} {g R R' : Nat} (e1 : dp_I M' 208 g = dp_I M 208 g) (e2 : dp_I M' 206 g = dp_I M 206 g) (e3 : dp_I M' 204 g = dp_I M 204 g) (e4 : dp_I M' 205 g = dp_I M 205 g) (e5 : dp_J M' 203 g = dp_J M 203 g) (e6 : nO M' g R' = nO M g R) (e7 : uO M' g R' = uO M g R) : mc M' g R' = mc M g R := by
  unfold mc fr; rw [e1, e2, e3, e4, e5, e6, e7]
section SN
variable {xs : Nat → Int32} {xl d : Nat} {M : dp_M}
theorem k96 {F : Nat → Int64} {G R q : Nat} (hq : R < q) (hF : ∀ i, i < q * 12 → F i = dp_J M 96 i) : (∀ g, SRw M R g → SRw (rJ M 96 F) R g) ∧ (∀ r, r ≤ R → SRv M G r → SRv (rJ M 96 F) G r) ∧ ∀ g, mc (rJ M 96 F) g R = mc M g R := by
  have eI : dp_I (rJ M 96 F) = dp_I M := rJ_I M 96 F
  have eJ : ∀ k, k ≠ 96 → dp_J (rJ M 96 F) k = dp_J M k := fun k hk => by rw [rJ_J, if_neg hk]
  have nn : ∀ g, nO (rJ M 96 F) g R = nO M g R := fun g => by unfold nO ndR ndF; rw [eI, eJ 218 (by decide)]
  have uu : ∀ g, uO (rJ M 96 F) g R = uO M g R := fun g => uO_c (by rw [eI]) (by rw [eI]) g R
  refine ⟨fun g h => h.same (fun k _ => by rw [eJ 95 (by decide)]) (by rw [eI]) (by rw [eI]) (by rw [eI]) (by rw [eJ 203 (by decide)]) (by rw [eI]) (by rw [eI]) (by rw [eI]) (by rw [eI]) (by rw [eI]) (by rw [eJ 210 (by decide)]) (by rw [eJ 211 (by decide)]) (nn g) (uu g), fun r hr h => h.same (Nat.le_refl _) (by rw [eI]) (fun k _ => by rw [eI]) (by rw [eI]) (by rw [eI]) (fun k _ => by rw [eJ 218 (by decide)]) (fun k hk => by rw [rJ_J, if_pos rfl, hF _ (by omega)]), fun g => mc_e (by rw [eI]) (by rw [eI]) (by rw [eI]) (by rw [eI]) (by rw [eJ 203 (by decide)]) (nn g) (uu g)⟩
theorem sc_spread {G R q w : Nat} {cn : Int64} (hG : G ≤ 40) (hR : R ≤ 400) (hw : w < 8) (hq : R < q) (hq2 : q < 401) (c0 : 0 ≤ cn.toInt) (a10 : ∀ g, 1 ≤ g → g ≤ G → SRw M R g) (a13 : SOr M G) (a14 : ∀ r, 1 ≤ r → r ≤ R → SRv M G r) : dp_den true xs xl (d + 4) 201 [.ref 90, .int (nI q), .int (nI w), .long cn] M =
    if (ly M w R cn G).1 = true then iR 0 (rJ M 96 (ovC (dp_J M 96) (q * 12) (ly M w R cn G).2.1 (ly M w R cn G).2.2.2.1 (ly M w R cn G).2.2.2.2)) else iR (bI ((ly M w R cn G).2.2.1 = 0)) (rJ M 96 (ovH (ovC (dp_J M 96) (q * 12) (ly M w R cn G).2.1 (ly M w R cn G).2.2.2.1 (ly M w R cn G).2.2.2.2) (q * 12) w cn (ly M w R cn G).2.1)) := by
  obtain ⟨s1, s2, s3⟩ := a13
  obtain ⟨t1, t2⟩ := s3 w hw
  have t1' : dp_I M 91 w = nI (ct (hp M (nI w)) G) := t1
  have hc := ct_le (hp M (nI w)) G
  have e40 : ∀ i, nI w * (40 : Int32) + nI i = nI (w * 40 + i) := fun i => by rw [show (40 : Int32) = nI 40 from rfl, pk_mul, nI_add]
  have ex : ∀ k, k < G → ∃ g, 1 ≤ g ∧ g ≤ G ∧ dp_I M 213 k = nI g := fun k hk => wi_of (a := 1) (b := G) (s1 k hk) (by omega)
  have li := fun k hk => ly_I (M := M) (G := G) (w := w) (R := R) (cn := cn) c0 s2 k hk
  have e12 : nI q * (12 : Int32) = nI (q * 12) := by rw [show (12 : Int32) = nI 12 from rfl, pk_mul]
  -- the row of a state
  obtain ⟨rw0, hrw⟩ : ∃ rw0 : LyT → Nat → Int64, rw0 = fun s => ovC (dp_J M 96) (q * 12) s.2.1 s.2.2.2.1 s.2.2.2.2 := ⟨_, rfl⟩
  -- the end of the loop
  have e116 : ∀ (s : LyT) (i : Nat), s.2.1 ≤ 4 → D_X8_spread_116 xs xl (d + 3) (nI q) (nI w) cn (nI (q * 12)) (nI s.2.1) s.2.2.1 (nI i) (rJ M 96 (rw0 s)) = iR (bI (s.2.2.1 = 0)) (rJ M 96 (ovH (rw0 s) (q * 12) w cn s.2.1)) := fun s i hs => by
    rw [D_X8_spread_116_eq]
    simp only [show (1 : Int32) = nI 1 from rfl, show (2 : Int32) = nI 2 from rfl, show (3 : Int32) = nI 3 from rfl, nI_add, nI_cl (show q * 12 < 2147483648 by omega), nI_cl (show q * 12 + 1 < 2147483648 by omega), nI_cl (show q * 12 + 2 < 2147483648 by omega), nI_cl (show q * 12 + 3 < 2147483648 by omega), nI_o (show q * 12 < 4812 by omega) (by omega), nI_o (show q * 12 + 1 < 4812 by omega) (by omega), nI_o (show q * 12 + 2 < 4812 by omega) (by omega), nI_o (show q * 12 + 3 < 4812 by omega) (by omega), if_false, dp_w, rJ_set, lg_cmp_eq]
    by_cases z : s.2.2.1 = 0
    · rw [if_pos z, bI_t z]; rfl
    · rw [if_neg z, bI_f z]; rfl
  have key : ∀ m k, k + m = G → (ly M w R cn k).1 = false → D_X8_spread_15 xs xl (d + 3) (nI q) (nI w) cn (nI (q * 12)) (nI (ly M w R cn k).2.1) (ly M w R cn k).2.2.1 (nI (ct (hp M (nI w)) k)) (rJ M 96 (rw0 (ly M w R cn k))) =
      if (ly M w R cn G).1 = true then iR 0 (rJ M 96 (rw0 (ly M w R cn G))) else iR (bI ((ly M w R cn G).2.2.1 = 0)) (rJ M 96 (ovH (rw0 (ly M w R cn G)) (q * 12) w cn (ly M w R cn G).2.1)) := by
    intro m
    induction m with
    | zero =>
      intro k hk hf
      have : k = G := by omega
      subst this
      rw [hf, if_neg (by decide), D_X8_spread_15_eq]
      simp only [nI_cl (show w < 2147483648 by omega), nI_o hw (by omega), if_false, rJ_I, t1']
      rw [if_pos (nI_lle (Nat.le_refl _) (by omega))]
      exact e116 _ _ (li k (by omega)).1
    | succ m ih =>
      intro k hk hf
      obtain ⟨s, hs⟩ : ∃ s, s = ly M w R cn k := ⟨_, rfl⟩
      have ls := li k (by omega)
      by_cases zp : hp M (nI w) k = true
      case neg =>
        have e : ly M w R cn (k + 1) = ly M w R cn k := by rw [ly, if_neg zp, ly1_0]
        have := ih (k + 1) (by omega) (by rw [e]; exact hf)
        rw [e, ct_n2 zp] at this
        exact this
      have hlt : ct (hp M (nI w)) k < ct (hp M (nI w)) G := by
        have := ct_nm2 (p := hp M (nI w)) (a := k + 1) G (by omega)
        rw [ct_s2 zp] at this; omega
      have el : ly M w R cn (k + 1) = ly1 (ly M w R cn k) (mc M (dp_I M 213 k).toNatClampNeg R) (dp_I M 213 k) := by rw [ly, if_pos zp]
      by_cases zr : (ly M w R cn k).2.2.1 ≤ 0
      · have eG : ly M w R cn G = ly M w R cn k := by rw [show G = k + (m + 1) by omega]; exact ly_k (Or.inr zr) (m + 1)
        rw [eG, hf, if_neg (by decide), D_X8_spread_15_eq]
        simp only [nI_cl (show w < 2147483648 by omega), nI_o hw (by omega), if_false, rJ_I, t1', lg_cmp_le]
        rw [if_neg (nI_nge hlt (by omega)), if_pos zr]
        exact e116 _ _ ls.1
      obtain ⟨g, g1, g2, eg⟩ := ex k (by omega)
      have ej : dp_I M 94 (w * 40 + ct (hp M (nI w)) k) = nI g := by
        have := t2 k (by omega) (by unfold hp at zp; exact decide_eq_true_eq.mp zp)
        rw [← eg]; exact this
      rw [eg, nI_cl (by omega)] at el
      obtain ⟨b1, b2, b3⟩ := k96 (M := M) (F := rw0 (ly M w R cn k)) (G := G) hq (fun i hi => by rw [hrw]; exact ovC_b (by omega))
      rw [D_X8_spread_15_eq]
      simp only [nI_cl (show w < 2147483648 by omega), nI_o hw (by omega), if_false, rJ_I, t1', lg_cmp_le]
      rw [if_neg (nI_nge hlt (by omega)), if_neg zr, D_X8_inTurn_0_den, D_X8_inTurn_0_eq]
      simp only [e40, nI_cl (show w * 40 + ct (hp M (nI w)) k < 2147483648 by omega), nI_o (show w * 40 + ct (hp M (nI w)) k < 320 by omega) (by omega), if_false, rJ_I, ej, rb_bi]
      rw [sc_may hR (by omega) (b1 g (a10 g g1 g2)) (fun r r1 r2 => b2 r r2 (a14 r r1 r2)), rb_bl, b3 g]
      simp only [dp_w, nI_1]
      rw [show (if mc M g R < (ly M w R cn k).2.2.1 then mc M g R else (ly M w R cn k).2.2.1) = mnJ (mc M g R) (ly M w R cn k).2.2.1 from rfl]
      by_cases zx : mnJ (mc M g R) (ly M w R cn k).2.2.1 ≤ 0
      · rw [if_pos zx]
        rw [ly1_x zx] at el
        have := ih (k + 1) (by omega) (by rw [el]; exact hf)
        rw [el, ct_s2 zp] at this
        by_cases zz : (ly M w R cn G).1 = true
        · rw [if_pos zz] at this ⊢; exact D_X8_spread_15_to_15_a _ _ _ _ _ _ _ _ _ this
        · rw [if_neg zz] at this ⊢; exact D_X8_spread_15_to_15_a _ _ _ _ _ _ _ _ _ this
      rw [if_neg zx]
      have hor : ¬ ((ly M w R cn k).1 = true ∨ (ly M w R cn k).2.2.1 ≤ 0) := fun q => q.elim (fun a => by rw [hf] at a; cases a) zr
      by_cases z4 : (ly M w R cn k).2.1 = 4
      · have e4 : ly M w R cn (k + 1) = (true, (ly M w R cn k).2) := by rw [el]; unfold ly1; rw [if_neg hor, if_neg zx, if_pos z4]
        have eG : ly M w R cn G = (true, (ly M w R cn k).2) := by
          rw [show G = (k + 1) + m by omega, ly_k (Or.inl (by rw [e4])) m, e4]
        rw [eG, if_pos rfl, z4, if_neg (by decide), hrw]
      · have n4 : (ly M w R cn k).2.1 < 4 := by have := ls.1; omega
        have e4 : ly M w R cn (k + 1) = (false, (ly M w R cn k).2.1 + 1, (ly M w R cn k).2.2.1 - mnJ (mc M g R) (ly M w R cn k).2.2.1, uI (ly M w R cn k).2.2.2.1 (ly M w R cn k).2.1 (nI g), uI (ly M w R cn k).2.2.2.2 (ly M w R cn k).2.1 (mnJ (mc M g R) (ly M w R cn k).2.2.1)) := by rw [el]; unfold ly1; rw [if_neg hor, if_neg zx, if_neg z4]
        have := ih (k + 1) (by omega) (by rw [e4])
        rw [ct_s2 zp] at this
        have er : rw0 (ly M w R cn (k + 1)) = uI (uI (rw0 (ly M w R cn k)) (q * 12 + 4 + (ly M w R cn k).2.1) (nI g).toInt64) (q * 12 + 8 + (ly M w R cn k).2.1) (mnJ (mc M g R) (ly M w R cn k).2.2.1) := by
          rw [e4, hrw]; exact (ovC_s n4 _ _).symm
        rw [er, e4] at this
        rw [if_pos (show nI ((ly M w R cn k).2.1) < (4 : Int32) from nI_lt (a := (ly M w R cn k).2.1) (b := 4) (by omega) (by omega))]
        simp only [show (4 : Int32) = nI 4 from rfl, show (8 : Int32) = nI 8 from rfl, nI_add, nI_cl (show q * 12 + 4 + (ly M w R cn k).2.1 < 2147483648 by omega), nI_o (show q * 12 + 4 + (ly M w R cn k).2.1 < 4812 by omega) (by omega), nI_cl (show q * 12 + 8 + (ly M w R cn k).2.1 < 2147483648 by omega), nI_o (show q * 12 + 8 + (ly M w R cn k).2.1 < 4812 by omega) (by omega), if_false, rJ_set, nI_1]
        by_cases zz : (ly M w R cn G).1 = true
        · rw [if_pos zz] at this ⊢; exact D_X8_spread_15_to_15_a _ _ _ _ _ _ _ _ _ this
        · rw [if_neg zz] at this ⊢; exact D_X8_spread_15_to_15_a _ _ _ _ _ _ _ _ _ this
  rw [D_X8_spread_0_den, D_X8_spread_0_eq]
  simp only [dp_w, e12]
  have := key G 0 (by omega) rfl
  rw [show rw0 (ly M w R cn 0) = dp_J M 96 by rw [hrw]; exact ovC_0 _ _ _ _, rJ_id] at this
  rw [hrw] at this
  exact this
end SN
