/-! SECURITIES: first -/
/-- the places up to k, each one further -/
def sft {α : Type} (O : Nat → α) (a k : Nat) : Nat → α := fun i => if a < i ∧ i ≤ k then O (i - 1) else O i
def crr (T : Nat → Int32) (a : Nat) (x : Int32) (j : Nat) : Int32 := if j = 0 then x else T (a + j - 1)
def sgm (k i : Nat) : Nat := if i = 0 then k else if i ≤ k then i - 1 else i
theorem SOr.front {M M' : dp_M} {G k g w : Nat} (s : SOr M G) (hG : G ≤ 40) (hk : k < G) (hg : g < 41) (hw : w < 8) (ek : dp_I M 213 k = nI g) (eh : dp_I M 202 g = nI w) (e1 : dp_I M' 213 = uI (sft (dp_I M 213) 0 k) 0 (nI g)) (e2 : dp_I M' 202 = dp_I M 202) (e3 : dp_I M' 91 = dp_I M 91) (e4 : dp_I M' 94 = fN (dp_I M 94) (w * 40) (ct (hp M (nI w)) k + 1) (crr (dp_I M 94) (w * 40) (nI g))) : SOr M' G := by
  obtain ⟨s1, s2, s3⟩ := s
  have sg : ∀ i, i < G → sgm k i < G := fun i hi => by unfold sgm; split <;> (try split) <;> omega
  have eo : ∀ i, dp_I M' 213 i = dp_I M 213 (sgm k i) := fun i => by
    rw [e1]; unfold uI sft sgm
    by_cases z : i = 0
    · rw [if_pos z, if_pos z, ek]
    · rw [if_neg z, if_neg z]
      by_cases y : i ≤ k
      · rw [if_pos (by omega), if_pos y]
      · rw [if_neg (by omega), if_neg y]
  have eh' : ∀ x i, hp M' x i = hp M x (sgm k i) := fun x i => by unfold hp; rw [eo, e2]
  have h0 : ∀ x, hp M' x 0 = decide (nI w = x) := fun x => by
    rw [eh']; unfold hp sgm; rw [if_pos rfl, ek, nI_cl (by omega), eh]
  have hkk : ∀ x, hp M x k = decide (nI w = x) := fun x => by
    unfold hp; rw [ek, nI_cl (by omega), eh]
  have c1 : ∀ x i, i ≤ k → ct (hp M' x) (i + 1) = ct (hp M x) i + (if nI w = x then 1 else 0) := fun x i => by
    induction i with
    | zero => intro _; rw [ct, ct, ct, h0]; simp
    | succ i ih =>
      intro hi
      rw [ct, ih (by omega), ct, eh', show sgm k (i + 1) = i by unfold sgm; rw [if_neg (by omega), if_pos hi]; omega]
      omega
  have c2 : ∀ x i, k < i → ct (hp M' x) i = ct (hp M x) i := fun x i => by
    induction i with
    | zero => intro h; omega
    | succ i ih =>
      intro hi
      by_cases z : i = k
      · subst z
        rw [c1 x i (Nat.le_refl _), ct, hkk]
        simp only [decide_eq_true_eq]
      · rw [ct, ih (by omega), ct, eh', show sgm k i = i by unfold sgm; rw [if_neg (by omega), if_neg (by omega)]]
  refine ⟨fun i hi => by rw [eo]; exact s1 _ (sg i hi), fun i j hi hj e => ?_, fun x hx => ⟨?_, fun i hi ho => ?_⟩⟩
  · rw [eo, eo] at e
    have := s2 _ _ (sg i hi) (sg j hj) e
    unfold sgm at this
    split at this <;> split at this <;> (try split at this) <;> (try split at this) <;> omega
  · show dp_I M' 91 x = nI (ct (hp M' (nI x)) G)
    rw [e3, c2 _ G hk]; exact (s3 x hx).1
  · show dp_I M' 94 (x * 40 + ct (hp M' (nI x)) i) = dp_I M' 213 i
    have hi' : hp M' (nI x) i = true := decide_eq_true ho
    have hc := ct_le (hp M (nI w)) k
    have hcx := ct_le (hp M (nI x)) G
    have hcxi : ct (hp M (nI x)) i ≤ ct (hp M (nI x)) G := ct_nm2 G (by omega)
    have kw : hp M (nI w) k = true := by rw [hkk]; simp
    have off : ∀ a, a < 40 → x ≠ w → dp_I M' 94 (x * 40 + a) = dp_I M 94 (x * 40 + a) := fun a ha hx' => by
      rw [e4]; unfold fN; rw [if_neg]
      by_cases y : x < w
      · omega
      · omega
    have old : ∀ i, i < G → hp M (nI x) i = true → dp_I M 94 (x * 40 + ct (hp M (nI x)) i) = dp_I M 213 i := fun i hi q => (s3 x hx).2 i hi (by unfold hp at q; exact decide_eq_true_eq.mp q)
    by_cases z : i = 0
    · subst z
      rw [h0, decide_eq_true_eq, nI_eq (by omega) (by omega)] at hi'
      subst hi'
      rw [e4, ct, fN_in (by omega), e1, uI_s]; rfl
    · by_cases y : i ≤ k
      · obtain ⟨j, rfl⟩ : ∃ j, i = j + 1 := ⟨i - 1, by omega⟩
        have es : sgm k (j + 1) = j := by unfold sgm; rw [if_neg (by omega), if_pos y]; omega
        rw [eh', es] at hi'
        rw [c1 _ j (by omega), eo, es]
        have q1 : ct (hp M (nI x)) (j + 1) ≤ ct (hp M (nI x)) k := ct_nm2 k (by omega)
        rw [ct_s2 hi'] at q1
        have q2 : ct (hp M (nI x)) k ≤ ct (hp M (nI x)) G := ct_nm2 G (by omega)
        by_cases v : w = x
        · subst v
          rw [if_pos rfl, e4, fN_in (by omega)]
          unfold crr
          rw [if_neg (by omega), show w * 40 + (ct (hp M (nI w)) j + 1) - 1 = w * 40 + ct (hp M (nI w)) j by omega]
          exact old j (by omega) hi'
        · rw [if_neg (show ¬ nI w = nI x from fun q => v (by rw [nI_eq (by omega) (by omega)] at q; exact q)), Nat.add_zero, off _ (by omega) (fun q => v q.symm)]
          exact old j (by omega) hi'
      · have es : sgm k i = i := by unfold sgm; rw [if_neg z, if_neg y]
        rw [eh', es] at hi'
        rw [c2 _ i (by omega), eo, es]
        have q3 : ct (hp M (nI x)) (i + 1) ≤ ct (hp M (nI x)) G := ct_nm2 G (by omega)
        rw [ct_s2 hi'] at q3
        by_cases v : w = x
        · subst v
          have q1 : ct (hp M (nI w)) (k + 1) ≤ ct (hp M (nI w)) i := ct_nm2 i (by omega)
          rw [ct_s2 kw] at q1
          rw [e4, fN_ge (by omega)]
          exact old i hi hi'
        · rw [off _ (by omega) (fun q => v q.symm)]
          exact old i hi hi'
section SP
variable {xs : Nat → Int32} {xl d : Nat} {M : dp_M}
theorem sc_front {R G k g w : Nat} (hG : G ≤ 40) (hg1 : 1 ≤ g) (hg : g < 41) (a13 : SOr M G) (hk : k < G) (ek : dp_I M 213 k = nI g) (hw : w < 8) (eh : dp_I M 202 g = nI w) (et : dp_J M 95 (g * 16 + 0) = (nI w).toInt64) : dp_den true xs xl (d + 2) 187 [.ref 90, .int (nI g)] M = if ct (hp M (nI w)) k = 0 then iR 0 M else iR 1 (rI M 94 (fN (dp_I M 94) (w * 40) (ct (hp M (nI w)) k + 1) (crr (dp_I M 94) (w * 40) (nI g)))) := by
  obtain ⟨s1, s2, s3⟩ := a13
  obtain ⟨t1, t2⟩ := s3 w hw
  have t1' : dp_I M 91 w = nI (ct (hp M (nI w)) G) := t1
  have hc := ct_le (hp M (nI w)) G
  have kw : hp M (nI w) k = true := by unfold hp; rw [ek, nI_cl (by omega), eh]; simp
  have q1 : ct (hp M (nI w)) (k + 1) ≤ ct (hp M (nI w)) G := ct_nm2 G (by omega)
  rw [ct_s2 kw] at q1
  have e40 : nI w * (40 : Int32) = nI (w * 40) := by rw [show (40 : Int32) = nI 40 from rfl, pk_mul]
  have ew : ((nI w).toInt64).toInt32 = nI w := by simp
  have tk : dp_I M 94 (w * 40 + ct (hp M (nI w)) k) = nI g := by
    rw [← ek]; exact t2 k hk (by unfold hp at kw; exact decide_eq_true_eq.mp kw)
  have tn : ∀ i, i < ct (hp M (nI w)) k → ¬ dp_I M 94 (w * 40 + i) = nI g := fun i hi e => by
    obtain ⟨j, j1, j2, j3⟩ := ct_fd k i hi
    have := t2 j (by omega) (by unfold hp at j2; exact decide_eq_true_eq.mp j2)
    have e2 : dp_I M 94 (w * 40 + ct (hp M (nI w)) j) = dp_I M 213 j := this
    rw [j3, e] at e2
    have := s2 k j hk (by omega) (by rw [ek, e2])
    omega
  rw [D_X8_moveToFront_0_den, D_X8_moveToFront_0_eq, sc_get (v2 := 0) (g := g) (k := 0) rfl hg (by omega), rb_bl, et]
  simp only [dp_w, ew, e40, nI_cl (show w * 40 < 2147483648 by omega), nI_o (show w * 40 < 320 by omega) (by omega), if_false]
  by_cases z : ct (hp M (nI w)) k = 0
  · rw [z] at tk
    rw [if_pos z, if_pos (show dp_I M 94 (w * 40) = nI g from tk)]
  · rw [if_neg z, if_neg (show ¬ dp_I M 94 (w * 40) = nI g from tn 0 (by omega))]
    generalize ct (hp M (nI w)) k = c at tk tn z q1
    have key := lpb (F := fun (s : Int32 × dp_M) i => D_X8_moveToFront_31 xs xl (d + 1) (nI g) (nI w) (nI (w * 40)) s.1 (nI (w * 40 + i)) s.2) (s := fun i => (crr (dp_I M 94) (w * 40) (nI g) i, rI M 94 (fN (dp_I M 94) (w * 40) i (crr (dp_I M 94) (w * 40) (nI g))))) (N := c) (r := (.inl (some (.int 1)), rI M 94 (fN (dp_I M 94) (w * 40) (c + 1) (crr (dp_I M 94) (w * 40) (nI g))))) ?_ (fun i hi hr => ?_)
    · (try dsimp only at key)
      rw [fN_0, rI_id] at key
      exact key
    · (try dsimp only)
      rw [D_X8_moveToFront_31_eq]
      simp only [nI_cl (show w < 2147483648 by omega), nI_o (show w < 8 by omega) (by omega), if_false, rI_I, Nat.reduceEqDiff, t1', nI_add, nI_cl (show w * 40 + c < 2147483648 by omega), nI_o (show w * 40 + c < 320 by omega) (by omega), if_true, dp_w, rI_set, fN_s]
      rw [if_neg (nI_nge (by omega) (by omega)), fN_ge (Nat.le_refl _), if_pos tk]
    · (try dsimp only at hr); (try dsimp only)
      rw [D_X8_moveToFront_31_eq]
      simp only [nI_cl (show w < 2147483648 by omega), nI_o (show w < 8 by omega) (by omega), if_false, rI_I, Nat.reduceEqDiff, t1', nI_add, nI_cl (show w * 40 + i < 2147483648 by omega), nI_o (show w * 40 + i < 320 by omega) (by omega), if_true, dp_w, rI_set, fN_s, nI_1]
      rw [if_neg (nI_nge (by omega) (by omega)), fN_ge (Nat.le_refl _), if_neg (tn i hi)]
      apply D_X8_moveToFront_31_to_31_a
      have ec : crr (dp_I M 94) (w * 40) (nI g) (i + 1) = dp_I M 94 (w * 40 + i) := by
        unfold crr; rw [if_neg (by omega)]; rfl
      rw [ec] at hr
      exact hr
theorem sm_first {G k g w : Nat} (hG : G ≤ 40) (hg : g < 41) (a2 : dp_I M 114 119 = nI G) (s1 : ∀ k, k < G → wi (dp_I M 213 k) 1 G) (s2 : ∀ k l, k < G → l < G → dp_I M 213 k = dp_I M 213 l → k = l) (hk : k < G) (ek : dp_I M 213 k = nI g) (eh : dp_I M 202 g = nI w) : D_X12_first_19 xs xl d (nI g) 0 0 M = if ct (hp M (nI w)) k = 0 then iR 0 M else iR 1 (rI M 213 (uI (sft (dp_I M 213) 0 k) 0 (nI g))) := by
  have hc := ct_le (hp M (nI w)) k
  obtain ⟨oth, hoth⟩ : ∃ oth : Nat → Int32, oth = fun i => if ct (hp M (nI w)) i = 0 then 0 else 1 := ⟨_, rfl⟩
  have o01 : ∀ i, oth i = 0 ∨ oth i = 1 := fun i => by rw [hoth]; dsimp only; split <;> simp
  have walk : ∀ r, D_X12_first_68 xs xl d (nI g) (nI k) (oth k) (nI k) M = some r → D_X12_first_19 xs xl d (nI g) 0 0 M = some r := fun r hr => by
    have key := lpb (F := fun v i => D_X12_first_19 xs xl d (nI g) (nI i) v M) (s := oth) (N := k) (r := r) ?_ (fun i hi hr => ?_)
    · (try dsimp only at key)
      rw [show oth 0 = 0 by rw [hoth]; rfl] at key
      exact key
    · (try dsimp only)
      rw [D_X12_first_19_eq]
      simp only [nI_cl (show k < 2147483648 by omega), nI_o (show k < 40 by omega) (by omega), if_false]
      rw [if_pos ek]; exact hr
    · (try dsimp only at hr); (try dsimp only)
      obtain ⟨x, x1, x2, ex⟩ := wi_of (a := 1) (b := G) (s1 i (by omega)) (by omega)
      rw [D_X12_first_19_eq]
      simp only [nI_cl (show i < 2147483648 by omega), nI_o (show i < 40 by omega) (by omega), if_false, nI_cl (show g < 2147483648 by omega), nI_o (show g < 41 by omega) (by omega), dp_w, nI_1]
      rw [if_neg (fun e => by have := s2 i k (by omega) hk (by rw [e, ek]); omega)]
      simp only [ex, nI_cl (show x < 2147483648 by omega), nI_o (show x < 41 by omega) (by omega), if_false, eh]
      have hh : dp_I M 202 x = nI w ↔ hp M (nI w) i = true := by unfold hp; rw [ex, nI_cl (by omega), decide_eq_true_eq]
      have e1 : oth (i + 1) = if oth i = 0 then (if dp_I M 202 x = nI w then 1 else 0) else 1 := by
        rw [hoth]; dsimp only
        rw [ct]
        by_cases z : ct (hp M (nI w)) i = 0
        · simp only [z, if_true]
          by_cases y : hp M (nI w) i = true
          · simp [y, hh.mpr y]
          · simp [y, mt hh.mp y]
        · simp [z]
      rw [e1] at hr
      by_cases z : oth i = 0
      · rw [if_pos z] at hr
        rw [if_pos z]
        by_cases y : dp_I M 202 x = nI w
        · rw [if_pos y] at hr
          rw [if_pos y]; exact hr
        · rw [if_neg y] at hr
          rw [if_neg y]; exact hr
      · rw [if_neg z] at hr
        rw [if_neg z]; exact hr
  by_cases z : ct (hp M (nI w)) k = 0
  · rw [if_pos z]
    refine walk _ ?_
    have e0 : oth k = 0 := by rw [hoth]; dsimp only; rw [if_pos z]
    have same : dp_setI M 213 k (nI g) = M := by
      rw [rI_of, ← ek]
      have : uI (dp_I M 213) k (dp_I M 213 k) = dp_I M 213 := by
        funext i; unfold uI
        by_cases e : i = k
        · rw [if_pos e, e]
        · rw [if_neg e]
      rw [this, rI_id]
    have f99 : D_X12_first_99 xs xl d (nI g) (nI k) 0 (nI k) M = iR 0 M := by
      rw [D_X12_first_99_eq, if_pos rfl]
      simp only [nI_cl (show k < 2147483648 by omega), nI_o (show k < 40 by omega) (by omega), if_false, dp_w, same]
      rw [if_pos (Or.inl trivial)]
    rw [e0, D_X12_first_68_eq, if_pos rfl, f99]
    split <;> rfl
  · rw [if_neg z]
    refine walk _ ?_
    have e1 : oth k = 1 := by rw [hoth]; dsimp only; rw [if_neg z]
    rw [e1]
    have key := lpb (F := fun (N : dp_M) j => D_X12_first_68 xs xl d (nI g) (nI k) 1 (nI (k - j)) N) (s := fun j => rI M 213 (sft (dp_I M 213) (k - j) k)) (N := k) (r := (.inl (some (.int 1)), rI M 213 (uI (sft (dp_I M 213) 0 k) 0 (nI g)))) ?_ (fun j hj hr => ?_)
    · (try dsimp only at key)
      have e0 : sft (dp_I M 213) (k - 0) k = dp_I M 213 := by
        funext i; unfold sft; rw [if_neg (by omega)]
      rw [e0, rI_id, Nat.sub_zero] at key
      exact key
    · (try dsimp only)
      rw [Nat.sub_self, D_X12_first_68_eq, if_pos (show nI 0 ≤ (0 : Int32) by decide), D_X12_first_99_eq, if_neg (by decide), if_neg (by decide)]
      simp only [dp_w]
      rw [if_pos (Or.inr trivial)]
      have : (0 : Int32).toNatClampNeg = 0 := rfl
      rw [this, rI_set]
    · (try dsimp only at hr); (try dsimp only)
      obtain ⟨a, ea⟩ : ∃ a, k - j = a + 1 := ⟨k - j - 1, by omega⟩
      rw [show k - (j + 1) = a by omega] at hr
      rw [ea, D_X12_first_68_eq, if_neg (show ¬ nI (a + 1) ≤ (0 : Int32) from nI_ge (a := 0) (b := a + 1) (by omega) (by omega)), if_neg (by decide), nI_pred]
      simp only [nI_cl (show a < 2147483648 by omega), nI_o (show a < 40 by omega) (by omega), nI_cl (show a + 1 < 2147483648 by omega), nI_o (show a + 1 < 40 by omega) (by omega), if_false, dp_w, rI_I, if_true, rI_set]
      have e2 : nI (a + 1) + (-1 : Int32) = nI a := by rw [← nI_pred a, Int32.sub_eq_add_neg]
      have e3 : uI (sft (dp_I M 213) (a + 1) k) (a + 1) (sft (dp_I M 213) (a + 1) k a) = sft (dp_I M 213) a k := by
        funext i; unfold uI sft
        by_cases y : i = a + 1
        · rw [if_pos y, if_neg (by omega), if_pos (by omega), y, Nat.add_sub_cancel]
        · rw [if_neg y]
          by_cases x : a < i ∧ i ≤ k
          · rw [if_pos (by omega), if_pos x]
          · rw [if_neg (by omega), if_neg x]
      rw [e2, e3]; exact hr
theorem s_first (h : RelS M) (v1 : Int32) : ∃ v M1 M2, dp_den true xs xl (d + 4) 323 [.ref 0, .int v1] M = iR v M1 ∧ dp_den true xs xl (d + 4) 519 [.ref 114, .int v1] M1 = iR v M2 ∧ RelS M2 ∧ Off RelS_W (0 :: RelS_V) M M2 ∧ Cst 0 0 M M2 := by
  have h0 := h
  obtain ⟨G, R, hG, hR, a1, a2, a3, a4, a5, a6, a7, a8, a9, a10, a11, a12, a13, a14, a15⟩ := h
  have h13 := a13
  obtain ⟨s1, s2, s3⟩ := h13
  rw [D_X11_first_0_den, D_X11_first_0_eq, sc_gua a1 hG, rb_bi, ibz]
  have mm : ∀ N : dp_M, dp_I N 114 119 = nI G → dp_den true xs xl (d + 3) 515 [.ref 114, .int v1] N = iR (bI (wi v1 1 G)) N := fun N hN => sm_gua hN hG
  by_cases g1 : wi v1 1 G
  case neg =>
    refine ⟨0, M, dp_setI M 114 0 0, by rw [if_neg g1], ?_, h0.same⟩
    rw [D_X12_first_0_den, D_X12_first_0_eq]
    simp only [dp_w]
    rw [mm _ (by simp [gII, gIJ, gIR, gJI, gJJ, gJR, gRI, gRJ, glI, glJ, glR, uI, a2]), rb_bi, ibz, if_neg g1]
  obtain ⟨g, hg1, hg2, rfl⟩ := wi_of (a := 1) (b := G) g1 (by omega)
  have ex : ∀ k, k < G → ∃ g, 1 ≤ g ∧ g ≤ G ∧ dp_I M 213 k = nI g := fun k hk => wi_of (a := 1) (b := G) (s1 k hk) (by omega)
  obtain ⟨k, hk, ek0⟩ := sj (n := G) (p := fun k => (dp_I M 213 k).toNatClampNeg - 1) (fun i hi => by
    obtain ⟨x, x1, x2, e⟩ := ex i hi
    show (dp_I M 213 i).toNatClampNeg - 1 < G
    rw [e, nI_cl (by omega)]; omega) (fun i j hi hj e => by
    obtain ⟨x, x1, x2, e1⟩ := ex i hi
    obtain ⟨y, y1, y2, e2⟩ := ex j hj
    have e' : (dp_I M 213 i).toNatClampNeg - 1 = (dp_I M 213 j).toNatClampNeg - 1 := e
    rw [e1, e2, nI_cl (by omega), nI_cl (by omega)] at e'
    exact s2 i j hi hj (by rw [e1, e2, show x = y by omega])) (show g - 1 < G by omega)
  have ek : dp_I M 213 k = nI g := by
    obtain ⟨x, x1, x2, e⟩ := ex k hk
    have e' : (dp_I M 213 k).toNatClampNeg - 1 = g - 1 := ek0
    rw [e, nI_cl (by omega)] at e'
    rw [e, show x = g by omega]
  obtain ⟨w, hw, eh, et⟩ : ∃ w, w < 8 ∧ dp_I M 202 g = nI w ∧ dp_J M 95 (g * 16 + 0) = (nI w).toInt64 := by
    obtain ⟨w, u, n, b1, b2, b3, b4, b5, b6, -⟩ := a10 g hg1 hg2
    exact ⟨w, b1, b5, b6⟩
  rw [if_pos g1, sc_front (R := R) hG hg1 (by omega) a13 hk ek hw eh et]
  have hpz : ∀ (N : dp_M) x, dp_I N 213 = dp_I M 213 → dp_I N 202 = dp_I M 202 → hp N x = hp M x := fun N x e1 e2 => by funext i; unfold hp; rw [e1, e2]
  have hmo : ∀ N : dp_M, dp_I N 213 = dp_I M 213 → dp_I N 202 = dp_I M 202 → dp_I N 114 119 = nI G → dp_den true xs xl (d + 4) 519 [.ref 114, .int (nI g)] N = if ct (hp M (nI w)) k = 0 then iR 0 (dp_setI N 114 0 0) else iR 1 (rI (dp_setI N 114 0 0) 213 (uI (sft (dp_I M 213) 0 k) 0 (nI g))) := fun N e1 e2 e3 => by
    have f1 : dp_I (dp_setI N 114 0 0) 213 = dp_I M 213 := by rw [gII, if_neg (by decide)]; exact e1
    have f2 : dp_I (dp_setI N 114 0 0) 202 = dp_I M 202 := by rw [gII, if_neg (by decide)]; exact e2
    have f3 : dp_I (dp_setI N 114 0 0) 114 119 = nI G := by rw [gII, if_pos rfl, uI_n (by decide)]; exact e3
    rw [D_X12_first_0_den, D_X12_first_0_eq]
    simp only [dp_w]
    rw [mm _ f3, rb_bi, ibz, if_pos g1, sm_first (w := w) hG (by omega) f3 (by rw [f1]; exact s1) (by rw [f1]; exact s2) hk (by rw [f1]; exact ek) (by rw [f2]; exact eh), hpz _ _ f1 f2, f1]
  by_cases z : ct (hp M (nI w)) k = 0
  · refine ⟨0, M, dp_setI M 114 0 0, ?_, ?_, h0.same⟩
    · rw [if_pos z, rb_bi, if_pos rfl]
    · rw [hmo M rfl rfl a2, if_pos z]
  · obtain ⟨T, hT⟩ : ∃ T, T = fN (dp_I M 94) (w * 40) (ct (hp M (nI w)) k + 1) (crr (dp_I M 94) (w * 40) (nI g)) := ⟨_, rfl⟩
    obtain ⟨O, hO⟩ : ∃ O, O = uI (sft (dp_I M 213) 0 k) 0 (nI g) := ⟨_, rfl⟩
    rw [← hT]
    refine ⟨1, rI M 94 T, rI (dp_setI (rI M 94 T) 114 0 0) 213 O, ?_, ?_, ?_, ?_, ⟨Nat.le_refl _, Nat.le_refl _⟩⟩
    · rw [if_neg z, rb_bi, if_neg (by decide)]
    · rw [hmo _ (by rw [rI_I, if_neg (by decide)]) (by rw [rI_I, if_neg (by decide)]) (by rw [rI_I, if_neg (by decide)]; exact a2), if_neg z, hO]
    · obtain ⟨L, hL⟩ : ∃ L, L = rI (dp_setI (rI M 94 T) 114 0 0) 213 O := ⟨_, rfl⟩
      rw [← hL]
      have lI : ∀ k, k ≠ 114 → k ≠ 94 → k ≠ 213 → dp_I L k = dp_I M k := fun k h1 h2 h3 => by
        rw [hL, rI_I, if_neg h3, gII, if_neg h1, rI_I, if_neg h2]
      have l114 : ∀ i, i ≠ 0 → dp_I L 114 i = dp_I M 114 i := fun i hi => by
        rw [hL, rI_I, if_neg (by decide), gII, if_pos rfl, uI_n hi, rI_I, if_neg (by decide)]
      have lJ : dp_J L = dp_J M := by rw [hL, rI_J, gJI, rI_J]
      have l94 : dp_I L 94 = T := by rw [hL, rI_I, if_neg (by decide), gII, if_neg (by decide), rI_I, if_pos rfl]
      have l213 : dp_I L 213 = O := by rw [hL, rI_I, if_pos rfl]
      have n4 : ∀ r, 1 ≤ r → r ≤ R → (dp_I M 216 r).toNatClampNeg ≤ 4 := fun r h1 h2 => (a14 r h1 h2).n4
      have q := fun (k : Nat) (h1 : k ≠ 114) (h2 : k ≠ 94) (h3 : k ≠ 213) => lI k h1 h2 h3
      refine ⟨G, R, hG, hR, by rw [lI 90 (by decide) (by decide) (by decide)]; exact a1, by rw [l114 _ (by decide)]; exact a2, by rw [lI 90 (by decide) (by decide) (by decide)]; exact a3, by rw [l114 _ (by decide)]; exact a4, by rw [lI 90 (by decide) (by decide) (by decide), l114 _ (by decide)]; exact a5, by rw [lI 90 (by decide) (by decide) (by decide)]; exact a6, by rw [lI 219 (by decide) (by decide) (by decide), lI 92 (by decide) (by decide) (by decide)]; exact a7, by rw [lI 92 (by decide) (by decide) (by decide)]; exact a8, by rw [lI 220 (by decide) (by decide) (by decide), lI 93 (by decide) (by decide) (by decide)]; exact a9, fun x hx1 hx2 => ?_, fun x k hx hk => by rw [lJ]; exact a11 x k hx hk, fun x hx => by rw [lI 208 (by decide) (by decide) (by decide), lJ]; exact a12 x hx, ?_, fun r h1 h2 => ?_, fun r hr => by rw [lI 215 (by decide) (by decide) (by decide)]; exact a15.1 r hr, by unfold SLv; rw [lI 90 (by decide) (by decide) (by decide), lI 215 (by decide) (by decide) (by decide)]; exact a15.2.1, by unfold SDs; rw [lI 216 (by decide) (by decide) (by decide), lI 217 (by decide) (by decide) (by decide)]; exact a15.2.2⟩
      · refine (a10 x hx1 hx2).same (fun k _ => by rw [lJ]) (by rw [q 202 (by decide) (by decide) (by decide)]) (by rw [q 204 (by decide) (by decide) (by decide)]) (by rw [q 205 (by decide) (by decide) (by decide)]) (by rw [lJ]) (by rw [q 206 (by decide) (by decide) (by decide)]) (by rw [q 207 (by decide) (by decide) (by decide)]) (by rw [q 212 (by decide) (by decide) (by decide)]) (by rw [q 208 (by decide) (by decide) (by decide)]) (by rw [q 209 (by decide) (by decide) (by decide)]) (by rw [lJ]) (by rw [lJ]) ?_ (uO_c (q 216 (by decide) (by decide) (by decide)) (q 217 (by decide) (by decide) (by decide)) x R)
        exact nO_c (by rw [q 204 (by decide) (by decide) (by decide)]) (by rw [q 205 (by decide) (by decide) (by decide)]) n4 (fun r _ _ => by rw [q 216 (by decide) (by decide) (by decide)]) (fun r k _ _ _ => by rw [q 217 (by decide) (by decide) (by decide)]) (fun r k _ _ _ => by rw [lJ])
      · exact SOr.front a13 hG hk (by omega) hw ek eh (by rw [l213, hO]) (q 202 (by decide) (by decide) (by decide)) (q 91 (by decide) (by decide) (by decide)) (by rw [l94, hT])
      · exact (a14 r h1 h2).same (Nat.le_refl _) (by rw [q 216 (by decide) (by decide) (by decide)]) (fun k _ => by rw [q 217 (by decide) (by decide) (by decide)]) (by rw [q 214 (by decide) (by decide) (by decide)]) (by rw [q 215 (by decide) (by decide) (by decide)]) (fun k _ => by rw [lJ]) (fun k _ => by rw [lJ])
    · exact (((Off.rr _ _ M).rI 94 (by decide) _).F 0 (by decide) _).rI 213 (by decide) _
end SP
