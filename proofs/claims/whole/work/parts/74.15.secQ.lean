/-! SECURITIES: laying, the model's way -/
def ovP {α : Type} (f : Nat → α) (a n : Nat) (P : Nat → α) : Nat → α := fun i => if a ≤ i ∧ i < a + n then P (i - a) else f i
theorem ovP_0 {α : Type} (f : Nat → α) (a : Nat) (P : Nat → α) : ovP f a 0 P = f := by
  funext i; unfold ovP; rw [if_neg (by omega)]
theorem ovP_b {α : Type} {f P : Nat → α} {a n i : Nat} (h : i < a) : ovP f a n P i = f i := by
  unfold ovP; rw [if_neg (by omega)]
theorem ovP_i {α : Type} {f P : Nat → α} {a n i : Nat} (h : i < n) : ovP f a n P (a + i) = P i := by
  unfold ovP; rw [if_pos (by omega), Nat.add_sub_cancel_left]
theorem ovP_s {α : Type} {f P : Nat → α} {a n : Nat} (x : α) : uI (ovP f a n P) (a + n) x = ovP f a (n + 1) (uI P n x) := by
  funext i
  by_cases z : i = a + n
  · subst z
    rw [uI_s]; unfold ovP
    rw [if_pos (by omega), Nat.add_sub_cancel_left, uI_s]
  rw [uI_n z]; unfold ovP
  by_cases w : a ≤ i ∧ i < a + n
  · rw [if_pos w, if_pos (show a ≤ i ∧ i < a + (n + 1) by omega), uI_n (by omega)]
  · rw [if_neg w, if_neg (show ¬ (a ≤ i ∧ i < a + (n + 1)) by omega)]
section SO
variable {xs : Nat → Int32} {xl d : Nat} {M : dp_M}
/-- the model's memory with a state laid over -/
def lyM (M : dp_M) (q : Nat) (s : LyT) : dp_M := rJ (rI (dp_setI M 216 q 0) 217 (ovP (dp_I M 217) (q * 4) s.2.1 s.2.2.2.1)) 218 (ovP (dp_J M 218) (q * 4) s.2.1 s.2.2.2.2)
theorem lyM_I (q : Nat) (s : LyT) (k : Nat) (h1 : k ≠ 216) (h2 : k ≠ 217) : dp_I (lyM M q s) k = dp_I M k := by
  unfold lyM; rw [rJ_I, rI_I, if_neg h2, gII, if_neg h1]
theorem lyM_J (q : Nat) (s : LyT) (k : Nat) (h1 : k ≠ 218) : dp_J (lyM M q s) k = dp_J M k := by
  unfold lyM; rw [rJ_J, if_neg h1, rI_J, gJI]
theorem lyM_216 (q : Nat) (s : LyT) : dp_I (lyM M q s) 216 = uI (dp_I M 216) q 0 := by
  unfold lyM; rw [rJ_I, rI_I, if_neg (by decide), gII, if_pos rfl]
theorem lyM_217 (q : Nat) (s : LyT) : dp_I (lyM M q s) 217 = ovP (dp_I M 217) (q * 4) s.2.1 s.2.2.2.1 := by
  unfold lyM; rw [rJ_I, rI_I, if_pos rfl]
theorem lyM_218 (q : Nat) (s : LyT) : dp_J (lyM M q s) 218 = ovP (dp_J M 218) (q * 4) s.2.1 s.2.2.2.2 := by
  unfold lyM; rw [rJ_J, if_pos rfl]
theorem rI_setJ (M : dp_M) (k : Nat) (f : Nat → Int32) (k' i : Nat) (x : Int64) : dp_setJ (rI M k f) k' i x = rI (dp_setJ M k' i x) k f := id rfl
theorem rJ_rJ (M : dp_M) (k : Nat) (f g : Nat → Int64) : rJ (rJ M k f) k g = rJ M k g := by
  unfold rJ
  refine Prod.ext rfl (Prod.ext (funext fun k' => ?_) rfl)
  show (if k' = k then g else if k' = k then f else M.2.1 k') = if k' = k then g else M.2.1 k'
  split <;> rfl
theorem lyM_s {q : Nat} {s : LyT} {g : Int32} {x r : Int64} : dp_setJ (dp_setI (lyM M q s) 217 (q * 4 + s.2.1) g) 218 (q * 4 + s.2.1) x = lyM M q (false, s.2.1 + 1, r, uI s.2.2.2.1 s.2.1 g, uI s.2.2.2.2 s.2.1 x) := by
  rw [rI_of, lyM_217, rJ_of, rI_J, lyM_218, ovP_s, ovP_s]
  unfold lyM
  show rJ (rI (rJ (rI (dp_setI M 216 q 0) 217 _) 218 _) 217 _) 218 _ = _
  have e : ∀ (A : dp_M) (f1 f2 : Nat → Int32) (h1 h2 : Nat → Int64), rJ (rI (rJ (rI A 217 f1) 218 h1) 217 f2) 218 h2 = rJ (rI A 217 f2) 218 h2 := fun A f1 f2 h1 h2 => by
    have e1 : rI (rJ (rI A 217 f1) 218 h1) 217 f2 = rJ (rI (rI A 217 f1) 217 f2) 218 h1 := rfl
    rw [e1, rI_rI]
    exact rJ_rJ _ _ _ _
  exact e _ _ _ _ _
theorem klM {G R q : Nat} (hq : R < q) (s : LyT) : (∀ g, SRm M g → SRm (lyM M q s) g) ∧ (∀ r, r ≤ R → SRv M G r → SRv (lyM M q s) G r) ∧ ((∀ r, 1 ≤ r → r ≤ R → SRv M G r) → ∀ g, mc (lyM M q s) g R = mc M g R) := by
  have e216 : ∀ r, r ≤ R → dp_I (lyM M q s) 216 r = dp_I M 216 r := fun r hr => by rw [lyM_216, uI_n (by omega)]
  have e217 : ∀ r k, r ≤ R → k < 4 → dp_I (lyM M q s) 217 (r * 4 + k) = dp_I M 217 (r * 4 + k) := fun r k hr hk => by rw [lyM_217, ovP_b (by omega)]
  have e218 : ∀ r k, r ≤ R → k < 4 → dp_J (lyM M q s) 218 (r * 4 + k) = dp_J M 218 (r * 4 + k) := fun r k hr hk => by rw [lyM_218, ovP_b (by omega)]
  have l := fun k h1 h2 => lyM_I (M := M) q s k h1 h2
  refine ⟨fun g h => ?_, fun r hr h => h.same (Nat.le_refl _) (e216 r hr) (fun k hk => e217 r k hr hk) (by rw [l 214 (by decide) (by decide)]) (by rw [l 215 (by decide) (by decide)]) (fun k hk => e218 r k hr hk) (fun k hk => by rw [lyM_J q s 96 (by decide)]), fun a14 g => ?_⟩
  · unfold SRm at h ⊢
    rw [l 204 (by decide) (by decide), l 205 (by decide) (by decide)]; exact h
  · have n4 : ∀ r, 1 ≤ r → r ≤ R → (dp_I M 216 r).toNatClampNeg ≤ 4 := fun r h1 h2 => (a14 r h1 h2).n4
    refine mc_e (by rw [l 208 (by decide) (by decide)]) (by rw [l 206 (by decide) (by decide)]) (by rw [l 204 (by decide) (by decide)]) (by rw [l 205 (by decide) (by decide)]) (by rw [lyM_J q s 203 (by decide)]) ?_ ?_
    · exact nO_c (by rw [l 204 (by decide) (by decide)]) (by rw [l 205 (by decide) (by decide)]) n4 (fun r _ h2 => e216 r h2) (fun r k _ h2 hk => e217 r k h2 hk) (fun r k _ h2 hk => e218 r k h2 hk)
    · exact uO_p R n4 (fun r _ h2 => e216 r h2) (fun r k _ h2 hk => e217 r k h2 hk)
theorem sm_lays {G R w : Nat} {cn : Int64} (hG : G ≤ 40) (hR : R ≤ 400) (c0 : 0 ≤ cn.toInt) (a2 : dp_I M 114 119 = nI G) (a4 : dp_I M 114 133 = nI R) (a10 : ∀ g, 1 ≤ g → g ≤ G → SRm M g) (s1 : ∀ k, k < G → wi (dp_I M 213 k) 1 G) (s2 : ∀ k l, k < G → l < G → dp_I M 213 k = dp_I M 213 l → k = l) (a14 : ∀ r, 1 ≤ r → r ≤ R → SRv M G r) : dp_den true xs xl (d + 5) 527 [.ref 114, .int (nI w), .long cn] M =
    if (ly M w R cn G).1 = true then iR 0 (lyM M (R + 1) (ly M w R cn G)) else if (ly M w R cn G).2.2.1 = 0 then iR 1 (dp_setI (lyM M (R + 1) (ly M w R cn G)) 216 (R + 1) (nI (ly M w R cn G).2.1)) else iR 0 (lyM M (R + 1) (ly M w R cn G)) := by
  have ex : ∀ k, k < G → ∃ g, 1 ≤ g ∧ g ≤ G ∧ dp_I M 213 k = nI g := fun k hk => wi_of (a := 1) (b := G) (s1 k hk) (by omega)
  have li := fun k hk => ly_I (M := M) (G := G) (w := w) (R := R) (cn := cn) c0 s2 k hk
  have e114 : ∀ s : LyT, dp_I (lyM M (R + 1) s) 114 = dp_I M 114 := fun s => lyM_I _ _ 114 (by decide) (by decide)
  have e213 : ∀ s : LyT, dp_I (lyM M (R + 1) s) 213 = dp_I M 213 := fun s => lyM_I _ _ 213 (by decide) (by decide)
  have e202 : ∀ s : LyT, dp_I (lyM M (R + 1) s) 202 = dp_I M 202 := fun s => lyM_I _ _ 202 (by decide) (by decide)
  obtain ⟨res, hres⟩ : ∃ res : LyT → dp_Res, res = fun s => if s.1 = true then (.inl (some (.int 0)), lyM M (R + 1) s) else if s.2.2.1 = 0 then (.inl (some (.int 1)), dp_setI (lyM M (R + 1) s) 216 (R + 1) (nI s.2.1)) else (.inl (some (.int 0)), lyM M (R + 1) s) := ⟨_, rfl⟩
  have goal : (if (ly M w R cn G).1 = true then iR 0 (lyM M (R + 1) (ly M w R cn G)) else if (ly M w R cn G).2.2.1 = 0 then iR 1 (dp_setI (lyM M (R + 1) (ly M w R cn G)) 216 (R + 1) (nI (ly M w R cn G).2.1)) else iR 0 (lyM M (R + 1) (ly M w R cn G))) = some (res (ly M w R cn G)) := by
    rw [hres]
    by_cases z : (ly M w R cn G).1 = true
    · simp only [if_pos z]
    · simp only [if_neg z]
      by_cases y : (ly M w R cn G).2.2.1 = 0
      · simp only [if_pos y]
      · simp only [if_neg y]
  rw [goal]
  -- the end of the loop
  have e156 : ∀ (s : LyT) (k : Nat), s.1 = false → D_X12_lays_156 xs xl (d + 4) (nI w) cn (nI (R + 1)) s.2.2.1 (nI s.2.1) (nI k) (lyM M (R + 1) s) = some (res s) := fun s k hf => by
    rw [D_X12_lays_156_eq, hres]
    simp only [hf, Bool.false_eq_true, if_false, lg_cmp_eq]
    by_cases z : s.2.2.1 = 0
    · rw [if_pos z, if_pos z, D_X12_setsParts_0_den, D_X12_setsParts_0_eq]
      simp only [nI_cl (show R + 1 < 2147483648 by omega), nI_o (show R + 1 < 402 by omega) (by omega), if_false, dp_w, rb_bi]
      rw [if_neg (by decide)]
    · rw [if_neg z, if_neg z]
  have key : ∀ m k, k + m = G → (ly M w R cn k).1 = false → D_X12_lays_25 xs xl (d + 4) (nI w) cn (nI (R + 1)) (ly M w R cn k).2.2.1 (nI (ly M w R cn k).2.1) (nI k) (lyM M (R + 1) (ly M w R cn k)) = some (res (ly M w R cn G)) := by
    intro m
    induction m with
    | zero =>
      intro k hk hf
      have : k = G := by omega
      subst this
      rw [D_X12_lays_25_eq, e114, a2, if_pos (nI_lle (Nat.le_refl _) (by omega))]
      exact e156 _ _ hf
    | succ m ih =>
      intro k hk hf
      have ls := li k (by omega)
      by_cases zr : (ly M w R cn k).2.2.1 ≤ 0
      · have eG : ly M w R cn G = ly M w R cn k := by rw [show G = k + (m + 1) by omega]; exact ly_k (Or.inr zr) (m + 1)
        rw [eG, D_X12_lays_25_eq, e114, a2, if_neg (nI_nge (by omega) (by omega))]
        simp only [lg_cmp_le]
        rw [if_pos zr]
        exact e156 _ _ hf
      obtain ⟨g, g1, g2, eg⟩ := ex k (by omega)
      obtain ⟨b1, b2, b3⟩ := klM (M := M) (G := G) (R := R) (q := R + 1) (by omega) (ly M w R cn k)
      have hor : ¬ ((ly M w R cn k).1 = true ∨ (ly M w R cn k).2.2.1 ≤ 0) := fun q => q.elim (fun a => by rw [hf] at a; cases a) zr
      obtain ⟨x, hx⟩ : ∃ x : Int64, x = if hp M (nI w) k = true then mc M g R else 0 := ⟨_, rfl⟩
      have el : ly M w R cn (k + 1) = ly1 (ly M w R cn k) x (nI g) := by rw [ly, eg, nI_cl (by omega), hx]
      -- what follows once the share is known
      have e105 : D_X12_lays_105 xs xl (d + 4) (nI w) cn (nI (R + 1)) (ly M w R cn k).2.2.1 (nI (ly M w R cn k).2.1) (nI k) (nI g) (mnJ x (ly M w R cn k).2.2.1) (lyM M (R + 1) (ly M w R cn k)) = some (res (ly M w R cn G)) ∨ (0 < mnJ x (ly M w R cn k).2.2.1 ∧ (ly M w R cn k).2.1 = 4) := by
        by_cases zx : mnJ x (ly M w R cn k).2.2.1 ≤ 0
        · left
          rw [ly1_x zx] at el
          have := ih (k + 1) (by omega) (by rw [el]; exact hf)
          rw [el] at this
          rw [D_X12_lays_105_eq]
          simp only [lg_cmp_le, dp_w, nI_1]
          rw [if_pos zx]
          exact D_X12_lays_25_to_25_a _ _ _ _ _ _ _ _ this
        by_cases z4 : (ly M w R cn k).2.1 = 4
        · right; exact ⟨Int64.not_le.mp zx, z4⟩
        left
        have n4 : (ly M w R cn k).2.1 < 4 := by have := ls.1; omega
        have e4 : ly M w R cn (k + 1) = (false, (ly M w R cn k).2.1 + 1, (ly M w R cn k).2.2.1 - mnJ x (ly M w R cn k).2.2.1, uI (ly M w R cn k).2.2.2.1 (ly M w R cn k).2.1 (nI g), uI (ly M w R cn k).2.2.2.2 (ly M w R cn k).2.1 (mnJ x (ly M w R cn k).2.2.1)) := by rw [el]; unfold ly1; rw [if_neg hor, if_neg zx, if_neg z4]
        have := ih (k + 1) (by omega) (by rw [e4])
        rw [D_X12_lays_105_eq]
        simp only [lg_cmp_le, dp_w, nI_1, t_4'', nI_cl (show (R + 1) * 4 + (ly M w R cn k).2.1 < 2147483648 by omega), nI_o (show (R + 1) * 4 + (ly M w R cn k).2.1 < 1608 by omega) (by omega), if_false]
        rw [if_neg zx, lyM_s (r := (ly M w R cn k).2.2.1 - mnJ x (ly M w R cn k).2.2.1), ← e4]
        have e5 : (ly M w R cn k).2.2.1 - mnJ x (ly M w R cn k).2.2.1 = (ly M w R cn (k + 1)).2.2.1 := by rw [e4]
        have e6 : nI ((ly M w R cn k).2.1 + 1) = nI (ly M w R cn (k + 1)).2.1 := by rw [e4]
        rw [e5, e6]
        exact D_X12_lays_25_to_25_a _ _ _ _ _ _ _ _ this
      have e71 : D_X12_lays_71 xs xl (d + 4) (nI w) cn (nI (R + 1)) (ly M w R cn k).2.2.1 (nI (ly M w R cn k).2.1) (nI k) (nI g) x (lyM M (R + 1) (ly M w R cn k)) = some (res (ly M w R cn G)) := by
        have fail : 0 < mnJ x (ly M w R cn k).2.2.1 → (ly M w R cn k).2.1 = 4 → (some (.inl (some (.int (0 : Int32))), lyM M (R + 1) (ly M w R cn k)) : Option dp_Res) = some (res (ly M w R cn G)) := fun q1 q2 => by
          have e4 : ly M w R cn (k + 1) = (true, (ly M w R cn k).2) := by rw [el]; unfold ly1; rw [if_neg hor, if_neg (Int64.not_le.mpr q1), if_pos q2]
          have eG : ly M w R cn G = (true, (ly M w R cn k).2) := by
            rw [show G = (k + 1) + m by omega, ly_k (Or.inl (by rw [e4])) m, e4]
          rw [eG, hres]; rfl
        have f4 : ¬ (ly M w R cn k).2.1 = 4 → ¬ nI (ly M w R cn k).2.1 = (4 : Int32) := fun q e => q (by
          have := ls.1
          rw [show (4 : Int32) = nI 4 from rfl, nI_eq (by omega) (by omega)] at e; exact e)
        have go : ¬ (0 < mnJ x (ly M w R cn k).2.2.1 ∧ (ly M w R cn k).2.1 = 4) → D_X12_lays_105 xs xl (d + 4) (nI w) cn (nI (R + 1)) (ly M w R cn k).2.2.1 (nI (ly M w R cn k).2.1) (nI k) (nI g) (mnJ x (ly M w R cn k).2.2.1) (lyM M (R + 1) (ly M w R cn k)) = some (res (ly M w R cn G)) := fun q => e105.resolve_right q
        rw [D_X12_lays_71_eq]
        simp only [lg_cmp_ge, lg_cmp_le]
        by_cases y : (ly M w R cn k).2.2.1 ≤ x
        · have em : mnJ x (ly M w R cn k).2.2.1 = (ly M w R cn k).2.2.1 := by unfold mnJ; rw [if_neg (Int64.not_lt.mpr y)]
          rw [if_pos y, if_neg zr]
          rw [em] at go fail
          by_cases z4 : (ly M w R cn k).2.1 = 4
          · rw [if_pos (by rw [z4]; rfl)]; exact fail (Int64.not_le.mp zr) z4
          · rw [if_neg (f4 z4)]; exact go (fun q => z4 q.2)
        · have em : mnJ x (ly M w R cn k).2.2.1 = x := by unfold mnJ; rw [if_pos (Int64.not_le.mp y)]
          rw [if_neg y]
          rw [em] at go fail
          by_cases zx : x ≤ 0
          · rw [if_pos zx]; exact go (fun q => Int64.not_lt.mpr zx q.1)
          · rw [if_neg zx]
            by_cases z4 : (ly M w R cn k).2.1 = 4
            · rw [if_pos (by rw [z4]; rfl)]; exact fail (Int64.not_le.mp zx) z4
            · rw [if_neg (f4 z4)]; exact go (fun q => z4 q.2)
      rw [D_X12_lays_25_eq, e114, a2, if_neg (nI_nge (by omega) (by omega))]
      simp only [lg_cmp_le, nI_cl (show k < 2147483648 by omega), nI_o (show k < 40 by omega) (by omega), if_false, dp_w, e213, e202, eg, nI_cl (show g < 2147483648 by omega), nI_o (show g < 41 by omega) (by omega)]
      rw [if_neg zr]
      have hpe : hp M (nI w) k = true ↔ dp_I M 202 g = nI w := by unfold hp; rw [eg, nI_cl (by omega), decide_eq_true_eq]
      by_cases zp : dp_I M 202 g = nI w
      · rw [if_pos (hpe.mpr zp)] at hx
        rw [if_pos zp, sm_may hR (by omega) (b1 g (a10 g g1 g2)) (by rw [e114]; exact a4) (fun r r1 r2 => b2 r r2 (a14 r r1 r2)), rb_bl, b3 a14 g, ← hx]
        exact e71
      · rw [if_neg (fun q => zp (hpe.mp q))] at hx
        rw [if_neg zp, ← hx]
        exact e71
  rw [D_X12_lays_0_den, D_X12_lays_0_eq, a4]
  simp only [dp_w, nI_1, nI_cl (show R + 1 < 2147483648 by omega), nI_o (show R + 1 < 402 by omega) (by omega), if_false]
  have := key G 0 (by omega) rfl
  rw [show lyM M (R + 1) (ly M w R cn 0) = dp_setI M 216 (R + 1) 0 by
    unfold lyM ly
    rw [ovP_0, ovP_0]
    have e1 : rI (dp_setI M 216 (R + 1) 0) 217 (dp_I M 217) = dp_setI M 216 (R + 1) 0 := by
      have := rI_id (dp_setI M 216 (R + 1) 0) 217
      rw [gII, if_neg (by decide)] at this; exact this
    rw [e1]
    have := rJ_id (dp_setI M 216 (R + 1) 0) 218
    rw [gJI] at this; exact this] at this
  exact this
end SO
