-- needs: 75 76
/-! GATE: notices -/
theorem nI_div {a b : Nat} (ha : a < 2147483648) (hb : 0 < b) (hb2 : b < 2147483648) : nI a / nI b = nI (a / b) := by
  have h : a / b ≤ a := Nat.div_le_self _ _
  rw [← Int32.toInt_inj, Int32.toInt_div, nI_toInt ha, nI_toInt hb2, nI_toInt (by omega), Int.tdiv_eq_ediv_of_nonneg (by omega)]
  have e : (a : Int) / (b : Int) = ((a / b : Nat) : Int) := (Int.natCast_ediv a b).symm
  rw [e]
  generalize a / b = k at h
  apply Int.bmod_eq_of_le <;> omega
theorem nI_rem {a b : Nat} (ha : a < 2147483648) (hb : 0 < b) (hb2 : b < 2147483648) : nI a - nI a / nI b * nI b = nI (a % b) := by
  rw [nI_div ha hb hb2, pk_mul]
  have h : a / b * b + a % b = a := by rw [Nat.mul_comm]; exact Nat.div_add_mod a b
  have e : nI a = nI (a % b) + nI (a / b * b) := by rw [nI_add]; congr 1; omega
  rw [e, Int32.add_sub_cancel]
theorem x64 : ∀ r, r < 64 → ¬ (nI r ^^^ (64 : Int32)) < 0 := by decide
theorem fm64 {a : Nat} (ha : a < 2147483648) : dp_fm (nI a) 64 = nI (a % 64) := by
  unfold dp_fm
  have e : nI a - nI a / 64 * 64 = nI (a % 64) := nI_rem (b := 64) ha (by omega) (by omega)
  rw [e, if_neg (x64 _ (Nat.mod_lt _ (by omega)))]
/-- the class's notices, the model's, by their numbers -/
def CT (M : dp_M) (t : Nat) (sq : Nat → Int32) : Prop := dp_I M 37 3 = nI t ∧ ∀ s, t ≤ s + 64 → s < t → dp_I M 50 (s % 64) = sq s
def MT (M : dp_M) (t : Nat) (sq : Nat → Int32) : Prop := dp_I M 114 52 = nI t ∧ ∀ j, j < t → j < 64 → dp_I M 154 j = sq (t - 64 + j)
def GTl (M : dp_M) (c : Nat) : Prop := c < 1073741824 ∧ ∃ (t : Nat) (sq : Nat → Int32), t ≤ c ∧ CT M t sq ∧ MT M t sq
def tlC (M : dp_M) (t : Nat) (v : Int32) : dp_M := dp_setI (dp_setI M 50 (t % 64) v) 37 3 (nI (t + 1))
theorem shlv {B : Nat → Int32} {k i : Nat} (h : i + 1 < k) : shl B k i = B (i + 1) := if_pos h
section GA
variable {xs : Nat → Int32} {xl d : Nat} {M : dp_M}
theorem gc_tell {t : Nat} {sq : Nat → Int32} (h : CT M t sq) (ht : t < 1073741824) (v1 v2 : Int32) : dp_den true xs xl (d + 1) 50 [.ref 37, .int v1, .int v2] M = vR (tlC M t (10 * v1 + v2)) ∧ CT (tlC M t (10 * v1 + v2)) (t + 1) (uI sq t (10 * v1 + v2)) := by
  obtain ⟨h1, h2⟩ := h
  have lt : t % 64 < 64 := Nat.mod_lt _ (by omega)
  constructor
  · rw [D_X1_tell_0_den, D_X1_tell_0_eq, if_neg (by decide), h1, fm64 (by omega)]
    simp only [nI_cl (show t % 64 < 2147483648 by omega), nI_o lt (by omega), if_false, dp_w, gII, Nat.reduceEqDiff, h1, nI_1]
    rfl
  · unfold tlC
    refine ⟨by rw [gII, if_pos rfl, uI_s], fun s q1 q2 => ?_⟩
    rw [gII, if_neg (by decide), gII, if_pos rfl]
    by_cases z : s = t
    · subst z; rw [uI_s, uI_s]
    · rw [uI_n z, uI_n (by omega)]; exact h2 s (by omega) (by omega)
theorem gm_tell {t : Nat} {sq : Nat → Int32} (h : MT M t sq) (ht : t < 1073741824) (v1 v2 : Int32) : ∃ M', dp_den true xs xl (d + 1) 422 [.ref 114, .int v1, .int v2] M = vR M' ∧ MT M' (t + 1) (uI sq t (10 * v1 + v2)) ∧ Off [154] [52] M M' ∧ Cst 0 0 M M' := by
  obtain ⟨h1, h2⟩ := h
  by_cases z : t < 64
  · refine ⟨dp_setI (dp_setI M 154 t (10 * v1 + v2)) 114 52 (nI (t + 1)), ?_, ⟨by rw [gII, if_pos rfl, uI_s], fun j q1 q2 => ?_⟩, ((Off.rr _ _ M).I 154 (by decide) _ _).F 52 (by decide) _, ⟨Nat.le_refl _, Nat.le_refl _⟩⟩
    · rw [D_X12_tells_0_den, D_X12_tells_0_eq, h1, if_pos (show nI (t) < (64 : Int32) from nI_lt (a := t) (b := 64) (by omega) (by omega)), D_X12_tells_37_eq, h1, if_pos (show nI (t) < (64 : Int32) from nI_lt (a := t) (b := 64) (by omega) (by omega))]
      simp only [nI_cl (show t < 2147483648 by omega), nI_o z (by omega), if_false, dp_w, gII, Nat.reduceEqDiff, h1, nI_1]
    · rw [gII, if_neg (by decide), gII, if_pos rfl, show t + 1 - 64 + j = j by omega]
      by_cases y : j = t
      · subst y; rw [uI_s, uI_s]
      · rw [uI_n y, uI_n y]
        have := h2 j (by omega) q2
        rwa [show t - 64 + j = j by omega] at this
  · refine ⟨dp_setI (dp_setI (rI M 154 (shl (dp_I M 154) 64)) 154 63 (10 * v1 + v2)) 114 52 (nI (t + 1)), ?_, ⟨by rw [gII, if_pos rfl, uI_s], fun j q1 q2 => ?_⟩, (((Off.rr _ _ M).rI 154 (by decide) _).I 154 (by decide) _ _).F 52 (by decide) _, ⟨Nat.le_refl _, Nat.le_refl _⟩⟩
    · rw [D_X12_tells_0_den, D_X12_tells_0_eq, h1, if_neg (show ¬ nI (t) < (64 : Int32) from nI_nlt (a := t) (b := 64) (by omega) (by omega))]
      simp only [dp_w]
      have key := lpb (F := fun (N : dp_M) i => D_X12_tells_11 xs xl d v1 v2 (nI (i + 1)) N) (s := fun i => rI M 154 (shl (dp_I M 154) (i + 1))) (N := 63) (r := (.inl none, dp_setI (dp_setI (rI M 154 (shl (dp_I M 154) 64)) 154 63 (10 * v1 + v2)) 114 52 (nI (t + 1)))) ?_ (fun i hi hr2 => ?_)
      · (try dsimp only at key)
        have e0 : ∀ B : Nat → Int32, shl B (0 + 1) = B := fun B => by funext i; unfold shl; rw [if_neg (by omega)]
        rw [e0, rI_id] at key
        exact key
      · (try dsimp only)
        rw [D_X12_tells_11_eq, if_pos (by decide)]
        apply D_X12_tells_37_to_37_a
        rw [D_X12_tells_37_eq]
        simp only [rI_I, Nat.reduceEqDiff, if_false, h1]
        rw [if_neg (show ¬ nI (t) < (64 : Int32) from nI_nlt (a := t) (b := 64) (by omega) (by omega)), if_neg (by decide)]
        simp only [dp_w, gII, rI_I, Nat.reduceEqDiff, if_false, h1, nI_1]
        rfl
      · (try dsimp only at hr2); (try dsimp only)
        rw [D_X12_tells_11_eq, if_neg (show ¬ (64 : Int32) ≤ nI (i + 1) from nI_ge (a := i + 1) (b := 64) (by omega) (by omega)), nI_pred]
        simp only [nI_cl (show i < 2147483648 by omega), nI_o (show i < 64 by omega) (by omega), nI_cl (show i + 1 < 2147483648 by omega), nI_o (show i + 1 < 64 by omega) (by omega), if_false, dp_w, nI_1, rI_I, if_true, rI_set, shl_s]
        simp only [rI_set] at hr2
        exact hr2
    · rw [gII, if_neg (by decide), gII, if_pos rfl, rI_I, if_pos rfl]
      by_cases y : j = 63
      · subst y; rw [uI_s, show t + 1 - 64 + 63 = t by omega, uI_s]
      · rw [uI_n y, shlv (by omega), uI_n (by omega)]
        have := h2 (j + 1) (by omega) (by omega)
        rwa [show t - 64 + (j + 1) = t + 1 - 64 + j by omega] at this
/-- notice -/
theorem s_notice {c : Nat} (h : GTl M c) (v1 : Int32) : ∃ v M1 M2, dp_den true xs xl (d + 2) 294 [.ref 0, .int v1] M = iR v M1 ∧ dp_den true xs xl (d + 2) 441 [.ref 114, .int v1] M1 = iR v M2 ∧ M2 = dp_setI M 114 0 0 := by
  obtain ⟨hc, t, sq, ht, ⟨c1, c2⟩, m1, m2⟩ := h
  obtain ⟨k, hk⟩ : ∃ k, k = if 64 < t then 64 else t := ⟨_, rfl⟩
  have hk64 : k ≤ 64 ∧ k ≤ t ∧ (k < 64 → k = t) := by rw [hk]; split <;> omega
  have ek : (if (64 : Int32) < nI t then (64 : Int32) else nI t) = nI k := by
    rw [hk]
    by_cases z : 64 < t
    · rw [if_pos z, if_pos (show (64 : Int32) < nI (t) from nI_lt (a := 64) (b := t) (by omega) (by omega))]; rfl
    · rw [if_neg z, if_neg (show ¬ (64 : Int32) < nI (t) from nI_nlt (a := 64) (b := t) (by omega) (by omega))]
  have et : dp_I (dp_setI M 114 0 0) 114 52 = nI t := by rw [gII, if_pos rfl, uI_n (by decide)]; exact m1
  rw [D_X11_notice_0_den, D_X11_notice_0_eq, D_X1_keptNotice_0_den, D_X1_keptNotice_0_eq, c1, ek]
  simp only [D_X12_notice_0_den, D_X12_notice_0_eq, dp_w]
  rcases pk_ix v1 (show k < 2147483648 by omega) with q | q | ⟨i, hi, rfl⟩
  · exact ⟨-1, M, _, by rw [if_pos q, rb_bi], by rw [if_pos q], rfl⟩
  · have q0 := q_ge0 q (by omega)
    refine ⟨-1, M, _, by rw [if_neg q0, if_pos q, rb_bi], ?_, rfl⟩
    rw [if_neg q0, et]
    by_cases z : nI t ≤ v1
    · rw [if_pos z]
    · rw [if_neg z, if_neg]
      intro w
      rw [Int32.le_iff_toInt_le, nI_toInt (by omega)] at q z
      rw [Int32.lt_iff_toInt_lt] at w
      have : (64 : Int32).toInt = 64 := by decide
      omega
  · have e1 : nI t - nI k + nI i = nI (t - k + i) := by
      have : nI t = nI (t - k) + nI k := by rw [nI_add]; congr 1; omega
      rw [this, Int32.add_sub_cancel, nI_add]
    have lt : (t - k + i) % 64 < 64 := Nat.mod_lt _ (by omega)
    have en : dp_I M 50 ((t - k + i) % 64) = dp_I M 154 i := by
      rw [c2 (t - k + i) (by omega) (by omega), m2 i (by omega) (by omega)]
      congr 1; omega
    refine ⟨dp_I M 154 i, M, _, ?_, ?_, rfl⟩
    · rw [if_neg (nI_pos (by omega)), if_neg (nI_nge hi (by omega)), if_neg (by decide), e1, fm64 (by omega)]
      simp only [nI_cl (show (t - k + i) % 64 < 2147483648 by omega), nI_o lt (by omega), if_false, en, rb_bi]
    · rw [if_neg (nI_pos (by omega)), et, if_neg (nI_nge (by omega) (by omega)), if_pos (show nI (i) < (64 : Int32) from nI_lt (a := i) (b := 64) (by omega) (by omega))]
      simp only [nI_cl (show i < 2147483648 by omega), nI_o (show i < 64 by omega) (by omega), if_false, gII, Nat.reduceEqDiff]
end GA
