/-! THE LEDGER: the account that is named -/
theorem sl_add (f g : Nat → Int64) : ∀ n, sl (fun i => f i + g i) n = sl f n + sl g n
  | 0 => by simp [sl]
  | n + 1 => by
    rw [sl, sl, sl, sl_add f g n]
    simp only [Int64.add_assoc]
    congr 1
    rw [← Int64.add_assoc, Int64.add_comm (sl g n), Int64.add_assoc]
theorem sl_0 (n : Nat) : sl (fun _ => 0) n = 0 := by
  induction n with
  | zero => rfl
  | succ n ih => rw [sl, ih]; rfl
theorem sl_one {c : Int64} {j : Nat} : ∀ N, N < 2147483648 → j < 2147483648 → sl (fun a => if nI j = nI a then c else 0) N = if j < N then c else 0
  | 0, _, _ => by simp [sl]
  | N + 1, hN, hj => by
    rw [sl, sl_one N (by omega) hj]
    simp only [nI_eq (show j < 2 ^ 31 by omega) (show N < 2 ^ 31 by omega)]
    by_cases h1 : j < N
    · rw [if_pos h1, if_neg (by omega), if_pos (by omega)]; simp
    · by_cases h2 : j = N
      · rw [if_neg h1, if_pos h2, if_pos (by omega)]; simp
      · rw [if_neg h1, if_neg h2, if_neg (by omega)]; simp
/-- the sums of the accounts make the whole sum -/
theorem sl_acc {A : Nat → Int32} {c : Nat → Int64} : ∀ n, (∀ k, k < n → qin (A k) 12) → sl (fun a => sl (fun k => if A k = nI a then c k else 0) n) 12 = sl c n
  | 0, _ => by simp [sl]
  | n + 1, h => by
    have e : (fun a => sl (fun k => if A k = nI a then c k else 0) (n + 1)) = fun a => sl (fun k => if A k = nI a then c k else 0) n + (if A n = nI a then c n else 0) := by funext a; rfl
    rw [e, sl_add, sl_acc n (fun k hk => h k (by omega))]
    obtain ⟨j, hj, e2⟩ := qin_of (h n (by omega)) (by omega)
    rw [e2, sl_one 12 (by omega) (by omega), if_pos hj]
    rfl
theorem sl_z {f : Nat → Int64} {n : Nat} (h : ∀ i, i < n → f i = 0) : sl f n = 0 := by
  rw [sl_c (g := fun _ => 0) h, sl_0]
def ab (x : Int64) : Int64 := if 0 < x then x else -x
/-- the first of the greatest, up to i -/
def gA (f : Nat → Int64) : Nat → Nat
  | 0 => 0
  | i + 1 => if ab (f (gA f i)) < ab (f (i + 1)) then i + 1 else gA f i
theorem gA_le (f : Nat → Int64) : ∀ i, gA f i ≤ i
  | 0 => Nat.le_refl _
  | i + 1 => by rw [gA]; split; exact Nat.le_refl _; exact Nat.le_trans (gA_le f i) (Nat.le_succ _)
/-- the model's: the best, and how much -/
def gB (f : Nat → Int64) : Nat → Int32 × Int64
  | 0 => (-1, 0)
  | i + 1 => if (gB f i).2 < ab (f i) then (nI i, ab (f i)) else gB f i
theorem ab_pos {x : Int64} (h : x ≠ 0) (h1 : -4000000000000 ≤ x.toInt) : 0 < ab x := by
  unfold ab
  split
  · assumption
  · rename_i q
    rw [Int64.lt_iff_toInt_lt] at q ⊢
    have e0 : (0 : Int64).toInt = 0 := by decide
    have hx : x.toInt ≠ 0 := fun e => h (by rw [← Int64.toInt_inj, e]; decide)
    have e1 : (-x).toInt = -x.toInt := by
      rw [Int64.toInt_neg]
      apply Int.bmod_eq_of_le <;> omega
    omega
theorem ab_0 : ab 0 = 0 := by decide
theorem gB_eq (f : Nat → Int64) (hf : ∀ i, -4000000000000 ≤ (f i).toInt) : ∀ i, (∃ a, a < i + 1 ∧ f a ≠ 0) ∧ gB f (i + 1) = (nI (gA f i), ab (f (gA f i))) ∨ (∀ a, a < i + 1 → f a = 0) ∧ gB f (i + 1) = (-1, 0) ∧ gA f i = 0
  | 0 => by
    by_cases h : f 0 = 0
    · right
      refine ⟨fun a ha => by rw [show a = 0 by omega]; exact h, ?_, rfl⟩
      rw [gB, gB, if_neg (by rw [h, ab_0]; decide)]
    · left
      refine ⟨⟨0, by omega, h⟩, ?_⟩
      rw [gB, gB, if_pos (ab_pos h (hf 0))]; rfl
  | i + 1 => by
    rcases gB_eq f hf i with ⟨⟨a, h1, h2⟩, h3⟩ | ⟨h1, h2, h3⟩
    · left
      refine ⟨⟨a, by omega, h2⟩, ?_⟩
      rw [gB, h3, gA]
      dsimp only
      split <;> rfl
    · by_cases h : f (i + 1) = 0
      · right
        refine ⟨fun a ha => ?_, ?_, ?_⟩
        · by_cases e : a = i + 1
          · rw [e]; exact h
          · exact h1 a (by omega)
        · rw [gB, h2, if_neg (by rw [h, ab_0]; decide)]
        · rw [gA, h3, h1 0 (by omega), h, ab_0, if_neg (by decide)]
      · left
        refine ⟨⟨i + 1, by omega, h⟩, ?_⟩
        have := ab_pos h (hf (i + 1))
        rw [gB, h2, if_pos this, gA, h3, h1 0 (by omega), ab_0, if_pos this]
section LEG
variable {xs : Nat → Int32} {xl d : Nat} {M : dp_M}
theorem q_fillJ {p N : Nat} {x : Int64} (hp : p < 246) (h114 : p ≠ 114) (ht : dp_t true M p = 2) (hl : dp_ln true M p = N) (hN : N < 2147483648) : ∃ M', dp_den true xs xl (d + 1) 592 [.ref p, .long x] M = vR M' ∧ Off [p] [] M M' ∧ dp_n M' = dp_n M ∧ dp_z M' = dp_z M ∧ dp_J M' p = fN (dp_J M p) 0 N (fun _ => x) ∧ dp_I M' = dp_I M := by
  have key := lpi (F := fun i N' => D_J7_fill_d0a16_6 xs xl d p x (nI i) (nI N) N') (a := 0) (N := N)
    (Inv := fun i N' => Off [p] [] M N' ∧ dp_n N' = dp_n M ∧ dp_z N' = dp_z M ∧ dp_J N' p = fN (dp_J M p) 0 i (fun _ => x) ∧ dp_I N' = dp_I M ∧ dp_t true N' p = 2 ∧ dp_ln true N' p = N)
    (Post := fun r => ∃ M', r = (.inl none, M') ∧ Off [p] [] M M' ∧ dp_n M' = dp_n M ∧ dp_z M' = dp_z M ∧ dp_J M' p = fN (dp_J M p) 0 N (fun _ => x) ∧ dp_I M' = dp_I M)
    (Nat.zero_le _) ?_ ?_ M ?_
  · obtain ⟨r, hr, M', rfl, q⟩ := key
    refine ⟨M', ?_, q⟩
    rw [D_J7_fill_d0a16_0_den, D_J7_fill_d0a16_0_eq]
    simp only [dp_w]
    rw [if_pos (Or.inr (Or.inl ht)), hl]
    exact hr
  · rintro N' ⟨o, i1, i2, i3, i4, i5, i6⟩
    refine ⟨(.inl none, N'), ?_, N', rfl, o, i1, i2, i3, i4⟩
    try dsimp only
    rw [D_J7_fill_d0a16_6_eq, if_pos (nI_lle (Nat.le_refl _) hN)]
  · rintro i N' - hi ⟨o, i1, i2, i3, i4, i5, i6⟩
    refine ⟨dp_setJ N' p i x, ⟨o.J p ⟨⟨by simp, hp⟩, h114⟩ _ _, i1, i2, ?_, i4, i5, i6⟩, fun r hr => ?_⟩
    · rw [gJJ, if_pos rfl, i3]
      have := fN_s (dp_J M p) 0 i (fun _ => x)
      rwa [Nat.zero_add] at this
    · (try dsimp only at hr); (try dsimp only)
      rw [D_J7_fill_d0a16_6_eq, if_neg (nI_nge hi hN), if_pos i5, i6, if_neg (nI_inn hi hN), nI_cl (by omega), nI_1]
      exact hr
  · exact ⟨Off.rr _ _ _, rfl, rfl, by rw [fN_0], rfl, ht, hl⟩
theorem lc_greatest {v1 : Int32} {b n : Nat} (h1 : v1 = nI b) (hb : b < 800) (hn : dp_I M 100 (b * 7 + 1) = nI n) (h20 : n ≤ 20) (ha : ∀ k, k < n → qin (dp_I M 101 (b * 20 + k)) 12) : ∃ M', dp_den true xs xl (d + 3) 91 [.ref 97, .int v1] M =
    iR (nI (gA (fun a => sl (fun k => if dp_I M 101 (b * 20 + k) = nI a then (dp_I M 102 (b * 20 + k)).toInt64 else 0) n) 11)) M' ∧ Off [105] [] M M' ∧ dp_n M' = dp_n M ∧ dp_z M' = dp_z M ∧ dp_I M' = dp_I M := by
  subst h1
  obtain ⟨M1, f1, f2, f3, f4, f5, f6⟩ := q_fillJ (xs := xs) (xl := xl) (d := d + 1) (M := M) (p := 105) (N := 12) (x := 0) (by omega) (by omega) rfl rfl (by omega)
  generalize hF : (fun a => sl (fun k => if dp_I M 101 (b * 20 + k) = nI a then (dp_I M 102 (b * 20 + k)).toInt64 else 0) n) = f
  have second : ∀ N', Off [105] [] M N' → dp_n N' = dp_n M → dp_z N' = dp_z M → dp_I N' = dp_I M → (∀ a, a < 12 → dp_J N' 105 a = f a) → ∃ r, D_X3_greatestAccount_58 xs xl (d + 2) (nI b) 0 1 N' = some r ∧ ∃ M', r = (.inl (some (.int (nI (gA f 11)))), M') ∧ Off [105] [] M M' ∧ dp_n M' = dp_n M ∧ dp_z M' = dp_z M ∧ dp_I M' = dp_I M := by
    intro N' o e1 e2 e3 e4
    have key := lpa (F := fun (g : Nat) i => D_X3_greatestAccount_58 xs xl (d + 2) (nI b) (nI g) (nI (i + 1)) N') (s := gA f) (a := 0) (N := 11) (r := (.inl (some (.int (nI (gA f 11)))), N')) (by omega) ?_ ?_
    · exact ⟨_, key, N', rfl, o, e1, e2, e3⟩
    · try dsimp only
      rw [D_X3_greatestAccount_58_eq, if_pos (show (12 : Int32) ≤ nI (11 + 1) by decide)]
    · intro i _ hi hr
      (try dsimp only at hr); (try dsimp only)
      have hg := gA_le f i
      rw [D_X3_greatestAccount_58_eq, if_neg (show ¬ (12 : Int32) ≤ nI (i + 1) from nI_ge (a := i + 1) (b := 12) (by omega) (by omega))]
      simp only [nI_cl (show i + 1 < 2147483648 by omega), nI_o (show i + 1 < 12 by omega) (by omega), nI_cl (show gA f i < 2147483648 by omega), nI_o (show gA f i < 12 by omega) (by omega), if_false, dp_w, nI_1, e4 (i + 1) (by omega), e4 (gA f i) (by omega), lg_cmp_le]
      rw [gA] at hr
      have eab : ∀ x : Int64, (if 0 < x then x else -x) = ab x := fun _ => rfl
      simp only [eab]
      by_cases c : ab (f (i + 1)) ≤ ab (f (gA f i))
      · rw [if_pos c]; rw [if_neg (Int64.not_lt.mpr c)] at hr; exact hr
      · rw [if_neg c]; rw [if_pos (Int64.not_le.mp c)] at hr; exact hr
  have key := lpi (F := fun i N' => D_X3_greatestAccount_13 xs xl (d + 2) (nI b) (nI (b * 20 + i)) N') (a := 0) (N := n)
    (Inv := fun i N' => Off [105] [] M N' ∧ dp_n N' = dp_n M ∧ dp_z N' = dp_z M ∧ dp_I N' = dp_I M ∧ ∀ a, a < 12 → dp_J N' 105 a = sl (fun k => if dp_I M 101 (b * 20 + k) = nI a then (dp_I M 102 (b * 20 + k)).toInt64 else 0) i)
    (Post := fun r => ∃ M', r = (.inl (some (.int (nI (gA f 11)))), M') ∧ Off [105] [] M M' ∧ dp_n M' = dp_n M ∧ dp_z M' = dp_z M ∧ dp_I M' = dp_I M)
    (Nat.zero_le _) ?_ ?_ M1 ?_
  · obtain ⟨r, hr, M', rfl, q⟩ := key
    refine ⟨M', ?_, q⟩
    rw [D_X3_greatestAccount_0_den, D_X3_greatestAccount_0_eq, f1, rb_bv]
    simp only [dp_w]
    rw [show nI b * (20 : Int32) = nI (b * 20) by rw [show (20 : Int32) = nI 20 from rfl, pk_mul]]
    exact hr
  · rintro N' ⟨o, i1, i2, i3, i4⟩
    obtain ⟨r, hr, q⟩ := second N' o i1 i2 i3 (fun a ha => by rw [i4 a ha, ← hF])
    refine ⟨r, ?_, q⟩
    try dsimp only
    rw [D_X3_greatestAccount_13_eq, lc_entries rfl hb, rb_bi, i3, hn, lc_ix20, if_pos (nI_lle (Nat.le_refl _) (by omega))]
    exact hr
  · rintro i N' - hi ⟨o, i1, i2, i3, i4⟩
    obtain ⟨j, hj, ej⟩ := qin_of (ha i hi) (by omega)
    refine ⟨dp_setJ N' 105 j (dp_J N' 105 j + (dp_I M 102 (b * 20 + i)).toInt64), ⟨o.J 105 (by decide) _ _, i1, i2, i3, fun a h12 => ?_⟩, fun r hr => ?_⟩
    · rw [gJJ, if_pos rfl, sl, ej]
      unfold uI
      by_cases e : a = j
      · rw [if_pos e, e, if_pos rfl, i4 j hj]
      · rw [if_neg e, if_neg (fun q => e ((nI_eq (by omega) (by omega)).mp q).symm), i4 a h12]; simp
    · (try dsimp only at hr); (try dsimp only)
      rw [D_X3_greatestAccount_13_eq, lc_entries rfl hb, rb_bi, i3, hn, lc_ix20, if_neg (nI_nge (by omega) (by omega))]
      simp only [nI_cl (show b * 20 + i < 2147483648 by omega), nI_o (show b * 20 + i < 16000 by omega) (by omega), ej, nI_cl (show j < 2147483648 by omega), nI_o hj (show j < 2147483648 by omega), if_false, dp_w, nI_1]
      rw [← Nat.add_assoc] at hr
      exact hr
  · refine ⟨f2, f3, f4, f6, fun a h12 => ?_⟩
    rw [f5, sl]
    have := fN_in (f := dp_J M 105) (a := 0) (n := 12) (g := fun _ => (0 : Int64)) (j := a) h12
    rwa [Nat.zero_add] at this
theorem lm_greatest {v1 : Int32} {b n : Nat} (h1 : v1 = nI b) (hb : b < 801) (hn : dp_I M 227 b = nI n) (h20 : n ≤ 20) : dp_den true xs xl (d + 2) 552 [.ref 114, .int v1] M =
    iR (gB (fun a => sl (fun k => if nI a = -1 ∨ dp_I M 228 (b * 20 + k) = nI a then dp_J M 229 (b * 20 + k) else 0) n) 12).1 M := by
  subst h1
  rw [D_X12_greatestIn_0_den, D_X12_greatestIn_0_eq]
  simp only [dp_w]
  generalize hF : (fun a => sl (fun k => if nI a = -1 ∨ dp_I M 228 (b * 20 + k) = nI a then dp_J M 229 (b * 20 + k) else 0) n) = f
  have key := lpb (F := fun (g : Int32 × Int64) i => D_X12_greatestIn_7 xs xl (d + 1) (nI b) g.1 g.2 (nI i) M) (s := gB f) (N := 12) (r := (.inl (some (.int (gB f 12).1)), M)) ?_ ?_
  · exact key
  · try dsimp only
    rw [D_X12_greatestIn_7_eq, if_pos (by decide)]
  · intro i hi hr
    (try dsimp only at hr); (try dsimp only)
    rw [D_X12_greatestIn_7_eq, if_neg (show ¬ (12 : Int32) ≤ nI (i) from nI_ge (a := i) (b := 12) (by omega) (by omega)), lm_sumIn rfl hb hn h20, rb_bl]
    have e : sl (fun k => if nI i = -1 ∨ dp_I M 228 (b * 20 + k) = nI i then dp_J M 229 (b * 20 + k) else 0) n = f i := by rw [← hF]
    rw [e]
    simp only [lg_cmp_ge]
    have go : ∀ x6, D_X12_greatestIn_38 xs xl (d + 1) (nI b) (gB f i).1 (gB f i).2 (nI i) x6 (ab (f i)) M = some (.inl (some (.int (gB f 12).1)), M) := by
      intro x6
      rw [D_X12_greatestIn_38_eq]
      simp only [lg_cmp_le, dp_w, nI_1]
      rw [gB] at hr
      by_cases c : ab (f i) ≤ (gB f i).2
      · rw [if_pos c, if_pos c]; rw [if_neg (Int64.not_lt.mpr c)] at hr
        exact D_X12_greatestIn_7_to_7_a _ _ _ _ _ hr
      · rw [if_neg c, if_neg c]; rw [if_pos (Int64.not_le.mp c)] at hr
        exact D_X12_greatestIn_7_to_7_a _ _ _ _ _ hr
    by_cases c : 0 ≤ f i
    · rw [if_pos c]
      have : ab (f i) = f i := by
        unfold ab
        split
        · rfl
        · rename_i q
          have : f i = 0 := Int64.le_antisymm (Int64.not_lt.mp q) c
          rw [this]; rfl
      have g := go (f i)
      rwa [this] at g
    · rw [if_neg c]
      have : ab (f i) = -(f i) := by unfold ab; rw [if_neg (fun q => c (Int64.le_of_lt q))]
      have g := go (f i)
      rwa [this] at g
end LEG
