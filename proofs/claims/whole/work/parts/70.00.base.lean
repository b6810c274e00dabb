/-! MATHEMATICS (0): results, memory, loops -/
abbrev iR (v : Int32) (M : dp_M) : Option dp_Res := some (.inl (some (.int v)), M)
abbrev lR (v : Int64) (M : dp_M) : Option dp_Res := some (.inl (some (.long v)), M)
abbrev vR (M : dp_M) : Option dp_Res := some (.inl none, M)
abbrev xR (e : Nat) (M : dp_M) : Option dp_Res := some (.inr e, M)
/-- truth as the machine has it -/
def bI (c : Prop) [Decidable c] : Int32 := if c then 1 else 0
theorem bI_0 {c : Prop} [Decidable c] : ((bI c) = 0) ↔ ¬ c := by by_cases h : c <;> simp [bI, h]
theorem bI_1 {c : Prop} [Decidable c] : ((bI c) = 1) ↔ c := by by_cases h : c <;> simp [bI, h]
theorem bI_01 {c : Prop} [Decidable c] : (bI c = 0 ∨ bI c = 1) ↔ True := by by_cases h : c <;> simp [bI, h]
theorem bI_c {c d : Prop} [Decidable c] [Decidable d] (h : c ↔ d) : bI c = bI d := by by_cases hc : c <;> simp [bI, hc, ← h]
theorem rb_bi {v : Int32} {M : dp_M} {k : Int32 → dp_M → Option dp_Res} : dp_bi (some (.inl (some (.int v)), M)) k = k v M := rfl
theorem rb_bl {v : Int64} {M : dp_M} {k : Int64 → dp_M → Option dp_Res} : dp_bl (some (.inl (some (.long v)), M)) k = k v M := rfl
theorem rb_bv {M : dp_M} {k : dp_M → Option dp_Res} : dp_bv (some (.inl none, M)) k = k M := rfl
theorem rb_ite {c : Prop} [Decidable c] {a b : Option dp_Res} {k : Int32 → dp_M → Option dp_Res} : dp_bi (if c then a else b) k = if c then dp_bi a k else dp_bi b k := by split <;> rfl
theorem rb_bi0 {A : Prop} [Decidable A] {M : dp_M} : (if A then iR 1 M else iR 0 M) = iR (bI A) M := by split <;> simp [bI, *]
theorem rb_bi1 {A : Prop} [Decidable A] {M : dp_M} : (if A then iR 0 M else iR 1 M) = iR (bI (¬ A)) M := by split <;> simp [bI, *]
/-- a row of numbers, changed at one place -/
def uI {α : Type} (f : Nat → α) (i : Nat) (x : α) : Nat → α := fun j => if j = i then x else f j
theorem uI_s {α : Type} (f : Nat → α) (i : Nat) (x : α) : uI f i x i = x := if_pos rfl
theorem uI_n {α : Type} {f : Nat → α} {i j : Nat} {x : α} (h : j ≠ i) : uI f i x j = f j := if_neg h
theorem gII (M : dp_M) (k i : Nat) (x : Int32) (k' : Nat) : dp_I (dp_setI M k i x) k' = if k' = k then uI (dp_I M k) i x else dp_I M k' := by
  funext j; show dp_up M.1 k i x k' j = _; unfold dp_up uI; by_cases h : k' = k <;> simp [h]
theorem gJJ (M : dp_M) (k i : Nat) (x : Int64) (k' : Nat) : dp_J (dp_setJ M k i x) k' = if k' = k then uI (dp_J M k) i x else dp_J M k' := by
  funext j; show dp_up M.2.1 k i x k' j = _; unfold dp_up uI; by_cases h : k' = k <;> simp [h]
theorem gRR (M : dp_M) (k i : Nat) (x : Option Nat) (k' : Nat) : dp_R (dp_setR M k i x) k' = if k' = k then uI (dp_R M k) i x else dp_R M k' := by
  funext j; show dp_up M.2.2.1 k i x k' j = _; unfold dp_up uI; by_cases h : k' = k <;> simp [h]
theorem gIJ (M : dp_M) (k i : Nat) (x : Int64) : dp_I (dp_setJ M k i x) = dp_I M := id rfl
theorem gIR (M : dp_M) (k i : Nat) (x : Option Nat) : dp_I (dp_setR M k i x) = dp_I M := id rfl
theorem gJI (M : dp_M) (k i : Nat) (x : Int32) : dp_J (dp_setI M k i x) = dp_J M := id rfl
theorem gJR (M : dp_M) (k i : Nat) (x : Option Nat) : dp_J (dp_setR M k i x) = dp_J M := id rfl
theorem gRI (M : dp_M) (k i : Nat) (x : Int32) : dp_R (dp_setI M k i x) = dp_R M := id rfl
theorem gRJ (M : dp_M) (k i : Nat) (x : Int64) : dp_R (dp_setJ M k i x) = dp_R M := id rfl
theorem glI (M : dp_M) (k i : Nat) (x : Int32) : dp_len (dp_setI M k i x) = dp_len M := id rfl
theorem glJ (M : dp_M) (k i : Nat) (x : Int64) : dp_len (dp_setJ M k i x) = dp_len M := id rfl
theorem glR (M : dp_M) (k i : Nat) (x : Option Nat) : dp_len (dp_setR M k i x) = dp_len M := id rfl
theorem gnI (M : dp_M) (k i : Nat) (x : Int32) : dp_n (dp_setI M k i x) = dp_n M := id rfl
theorem gnJ (M : dp_M) (k i : Nat) (x : Int64) : dp_n (dp_setJ M k i x) = dp_n M := id rfl
theorem gnR (M : dp_M) (k i : Nat) (x : Option Nat) : dp_n (dp_setR M k i x) = dp_n M := id rfl
theorem gzI (M : dp_M) (k i : Nat) (x : Int32) : dp_z (dp_setI M k i x) = dp_z M := id rfl
theorem gzJ (M : dp_M) (k i : Nat) (x : Int64) : dp_z (dp_setJ M k i x) = dp_z M := id rfl
theorem gzR (M : dp_M) (k i : Nat) (x : Option Nat) : dp_z (dp_setR M k i x) = dp_z M := id rfl
theorem gtI (M : dp_M) (k i : Nat) (x : Int32) : dp_tag (dp_setI M k i x) = dp_tag M := id rfl
theorem gtJ (M : dp_M) (k i : Nat) (x : Int64) : dp_tag (dp_setJ M k i x) = dp_tag M := id rfl
theorem gtR (M : dp_M) (k i : Nat) (x : Option Nat) : dp_tag (dp_setR M k i x) = dp_tag M := id rfl
/-- loops: a state for each turn -/
theorem lp {α β : Type} (F : β → Nat → α) (s : Nat → β) (N : Nat) (h : ∀ i, i < N → F (s i) i = F (s (i + 1)) (i + 1)) : F (s 0) 0 = F (s N) N := by
  have key : ∀ n, n ≤ N → F (s 0) 0 = F (s n) n := by
    intro n
    induction n with
    | zero => intro _; rfl
    | succ n ih => intro hn; rw [ih (by omega), h n (by omega)]
  exact key N (Nat.le_refl _)
/-- sums of ints, of longs -/
def sm (f : Nat → Int32) : Nat → Int32
  | 0 => 0
  | n + 1 => sm f n + f n
def sl (f : Nat → Int64) : Nat → Int64
  | 0 => 0
  | n + 1 => sl f n + f n
/-- some one below n -/
def an (p : Nat → Bool) : Nat → Bool
  | 0 => false
  | n + 1 => an p n || p n
theorem sm_c {f g : Nat → Int32} {n : Nat} (h : ∀ i, i < n → f i = g i) : sm f n = sm g n := by
  induction n with
  | zero => rfl
  | succ n ih => rw [sm, sm, ih (fun i hi => h i (by omega)), h n (by omega)]
theorem sl_c {f g : Nat → Int64} {n : Nat} (h : ∀ i, i < n → f i = g i) : sl f n = sl g n := by
  induction n with
  | zero => rfl
  | succ n ih => rw [sl, sl, ih (fun i hi => h i (by omega)), h n (by omega)]
theorem an_c {f g : Nat → Bool} {n : Nat} (h : ∀ i, i < n → f i = g i) : an f n = an g n := by
  induction n with
  | zero => rfl
  | succ n ih => rw [an, an, ih (fun i hi => h i (by omega)), h n (by omega)]
theorem an_iff {p : Nat → Bool} {n : Nat} : an p n = true ↔ ∃ i, i < n ∧ p i = true := by
  induction n with
  | zero => simp [an]
  | succ n ih =>
    rw [an, Bool.or_eq_true, ih]
    constructor
    · rintro (⟨i, h1, h2⟩ | h)
      · exact ⟨i, by omega, h2⟩
      · exact ⟨n, by omega, h⟩
    · rintro ⟨i, h1, h2⟩
      by_cases e : i = n
      · subst e; exact Or.inr h2
      · exact Or.inl ⟨i, by omega, h2⟩
/-- how many below n -/
def ct (p : Nat → Bool) : Nat → Nat
  | 0 => 0
  | n + 1 => ct p n + (if p n then 1 else 0)
theorem ct_le (p : Nat → Bool) (n : Nat) : ct p n ≤ n := by
  induction n with
  | zero => exact Nat.le_refl _
  | succ n ih => rw [ct]; split <;> omega
theorem sm_ct {f : Nat → Int32} {p : Nat → Bool} {n : Nat} (h : ∀ i, i < n → f i = if p i then 1 else 0) : sm f n = nI (ct p n) := by
  induction n with
  | zero => rfl
  | succ n ih =>
    rw [sm, ct, ih (fun i hi => h i (by omega)), h n (by omega)]
    split
    · rw [nI_1]
    · rw [Int32.add_zero]; rfl
/-- ints of a row -/
theorem nI_cl {i : Nat} (h : i < 2147483648) : (nI i).toNatClampNeg = i := nI_clamp h
theorem nI_nge {i n : Nat} (h : i < n) (hn : n < 2147483648) : ¬ nI n ≤ nI i := nI_ge h hn
theorem nI_lle {i n : Nat} (h : n ≤ i) (hn : i < 2147483648) : nI n ≤ nI i := nI_le h hn
theorem nI_inn {i n : Nat} (h : i < n) (hn : n < 2147483648) : ¬ (nI i < 0 ∨ n ≤ (nI i).toNatClampNeg) := nI_in h hn
/-- loops, backwards -/
theorem lpb {β : Type} {F : β → Nat → Option dp_Res} {s : Nat → β} {N : Nat} {r : dp_Res} (he : F (s N) N = some r) (h : ∀ i, i < N → F (s (i + 1)) (i + 1) = some r → F (s i) i = some r) : F (s 0) 0 = some r := by
  have key : ∀ n, n ≤ N → F (s (N - n)) (N - n) = some r := by
    intro n
    induction n with
    | zero => intro _; exact he
    | succ n ih =>
      intro hn
      refine h (N - (n + 1)) (by omega) ?_
      rw [show N - (n + 1) + 1 = N - n by omega]
      exact ih (by omega)
  have := key N (Nat.le_refl _)
  rwa [Nat.sub_self] at this
theorem lpa {β : Type} {F : β → Nat → Option dp_Res} {s : Nat → β} {a N : Nat} {r : dp_Res} (ha : a ≤ N) (he : F (s N) N = some r) (h : ∀ i, a ≤ i → i < N → F (s (i + 1)) (i + 1) = some r → F (s i) i = some r) : F (s a) a = some r := by
  have key : ∀ n, n ≤ N - a → F (s (N - n)) (N - n) = some r := by
    intro n
    induction n with
    | zero => intro _; exact he
    | succ n ih =>
      intro hn
      refine h (N - (n + 1)) (by omega) (by omega) ?_
      rw [show N - (n + 1) + 1 = N - n by omega]
      exact ih (by omega)
  have := key (N - a) (Nat.le_refl _)
  rwa [show N - (N - a) = a by omega] at this
/-- an index of a row of n -/
abbrev qin (v : Int32) (n : Nat) : Prop := ¬ (v < 0 ∨ n ≤ v.toNatClampNeg)
theorem qin_iff {v : Int32} {n : Nat} : qin v n ↔ 0 ≤ v.toInt ∧ v.toInt < n := vp_in_iff
theorem qin_of {v : Int32} {n : Nat} (h : qin v n) (hn : n < 2147483648) : ∃ j : Nat, j < n ∧ v = nI j := vp_in_of h hn
theorem qin_nI {j n : Nat} (h : j < n) (hn : n < 2147483648) : qin (nI j) n := nI_in h hn
theorem q_pre {n : Nat} (hn : n < 2147483648) : (nI n - 1).toInt = (n : Int) - 1 := by
  cases n with
  | zero => decide
  | succ n => rw [nI_pred, nI_toInt (by omega)]; omega
theorem q_w {v : Int32} {n : Nat} (hn : n < 2147483648) : ((0 : Int64) ≤ v.toInt64 ∧ v.toInt64 ≤ (nI n - 1).toInt64) ↔ qin v n := by
  rw [qin_iff, Int64.le_iff_toInt_le, Int64.le_iff_toInt_le, Int32.toInt_toInt64, Int32.toInt_toInt64, q_pre hn]
  have : (0 : Int64).toInt = 0 := by decide
  rw [this]; omega
theorem q_wc {v : Int32} {c : Int64} (n : Nat) (hc : c.toInt + 1 = (n : Int)) : ((0 : Int64) ≤ v.toInt64 ∧ v.toInt64 ≤ c) ↔ qin v n := by
  rw [qin_iff, Int64.le_iff_toInt_le, Int64.le_iff_toInt_le, Int32.toInt_toInt64]
  have : (0 : Int64).toInt = 0 := by decide
  rw [this]; omega
theorem q_win (xs : Nat → Int32) (xl d : Nat) (a b c : Int64) (M : dp_M) : dp_den true xs xl (d + 1) 251 [.long a, .long b, .long c] M = iR (bI (b ≤ a ∧ a ≤ c)) M := by
  rw [D_X11_within_0_den, D_X11_within_0_eq]
  simp only [lg_cmp_lt, lg_cmp_gt]
  by_cases h1 : a < b
  · rw [if_pos h1]
    simp [bI, Int64.not_le.mpr h1]
  · rw [if_neg h1]
    have h1' := Int64.not_lt.mp h1
    by_cases h2 : c < a
    · rw [if_pos h2]; simp [bI, Int64.not_le.mpr h2]
    · rw [if_neg h2]; simp [bI, h1', Int64.not_lt.mp h2]
theorem q_min (xs : Nat → Int32) (xl d : Nat) (a b c : Int64) (M : dp_M) : dp_den true xs xl (d + 1) 367 [.long a, .long b, .long c] M = iR (bI (b ≤ a ∧ a ≤ c)) M := by
  rw [D_X12_in_0_den, D_X12_in_0_eq]
  simp only [lg_cmp_lt, lg_cmp_gt]
  by_cases h1 : a < b
  · rw [if_pos h1]
    simp [bI, Int64.not_le.mpr h1]
  · rw [if_neg h1]
    have h1' := Int64.not_lt.mp h1
    by_cases h2 : c < a
    · rw [if_pos h2]; simp [bI, Int64.not_le.mpr h2]
    · rw [if_neg h2]; simp [bI, h1', Int64.not_lt.mp h2]
theorem q_nk {α : Type} {M : dp_M} {t : Nat} {x : Option α} (h : 246 ≤ dp_n M) : dp_nk M t x = x := by
  unfold dp_nk
  rw [if_neg (show ¬ dp_n M < dp_K0 from by show ¬ dp_n M < 246; omega)]
theorem q_ref (xs : Nat → Int32) (xl d : Nat) (v : Int32) (M : dp_M) : dp_den true xs xl (d + 1) 366 [.ref 114, .int v] M = iR 0 (dp_setI M 114 0 v) := by
  rw [D_X12_refuse_0_den, D_X12_refuse_0_eq]; rfl
/-- what is changed: places S, and of the model's object the fields T -/
def Off (S T : List Nat) (M M' : dp_M) : Prop :=
  (∀ k, k < 246 → k ∉ S → k ≠ 114 → dp_I M' k = dp_I M k ∧ dp_J M' k = dp_J M k ∧ dp_R M' k = dp_R M k) ∧
  (∀ i, i ∉ T → dp_I M' 114 i = dp_I M 114 i ∧ dp_J M' 114 i = dp_J M 114 i) ∧
  (∀ k, k < 246 → dp_len M' k = dp_len M k) ∧
  (∀ k, 246 ≤ k → k < dp_n M → dp_I M' k = dp_I M k ∧ dp_J M' k = dp_J M k ∧ dp_R M' k = dp_R M k ∧ dp_len M' k = dp_len M k ∧ dp_tag M' k = dp_tag M k) ∧ dp_n M ≤ dp_n M'
/-- what it costs -/
def Cst (a z : Nat) (M M' : dp_M) : Prop := dp_n M' ≤ dp_n M + a ∧ dp_z M' ≤ dp_z M + z
theorem Cst.r (M : dp_M) : Cst 0 0 M M := ⟨by omega, by omega⟩
theorem Cst.mono {a z a' z' : Nat} {M M' : dp_M} (h : Cst a z M M') (ha : a ≤ a') (hz : z ≤ z') : Cst a' z' M M' := ⟨by have := h.1; omega, by have := h.2; omega⟩
theorem Cst.trans {a z a' z' : Nat} {M M' M'' : dp_M} (h : Cst a z M M') (h' : Cst a' z' M' M'') : Cst (a + a') (z + z') M M'' := ⟨by have := h.1; have := h'.1; omega, by have := h.2; have := h'.2; omega⟩
theorem Off.r (M : dp_M) : Off [] [] M M := ⟨fun _ _ _ _ => ⟨rfl, rfl, rfl⟩, fun _ _ => ⟨rfl, rfl⟩, fun _ _ => rfl, fun _ _ _ => ⟨rfl, rfl, rfl, rfl, rfl⟩, Nat.le_refl _⟩
theorem Off.rr (S T : List Nat) (M : dp_M) : Off S T M M := ⟨fun _ _ _ _ => ⟨rfl, rfl, rfl⟩, fun _ _ => ⟨rfl, rfl⟩, fun _ _ => rfl, fun _ _ _ => ⟨rfl, rfl, rfl, rfl, rfl⟩, Nat.le_refl _⟩
theorem Off.mono {S T S' T' : List Nat} {M M' : dp_M} (h : Off S T M M') (hS : ∀ k ∈ S, k ∈ S') (hT : ∀ k ∈ T, k ∈ T') : Off S' T' M M' :=
  ⟨fun k h1 h2 h3 => h.1 k h1 (fun q => h2 (hS k q)) h3, fun i hi => h.2.1 i (fun q => hi (hT i q)), h.2.2⟩
theorem Off.tr {S T : List Nat} {M M' M'' : dp_M} (h : Off S T M M') (h' : Off S T M' M'') : Off S T M M'' := by
  obtain ⟨a1, a2, a3, a4, a5⟩ := h
  obtain ⟨b1, b2, b3, b4, b5⟩ := h'
  refine ⟨fun k h1 h2 h3 => ?_, fun i hi => ?_, fun k hk => by rw [b3 k hk, a3 k hk], fun k h1 h2 => ?_, by omega⟩
  · obtain ⟨x1, x2, x3⟩ := a1 k h1 h2 h3
    obtain ⟨y1, y2, y3⟩ := b1 k h1 h2 h3
    exact ⟨by rw [y1, x1], by rw [y2, x2], by rw [y3, x3]⟩
  · obtain ⟨x1, x2⟩ := a2 i hi
    obtain ⟨y1, y2⟩ := b2 i hi
    exact ⟨by rw [y1, x1], by rw [y2, x2]⟩
  · obtain ⟨x1, x2, x3, x4, x5⟩ := a4 k h1 h2
    obtain ⟨y1, y2, y3, y4, y5⟩ := b4 k h1 (by omega)
    exact ⟨by rw [y1, x1], by rw [y2, x2], by rw [y3, x3], by rw [y4, x4], by rw [y5, x5]⟩
theorem Off.I {S T : List Nat} {M M' : dp_M} (k : Nat) (hk : (k ∈ S ∧ k < 246) ∧ k ≠ 114) (i : Nat) (x : Int32) (h : Off S T M M') : Off S T M (dp_setI M' k i x) := by
  obtain ⟨a1, a2, a3, a4, a5⟩ := h
  refine ⟨fun k' q1 q2 q3 => ?_, fun i' hi => ?_, a3, fun k' q1 q2 => ?_, a5⟩
  · obtain ⟨x1, x2, x3⟩ := a1 k' q1 q2 q3
    exact ⟨by rw [gII, if_neg (show ¬ k' = k from fun e => q2 (by rw [e]; exact hk.1.1)), x1], x2, x3⟩
  · obtain ⟨x1, x2⟩ := a2 i' hi
    exact ⟨by rw [gII, if_neg (show ¬ 114 = k from fun e => hk.2 e.symm)]; exact x1, x2⟩
  · obtain ⟨x1, x2, x3, x4, x5⟩ := a4 k' q1 q2
    exact ⟨by rw [gII, if_neg (by omega), x1], x2, x3, x4, x5⟩
theorem Off.J {S T : List Nat} {M M' : dp_M} (k : Nat) (hk : (k ∈ S ∧ k < 246) ∧ k ≠ 114) (i : Nat) (x : Int64) (h : Off S T M M') : Off S T M (dp_setJ M' k i x) := by
  obtain ⟨a1, a2, a3, a4, a5⟩ := h
  refine ⟨fun k' q1 q2 q3 => ?_, fun i' hi => ?_, a3, fun k' q1 q2 => ?_, a5⟩
  · obtain ⟨x1, x2, x3⟩ := a1 k' q1 q2 q3
    exact ⟨x1, by rw [gJJ, if_neg (show ¬ k' = k from fun e => q2 (by rw [e]; exact hk.1.1)), x2], x3⟩
  · obtain ⟨x1, x2⟩ := a2 i' hi
    exact ⟨x1, by rw [gJJ, if_neg (show ¬ 114 = k from fun e => hk.2 e.symm)]; exact x2⟩
  · obtain ⟨x1, x2, x3, x4, x5⟩ := a4 k' q1 q2
    exact ⟨x1, by rw [gJJ, if_neg (by omega), x2], x3, x4, x5⟩
theorem Off.R {S T : List Nat} {M M' : dp_M} (k : Nat) (hk : (k ∈ S ∧ k < 246) ∧ k ≠ 114) (i : Nat) (x : Option Nat) (h : Off S T M M') : Off S T M (dp_setR M' k i x) := by
  obtain ⟨a1, a2, a3, a4, a5⟩ := h
  refine ⟨fun k' q1 q2 q3 => ?_, a2, a3, fun k' q1 q2 => ?_, a5⟩
  · obtain ⟨x1, x2, x3⟩ := a1 k' q1 q2 q3
    exact ⟨x1, x2, by rw [gRR, if_neg (show ¬ k' = k from fun e => q2 (by rw [e]; exact hk.1.1)), x3]⟩
  · obtain ⟨x1, x2, x3, x4, x5⟩ := a4 k' q1 q2
    exact ⟨x1, x2, by rw [gRR, if_neg (by omega), x3], x4, x5⟩
theorem Off.F {S T : List Nat} {M M' : dp_M} (i : Nat) (hi : i ∈ T) (x : Int32) (h : Off S T M M') : Off S T M (dp_setI M' 114 i x) := by
  obtain ⟨a1, a2, a3, a4, a5⟩ := h
  refine ⟨fun k' q1 q2 q3 => ?_, fun i' hi' => ?_, a3, fun k' q1 q2 => ?_, a5⟩
  · obtain ⟨x1, x2, x3⟩ := a1 k' q1 q2 q3
    exact ⟨by rw [gII, if_neg q3, x1], x2, x3⟩
  · obtain ⟨x1, x2⟩ := a2 i' hi'
    exact ⟨by rw [gII, if_pos rfl, uI_n (show i' ≠ i from fun e => hi' (by rw [e]; exact hi))]; exact x1, x2⟩
  · obtain ⟨x1, x2, x3, x4, x5⟩ := a4 k' q1 q2
    exact ⟨by rw [gII, if_neg (by omega), x1], x2, x3, x4, x5⟩
theorem Off.G {S T : List Nat} {M M' : dp_M} (i : Nat) (hi : i ∈ T) (x : Int64) (h : Off S T M M') : Off S T M (dp_setJ M' 114 i x) := by
  obtain ⟨a1, a2, a3, a4, a5⟩ := h
  refine ⟨fun k' q1 q2 q3 => ?_, fun i' hi' => ?_, a3, fun k' q1 q2 => ?_, a5⟩
  · obtain ⟨x1, x2, x3⟩ := a1 k' q1 q2 q3
    exact ⟨x1, by rw [gJJ, if_neg q3, x2], x3⟩
  · obtain ⟨x1, x2⟩ := a2 i' hi'
    exact ⟨x1, by rw [gJJ, if_pos rfl, uI_n (show i' ≠ i from fun e => hi' (by rw [e]; exact hi))]; exact x2⟩
  · obtain ⟨x1, x2, x3, x4, x5⟩ := a4 k' q1 q2
    exact ⟨x1, by rw [gJJ, if_neg (by omega), x2], x3, x4, x5⟩
/-- a new place -/
theorem gIN {M : dp_M} {a t z k : Nat} (h : k < dp_n M) : dp_I (dp_new M a t z) k = dp_I M k := by
  funext j; exact if_neg (Nat.ne_of_lt h)
theorem gJN {M : dp_M} {a t z k : Nat} (h : k < dp_n M) : dp_J (dp_new M a t z) k = dp_J M k := by
  funext j; exact if_neg (Nat.ne_of_lt h)
theorem gRN {M : dp_M} {a t z k : Nat} (h : k < dp_n M) : dp_R (dp_new M a t z) k = dp_R M k := by
  funext j; exact if_neg (Nat.ne_of_lt h)
theorem glN {M : dp_M} {a t z k : Nat} (h : k < dp_n M) : dp_len (dp_new M a t z) k = dp_len M k := if_neg (Nat.ne_of_lt h)
theorem gtN {M : dp_M} {a t z k : Nat} (h : k < dp_n M) : dp_tag (dp_new M a t z) k = dp_tag M k := if_neg (Nat.ne_of_lt h)
theorem gnN (M : dp_M) (a t z : Nat) : dp_n (dp_new M a t z) = dp_n M + 1 := id rfl
theorem gzN (M : dp_M) (a t z : Nat) : dp_z (dp_new M a t z) = dp_z M + z := id rfl
theorem Off.N {S T : List Nat} {M M' : dp_M} (hn : 246 ≤ dp_n M) (a t z : Nat) (h : Off S T M M') : Off S T M (dp_new M' a t z) := by
  obtain ⟨a1, a2, a3, a4, a5⟩ := h
  refine ⟨fun k' q1 q2 q3 => ?_, fun i' hi => ?_, fun k hk => ?_, fun k' q1 q2 => ?_, by rw [gnN]; omega⟩
  · obtain ⟨x1, x2, x3⟩ := a1 k' q1 q2 q3
    exact ⟨by rw [gIN (by omega), x1], by rw [gJN (by omega), x2], by rw [gRN (by omega), x3]⟩
  · obtain ⟨x1, x2⟩ := a2 i' hi
    exact ⟨by rw [gIN (by omega), x1], by rw [gJN (by omega), x2]⟩
  · rw [glN (by omega), a3 k hk]
  · obtain ⟨x1, x2, x3, x4, x5⟩ := a4 k' q1 q2
    exact ⟨by rw [gIN (by omega), x1], by rw [gJN (by omega), x2], by rw [gRN (by omega), x3], by rw [glN (by omega), x4], by rw [gtN (by omega), x5]⟩
/-- tables: a row of w ints for each -/
theorem u2 {α : Type} {f : Nat → α} {b B k j w : Nat} {x : α} (hk : k < w) (hj : j < w) : uI f (B * w + j) x (b * w + k) = if b = B ∧ k = j then x else f (b * w + k) := by
  unfold uI
  by_cases h : b = B ∧ k = j
  · rw [if_pos h, if_pos (by rw [h.1, h.2])]
  · rw [if_neg h, if_neg]
    intro e
    apply h
    have h1 : (b * w + k) / w = b := by rw [Nat.mul_comm, Nat.mul_add_div (by omega), Nat.div_eq_of_lt hk]; omega
    have h2 : (B * w + j) / w = B := by rw [Nat.mul_comm, Nat.mul_add_div (by omega), Nat.div_eq_of_lt hj]; omega
    have e1 : b = B := by rw [← h1, ← h2, e]
    exact ⟨e1, by rw [e1] at e; omega⟩
/-- loops over memories -/
theorem lpi {β : Type} {F : Nat → β → Option dp_Res} {Inv : Nat → β → Prop} {Post : dp_Res → Prop} {a N : Nat} (ha : a ≤ N) (he : ∀ s, Inv N s → ∃ r, F N s = some r ∧ Post r)
    (hs : ∀ i s, a ≤ i → i < N → Inv i s → ∃ s', Inv (i + 1) s' ∧ ∀ r, F (i + 1) s' = some r → F i s = some r) : ∀ s, Inv a s → ∃ r, F a s = some r ∧ Post r := by
  have key : ∀ n, n ≤ N - a → ∀ s, Inv (N - n) s → ∃ r, F (N - n) s = some r ∧ Post r := by
    intro n
    induction n with
    | zero => intro _ s h; exact he s h
    | succ n ih =>
      intro hn s h
      obtain ⟨s', h1, h2⟩ := hs (N - (n + 1)) s (by omega) (by omega) h
      rw [show N - (n + 1) + 1 = N - n by omega] at h1 h2
      obtain ⟨r, h3, h4⟩ := ih (by omega) s' h1
      exact ⟨r, h2 r h3, h4⟩
  intro s h
  have := key (N - a) (Nat.le_refl _) s
  rw [show N - (N - a) = a by omega] at this
  exact this h
/-- loops with a measure -/
theorem lpw {β : Type} {F : β → Option dp_Res} {Inv : β → Prop} {Post : dp_Res → Prop} (μ : β → Nat)
    (hs : ∀ s, Inv s → (∃ r, F s = some r ∧ Post r) ∨ ∃ s', Inv s' ∧ μ s' < μ s ∧ ∀ r, F s' = some r → F s = some r) : ∀ s, Inv s → ∃ r, F s = some r ∧ Post r := by
  have key : ∀ n s, μ s < n → Inv s → ∃ r, F s = some r ∧ Post r := by
    intro n
    induction n with
    | zero => intro s h; omega
    | succ n ih =>
      intro s hm h
      rcases hs s h with h | ⟨s', h1, h2, h3⟩
      · exact h
      · obtain ⟨r, h4, h5⟩ := ih s' (by omega) h1
        exact ⟨r, h3 r h4, h5⟩
  intro s h
  exact key (μ s + 1) s (by omega) h
/-- a stretch of a row filled -/
def fN {α : Type} (f : Nat → α) (a n : Nat) (g : Nat → α) : Nat → α := fun j => if a ≤ j ∧ j < a + n then g (j - a) else f j
theorem fN_0 {α : Type} (f : Nat → α) (a : Nat) (g : Nat → α) : fN f a 0 g = f := by
  funext j; unfold fN; rw [if_neg (by omega)]
theorem fN_s {α : Type} (f : Nat → α) (a n : Nat) (g : Nat → α) : uI (fN f a n g) (a + n) (g n) = fN f a (n + 1) g := by
  funext j; unfold uI fN
  by_cases h : j = a + n
  · rw [if_pos h, if_pos (by omega), h, Nat.add_sub_cancel_left]
  · rw [if_neg h]
    by_cases h2 : a ≤ j ∧ j < a + n
    · rw [if_pos h2, if_pos (by omega)]
    · rw [if_neg h2, if_neg (by omega)]
theorem fN_in {α : Type} {f : Nat → α} {a n : Nat} {g : Nat → α} {j : Nat} (h : j < n) : fN f a n g (a + j) = g j := by
  unfold fN; rw [if_pos (by omega), Nat.add_sub_cancel_left]
theorem fN_lt {α : Type} {f : Nat → α} {a n : Nat} {g : Nat → α} {j : Nat} (h : j < a) : fN f a n g j = f j := by
  unfold fN; rw [if_neg (by omega)]
theorem fN_ge {α : Type} {f : Nat → α} {a n : Nat} {g : Nat → α} {j : Nat} (h : a + n ≤ j) : fN f a n g j = f j := by
  unfold fN; rw [if_neg (by omega)]
theorem q_ge0 {v : Int32} {n : Nat} (h : nI n ≤ v) (hn : n < 2147483648) : ¬ v < 0 := fun q => by
  have := nI_pos' hn
  rw [Int32.lt_iff_toInt_lt] at q
  rw [Int32.le_iff_toInt_le] at this h
  omega
theorem q_nin {v : Int32} {n : Nat} (h : nI n ≤ v) (hn : n < 2147483648) : ¬ qin v n := by
  rw [qin_iff]
  rw [Int32.le_iff_toInt_le, nI_toInt hn] at h
  omega
/-- the model's question: an index of a row of n -/
theorem q_mr {v c : Int32} {n : Nat} {M : dp_M} (hc : c = nI n) (hn : n < 2147483648) : (if v < 0 then iR 0 M else if c ≤ v then iR 0 M else iR 1 M) = iR (bI (qin v n)) M := by
  subst hc
  rcases pk_ix v hn with h | h | ⟨j, h, rfl⟩
  · rw [if_pos h]; simp [bI, h]
  · have h0 : ¬ v < 0 := fun q => by
      have := nI_pos' hn
      rw [Int32.lt_iff_toInt_lt] at q
      rw [Int32.le_iff_toInt_le] at this h
      omega
    rw [if_neg h0, if_pos h]
    have : ¬ qin v n := by
      rw [qin_iff]
      rw [Int32.le_iff_toInt_le, nI_toInt hn] at h
      omega
    rw [bI, if_neg this]
  · rw [if_neg (nI_pos (by omega)), if_neg (nI_nge h hn), bI, if_pos (qin_nI h hn)]
/-- the class's -/
theorem q_cr {xs : Nat → Int32} {xl d n : Nat} {v : Int32} {c : Int64} {M : dp_M} (hc : c.toInt + 1 = (n : Int)) : dp_bi (dp_den true xs xl (d + 1) 251 [.long v.toInt64, .long 0, .long c] M) (fun r2 M1 => if r2 = 0 ∨ r2 = 1 then some (.inl (some (.int r2)), M1) else none) = iR (bI (qin v n)) M := by
  rw [q_win, rb_bi, if_pos (by rw [bI_01]; trivial), bI_c (q_wc n hc)]
theorem q_cn {xs : Nat → Int32} {xl d n : Nat} {v c : Int32} {M : dp_M} (hc : c = nI n) (hn : n < 2147483648) : dp_bi (dp_den true xs xl (d + 1) 251 [.long v.toInt64, .long 0, .long (c - 1).toInt64] M) (fun r2 M1 => if r2 = 0 ∨ r2 = 1 then some (.inl (some (.int r2)), M1) else none) = iR (bI (qin v n)) M := by
  subst hc
  rw [q_win, rb_bi, if_pos (by rw [bI_01]; trivial), bI_c (q_w hn)]
theorem q_mc {xs : Nat → Int32} {xl d n : Nat} {v : Int32} {c : Int64} {M : dp_M} (hc : c.toInt + 1 = (n : Int)) : dp_bi (dp_den true xs xl (d + 1) 367 [.long v.toInt64, .long 0, .long c] M) (fun r2 M1 => if r2 = 0 ∨ r2 = 1 then some (.inl (some (.int r2)), M1) else none) = iR (bI (qin v n)) M := by
  rw [q_min, rb_bi, if_pos (by rw [bI_01]; trivial), bI_c (q_wc n hc)]
/-- an index that is in, when its place is known -/
theorem nI_o {i n : Nat} (h : i < n) (hn : i < 2147483648) : (nI i < 0 ∨ n ≤ i) = False := by
  apply eq_false
  rintro (q | q)
  · exact nI_pos hn q
  · omega
/-- loops that add up -/
theorem lp_sl {F : Int64 → Nat → Option dp_Res} (f : Nat → Int64) {N : Nat} {M : dp_M} (he : ∀ a, F a N = lR a M) (hs : ∀ i a r, i < N → F (a + f i) (i + 1) = some r → F a i = some r) : F 0 0 = lR (sl f N) M :=
  lpb (F := F) (s := sl f) (N := N) (he _) (fun i hi hr => hs i (sl f i) _ hi hr)
theorem lp_sm {F : Int32 → Nat → Option dp_Res} (f : Nat → Int32) {N : Nat} {M : dp_M} (he : ∀ a, F a N = iR a M) (hs : ∀ i a r, i < N → F (a + f i) (i + 1) = some r → F a i = some r) : F 0 0 = iR (sm f N) M :=
  lpb (F := F) (s := sm f) (N := N) (he _) (fun i hi hr => hs i (sm f i) _ hi hr)
/-- loops that ask of all -/
theorem lp_an {F : Int32 → Nat → Option dp_Res} (p : Nat → Bool) {N : Nat} {M : dp_M} (he : ∀ a, F a N = iR a M) (hs : ∀ i a r, i < N → F (bI ((a || p i) = true)) (i + 1) = some r → F (bI (a = true)) i = some r) : F 0 0 = iR (bI (an p N = true)) M :=
  lpb (F := F) (s := fun i => bI (an p i = true)) (N := N) (he _) (fun i hi hr => hs i (an p i) _ hi hr)
/-- loops that stop at the first -/
theorem lp_ex {F : Nat → Option dp_Res} (p : Nat → Bool) {N : Nat} {M : dp_M} (he : F N = iR 0 M) (h1 : ∀ i, i < N → p i = true → F i = iR 1 M) (h0 : ∀ i r, i < N → p i = false → F (i + 1) = some r → F i = some r) : F 0 = iR (bI (an p N = true)) M := by
  by_cases h : an p N = true
  · rw [bI, if_pos h]
    obtain ⟨k, hk, hp⟩ := an_iff.mp h
    have key : ∀ n i, i + n = k → (∃ j, i ≤ j ∧ j < N ∧ p j = true) → F i = iR 1 M := by
      intro n
      induction n with
      | zero => intro i hi _; exact h1 i (by omega) (by rw [show i = k by omega]; exact hp)
      | succ n ih =>
        intro i hi hj
        cases hpi : p i with
        | true => exact h1 i (by omega) hpi
        | false => exact h0 i _ (by omega) hpi (ih (i + 1) (by omega) ⟨k, by omega, hk, hp⟩)
    exact key k 0 (by omega) ⟨k, by omega, hk, hp⟩
  · rw [bI, if_neg h]
    have hn : ∀ i, i < N → p i = false := fun i hi => by
      cases hpi : p i with
      | false => rfl
      | true => exact absurd (an_iff.mpr ⟨i, hi, hpi⟩) h
    have key : ∀ n i, i + n = N → F i = iR 0 M := by
      intro n
      induction n with
      | zero => intro i hi; rw [show i = N by omega]; exact he
      | succ n ih => intro i hi; exact h0 i _ (by omega) (hn i (by omega)) (ih (i + 1) (by omega))
    exact key N 0 (by omega)
theorem ibz {c : Prop} [Decidable c] {α : Type} {A B : α} : (if bI c = 0 then A else B) = if c then B else A := by
  by_cases h : c <;> simp [bI, h]
