-- needs: 75
/-! YARD: class and model, each against rows R (which row), L (which tier), h (the moves kept, latest first), m (moves made) -/
def rwf (R : Nat → Int32) (v : Int32) (i : Nat) : Bool := decide (R i = v)
theorem rwf_t {R : Nat → Int32} {v : Int32} {i : Nat} : rwf R v i = true ↔ R i = v := decide_eq_true_iff
def hR (R : Nat → Int32) (n r : Nat) : Nat := ct (rwf R (nI r)) n
/-- a row of the class -/
def CY (C : dp_M) (n W H G : Nat) (R L : Nat → Int32) (h : List (Nat × Int32)) (m : Int32) : Prop :=
  dp_I C 28 1 = nI W ∧ dp_I C 28 2 = nI H ∧ dp_I C 28 3 = nI G ∧ dp_len C 33 = W ∧ dp_len C 34 = W ∧ dp_len C 35 = W ∧ dp_len C 36 = W * H ∧
  (∀ i, i < n → dp_I C 29 i = R i ∧ dp_I C 30 i = L i) ∧ (∀ i, n ≤ i → i < 100 → dp_I C 29 i = -1 ∧ dp_I C 30 i = -1) ∧
  (∀ r, r < W → dp_I C 33 r = nI (hR R n r)) ∧ (∀ r l, r < W → l < hR R n r → ∃ i, i < n ∧ dp_I C 36 (r * H + l) = nI i ∧ R i = nI r ∧ L i = nI l) ∧
  dp_I C 28 13 = nI h.length ∧ dp_I C 28 14 = m ∧ ∃ q : Nat, q < 100 ∧ dp_I C 28 12 = nI q ∧ ∀ j, j < h.length → dp_I C 31 ((q + 99 - j) % 100) = nI (h.getD j (0, 0)).1 ∧ dp_I C 32 ((q + 99 - j) % 100) = (h.getD j (0, 0)).2
/-- of the model -/
def MY (M : dp_M) (n W H G : Nat) (R L : Nat → Int32) (h : List (Nat × Int32)) (m : Int32) : Prop :=
  dp_I M 114 25 = nI W ∧ dp_I M 114 26 = nI H ∧ dp_I M 114 27 = nI G ∧ (∀ i, i < n → dp_I M 140 i = R i ∧ dp_I M 141 i = L i) ∧ dp_I M 114 38 = nI h.length ∧ dp_I M 114 37 = m ∧
  ∀ j, j < h.length → dp_I M 142 (h.length - 1 - j) = nI (h.getD j (0, 0)).1 ∧ dp_I M 143 (h.length - 1 - j) = (h.getD j (0, 0)).2
/-- a box may go to f: it stands on top or nowhere, and there is room -/
def goO (n W H : Nat) (R L : Nat → Int32) (x : Nat) (f : Int32) : Prop := x < n ∧ (∀ r, r < W → R x = nI r → L x = nI (hR R n r) - 1) ∧ (f = -1 ∨ ∃ r, r < W ∧ f = nI r ∧ hR (uI R x (-1)) n r < H)
def goL (n : Nat) (R L : Nat → Int32) (x : Nat) (f : Int32) : Nat → Int32 := uI L x (if f = -1 then -1 else nI (ct (rwf (uI R x (-1)) f) n))
/-- the moves kept can be undone one after the other -/
def HV (n W H : Nat) : List (Nat × Int32) → (Nat → Int32) → (Nat → Int32) → Prop
  | [], _, _ => True
  | (x, f) :: h, R, L => goO n W H R L x f ∧ HV n W H h (uI R x f) (goL n R L x f)
def YW (n W H : Nat) (R L : Nat → Int32) : Prop :=
  (∀ i, i < n → (R i = -1 ∧ L i = -1) ∨ ∃ r l, r < W ∧ l < hR R n r ∧ R i = nI r ∧ L i = nI l) ∧ (∀ i j r, i < n → j < n → r < W → R i = nI r → R j = nI r → L i = L j → i = j) ∧ ∀ r, r < W → hR R n r ≤ H
def YI (n W H G : Nat) (R L : Nat → Int32) (h : List (Nat × Int32)) (S st : Nat → Int32) : Prop :=
  1 ≤ W ∧ W ≤ 20 ∧ 1 ≤ H ∧ H ≤ 8 ∧ 1 ≤ G ∧ G ≤ 400 ∧ n ≤ 100 ∧ h.length ≤ 100 ∧ YW n W H R L ∧ HV n W H h R L ∧ (∀ i, i < n → ¬ R i = -1 → S i = 3 ∧ st i = 0) ∧ ∀ q ∈ h, q.1 < n ∧ S q.1 = 3
def YR (M : dp_M) (n : Nat) : Prop := ∃ (W H G : Nat) (R L : Nat → Int32) (h : List (Nat × Int32)) (m : Int32), CY M n W H G R L h m ∧ MY M n W H G R L h m ∧ YI n W H G R L h (dp_I M 9) (dp_I M 11) ∧
  dp_I M 144 = dp_I M 11 ∧ (∀ r, r < W → dp_I M 133 r = dp_I M 34 r ∧ dp_I M 134 r = dp_I M 35 r ∧ qin (dp_I M 35 r) 10)
def CY_S : List Nat := [28, 29, 30, 31, 32, 33, 36]
def MY_S : List Nat := [140, 141, 142, 143]
def MY_T : List Nat := [25, 26, 27, 37, 38]
def YR_S : List Nat := [9, 11, 28, 29, 30, 31, 32, 33, 34, 35, 36, 133, 134, 140, 141, 142, 143, 144]
theorem CY_off {S T : List Nat} {M M' : dp_M} {n W H G : Nat} {R L : Nat → Int32} {h : List (Nat × Int32)} {m : Int32} (y : CY M n W H G R L h m) (o : Off S T M M') (hS : ∀ k ∈ CY_S, k ∉ S) : CY M' n W H G R L h m := by
  have e : ∀ k ∈ CY_S, dp_I M' k = dp_I M k := fun k hk => (o.1 k (by simp only [CY_S, List.mem_cons, List.not_mem_nil, or_false] at hk; omega) (hS k hk) (by simp only [CY_S, List.mem_cons, List.not_mem_nil, or_false] at hk; omega)).1
  have l := o.2.2.1
  unfold CY at y ⊢
  simp only [e 28 (by decide), e 29 (by decide), e 30 (by decide), e 31 (by decide), e 32 (by decide), e 33 (by decide), e 36 (by decide), l 33 (by decide), l 34 (by decide), l 35 (by decide), l 36 (by decide)]
  exact y
theorem MY_off {S T : List Nat} {M M' : dp_M} {n W H G : Nat} {R L : Nat → Int32} {h : List (Nat × Int32)} {m : Int32} (y : MY M n W H G R L h m) (o : Off S T M M') (hS : ∀ k ∈ MY_S, k ∉ S) (hT : ∀ i ∈ MY_T, i ∉ T) : MY M' n W H G R L h m := by
  have e : ∀ k ∈ MY_S, dp_I M' k = dp_I M k := fun k hk => (o.1 k (by simp only [MY_S, List.mem_cons, List.not_mem_nil, or_false] at hk; omega) (hS k hk) (by simp only [MY_S, List.mem_cons, List.not_mem_nil, or_false] at hk; omega)).1
  have f : ∀ i ∈ MY_T, dp_I M' 114 i = dp_I M 114 i := fun i hi => (o.2.1 i (hT i hi)).1
  unfold MY at y ⊢
  simp only [e 140 (by decide), e 141 (by decide), e 142 (by decide), e 143 (by decide), f 25 (by decide), f 26 (by decide), f 27 (by decide), f 37 (by decide), f 38 (by decide)]
  exact y
theorem YR_off {S T : List Nat} {M M' : dp_M} {n : Nat} (y : YR M n) (o : Off S T M M') (hS : ∀ k ∈ YR_S, k ∉ S) (hT : ∀ i ∈ MY_T, i ∉ T) : YR M' n := by
  have e : ∀ k ∈ YR_S, dp_I M' k = dp_I M k := fun k hk => (o.1 k (by simp only [YR_S, List.mem_cons, List.not_mem_nil, or_false] at hk; omega) (hS k hk) (by simp only [YR_S, List.mem_cons, List.not_mem_nil, or_false] at hk; omega)).1
  obtain ⟨W, H, G, R, L, h, m, y1, y2, y3, y4, y5⟩ := y
  refine ⟨W, H, G, R, L, h, m, CY_off y1 o (fun k hk => hS k (by simp only [CY_S, YR_S, List.mem_cons, List.not_mem_nil, or_false] at hk ⊢; omega)), MY_off y2 o (fun k hk => hS k (by simp only [MY_S, YR_S, List.mem_cons, List.not_mem_nil, or_false] at hk ⊢; omega)) hT, ?_, ?_, ?_⟩
  · rw [e 9 (by decide), e 11 (by decide)]; exact y3
  · rw [e 144 (by decide), e 11 (by decide)]; exact y4
  · intro r hr; rw [e 133 (by decide), e 134 (by decide), e 34 (by decide), e 35 (by decide)]; exact y5 r hr
/-- one by one: those that are meant, counted by another row -/
theorem bij_ct {q : Nat → Bool} {n : Nat} : ∀ (h : Nat) (P : Nat → Bool) (e : Nat → Nat), (∀ l, l < h → e l < n ∧ P (e l) = true) → (∀ l k, l < h → k < h → e l = e k → l = k) → (∀ i, i < n → P i = true → ∃ l, l < h ∧ e l = i) → ct (fun l => q (e l)) h = ct (fun i => P i && q i) n
  | 0, P, e, h1, h2, h3 => by
    rw [ct, ct_0]
    intro i hi
    cases z : P i with
    | false => rfl
    | true => obtain ⟨l, h4, -⟩ := h3 i hi z; omega
  | h + 1, P, e, h1, h2, h3 => by
    obtain ⟨a1, a2⟩ := h1 h (by omega)
    have ih := bij_ct (q := q) (n := n) h (uI P (e h) false) e (fun l hl => by
      have := h1 l (by omega)
      refine ⟨this.1, ?_⟩
      rw [uI_n (fun z => by have := h2 l h (by omega) (by omega) z; omega)]; exact this.2) (fun l k q1 q2 => h2 l k (by omega) (by omega)) (fun i hi z => by
      by_cases w : i = e h
      · rw [w, uI_s] at z; cases z
      · rw [uI_n w] at z
        obtain ⟨l, l1, l2⟩ := h3 i hi z
        refine ⟨l, ?_, l2⟩
        by_cases y : l = h
        · subst y; exact absurd l2.symm w
        · omega)
    rw [ct, ih]
    have e1 : (fun i => uI P (e h) false i && q i) = uI (fun i => P i && q i) (e h) false := by
      funext i; unfold uI; split <;> simp
    have := ct_u (p := fun i => P i && q i) (v := false) n a1
    rw [e1]
    simp only [a2, Bool.true_and] at this
    simp at this ⊢
    omega
theorem sm_u {f : Nat → Int32} {j : Nat} {x : Int32} : ∀ n, j < n → sm (uI f j x) n + f j = sm f n + x
  | 0, h => by omega
  | n + 1, h => by
    rw [sm, sm]
    by_cases e : j = n
    · subst e
      rw [uI_s, sm_c (g := f) (fun i hi => uI_n (by omega)), Int32.add_assoc, Int32.add_comm x, ← Int32.add_assoc]
    · rw [uI_n (show n ≠ j by omega), Int32.add_assoc, Int32.add_comm (f n), ← Int32.add_assoc, sm_u n (by omega), Int32.add_assoc, Int32.add_comm x, ← Int32.add_assoc]
theorem sm_0 {f : Nat → Int32} {n : Nat} (h : ∀ i, i < n → f i = 0) : sm f n = 0 := by
  induction n with
  | zero => rfl
  | succ n ih => rw [sm, ih (fun i hi => h i (by omega)), h n (by omega)]; rfl
theorem bij_sm {f : Nat → Int32} {n : Nat} : ∀ (h : Nat) (P : Nat → Bool) (e : Nat → Nat), (∀ l, l < h → e l < n ∧ P (e l) = true) → (∀ l k, l < h → k < h → e l = e k → l = k) → (∀ i, i < n → P i = true → ∃ l, l < h ∧ e l = i) → sm (fun l => f (e l)) h = sm (fun i => if P i = true then f i else 0) n
  | 0, P, e, h1, h2, h3 => by
    rw [sm, sm_0]
    intro i hi
    by_cases z : P i = true
    · obtain ⟨l, h4, -⟩ := h3 i hi z; omega
    · rw [if_neg z]
  | h + 1, P, e, h1, h2, h3 => by
    obtain ⟨a1, a2⟩ := h1 h (by omega)
    have ih := bij_sm (f := f) (n := n) h (uI P (e h) false) e (fun l hl => by
      have := h1 l (by omega)
      refine ⟨this.1, ?_⟩
      rw [uI_n (fun z => by have := h2 l h (by omega) (by omega) z; omega)]; exact this.2) (fun l k q1 q2 => h2 l k (by omega) (by omega)) (fun i hi z => by
      by_cases w : i = e h
      · rw [w, uI_s] at z; cases z
      · rw [uI_n w] at z
        obtain ⟨l, l1, l2⟩ := h3 i hi z
        refine ⟨l, ?_, l2⟩
        by_cases y : l = h
        · subst y; exact absurd l2.symm w
        · omega)
    rw [sm, ih]
    have e1 : (fun i => if uI P (e h) false i = true then f i else 0) = uI (fun i => if P i = true then f i else 0) (e h) 0 := by
      funext i; unfold uI; by_cases w : i = e h <;> simp [w]
    have := sm_u (f := fun i => if P i = true then f i else 0) (x := 0) n a1
    rw [e1]
    simp only [a2, if_true] at this
    rw [this, Int32.add_zero]
/-- counts behind a change of one place -/
theorem hR_u {R : Nat → Int32} {n x : Nat} {v : Int32} (hx : x < n) (r : Nat) : hR (uI R x v) n r + (if R x = nI r then 1 else 0) = hR R n r + (if v = nI r then 1 else 0) := by
  have e : rwf (uI R x v) (nI r) = uI (rwf R (nI r)) x (decide (v = nI r)) := by
    funext i; unfold rwf uI; by_cases w : i = x <;> simp [w]
  have := ct_u (p := rwf R (nI r)) (v := decide (v = nI r)) n hx
  unfold hR
  rw [e]
  simp only [rwf_t, decide_eq_true_eq] at this
  exact this
theorem m1_ne {r : Nat} (h : r < 2147483648) : ¬ nI r = (-1 : Int32) := fun e => by
  have := congrArg Int32.toInt e
  rw [nI_toInt h] at this
  have : (-1 : Int32).toInt = -1 := by decide
  omega
