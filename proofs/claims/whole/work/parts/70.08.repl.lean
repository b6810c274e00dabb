/-! MATHEMATICS (8): a whole row put in its place -/
def rI (M : dp_M) (k : Nat) (f : Nat → Int32) : dp_M := ((fun k' => if k' = k then f else M.1 k'), M.2)
def rJ (M : dp_M) (k : Nat) (f : Nat → Int64) : dp_M := (M.1, (fun k' => if k' = k then f else M.2.1 k'), M.2.2)
theorem rI_set (M : dp_M) (k : Nat) (f : Nat → Int32) (i : Nat) (x : Int32) : dp_setI (rI M k f) k i x = rI M k (uI f i x) := by
  show (dp_up (rI M k f).1 k i x, M.2) = ((fun k' => if k' = k then uI f i x else M.1 k'), M.2)
  congr 1
  funext k' i'
  show (if k' = k then (if i' = i then x else (if k = k then f else M.1 k) i') else (if k' = k then f else M.1 k') i') = (if k' = k then uI f i x else M.1 k') i'
  by_cases e : k' = k
  · simp only [if_pos e, if_true]; rfl
  · simp only [if_neg e]
theorem rI_id (M : dp_M) (k : Nat) : rI M k (dp_I M k) = M := by
  show ((fun k' => if k' = k then M.1 k else M.1 k'), M.2) = (M.1, M.2)
  congr 1
  funext k'
  by_cases e : k' = k
  · rw [if_pos e, e]
  · rw [if_neg e]
theorem rI_of (M : dp_M) (k i : Nat) (x : Int32) : dp_setI M k i x = rI M k (uI (dp_I M k) i x) := by
  rw [← rI_set, rI_id]
theorem rI_I (M : dp_M) (k : Nat) (f : Nat → Int32) (k' : Nat) : dp_I (rI M k f) k' = if k' = k then f else dp_I M k' := id rfl
theorem rI_J (M : dp_M) (k : Nat) (f : Nat → Int32) : dp_J (rI M k f) = dp_J M := id rfl
theorem rI_R (M : dp_M) (k : Nat) (f : Nat → Int32) : dp_R (rI M k f) = dp_R M := id rfl
theorem rI_n (M : dp_M) (k : Nat) (f : Nat → Int32) : dp_n (rI M k f) = dp_n M := id rfl
theorem rI_z (M : dp_M) (k : Nat) (f : Nat → Int32) : dp_z (rI M k f) = dp_z M := id rfl
theorem rI_len (M : dp_M) (k : Nat) (f : Nat → Int32) : dp_len (rI M k f) = dp_len M := id rfl
theorem rI_tag (M : dp_M) (k : Nat) (f : Nat → Int32) : dp_tag (rI M k f) = dp_tag M := id rfl
theorem rJ_set (M : dp_M) (k : Nat) (f : Nat → Int64) (i : Nat) (x : Int64) : dp_setJ (rJ M k f) k i x = rJ M k (uI f i x) := by
  show (M.1, dp_up (rJ M k f).2.1 k i x, M.2.2) = (M.1, (fun k' => if k' = k then uI f i x else M.2.1 k'), M.2.2)
  congr 2
  funext k' i'
  show (if k' = k then (if i' = i then x else (if k = k then f else M.2.1 k) i') else (if k' = k then f else M.2.1 k') i') = (if k' = k then uI f i x else M.2.1 k') i'
  by_cases e : k' = k
  · simp only [if_pos e, if_true]; rfl
  · simp only [if_neg e]
theorem rJ_id (M : dp_M) (k : Nat) : rJ M k (dp_J M k) = M := by
  show (M.1, (fun k' => if k' = k then M.2.1 k else M.2.1 k'), M.2.2) = (M.1, M.2.1, M.2.2)
  congr 2
  funext k'
  by_cases e : k' = k
  · rw [if_pos e, e]
  · rw [if_neg e]
theorem rJ_of (M : dp_M) (k i : Nat) (x : Int64) : dp_setJ M k i x = rJ M k (uI (dp_J M k) i x) := by
  rw [← rJ_set, rJ_id]
theorem rJ_J (M : dp_M) (k : Nat) (f : Nat → Int64) (k' : Nat) : dp_J (rJ M k f) k' = if k' = k then f else dp_J M k' := id rfl
theorem rJ_I (M : dp_M) (k : Nat) (f : Nat → Int64) : dp_I (rJ M k f) = dp_I M := id rfl
theorem rJ_R (M : dp_M) (k : Nat) (f : Nat → Int64) : dp_R (rJ M k f) = dp_R M := id rfl
theorem rJ_n (M : dp_M) (k : Nat) (f : Nat → Int64) : dp_n (rJ M k f) = dp_n M := id rfl
theorem rJ_z (M : dp_M) (k : Nat) (f : Nat → Int64) : dp_z (rJ M k f) = dp_z M := id rfl
theorem rJ_len (M : dp_M) (k : Nat) (f : Nat → Int64) : dp_len (rJ M k f) = dp_len M := id rfl
theorem rJ_tag (M : dp_M) (k : Nat) (f : Nat → Int64) : dp_tag (rJ M k f) = dp_tag M := id rfl
/-- one row after the other -/
theorem rI_rI (M : dp_M) (k : Nat) (f g : Nat → Int32) : rI (rI M k f) k g = rI M k g := by
  show ((fun k' => if k' = k then g else if k' = k then f else M.1 k'), M.2) = ((fun k' => if k' = k then g else M.1 k'), M.2)
  congr 1
  funext k'
  by_cases e : k' = k
  · simp only [if_pos e]
  · simp only [if_neg e]
theorem Off.rI {S T : List Nat} {M M' : dp_M} (k : Nat) (hk : (k ∈ S ∧ k < 246) ∧ k ≠ 114) (f : Nat → Int32) (h : Off S T M M') : Off S T M (rI M' k f) := by
  obtain ⟨a1, a2, a3, a4, a5⟩ := h
  refine ⟨fun k' q1 q2 q3 => ?_, fun i' hi => ?_, a3, fun k' q1 q2 => ?_, a5⟩
  · obtain ⟨x1, x2, x3⟩ := a1 k' q1 q2 q3
    exact ⟨by rw [rI_I, if_neg (show ¬ k' = k from fun e => q2 (by rw [e]; exact hk.1.1)), x1], x2, x3⟩
  · obtain ⟨x1, x2⟩ := a2 i' hi
    exact ⟨by rw [rI_I, if_neg (show ¬ 114 = k from fun e => hk.2 e.symm)]; exact x1, x2⟩
  · obtain ⟨x1, x2, x3, x4, x5⟩ := a4 k' q1 q2
    exact ⟨by rw [rI_I, if_neg (by omega), x1], x2, x3, x4, x5⟩
theorem Off.rJ {S T : List Nat} {M M' : dp_M} (k : Nat) (hk : (k ∈ S ∧ k < 246) ∧ k ≠ 114) (f : Nat → Int64) (h : Off S T M M') : Off S T M (rJ M' k f) := by
  obtain ⟨a1, a2, a3, a4, a5⟩ := h
  refine ⟨fun k' q1 q2 q3 => ?_, fun i' hi => ?_, a3, fun k' q1 q2 => ?_, a5⟩
  · obtain ⟨x1, x2, x3⟩ := a1 k' q1 q2 q3
    exact ⟨x1, by rw [rJ_J, if_neg (show ¬ k' = k from fun e => q2 (by rw [e]; exact hk.1.1)), x2], x3⟩
  · obtain ⟨x1, x2⟩ := a2 i' hi
    exact ⟨x1, by rw [rJ_J, if_neg (show ¬ 114 = k from fun e => hk.2 e.symm)]; exact x2⟩
  · obtain ⟨x1, x2, x3, x4, x5⟩ := a4 k' q1 q2
    exact ⟨x1, by rw [rJ_J, if_neg (by omega), x2], x3, x4, x5⟩
/-- sums -/
theorem sl_zz {f : Nat → Int64} {n : Nat} (h : ∀ i, i < n → f i = 0) : sl f n = 0 := by
  induction n with
  | zero => rfl
  | succ n ih => rw [sl, ih (fun i hi => h i (by omega)), h n (by omega)]; rfl
theorem ct_0 {p : Nat → Bool} {n : Nat} (h : ∀ i, i < n → p i = false) : ct p n = 0 := by
  induction n with
  | zero => rfl
  | succ n ih => rw [ct, ih (fun i hi => h i (by omega)), h n (by omega)]; rfl
theorem sl_u {f : Nat → Int64} {j : Nat} {x : Int64} : ∀ n, j < n → sl (uI f j x) n = sl f n - f j + x
  | 0, h => by omega
  | n + 1, h => by
    rw [sl, sl]
    by_cases e : j = n
    · subst e
      rw [uI_s, sl_c (g := f) (fun i hi => uI_n (by omega))]
      rw [Int64.add_sub_cancel]
    · rw [uI_n (show n ≠ j by omega), sl_u n (by omega)]
      rw [Int64.sub_eq_add_neg, Int64.sub_eq_add_neg, Int64.add_assoc (sl f n) (f n), Int64.add_comm (f n), ← Int64.add_assoc (sl f n), Int64.add_assoc _ x, Int64.add_comm x, ← Int64.add_assoc]
/-- no room for one more -/
theorem ph : ∀ (n : Nat) (p : Nat → Nat), (∀ i, i < n + 1 → p i < n) → (∀ i j, i < n + 1 → j < n + 1 → p i = p j → i = j) → False
  | 0, p, h, _ => absurd (h 0 (by omega)) (by omega)
  | n + 1, p, h, hi => by
    refine ph n (fun k => if p k = n then p (n + 1) else p k) (fun i hn => ?_) (fun i j h1 h2 e => ?_)
    · show (if p i = n then p (n + 1) else p i) < n
      have a := h i (by omega)
      have b := h (n + 1) (by omega)
      by_cases z : p i = n
      · rw [if_pos z]
        by_cases y : p (n + 1) = n
        · have := hi i (n + 1) (by omega) (by omega) (by rw [z, y]); omega
        · omega
      · rw [if_neg z]; omega
    · have e' : (if p i = n then p (n + 1) else p i) = (if p j = n then p (n + 1) else p j) := e
      by_cases z : p i = n
      · by_cases y : p j = n
        · exact hi i j (by omega) (by omega) (by rw [z, y])
        · rw [if_pos z, if_neg y] at e'
          have := hi (n + 1) j (by omega) (by omega) e'; omega
      · by_cases y : p j = n
        · rw [if_neg z, if_pos y] at e'
          have := hi i (n + 1) (by omega) (by omega) e'; omega
        · rw [if_neg z, if_neg y] at e'
          exact hi i j (by omega) (by omega) e'
theorem sl_perm {f : Nat → Int64} : ∀ (n : Nat) (p : Nat → Nat), (∀ i, i < n → p i < n) → (∀ i j, i < n → j < n → p i = p j → i = j) → sl (fun i => f (p i)) n = sl f n
  | 0, _, _, _ => rfl
  | n + 1, p, h, hi => by
    have hex : ∃ j, j < n + 1 ∧ p j = n := Classical.byContradiction (fun hne => ph n p (fun i hn => by
      have := h i hn
      have : p i ≠ n := fun e => hne ⟨i, hn, e⟩
      omega) hi)
    obtain ⟨j, hj, ej⟩ := hex
    rw [sl, sl]
    by_cases e : j = n
    · subst e
      rw [ej, sl_perm (f := f) j p (fun i hn => by
        have a := h i (by omega)
        have : p i ≠ j := fun z => by have := hi i j (by omega) (by omega) (by rw [z, ej]); omega
        omega) (fun i k h1 h2 => hi i k (by omega) (by omega))]
    · have hp : p n ≠ n := fun z => by have := hi j n hj (by omega) (by rw [ej, z]); omega
      have hpn : p n < n := by have := h n (by omega); omega
      have key := sl_perm (f := f) n (uI p j (p n)) (fun i hn => by
        unfold uI
        by_cases z : i = j
        · rw [if_pos z]; exact hpn
        · rw [if_neg z]
          have a := h i (by omega)
          have : p i ≠ n := fun w => z (hi i j (by omega) hj (by rw [w, ej]))
          omega) (fun i k h1 h2 w => by
        unfold uI at w
        by_cases z : i = j
        · by_cases y : k = j
          · omega
          · rw [if_pos z, if_neg y] at w
            have := hi n k (by omega) (by omega) w; omega
        · by_cases y : k = j
          · rw [if_neg z, if_pos y] at w
            have := hi i n (by omega) (by omega) w; omega
          · rw [if_neg z, if_neg y] at w
            exact hi i k (by omega) (by omega) w)
      have e2 : (fun i => f (uI p j (p n) i)) = uI (fun i => f (p i)) j (f (p n)) := by
        funext i; unfold uI
        by_cases z : i = j
        · rw [if_pos z, if_pos z]
        · rw [if_neg z, if_neg z]
      rw [e2, sl_u n (by omega)] at key
      rw [← key, ej]
      generalize sl (fun i => f (p i)) n = A
      generalize f (p n) = B
      generalize f n = C
      rw [Int64.add_assoc (A - C) B C, Int64.add_comm B C, ← Int64.add_assoc, Int64.sub_add_cancel]
/-- the sum of those that are meant, by their turns -/
theorem sl_ct {P : Nat → Bool} {φ ψ : Nat → Int64} : ∀ n, (∀ k, k < n → P k = true → φ (ct P k) = ψ k) → sl φ (ct P n) = sl (fun k => if P k = true then ψ k else 0) n
  | 0, _ => rfl
  | n + 1, h => by
    have ih := sl_ct n (fun k hk => h k (by omega))
    rw [sl, ct]
    by_cases z : P n = true
    · rw [if_pos z, if_pos z, sl, ih, h n (by omega) z]
    · rw [if_neg z, if_neg z, Int64.add_zero, Nat.add_zero, ih]
theorem sj {n : Nat} {p : Nat → Nat} (h : ∀ i, i < n → p i < n) (hi : ∀ i j, i < n → j < n → p i = p j → i = j) {m : Nat} (hm : m < n) : ∃ j, j < n ∧ p j = m :=
  Classical.byContradiction (fun hne => by
    have hx : ∀ j, j < n → p j ≠ m := fun j hj e => hne ⟨j, hj, e⟩
    cases n with
    | zero => omega
    | succ n =>
      refine ph n (fun k => if p k = n then m else p k) (fun i q => ?_) (fun i j h1 h2 e => ?_)
      · show (if p i = n then m else p i) < n
        have a := h i q
        by_cases z : p i = n
        · rw [if_pos z]
          have : m ≠ n := fun w => hx i q (by rw [z, w])
          omega
        · rw [if_neg z]; omega
      · have e' : (if p i = n then m else p i) = (if p j = n then m else p j) := e
        by_cases z : p i = n
        · by_cases y : p j = n
          · exact hi i j h1 h2 (by rw [z, y])
          · rw [if_pos z, if_neg y] at e'
            exact absurd e'.symm (hx j h2)
        · by_cases y : p j = n
          · rw [if_neg z, if_pos y] at e'
            exact absurd e' (hx i h1)
          · rw [if_neg z, if_neg y] at e'
            exact hi i j h1 h2 e')
