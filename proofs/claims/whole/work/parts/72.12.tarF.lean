/-! THE TARIFF: rows chosen, kind by kind -/
theorem ct_ins {p q : Nat → Bool} {i : Nat} (hp : p i = false) (hq : q i = true) : ∀ n, (∀ j, j < n → j ≠ i → q j = p j) → i < n → ct q n = ct p n + 1
  | 0, _, hi => by omega
  | n + 1, h, hi => by
    rw [ct, ct]
    by_cases e : n = i
    · subst e
      rw [hp, hq, ct_c (p := q) (q := p) (fun j hj => h j (by omega) (by omega))]; simp
    · rw [ct_ins hp hq n (fun j hj => h j (by omega)) (by omega), h n (by omega) e]; omega
theorem ct_le0 {p : Nat → Bool} (h : p 0 = false) : ∀ n, ct p (n + 1) ≤ n
  | 0 => by rw [ct, ct, h]; simp
  | n + 1 => by
    have := ct_le0 h n
    rw [ct]; split <;> omega
def cn (sel : Nat → Bool) (kf : Nat → Nat) (R k i : Nat) : Nat := ct (fun r => sel r && (decide (kf r < k) || (decide (kf r = k) && decide (r < i)))) (R + 1)
section CN
variable {sel : Nat → Bool} {kf : Nat → Nat} {R k i : Nat}
theorem cn_skip (h : ¬ (sel i = true ∧ kf i = k)) : cn sel kf R k (i + 1) = cn sel kf R k i := by
  apply ct_c
  intro r _
  (try dsimp only)
  by_cases e : r = i
  · subst e
    cases hs : sel r with
    | false => rfl
    | true =>
      have : ¬ kf r = k := fun q => h ⟨hs, q⟩
      rw [decide_eq_false this]; rfl
  · rw [show decide (r < i + 1) = decide (r < i) by rw [decide_eq_decide]; omega]
theorem cn_add (hi : i < R + 1) (h1 : sel i = true) (h2 : kf i = k) : cn sel kf R k (i + 1) = cn sel kf R k i + 1 := by
  refine ct_ins (i := i) ?_ ?_ (R + 1) (fun j _ hj => ?_) hi
  · (try dsimp only)
    rw [h1, h2, decide_eq_false (show ¬ k < k by omega), decide_eq_false (show ¬ i < i by omega)]; simp
  · (try dsimp only)
    rw [h1, h2, decide_eq_true (show i < i + 1 by omega)]; simp
  · (try dsimp only)
    rw [show decide (j < i + 1) = decide (j < i) by rw [decide_eq_decide]; omega]
theorem cn_next (h0 : sel 0 = false) : cn sel kf R k (R + 1) = cn sel kf R (k + 1) 1 := by
  apply ct_c
  intro r hr
  (try dsimp only)
  by_cases e : r = 0
  · rw [e, h0]; rfl
  · congr 1
    rw [decide_eq_true (show r < R + 1 by omega), decide_eq_false (show ¬ r < 1 by omega), Bool.and_true, Bool.and_false, Bool.or_false, Bool.eq_iff_iff]
    simp only [Bool.or_eq_true, decide_eq_true_eq]; omega
theorem cn_0 (h0 : sel 0 = false) : cn sel kf R 0 1 = 0 := by
  have : cn sel kf R 0 1 = ct (fun _ => false) (R + 1) := by
    apply ct_c
    intro r hr
    (try dsimp only)
    by_cases e : r = 0
    · rw [e, h0]; rfl
    · rw [decide_eq_false (show ¬ kf r < 0 by omega), decide_eq_false (show ¬ r < 1 by omega)]; simp
  rw [this]
  have z : ∀ n, ct (fun _ => false) n = 0 := fun n => by
    induction n with
    | zero => rfl
    | succ n ih => rw [ct, ih]; rfl
  exact z _
theorem cn_le (h0 : sel 0 = false) : cn sel kf R k i ≤ R := ct_le0 (by (try dsimp only); rw [h0]; rfl) R
theorem cn_inj {r r' : Nat} (hr : r ≤ R) (hr' : r' ≤ R) (h1 : sel r = true) (h2 : sel r' = true) (h : cn sel kf R (kf r) r = cn sel kf R (kf r') r') : r = r' := by
  have lt : ∀ a b, a ≤ R → sel a = true → (kf a < kf b ∨ (kf a = kf b ∧ a < b)) → cn sel kf R (kf a) a < cn sel kf R (kf b) b := fun a b ha hs hab => by
    refine ct_lt (j := a) (R + 1) (by omega) (fun x _ hx => ?_) ?_ ?_
    · simp only [Bool.and_eq_true, Bool.or_eq_true, decide_eq_true_eq] at hx ⊢
      exact ⟨hx.1, by have := hx.2; omega⟩
    · (try dsimp only)
      rw [decide_eq_false (show ¬ kf a < kf a by omega), decide_eq_false (show ¬ a < a by omega)]; simp
    · simp only [Bool.and_eq_true, Bool.or_eq_true, decide_eq_true_eq]
      exact ⟨hs, hab⟩
  by_cases e : r = r'
  · exact e
  · exfalso
    by_cases c : kf r < kf r' ∨ (kf r = kf r' ∧ r < r')
    · have := lt r r' hr h1 c; omega
    · have := lt r' r hr' h2 (by omega); omega
end CN
def FInv (sel : Nat → Bool) (kf : Nat → Nat) (R k i : Nat) (f : Nat → Int32) : Prop := ∀ j, j < cn sel kf R k i → ∃ r, 1 ≤ r ∧ r ≤ R ∧ sel r = true ∧ cn sel kf R (kf r) r = j ∧ f j = nI r
theorem FInv_add {sel : Nat → Bool} {kf : Nat → Nat} {R k i : Nat} {f : Nat → Int32} (h : FInv sel kf R k i f) (hi1 : 1 ≤ i) (hi : i ≤ R) (h1 : sel i = true) (h2 : kf i = k) : FInv sel kf R k (i + 1) (uI f (cn sel kf R k i) (nI i)) := by
  intro j hj
  rw [cn_add (by omega) h1 h2] at hj
  by_cases e : j = cn sel kf R k i
  · refine ⟨i, hi1, hi, h1, by rw [h2, e], by rw [e, uI_s]⟩
  · obtain ⟨r, q1, q2, q3, q4, q5⟩ := h j (by omega)
    exact ⟨r, q1, q2, q3, q4, by rw [uI_n e, q5]⟩
theorem FInv_eq {sel : Nat → Bool} {kf : Nat → Nat} {R k i : Nat} {f g : Nat → Int32} (h : FInv sel kf R k i f) (h' : FInv sel kf R k i g) {j : Nat} (hj : j < cn sel kf R k i) : f j = g j := by
  obtain ⟨r, q1, q2, q3, q4, q5⟩ := h j hj
  obtain ⟨r', p1, p2, p3, p4, p5⟩ := h' j hj
  have : r = r' := cn_inj q2 p2 q3 p3 (by rw [q4, p4])
  rw [q5, p5, this]
/-- the kind of a row, as a number -/
def kf (M : dp_M) (r : Nat) : Nat := (dp_I M 159 r).toNatClampNeg
/-- the rows that are found -/
def sel (M : dp_M) (c : Int32) (l : Nat) (day on : Int32) (R r : Nat) : Bool := decide (1 ≤ r) && fit M c l day on r && (decide (4 ≤ kf M r) || decide (∀ x, x < R + 1 → 1 ≤ x → fit M c l day on x = true → kf M x = kf M r → ¬ stg M r < stg M x))
theorem sel_0 {M : dp_M} {c : Int32} {l : Nat} {day on : Int32} {R : Nat} : sel M c l day on R 0 = false := by
  unfold sel; rw [decide_eq_false (by omega)]; rfl
def core : List Nat := [52, 53, 54, 55, 56, 60, 61, 62, 63, 64, 65, 155, 156, 157, 158, 159, 160, 161, 162, 163, 164, 165, 166]
theorem core_c {S T : List Nat} {M N : dp_M} (o : Off S T M N) (hS : ∀ k ∈ core, k ∉ S) : ∀ k ∈ core, dp_I N k = dp_I M k := fun k hk => by
  have := o.1 k (by simp only [core, List.mem_cons, List.not_mem_nil, or_false] at hk; omega) (hS k hk) (by simp only [core, List.mem_cons, List.not_mem_nil, or_false] at hk; omega)
  exact this.1
theorem isof_c {M N : dp_M} (e : ∀ k ∈ core, dp_I N k = dp_I M k) (c : Int32) (l : Nat) (day on : Int32) (r : Nat) : isof N c l day on r ↔ isof M c l day on r := by
  unfold isof inn ld
  simp only [e 55 (by decide), e 155 (by decide), e 156 (by decide), e 157 (by decide), e 158 (by decide), e 161 (by decide), e 164 (by decide), e 165 (by decide), e 166 (by decide)]
theorem pap_c {M N : dp_M} (e : ∀ k ∈ core, dp_I N k = dp_I M k) (h : dp_I N 51 1 = dp_I M 51 1) (r : Nat) : pap N r ↔ pap M r := by
  unfold pap
  simp only [e 56 (by decide), h]
theorem stg_c {M N : dp_M} (e : ∀ k ∈ core, dp_I N k = dp_I M k) (r : Nat) : stg N r = stg M r := by
  unfold stg
  rw [e 156 (by decide), e 160 (by decide)]
theorem TRw_kf {M : dp_M} {r : Nat} (h : TRw M r) : dp_I M 159 r = nI (kf M r) ∧ dp_I M 53 r = nI (kf M r) ∧ kf M r < 8 := by
  obtain ⟨n, h1, h2, h3, h4, h5, h6, h7, h8, h9, h10, h11, h12, -⟩ := h
  obtain ⟨j, hj, e⟩ := qin_of h12 (by omega)
  have : kf M r = j := by unfold kf; rw [e, nI_cl (by omega)]
  rw [this]
  exact ⟨e, by rw [h8, e], hj⟩
theorem TRw_s0 {M : dp_M} {r : Nat} (h : TRw M r) : ¬ stg M r < 0 := by
  obtain ⟨a, b, e1, e2, e3, b1, b2⟩ := stg_nI h
  rw [e1]; exact nI_pos (by omega)
