/-! THE LEDGER: what is passed on: numbers -/
/-- s comes ahead of r: it has more left, or as much and a smaller number -/
def bf (m : Nat → Int) (s r : Nat) : Bool := decide (m r < m s ∨ (m s = m r ∧ s < r))
/-- how many come ahead of r -/
def cb (m : Nat → Int) (r : Nat) : Nat := ct (fun s => bf m s r) 4
theorem bf_t {m : Nat → Int} {s r : Nat} (h : s ≠ r) : bf m s r = true ∨ bf m r s = true := by
  unfold bf; simp only [decide_eq_true_eq]; omega
theorem cb_lt {m : Nat → Int} {r g : Nat} (hg : g < 4) (h : bf m g r = true) : cb m g < cb m r := by
  refine ct_lt (j := g) 4 hg (fun i _ hi => ?_) ?_ h
  · unfold bf at *; simp only [decide_eq_true_eq] at *; omega
  · unfold bf; simp
theorem cb_A {m : Nat → Int} {r g : Nat} (hr : r < 4) (hg : g < 4) (h : cb m r < cb m g) : bf m r g = true := by
  by_cases e : r = g
  · subst e; omega
  · rcases bf_t (m := m) e with q | q
    · exact q
    · have := cb_lt (r := r) hg q; omega
theorem cb_i {m : Nat → Int} {r g : Nat} (hr : r < 4) (hg : g < 4) (h : cb m r = cb m g) : r = g := by
  by_cases e : r = g
  · exact e
  · rcases bf_t (m := m) e with q | q
    · have := cb_lt (r := g) hr q; omega
    · have := cb_lt (r := r) hg q; omega
theorem cb_4 {m : Nat → Int} {r : Nat} (hr : r < 4) : cb m r < 4 := by
  have h : cb m r < ct (fun _ => true) 4 := by
    refine ct_lt (j := r) 4 hr (fun _ _ _ => rfl) ?_ rfl
    unfold bf; simp
  have : ct (fun _ => true) 4 = 4 := by decide
  omega
theorem cb_B {m : Nat → Int} {t : Nat} (ht : t < 4) : ∃ r, r < 4 ∧ cb m r = t := by
  have h0 := cb_4 (m := m) (r := 0) (by omega)
  have h1 := cb_4 (m := m) (r := 1) (by omega)
  have h2 := cb_4 (m := m) (r := 2) (by omega)
  have h3 := cb_4 (m := m) (r := 3) (by omega)
  have d01 : cb m 0 ≠ cb m 1 := fun e => by have := cb_i (by omega) (by omega) e; omega
  have d02 : cb m 0 ≠ cb m 2 := fun e => by have := cb_i (by omega) (by omega) e; omega
  have d03 : cb m 0 ≠ cb m 3 := fun e => by have := cb_i (by omega) (by omega) e; omega
  have d12 : cb m 1 ≠ cb m 2 := fun e => by have := cb_i (by omega) (by omega) e; omega
  have d13 : cb m 1 ≠ cb m 3 := fun e => by have := cb_i (by omega) (by omega) e; omega
  have d23 : cb m 2 ≠ cb m 3 := fun e => by have := cb_i (by omega) (by omega) e; omega
  have : cb m 0 = t ∨ cb m 1 = t ∨ cb m 2 = t ∨ cb m 3 = t := by omega
  rcases this with h | h | h | h
  · exact ⟨0, by omega, h⟩
  · exact ⟨1, by omega, h⟩
  · exact ⟨2, by omega, h⟩
  · exact ⟨3, by omega, h⟩
/-- the first of the greatest of four, with t taken away, is the one that t come ahead of -/
theorem cb_arg {m m' : Nat → Int} {t g : Nat} (hm : ∀ r, r < 4 → 0 ≤ m r) (ht : t < 4) (hm' : ∀ r, r < 4 → m' r = if cb m r < t then -1 else m r) (hg : g < 4) (h1 : ∀ r, r < 4 → m' r ≤ m' g) (h2 : ∀ r, r < g → m' r < m' g) : cb m g = t := by
  obtain ⟨r, hr, er⟩ := cb_B (m := m) ht
  have a1 := hm' r hr
  rw [if_neg (by omega)] at a1
  have a2 := h1 r hr
  have a3 := hm r hr
  by_cases c1 : cb m g < t
  · have a4 := hm' g hg
    rw [if_pos c1] at a4
    omega
  · have a4 := hm' g hg
    rw [if_neg c1] at a4
    by_cases c2 : cb m g = t
    · exact c2
    · have q := cb_A hr hg (show cb m r < cb m g by omega)
      unfold bf at q
      simp only [decide_eq_true_eq] at q
      rcases q with q | q
      · omega
      · have := h2 r q.2; omega
