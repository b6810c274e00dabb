/-! QUOTAS: the course of an order, as a function -/
abbrev QS : Type := Int64 × (Nat → Int32) × (Nat → Int64)
/-- who is treated on a day -/
def nw (p : Nat → Bool) (dy : Nat → Int32) (d : Int32) (t : Nat → Int32) (a : Nat) : Bool := p a && decide (¬ d < dy a) && decide (t a = -1)
def qall (A : Nat) (c : Nat → Bool) (ask : Nat → Int64) : Int64 := sl (fun a => if c a = true then ask a else 0) A
def qsh (ask : Nat → Int64) (all L : Int64) (a : Nat) : Int64 := if all ≤ L then ask a else ask a * L / all
/-- what the rounding leaves, handed out at one desk -/
def hoA (ask : Nat → Int64) (c : Nat → Bool) (s : Int64 × (Nat → Int64)) : Nat → Int64 × (Nat → Int64)
  | 0 => s
  | n + 1 => if c n = true ∧ (hoA ask c s n).2 n < ask n ∧ 0 < (hoA ask c s n).1 then ((hoA ask c s n).1 - 1, uI (hoA ask c s n).2 n ((hoA ask c s n).2 n + 1)) else hoA ask c s n
def ho (A : Nat) (ask : Nat → Int64) (c : Nat → Nat → Bool) (s : Int64 × (Nat → Int64)) : Nat → Int64 × (Nat → Int64)
  | 0 => s
  | k + 1 => hoA ask (c k) (ho A ask c s k) A
/-- got by those who are treated, ahead of the handing out, of the first n -/
def g1 (c : Nat → Bool) (ask : Nat → Int64) (all L : Int64) (g : Nat → Int64) (n : Nat) : Nat → Int64 := fun a => if c a = true ∧ a < n then qsh ask all L a else g a
def t1 (c : Nat → Bool) (d : Int32) (t : Nat → Int32) (n : Nat) : Nat → Int32 := fun a => if c a = true ∧ a < n then d else t a
def l1 (c : Nat → Bool) (ask : Nat → Int64) (all L : Int64) (n : Nat) : Int64 := L - sl (fun a => if c a = true then qsh ask all L a else 0) n
def trt (A : Nat) (p : Nat → Bool) (dy dk : Nat → Int32) (ask : Nat → Int64) (d : Int32) (s : QS) : QS :=
  let c := nw p dy d s.2.1
  let all := qall A c ask
  let u := if all ≤ s.1 then (l1 c ask all s.1 A, g1 c ask all s.1 s.2.2 A) else ho A ask (fun k a => c a && decide (dk a = nI k)) (l1 c ask all s.1 A, g1 c ask all s.1 s.2.2 A) 4
  (u.1, t1 c d s.2.1 A, u.2)
def crs (A : Nat) (p : Nat → Bool) (dy dk : Nat → Int32) (ask : Nat → Int64) (blk : Nat → Int32) (f : Nat) (V : Int64) : Nat → QS
  | 0 => (V, fun _ => -1, fun _ => 0)
  | n + 1 => if blk (f + n) = 0 then trt A p dy dk ask (nI (f + n)) (crs A p dy dk ask blk f V n) else crs A p dy dk ask blk f V n
section QP
variable {A : Nat} {p : Nat → Bool} {dy dk : Nat → Int32} {ask : Nat → Int64}
theorem hoA_0 {c : Nat → Bool} {s : Int64 × (Nat → Int64)} (h : ∀ a, c a = true → False) : ∀ n, hoA ask c s n = s
  | 0 => rfl
  | n + 1 => by rw [hoA, if_neg (fun q => h n q.1), hoA_0 h n]
theorem hoA_done {c : Nat → Bool} {s : Int64 × (Nat → Int64)} {m : Nat} (h : ¬ 0 < (hoA ask c s m).1) : ∀ n, m ≤ n → hoA ask c s n = hoA ask c s m
  | 0, hn => by rw [show m = 0 by omega]
  | n + 1, hn => by
    by_cases e : m = n + 1
    · rw [e]
    · have ih := hoA_done h n (by omega)
      rw [hoA, ih, if_neg (fun q => h q.2.2)]
theorem ho_0 {c : Nat → Nat → Bool} {s : Int64 × (Nat → Int64)} (h : ∀ k a, c k a = true → False) : ∀ k, ho A ask c s k = s
  | 0 => rfl
  | k + 1 => by rw [ho, hoA_0 (h k), ho_0 h k]
theorem hoA_ge {c : Nat → Bool} {s : Int64 × (Nat → Int64)} (h : 0 ≤ s.1.toInt) : ∀ n, 0 ≤ (hoA ask c s n).1.toInt ∧ (hoA ask c s n).1.toInt ≤ s.1.toInt
  | 0 => ⟨h, Int.le_refl _⟩
  | n + 1 => by
    have ih : 0 ≤ (hoA ask c s n).1.toInt ∧ (hoA ask c s n).1.toInt ≤ s.1.toInt := hoA_ge h n
    rw [hoA]
    split
    · rename_i q
      have q3 := q.2.2
      rw [Int64.lt_iff_toInt_lt] at q3
      have e0 : (0 : Int64).toInt = 0 := by decide
      have e1 : (1 : Int64).toInt = 1 := by decide
      have hlt : s.1.toInt < 9223372036854775808 := Int64.toInt_lt _
      have : ((hoA ask c s n).1 - 1).toInt = (hoA ask c s n).1.toInt - 1 := by
        rw [Int64.toInt_sub, e1]
        apply Int.bmod_eq_of_le <;> omega
      (try dsimp only)
      rw [this]; omega
    · exact ih
theorem ho_ge {c : Nat → Nat → Bool} {s : Int64 × (Nat → Int64)} (h : 0 ≤ s.1.toInt) : ∀ k, 0 ≤ (ho A ask c s k).1.toInt ∧ (ho A ask c s k).1.toInt ≤ s.1.toInt
  | 0 => ⟨h, Int.le_refl _⟩
  | k + 1 => by
    have ih : 0 ≤ (ho A ask c s k).1.toInt ∧ (ho A ask c s k).1.toInt ≤ s.1.toInt := ho_ge h k
    have := hoA_ge (ask := ask) (c := c k) (s := ho A ask c s k) ih.1 A
    rw [ho]; omega
/-- nobody waits: nothing changes -/
theorem trt_none {d : Int32} {s : QS} (h : ∀ a, nw p dy d s.2.1 a = true → False) : trt A p dy dk ask d s = s := by
  obtain ⟨L, t, g⟩ := s
  have e1 : ∀ n, sl (fun a => if nw p dy d t a = true then qsh ask (qall A (nw p dy d t) ask) L a else 0) n = 0 := fun n => by
    induction n with
    | zero => rfl
    | succ n ih => rw [sl, ih, if_neg (fun q => h n q)]; rfl
  have e2 : l1 (nw p dy d t) ask (qall A (nw p dy d t) ask) L A = L := by unfold l1; rw [e1, Int64.sub_zero]
  have e3 : g1 (nw p dy d t) ask (qall A (nw p dy d t) ask) L g A = g := by funext a; unfold g1; rw [if_neg (fun q => h a q.1)]
  have e4 : t1 (nw p dy d t) d t A = t := by funext a; unfold t1; rw [if_neg (fun q => h a q.1)]
  unfold trt
  simp only [e2, e3, e4]
  split
  · rfl
  · rw [ho_0]
    intro k a q
    rw [Bool.and_eq_true] at q
    exact h a q.1
/-- the sum of the shares, all and part -/
theorem qall_b {c : Nat → Bool} (hb : ∀ a, 0 ≤ (ask a).toInt ∧ (ask a).toInt ≤ 1000000) (hA : A ≤ 400) : ∀ n, n ≤ A → 0 ≤ (qall n c ask).toInt ∧ (qall n c ask).toInt ≤ 1000000 * n
  | 0, _ => by unfold qall; rw [sl]; decide
  | n + 1, hn => by
    have ih : 0 ≤ (qall n c ask).toInt ∧ (qall n c ask).toInt ≤ 1000000 * n := qall_b hb hA n (by omega)
    unfold qall at ih ⊢
    have := hb n
    rw [sl]
    split
    · rw [q_addJ (by omega) (by omega)]; omega
    · rw [Int64.add_zero]; omega
theorem l1_b {c : Nat → Bool} {L : Int64} (hb : ∀ a, 0 ≤ (ask a).toInt ∧ (ask a).toInt ≤ 1000000) (hA : A ≤ 400) (h0 : 0 ≤ L.toInt) (h1 : L.toInt ≤ 1000000000) : 0 ≤ (l1 c ask (qall A c ask) L A).toInt ∧ (l1 c ask (qall A c ask) L A).toInt ≤ L.toInt := by
  have hq := qall_b (c := c) hb hA A (Nat.le_refl _)
  by_cases q : qall A c ask ≤ L
  · have e : ∀ n, sl (fun a => if c a = true then qsh ask (qall A c ask) L a else 0) n = qall n c ask := fun n => by
      unfold qall qsh
      apply sl_c
      intro i _
      (try dsimp only)
      split
      · rw [if_pos (by unfold qall at q; exact q)]
      · rfl
    unfold l1
    rw [e]
    rw [Int64.le_iff_toInt_le] at q
    rw [q_subJ (by omega) (by omega)]
    omega
  · generalize hall : qall A c ask = all at *
    have q' : L.toInt < all.toInt := by rw [Int64.le_iff_toInt_le] at q; omega
    -- floors
    have key : ∀ n, n ≤ A → 0 ≤ (sl (fun a => if c a = true then qsh ask all L a else 0) n).toInt ∧ (sl (fun a => if c a = true then qsh ask all L a else 0) n).toInt * all.toInt ≤ (qall n c ask).toInt * L.toInt ∧ (sl (fun a => if c a = true then qsh ask all L a else 0) n).toInt ≤ 1000000000000000 * n := fun n => by
      induction n with
      | zero => intro _; unfold qall; simp [sl]
      | succ n ih =>
        intro hn
        obtain ⟨i1, i2, i3⟩ := ih (by omega)
        have bn := qall_b (c := c) hb hA n (by omega)
        have hbn := hb n
        unfold qall at i2 bn ⊢
        rw [sl, sl]
        by_cases z : c n = true
        · rw [if_pos z, if_pos z]
          have m1 : 0 ≤ (ask n).toInt * L.toInt := Int.mul_nonneg hbn.1 h0
          have m2 : (ask n).toInt * L.toInt ≤ 1000000 * 1000000000 := Int.mul_le_mul hbn.2 h1 h0 (by omega)
          have e1 : (ask n * L).toInt = (ask n).toInt * L.toInt := q_mulJ (by omega) (by omega)
          have e2 : (qsh ask all L n).toInt = (ask n).toInt * L.toInt / all.toInt := by
            unfold qsh
            rw [if_neg q, q_divJ (by omega) (by omega), e1]
          have d1 := Int.mul_ediv_add_emod ((ask n).toInt * L.toInt) all.toInt
          have d2 := Int.emod_nonneg ((ask n).toInt * L.toInt) (show all.toInt ≠ 0 by omega)
          have d3 : 0 ≤ (ask n).toInt * L.toInt / all.toInt := Int.ediv_nonneg m1 (by omega)
          have d4 : (ask n).toInt * L.toInt / all.toInt ≤ (ask n).toInt * L.toInt := Int.ediv_le_self _ m1
          have hn4 : (n : Int) ≤ 400 := by omega
          have e3 : (sl (fun a => if c a = true then qsh ask all L a else 0) n + qsh ask all L n).toInt = (sl (fun a => if c a = true then qsh ask all L a else 0) n).toInt + (ask n).toInt * L.toInt / all.toInt := by
            rw [q_addJ (by rw [e2]; omega) (by rw [e2]; omega), e2]
          rw [e3, q_addJ (by omega) (by omega)]
          refine ⟨by omega, ?_, by omega⟩
          rw [Int.add_mul, Int.add_mul]
          have d5 : (ask n).toInt * L.toInt / all.toInt * all.toInt = all.toInt * ((ask n).toInt * L.toInt / all.toInt) := Int.mul_comm _ _
          omega
        · rw [if_neg z, if_neg z, Int64.add_zero, Int64.add_zero]
          exact ⟨i1, i2, by omega⟩
    obtain ⟨k1, k2, k3⟩ := key A (Nat.le_refl _)
    rw [hall] at k2
    unfold l1
    generalize sl (fun a => if c a = true then qsh ask all L a else 0) A = S at k1 k2 k3
    have k4 : S.toInt ≤ L.toInt := by
      apply Classical.byContradiction
      intro w
      have : all.toInt * (L.toInt + 1) ≤ all.toInt * S.toInt := Int.mul_le_mul_of_nonneg_left (by omega) (by omega)
      rw [Int.mul_comm all.toInt S.toInt, Int.mul_add, Int.mul_comm all.toInt L.toInt] at this
      have k5 : all.toInt * L.toInt = L.toInt * all.toInt := Int.mul_comm _ _
      omega
    rw [q_subJ (by omega) (by omega)]
    omega
theorem trt_b {d : Int32} {s : QS} (hb : ∀ a, 0 ≤ (ask a).toInt ∧ (ask a).toInt ≤ 1000000) (hA : A ≤ 400) (h0 : 0 ≤ s.1.toInt) (h1 : s.1.toInt ≤ 1000000000) : 0 ≤ (trt A p dy dk ask d s).1.toInt ∧ (trt A p dy dk ask d s).1.toInt ≤ 1000000000 := by
  have := l1_b (c := nw p dy d s.2.1) hb hA h0 h1
  unfold trt
  (try dsimp only)
  split
  · (try dsimp only); omega
  · have := ho_ge (A := A) (ask := ask) (c := fun k a => nw p dy d s.2.1 a && decide (dk a = nI k)) (s := (l1 (nw p dy d s.2.1) ask (qall A (nw p dy d s.2.1) ask) s.1 A, g1 (nw p dy d s.2.1) ask (qall A (nw p dy d s.2.1) ask) s.1 s.2.2 A)) (by (try dsimp only); omega) 4
    (try dsimp only at this ⊢)
    omega
theorem crs_b {blk : Nat → Int32} {f : Nat} {V : Int64} (hb : ∀ a, 0 ≤ (ask a).toInt ∧ (ask a).toInt ≤ 1000000) (hA : A ≤ 400) (h0 : 0 ≤ V.toInt) (h1 : V.toInt ≤ 1000000000) : ∀ n, 0 ≤ (crs A p dy dk ask blk f V n).1.toInt ∧ (crs A p dy dk ask blk f V n).1.toInt ≤ 1000000000
  | 0 => ⟨h0, h1⟩
  | n + 1 => by
    have ih : 0 ≤ (crs A p dy dk ask blk f V n).1.toInt ∧ (crs A p dy dk ask blk f V n).1.toInt ≤ 1000000000 := crs_b hb hA h0 h1 n
    rw [crs]
    split
    · exact trt_b hb hA ih.1 ih.2
    · exact ih
/-- the days on which they were treated have passed -/
theorem crs_t {blk : Nat → Int32} {f : Nat} {V : Int64} : ∀ n a, (crs A p dy dk ask blk f V n).2.1 a = -1 ∨ ∃ i, i < n ∧ (crs A p dy dk ask blk f V n).2.1 a = nI (f + i)
  | 0, a => Or.inl rfl
  | n + 1, a => by
    have ih : (crs A p dy dk ask blk f V n).2.1 a = -1 ∨ ∃ i, i < n ∧ (crs A p dy dk ask blk f V n).2.1 a = nI (f + i) := crs_t n a
    have ih' : (crs A p dy dk ask blk f V n).2.1 a = -1 ∨ ∃ i, i < n + 1 ∧ (crs A p dy dk ask blk f V n).2.1 a = nI (f + i) := ih.imp id (fun ⟨i, h1, h2⟩ => ⟨i, by omega, h2⟩)
    rw [crs]
    split
    · show t1 _ _ _ _ a = -1 ∨ ∃ i, i < n + 1 ∧ t1 _ _ _ _ a = nI (f + i)
      unfold t1
      split
      · exact Or.inr ⟨n, by omega, rfl⟩
      · exact ih'
    · exact ih'
end QP
