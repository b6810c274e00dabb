-- needs: 71 72 73 74 75 76 77
/-! DECLARATIONS: what an order's course does not see -/
section DI
theorem hoA_a {ask ask' : Nat → Int64} {c : Nat → Bool} (h : ∀ a, c a = true → ask a = ask' a) {s : Int64 × (Nat → Int64)} : ∀ n, hoA ask c s n = hoA ask' c s n
  | 0 => rfl
  | n + 1 => by
    rw [hoA, hoA, hoA_a h n]
    by_cases z : c n = true
    · simp only [h n z]
    · have z' : c n = false := Bool.eq_false_iff.mpr z
      simp [z']
theorem ho_a {A : Nat} {ask ask' : Nat → Int64} {c : Nat → Nat → Bool} (h : ∀ k a, c k a = true → ask a = ask' a) {s : Int64 × (Nat → Int64)} : ∀ k, ho A ask c s k = ho A ask' c s k
  | 0 => rfl
  | k + 1 => by rw [ho, ho, ho_a h k]; exact hoA_a (h k) _
theorem nw_p {p : Nat → Bool} {dy : Nat → Int32} {d : Int32} {t : Nat → Int32} {a : Nat} (h : nw p dy d t a = true) : p a = true := by
  unfold nw at h
  rw [Bool.and_eq_true, Bool.and_eq_true] at h
  exact h.1.1
theorem trt_a {A : Nat} {p : Nat → Bool} {dy dk : Nat → Int32} {ask ask' : Nat → Int64} (h : ∀ a, p a = true → ask a = ask' a) {d : Int32} {s : QS} : trt A p dy dk ask d s = trt A p dy dk ask' d s := by
  have hc : ∀ a, nw p dy d s.2.1 a = true → ask a = ask' a := fun a q => h a (nw_p q)
  have e1 : qall A (nw p dy d s.2.1) ask = qall A (nw p dy d s.2.1) ask' := by
    unfold qall
    refine sl_c (fun a _ => ?_)
    by_cases z : nw p dy d s.2.1 a = true
    · rw [if_pos z, if_pos z, hc a z]
    · rw [if_neg z, if_neg z]
  have e2 : ∀ all L, l1 (nw p dy d s.2.1) ask all L A = l1 (nw p dy d s.2.1) ask' all L A := fun all L => by
    unfold l1
    congr 1
    refine sl_c (fun a _ => ?_)
    by_cases z : nw p dy d s.2.1 a = true
    · rw [if_pos z, if_pos z]; unfold qsh; rw [hc a z]
    · rw [if_neg z, if_neg z]
  have e3 : ∀ all L g, g1 (nw p dy d s.2.1) ask all L g A = g1 (nw p dy d s.2.1) ask' all L g A := fun all L g => by
    funext a
    unfold g1
    by_cases z : nw p dy d s.2.1 a = true ∧ a < A
    · rw [if_pos z, if_pos z]; unfold qsh; rw [hc a z.1]
    · rw [if_neg z, if_neg z]
  unfold trt
  simp only [e1, e2, e3]
  rw [ho_a (c := fun k a => nw p dy d s.2.1 a && decide (dk a = nI k)) (fun k a q => hc a (by
    rw [Bool.and_eq_true] at q; exact q.1))]
theorem crs_a {A : Nat} {p : Nat → Bool} {dy dk : Nat → Int32} {ask ask' : Nat → Int64} {blk : Nat → Int32} {f : Nat} {V : Int64} (h : ∀ a, p a = true → ask a = ask' a) : ∀ n, crs A p dy dk ask blk f V n = crs A p dy dk ask' blk f V n
  | 0 => rfl
  | n + 1 => by
    rw [crs, crs, crs_a h n]
    by_cases z : blk (f + n) = 0
    · rw [if_pos z, if_pos z]; exact trt_a h
    · rw [if_neg z, if_neg z]
end DI
