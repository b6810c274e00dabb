-- needs: 71 72 73 74 75 76 77 78 79 80 81
/-! THE START: the rows behind the constructors (printed by prog/start.py) -/
section StA
theorem sz_n {M : dp_M} {F : Nat → Nat → Int32} {p n t z : Nat} (hp : dp_n M = p) (h : ∀ k i, dp_I M k i = F k i) (hF : ∀ i, F p i = 0) (k i : Nat) : dp_I (dp_new M n t z) k i = F k i := by
  by_cases e : k = dp_n M
  · rw [e]
    show (if dp_n M = dp_n M then (0 : Int32) else dp_I M (dp_n M) i) = _
    rw [if_pos rfl, hp]; exact (hF i).symm
  · show (if k = dp_n M then (0 : Int32) else dp_I M k i) = _
    rw [if_neg e]; exact h k i
theorem sz_i {M : dp_M} {F : Nat → Nat → Int32} {p q : Nat} {x : Int32} (h : ∀ k i, dp_I M k i = F k i) (k i : Nat) : dp_I (dp_setI M p q x) k i = if k = p ∧ i = q then x else F k i := by
  rw [gII]
  by_cases e : k = p
  · rw [if_pos e]
    by_cases e2 : i = q
    · rw [e2, uI_s, if_pos ⟨e, rfl⟩]
    · rw [uI_n e2, if_neg (fun w => e2 w.2), ← e]; exact h k i
  · rw [if_neg e, if_neg (fun w => e w.1)]; exact h k i
theorem sz_f {M : dp_M} {F : Nat → Nat → Int32} {p N : Nat} {x : Int32} (h : ∀ k i, dp_I M k i = F k i) (k i : Nat) : dp_I (dq_fl M p x N) k i = if k = p ∧ i < N then x else F k i := by
  show (if k = p ∧ i < N then x else dp_I M k i) = _
  rw [h k i]
theorem sz_l {M : dp_M} {F : Nat → Nat → Int32} {p N : Nat} (h : ∀ k i, dp_I M k i = F k i) (k i : Nat) : dp_I (dq_il M p N) k i = if k = p ∧ i < N then nI i else F k i := by
  show (if k = p ∧ i < N then nI i else dp_I M k i) = _
  rw [h k i]
theorem sz_nJ {M : dp_M} {n t z : Nat} (h : ∀ k i, dp_J M k i = 0) (k i : Nat) : dp_J (dp_new M n t z) k i = 0 := by
  show (if k = dp_n M then (0 : Int64) else dp_J M k i) = _
  by_cases e : k = dp_n M
  · rw [if_pos e]
  · rw [if_neg e]; exact h k i
theorem sz_nR {M : dp_M} {n t z q : Nat} (h : ∀ i, dp_R M q i = none) (i : Nat) : dp_R (dp_new M n t z) q i = none := by
  show (if q = dp_n M then (none : Option Nat) else dp_R M q i) = _
  by_cases e : q = dp_n M
  · rw [if_pos e]
  · rw [if_neg e]; exact h i
theorem sz_rR {M : dp_M} {q p j : Nat} {x : Option Nat} (hp : q ≠ p) (h : ∀ i, dp_R M q i = none) (i : Nat) : dp_R (dp_setR M p j x) q i = none := by
  rw [gRR, if_neg hp]; exact h i
theorem sz_nL {M : dp_M} {n t z p k l : Nat} (hp : dp_n M = p) (hk : k < p) (h : dp_len M k = l) : dp_len (dp_new M n t z) k = l := by
  show (if k = dp_n M then n else dp_len M k) = _
  rw [if_neg (by omega)]; exact h
theorem sz_oL {M : dp_M} {n t z p : Nat} (hp : dp_n M = p) : dp_len (dp_new M n t z) p = n := by
  show (if p = dp_n M then n else dp_len M p) = _
  rw [if_pos hp.symm]
def sF_0 (_ : Nat → Int32) (_ _ : Nat) : Int32 := 0
theorem zi_0 (v : Nat → Int32) (k i : Nat) : dp_I (dq_0 v) k i = sF_0 v k i := rfl
theorem zj_0 (v : Nat → Int32) (k i : Nat) : dp_J (dq_0 v) k i = 0 := rfl
theorem zr_0 (v : Nat → Int32) (i : Nat) : dp_R (dq_0 v) 59 i = none := rfl
theorem zi_1 (v : Nat → Int32) (k i : Nat) : dp_I (dq_1 v) k i = sF_0 v k i := sz_n (dqn_0 v) (zi_0 v) (fun _ => rfl) k i
theorem zj_1 (v : Nat → Int32) (k i : Nat) : dp_J (dq_1 v) k i = 0 := sz_nJ (zj_0 v) k i
theorem zr_1 (v : Nat → Int32) (i : Nat) : dp_R (dq_1 v) 59 i = none := sz_nR (zr_0 v) i
theorem zi_2 (v : Nat → Int32) (k i : Nat) : dp_I (dq_2 v) k i = sF_0 v k i := sz_n (dqn_1 v) (zi_1 v) (fun _ => rfl) k i
theorem zj_2 (v : Nat → Int32) (k i : Nat) : dp_J (dq_2 v) k i = 0 := sz_nJ (zj_1 v) k i
theorem zr_2 (v : Nat → Int32) (i : Nat) : dp_R (dq_2 v) 59 i = none := sz_nR (zr_1 v) i
theorem zi_3 (v : Nat → Int32) (k i : Nat) : dp_I (dq_3 v) k i = sF_0 v k i := sz_n (dqn_2 v) (zi_2 v) (fun _ => rfl) k i
theorem zj_3 (v : Nat → Int32) (k i : Nat) : dp_J (dq_3 v) k i = 0 := sz_nJ (zj_2 v) k i
theorem zr_3 (v : Nat → Int32) (i : Nat) : dp_R (dq_3 v) 59 i = none := sz_nR (zr_2 v) i
theorem zi_4 (v : Nat → Int32) (k i : Nat) : dp_I (dq_4 v) k i = sF_0 v k i := zi_3 v k i
theorem zj_4 (v : Nat → Int32) (k i : Nat) : dp_J (dq_4 v) k i = 0 := zj_3 v k i
theorem zr_4 (v : Nat → Int32) (i : Nat) : dp_R (dq_4 v) 59 i = none := sz_rR (by decide) (zr_3 v) i
theorem zi_5 (v : Nat → Int32) (k i : Nat) : dp_I (dq_5 v) k i = sF_0 v k i := sz_n (dqn_4 v) (zi_4 v) (fun _ => rfl) k i
theorem zj_5 (v : Nat → Int32) (k i : Nat) : dp_J (dq_5 v) k i = 0 := sz_nJ (zj_4 v) k i
theorem zr_5 (v : Nat → Int32) (i : Nat) : dp_R (dq_5 v) 59 i = none := sz_nR (zr_4 v) i
theorem zi_6 (v : Nat → Int32) (k i : Nat) : dp_I (dq_6 v) k i = sF_0 v k i := zi_5 v k i
theorem zj_6 (v : Nat → Int32) (k i : Nat) : dp_J (dq_6 v) k i = 0 := zj_5 v k i
theorem zr_6 (v : Nat → Int32) (i : Nat) : dp_R (dq_6 v) 59 i = none := sz_rR (by decide) (zr_5 v) i
theorem zi_7 (v : Nat → Int32) (k i : Nat) : dp_I (dq_7 v) k i = sF_0 v k i := sz_n (dqn_6 v) (zi_6 v) (fun _ => rfl) k i
theorem zj_7 (v : Nat → Int32) (k i : Nat) : dp_J (dq_7 v) k i = 0 := sz_nJ (zj_6 v) k i
theorem zr_7 (v : Nat → Int32) (i : Nat) : dp_R (dq_7 v) 59 i = none := sz_nR (zr_6 v) i
theorem zi_8 (v : Nat → Int32) (k i : Nat) : dp_I (dq_8 v) k i = sF_0 v k i := zi_7 v k i
theorem zj_8 (v : Nat → Int32) (k i : Nat) : dp_J (dq_8 v) k i = 0 := zj_7 v k i
theorem zr_8 (v : Nat → Int32) (i : Nat) : dp_R (dq_8 v) 59 i = none := sz_rR (by decide) (zr_7 v) i
theorem zi_9 (v : Nat → Int32) (k i : Nat) : dp_I (dq_9 v) k i = sF_0 v k i := sz_n (dqn_8 v) (zi_8 v) (fun _ => rfl) k i
theorem zj_9 (v : Nat → Int32) (k i : Nat) : dp_J (dq_9 v) k i = 0 := sz_nJ (zj_8 v) k i
theorem zr_9 (v : Nat → Int32) (i : Nat) : dp_R (dq_9 v) 59 i = none := sz_nR (zr_8 v) i
theorem zi_10 (v : Nat → Int32) (k i : Nat) : dp_I (dq_10 v) k i = sF_0 v k i := zi_9 v k i
theorem zj_10 (v : Nat → Int32) (k i : Nat) : dp_J (dq_10 v) k i = 0 := zj_9 v k i
theorem zr_10 (v : Nat → Int32) (i : Nat) : dp_R (dq_10 v) 59 i = none := sz_rR (by decide) (zr_9 v) i
theorem zi_11 (v : Nat → Int32) (k i : Nat) : dp_I (dq_11 v) k i = sF_0 v k i := sz_n (dqn_10 v) (zi_10 v) (fun _ => rfl) k i
theorem zj_11 (v : Nat → Int32) (k i : Nat) : dp_J (dq_11 v) k i = 0 := sz_nJ (zj_10 v) k i
theorem zr_11 (v : Nat → Int32) (i : Nat) : dp_R (dq_11 v) 59 i = none := sz_nR (zr_10 v) i
theorem zi_12 (v : Nat → Int32) (k i : Nat) : dp_I (dq_12 v) k i = sF_0 v k i := zi_11 v k i
theorem zj_12 (v : Nat → Int32) (k i : Nat) : dp_J (dq_12 v) k i = 0 := zj_11 v k i
theorem zr_12 (v : Nat → Int32) (i : Nat) : dp_R (dq_12 v) 59 i = none := sz_rR (by decide) (zr_11 v) i
theorem zi_13 (v : Nat → Int32) (k i : Nat) : dp_I (dq_13 v) k i = sF_0 v k i := sz_n (dqn_12 v) (zi_12 v) (fun _ => rfl) k i
theorem zj_13 (v : Nat → Int32) (k i : Nat) : dp_J (dq_13 v) k i = 0 := sz_nJ (zj_12 v) k i
theorem zr_13 (v : Nat → Int32) (i : Nat) : dp_R (dq_13 v) 59 i = none := sz_nR (zr_12 v) i
theorem zi_14 (v : Nat → Int32) (k i : Nat) : dp_I (dq_14 v) k i = sF_0 v k i := zi_13 v k i
theorem zj_14 (v : Nat → Int32) (k i : Nat) : dp_J (dq_14 v) k i = 0 := zj_13 v k i
theorem zr_14 (v : Nat → Int32) (i : Nat) : dp_R (dq_14 v) 59 i = none := sz_rR (by decide) (zr_13 v) i
theorem zi_15 (v : Nat → Int32) (k i : Nat) : dp_I (dq_15 v) k i = sF_0 v k i := sz_n (dqn_14 v) (zi_14 v) (fun _ => rfl) k i
theorem zj_15 (v : Nat → Int32) (k i : Nat) : dp_J (dq_15 v) k i = 0 := sz_nJ (zj_14 v) k i
theorem zr_15 (v : Nat → Int32) (i : Nat) : dp_R (dq_15 v) 59 i = none := sz_nR (zr_14 v) i
theorem zi_16 (v : Nat → Int32) (k i : Nat) : dp_I (dq_16 v) k i = sF_0 v k i := zi_15 v k i
theorem zj_16 (v : Nat → Int32) (k i : Nat) : dp_J (dq_16 v) k i = 0 := zj_15 v k i
theorem zr_16 (v : Nat → Int32) (i : Nat) : dp_R (dq_16 v) 59 i = none := sz_rR (by decide) (zr_15 v) i
theorem zi_17 (v : Nat → Int32) (k i : Nat) : dp_I (dq_17 v) k i = sF_0 v k i := sz_n (dqn_16 v) (zi_16 v) (fun _ => rfl) k i
theorem zj_17 (v : Nat → Int32) (k i : Nat) : dp_J (dq_17 v) k i = 0 := sz_nJ (zj_16 v) k i
theorem zr_17 (v : Nat → Int32) (i : Nat) : dp_R (dq_17 v) 59 i = none := sz_nR (zr_16 v) i
theorem zi_18 (v : Nat → Int32) (k i : Nat) : dp_I (dq_18 v) k i = sF_0 v k i := zi_17 v k i
theorem zj_18 (v : Nat → Int32) (k i : Nat) : dp_J (dq_18 v) k i = 0 := zj_17 v k i
theorem zr_18 (v : Nat → Int32) (i : Nat) : dp_R (dq_18 v) 59 i = none := sz_rR (by decide) (zr_17 v) i
theorem zi_19 (v : Nat → Int32) (k i : Nat) : dp_I (dq_19 v) k i = sF_0 v k i := sz_n (dqn_18 v) (zi_18 v) (fun _ => rfl) k i
theorem zj_19 (v : Nat → Int32) (k i : Nat) : dp_J (dq_19 v) k i = 0 := sz_nJ (zj_18 v) k i
theorem zr_19 (v : Nat → Int32) (i : Nat) : dp_R (dq_19 v) 59 i = none := sz_nR (zr_18 v) i
theorem zi_20 (v : Nat → Int32) (k i : Nat) : dp_I (dq_20 v) k i = sF_0 v k i := zi_19 v k i
theorem zj_20 (v : Nat → Int32) (k i : Nat) : dp_J (dq_20 v) k i = 0 := zj_19 v k i
theorem zr_20 (v : Nat → Int32) (i : Nat) : dp_R (dq_20 v) 59 i = none := sz_rR (by decide) (zr_19 v) i
theorem zi_21 (v : Nat → Int32) (k i : Nat) : dp_I (dq_21 v) k i = sF_0 v k i := sz_n (dqn_20 v) (zi_20 v) (fun _ => rfl) k i
theorem zj_21 (v : Nat → Int32) (k i : Nat) : dp_J (dq_21 v) k i = 0 := sz_nJ (zj_20 v) k i
theorem zr_21 (v : Nat → Int32) (i : Nat) : dp_R (dq_21 v) 59 i = none := sz_nR (zr_20 v) i
theorem zi_22 (v : Nat → Int32) (k i : Nat) : dp_I (dq_22 v) k i = sF_0 v k i := zi_21 v k i
theorem zj_22 (v : Nat → Int32) (k i : Nat) : dp_J (dq_22 v) k i = 0 := zj_21 v k i
theorem zr_22 (v : Nat → Int32) (i : Nat) : dp_R (dq_22 v) 59 i = none := sz_rR (by decide) (zr_21 v) i
theorem zi_23 (v : Nat → Int32) (k i : Nat) : dp_I (dq_23 v) k i = sF_0 v k i := sz_n (dqn_22 v) (zi_22 v) (fun _ => rfl) k i
theorem zj_23 (v : Nat → Int32) (k i : Nat) : dp_J (dq_23 v) k i = 0 := sz_nJ (zj_22 v) k i
theorem zr_23 (v : Nat → Int32) (i : Nat) : dp_R (dq_23 v) 59 i = none := sz_nR (zr_22 v) i
theorem zi_24 (v : Nat → Int32) (k i : Nat) : dp_I (dq_24 v) k i = sF_0 v k i := zi_23 v k i
theorem zj_24 (v : Nat → Int32) (k i : Nat) : dp_J (dq_24 v) k i = 0 := zj_23 v k i
theorem zr_24 (v : Nat → Int32) (i : Nat) : dp_R (dq_24 v) 59 i = none := sz_rR (by decide) (zr_23 v) i
theorem zi_25 (v : Nat → Int32) (k i : Nat) : dp_I (dq_25 v) k i = sF_0 v k i := sz_n (dqn_24 v) (zi_24 v) (fun _ => rfl) k i
theorem zj_25 (v : Nat → Int32) (k i : Nat) : dp_J (dq_25 v) k i = 0 := sz_nJ (zj_24 v) k i
theorem zr_25 (v : Nat → Int32) (i : Nat) : dp_R (dq_25 v) 59 i = none := sz_nR (zr_24 v) i
theorem zi_26 (v : Nat → Int32) (k i : Nat) : dp_I (dq_26 v) k i = sF_0 v k i := zi_25 v k i
theorem zj_26 (v : Nat → Int32) (k i : Nat) : dp_J (dq_26 v) k i = 0 := zj_25 v k i
theorem zr_26 (v : Nat → Int32) (i : Nat) : dp_R (dq_26 v) 59 i = none := sz_rR (by decide) (zr_25 v) i
theorem zi_27 (v : Nat → Int32) (k i : Nat) : dp_I (dq_27 v) k i = sF_0 v k i := sz_n (dqn_26 v) (zi_26 v) (fun _ => rfl) k i
theorem zj_27 (v : Nat → Int32) (k i : Nat) : dp_J (dq_27 v) k i = 0 := sz_nJ (zj_26 v) k i
theorem zr_27 (v : Nat → Int32) (i : Nat) : dp_R (dq_27 v) 59 i = none := sz_nR (zr_26 v) i
theorem zi_28 (v : Nat → Int32) (k i : Nat) : dp_I (dq_28 v) k i = sF_0 v k i := sz_n (dqn_27 v) (zi_27 v) (fun _ => rfl) k i
theorem zj_28 (v : Nat → Int32) (k i : Nat) : dp_J (dq_28 v) k i = 0 := sz_nJ (zj_27 v) k i
theorem zr_28 (v : Nat → Int32) (i : Nat) : dp_R (dq_28 v) 59 i = none := sz_nR (zr_27 v) i
theorem zi_29 (v : Nat → Int32) (k i : Nat) : dp_I (dq_29 v) k i = sF_0 v k i := zi_28 v k i
theorem zj_29 (v : Nat → Int32) (k i : Nat) : dp_J (dq_29 v) k i = 0 := zj_28 v k i
theorem zr_29 (v : Nat → Int32) (i : Nat) : dp_R (dq_29 v) 59 i = none := sz_rR (by decide) (zr_28 v) i
theorem zi_30 (v : Nat → Int32) (k i : Nat) : dp_I (dq_30 v) k i = sF_0 v k i := sz_n (dqn_29 v) (zi_29 v) (fun _ => rfl) k i
theorem zj_30 (v : Nat → Int32) (k i : Nat) : dp_J (dq_30 v) k i = 0 := sz_nJ (zj_29 v) k i
theorem zr_30 (v : Nat → Int32) (i : Nat) : dp_R (dq_30 v) 59 i = none := sz_nR (zr_29 v) i
theorem zi_31 (v : Nat → Int32) (k i : Nat) : dp_I (dq_31 v) k i = sF_0 v k i := zi_30 v k i
theorem zj_31 (v : Nat → Int32) (k i : Nat) : dp_J (dq_31 v) k i = 0 := zj_30 v k i
theorem zr_31 (v : Nat → Int32) (i : Nat) : dp_R (dq_31 v) 59 i = none := sz_rR (by decide) (zr_30 v) i
theorem zi_32 (v : Nat → Int32) (k i : Nat) : dp_I (dq_32 v) k i = sF_0 v k i := sz_n (dqn_31 v) (zi_31 v) (fun _ => rfl) k i
theorem zj_32 (v : Nat → Int32) (k i : Nat) : dp_J (dq_32 v) k i = 0 := sz_nJ (zj_31 v) k i
theorem zr_32 (v : Nat → Int32) (i : Nat) : dp_R (dq_32 v) 59 i = none := sz_nR (zr_31 v) i
theorem zi_33 (v : Nat → Int32) (k i : Nat) : dp_I (dq_33 v) k i = sF_0 v k i := zi_32 v k i
theorem zj_33 (v : Nat → Int32) (k i : Nat) : dp_J (dq_33 v) k i = 0 := zj_32 v k i
theorem zr_33 (v : Nat → Int32) (i : Nat) : dp_R (dq_33 v) 59 i = none := sz_rR (by decide) (zr_32 v) i
theorem zi_34 (v : Nat → Int32) (k i : Nat) : dp_I (dq_34 v) k i = sF_0 v k i := sz_n (dqn_33 v) (zi_33 v) (fun _ => rfl) k i
theorem zj_34 (v : Nat → Int32) (k i : Nat) : dp_J (dq_34 v) k i = 0 := sz_nJ (zj_33 v) k i
theorem zr_34 (v : Nat → Int32) (i : Nat) : dp_R (dq_34 v) 59 i = none := sz_nR (zr_33 v) i
theorem zi_35 (v : Nat → Int32) (k i : Nat) : dp_I (dq_35 v) k i = sF_0 v k i := zi_34 v k i
theorem zj_35 (v : Nat → Int32) (k i : Nat) : dp_J (dq_35 v) k i = 0 := zj_34 v k i
theorem zr_35 (v : Nat → Int32) (i : Nat) : dp_R (dq_35 v) 59 i = none := sz_rR (by decide) (zr_34 v) i
theorem zi_36 (v : Nat → Int32) (k i : Nat) : dp_I (dq_36 v) k i = sF_0 v k i := sz_n (dqn_35 v) (zi_35 v) (fun _ => rfl) k i
theorem zj_36 (v : Nat → Int32) (k i : Nat) : dp_J (dq_36 v) k i = 0 := sz_nJ (zj_35 v) k i
theorem zr_36 (v : Nat → Int32) (i : Nat) : dp_R (dq_36 v) 59 i = none := sz_nR (zr_35 v) i
theorem zi_37 (v : Nat → Int32) (k i : Nat) : dp_I (dq_37 v) k i = sF_0 v k i := zi_36 v k i
theorem zj_37 (v : Nat → Int32) (k i : Nat) : dp_J (dq_37 v) k i = 0 := zj_36 v k i
theorem zr_37 (v : Nat → Int32) (i : Nat) : dp_R (dq_37 v) 59 i = none := sz_rR (by decide) (zr_36 v) i
theorem zi_38 (v : Nat → Int32) (k i : Nat) : dp_I (dq_38 v) k i = sF_0 v k i := sz_n (dqn_37 v) (zi_37 v) (fun _ => rfl) k i
theorem zj_38 (v : Nat → Int32) (k i : Nat) : dp_J (dq_38 v) k i = 0 := sz_nJ (zj_37 v) k i
theorem zr_38 (v : Nat → Int32) (i : Nat) : dp_R (dq_38 v) 59 i = none := sz_nR (zr_37 v) i
theorem zi_39 (v : Nat → Int32) (k i : Nat) : dp_I (dq_39 v) k i = sF_0 v k i := zi_38 v k i
theorem zj_39 (v : Nat → Int32) (k i : Nat) : dp_J (dq_39 v) k i = 0 := zj_38 v k i
theorem zr_39 (v : Nat → Int32) (i : Nat) : dp_R (dq_39 v) 59 i = none := sz_rR (by decide) (zr_38 v) i
theorem zi_40 (v : Nat → Int32) (k i : Nat) : dp_I (dq_40 v) k i = sF_0 v k i := sz_n (dqn_39 v) (zi_39 v) (fun _ => rfl) k i
theorem zj_40 (v : Nat → Int32) (k i : Nat) : dp_J (dq_40 v) k i = 0 := sz_nJ (zj_39 v) k i
theorem zr_40 (v : Nat → Int32) (i : Nat) : dp_R (dq_40 v) 59 i = none := sz_nR (zr_39 v) i
theorem zi_41 (v : Nat → Int32) (k i : Nat) : dp_I (dq_41 v) k i = sF_0 v k i := zi_40 v k i
theorem zj_41 (v : Nat → Int32) (k i : Nat) : dp_J (dq_41 v) k i = 0 := zj_40 v k i
theorem zr_41 (v : Nat → Int32) (i : Nat) : dp_R (dq_41 v) 59 i = none := sz_rR (by decide) (zr_40 v) i
theorem zi_42 (v : Nat → Int32) (k i : Nat) : dp_I (dq_42 v) k i = sF_0 v k i := sz_n (dqn_41 v) (zi_41 v) (fun _ => rfl) k i
theorem zj_42 (v : Nat → Int32) (k i : Nat) : dp_J (dq_42 v) k i = 0 := sz_nJ (zj_41 v) k i
theorem zr_42 (v : Nat → Int32) (i : Nat) : dp_R (dq_42 v) 59 i = none := sz_nR (zr_41 v) i
theorem zi_43 (v : Nat → Int32) (k i : Nat) : dp_I (dq_43 v) k i = sF_0 v k i := zi_42 v k i
theorem zj_43 (v : Nat → Int32) (k i : Nat) : dp_J (dq_43 v) k i = 0 := zj_42 v k i
theorem zr_43 (v : Nat → Int32) (i : Nat) : dp_R (dq_43 v) 59 i = none := sz_rR (by decide) (zr_42 v) i
theorem zi_44 (v : Nat → Int32) (k i : Nat) : dp_I (dq_44 v) k i = sF_0 v k i := sz_n (dqn_43 v) (zi_43 v) (fun _ => rfl) k i
theorem zj_44 (v : Nat → Int32) (k i : Nat) : dp_J (dq_44 v) k i = 0 := sz_nJ (zj_43 v) k i
theorem zr_44 (v : Nat → Int32) (i : Nat) : dp_R (dq_44 v) 59 i = none := sz_nR (zr_43 v) i
theorem zi_45 (v : Nat → Int32) (k i : Nat) : dp_I (dq_45 v) k i = sF_0 v k i := zi_44 v k i
theorem zj_45 (v : Nat → Int32) (k i : Nat) : dp_J (dq_45 v) k i = 0 := zj_44 v k i
theorem zr_45 (v : Nat → Int32) (i : Nat) : dp_R (dq_45 v) 59 i = none := sz_rR (by decide) (zr_44 v) i
theorem zi_46 (v : Nat → Int32) (k i : Nat) : dp_I (dq_46 v) k i = sF_0 v k i := sz_n (dqn_45 v) (zi_45 v) (fun _ => rfl) k i
theorem zj_46 (v : Nat → Int32) (k i : Nat) : dp_J (dq_46 v) k i = 0 := sz_nJ (zj_45 v) k i
theorem zr_46 (v : Nat → Int32) (i : Nat) : dp_R (dq_46 v) 59 i = none := sz_nR (zr_45 v) i
theorem zi_47 (v : Nat → Int32) (k i : Nat) : dp_I (dq_47 v) k i = sF_0 v k i := zi_46 v k i
theorem zj_47 (v : Nat → Int32) (k i : Nat) : dp_J (dq_47 v) k i = 0 := zj_46 v k i
theorem zr_47 (v : Nat → Int32) (i : Nat) : dp_R (dq_47 v) 59 i = none := sz_rR (by decide) (zr_46 v) i
theorem zi_48 (v : Nat → Int32) (k i : Nat) : dp_I (dq_48 v) k i = sF_0 v k i := zi_47 v k i
theorem zj_48 (v : Nat → Int32) (k i : Nat) : dp_J (dq_48 v) k i = 0 := zj_47 v k i
theorem zr_48 (v : Nat → Int32) (i : Nat) : dp_R (dq_48 v) 59 i = none := sz_rR (by decide) (zr_47 v) i
def sF_1 (v : Nat → Int32) (k i : Nat) : Int32 := if k = 1 ∧ i = 0 then (dq_h (v 0) (12 : Int32)) else sF_0 v k i
theorem zi_49 (v : Nat → Int32) (k i : Nat) : dp_I (dq_49 v) k i = sF_1 v k i := sz_i (zi_48 v) k i
theorem zj_49 (v : Nat → Int32) (k i : Nat) : dp_J (dq_49 v) k i = 0 := zj_48 v k i
theorem zr_49 (v : Nat → Int32) (i : Nat) : dp_R (dq_49 v) 59 i = none := zr_48 v i
def sF_2 (v : Nat → Int32) (k i : Nat) : Int32 := if k = 1 ∧ i = 1 then (dq_h (v 1) (4 : Int32)) else sF_1 v k i
theorem zi_50 (v : Nat → Int32) (k i : Nat) : dp_I (dq_50 v) k i = sF_2 v k i := sz_i (zi_49 v) k i
theorem zj_50 (v : Nat → Int32) (k i : Nat) : dp_J (dq_50 v) k i = 0 := zj_49 v k i
theorem zr_50 (v : Nat → Int32) (i : Nat) : dp_R (dq_50 v) 59 i = none := zr_49 v i
theorem zi_51 (v : Nat → Int32) (k i : Nat) : dp_I (dq_51 v) k i = sF_2 v k i := sz_n (dqn_50 v) (zi_50 v) (fun _ => rfl) k i
theorem zj_51 (v : Nat → Int32) (k i : Nat) : dp_J (dq_51 v) k i = 0 := sz_nJ (zj_50 v) k i
theorem zr_51 (v : Nat → Int32) (i : Nat) : dp_R (dq_51 v) 59 i = none := sz_nR (zr_50 v) i
theorem zl_25_51 (v : Nat → Int32) : dp_len (dq_51 v) 25 = (Int32.toNatClampNeg (dq_h (v 0) (12 : Int32))) := sz_oL (dqn_50 v)
theorem zi_52 (v : Nat → Int32) (k i : Nat) : dp_I (dq_52 v) k i = sF_2 v k i := zi_51 v k i
theorem zj_52 (v : Nat → Int32) (k i : Nat) : dp_J (dq_52 v) k i = 0 := zj_51 v k i
theorem zr_52 (v : Nat → Int32) (i : Nat) : dp_R (dq_52 v) 59 i = none := sz_rR (by decide) (zr_51 v) i
theorem zl_25_52 (v : Nat → Int32) : dp_len (dq_52 v) 25 = (Int32.toNatClampNeg (dq_h (v 0) (12 : Int32))) := zl_25_51 v
theorem zi_53 (v : Nat → Int32) (k i : Nat) : dp_I (dq_53 v) k i = sF_2 v k i := sz_n (dqn_52 v) (zi_52 v) (fun _ => rfl) k i
theorem zj_53 (v : Nat → Int32) (k i : Nat) : dp_J (dq_53 v) k i = 0 := sz_nJ (zj_52 v) k i
theorem zr_53 (v : Nat → Int32) (i : Nat) : dp_R (dq_53 v) 59 i = none := sz_nR (zr_52 v) i
theorem zl_25_53 (v : Nat → Int32) : dp_len (dq_53 v) 25 = (Int32.toNatClampNeg (dq_h (v 0) (12 : Int32))) := sz_nL (dqn_52 v) (by decide) (zl_25_52 v)
theorem zl_26_53 (v : Nat → Int32) : dp_len (dq_53 v) 26 = (Int32.toNatClampNeg (dq_h (v 0) (12 : Int32))) := sz_oL (dqn_52 v)
theorem zi_54 (v : Nat → Int32) (k i : Nat) : dp_I (dq_54 v) k i = sF_2 v k i := zi_53 v k i
theorem zj_54 (v : Nat → Int32) (k i : Nat) : dp_J (dq_54 v) k i = 0 := zj_53 v k i
theorem zr_54 (v : Nat → Int32) (i : Nat) : dp_R (dq_54 v) 59 i = none := sz_rR (by decide) (zr_53 v) i
theorem zl_25_54 (v : Nat → Int32) : dp_len (dq_54 v) 25 = (Int32.toNatClampNeg (dq_h (v 0) (12 : Int32))) := zl_25_53 v
theorem zl_26_54 (v : Nat → Int32) : dp_len (dq_54 v) 26 = (Int32.toNatClampNeg (dq_h (v 0) (12 : Int32))) := zl_26_53 v
theorem zi_55 (v : Nat → Int32) (k i : Nat) : dp_I (dq_55 v) k i = sF_2 v k i := sz_n (dqn_54 v) (zi_54 v) (fun _ => rfl) k i
theorem zj_55 (v : Nat → Int32) (k i : Nat) : dp_J (dq_55 v) k i = 0 := sz_nJ (zj_54 v) k i
theorem zr_55 (v : Nat → Int32) (i : Nat) : dp_R (dq_55 v) 59 i = none := sz_nR (zr_54 v) i
theorem zl_25_55 (v : Nat → Int32) : dp_len (dq_55 v) 25 = (Int32.toNatClampNeg (dq_h (v 0) (12 : Int32))) := sz_nL (dqn_54 v) (by decide) (zl_25_54 v)
theorem zl_26_55 (v : Nat → Int32) : dp_len (dq_55 v) 26 = (Int32.toNatClampNeg (dq_h (v 0) (12 : Int32))) := sz_nL (dqn_54 v) (by decide) (zl_26_54 v)
theorem zl_27_55 (v : Nat → Int32) : dp_len (dq_55 v) 27 = (Int32.toNatClampNeg ((dq_h (v 0) (12 : Int32)) * (16 : Int32))) := sz_oL (dqn_54 v)
theorem zi_56 (v : Nat → Int32) (k i : Nat) : dp_I (dq_56 v) k i = sF_2 v k i := zi_55 v k i
theorem zj_56 (v : Nat → Int32) (k i : Nat) : dp_J (dq_56 v) k i = 0 := zj_55 v k i
theorem zr_56 (v : Nat → Int32) (i : Nat) : dp_R (dq_56 v) 59 i = none := sz_rR (by decide) (zr_55 v) i
theorem zl_25_56 (v : Nat → Int32) : dp_len (dq_56 v) 25 = (Int32.toNatClampNeg (dq_h (v 0) (12 : Int32))) := zl_25_55 v
theorem zl_26_56 (v : Nat → Int32) : dp_len (dq_56 v) 26 = (Int32.toNatClampNeg (dq_h (v 0) (12 : Int32))) := zl_26_55 v
theorem zl_27_56 (v : Nat → Int32) : dp_len (dq_56 v) 27 = (Int32.toNatClampNeg ((dq_h (v 0) (12 : Int32)) * (16 : Int32))) := zl_27_55 v
def sF_3 (v : Nat → Int32) (k i : Nat) : Int32 := if k = 25 ∧ i < (Int32.toNatClampNeg (dq_h (v 0) (12 : Int32))) then (-1 : Int32) else sF_2 v k i
theorem zi_57 (v : Nat → Int32) (k i : Nat) : dp_I (dq_57 v) k i = sF_3 v k i := sz_f (zi_56 v) k i
theorem zj_57 (v : Nat → Int32) (k i : Nat) : dp_J (dq_57 v) k i = 0 := zj_56 v k i
theorem zr_57 (v : Nat → Int32) (i : Nat) : dp_R (dq_57 v) 59 i = none := zr_56 v i
theorem zl_25_57 (v : Nat → Int32) : dp_len (dq_57 v) 25 = (Int32.toNatClampNeg (dq_h (v 0) (12 : Int32))) := zl_25_56 v
theorem zl_26_57 (v : Nat → Int32) : dp_len (dq_57 v) 26 = (Int32.toNatClampNeg (dq_h (v 0) (12 : Int32))) := zl_26_56 v
theorem zl_27_57 (v : Nat → Int32) : dp_len (dq_57 v) 27 = (Int32.toNatClampNeg ((dq_h (v 0) (12 : Int32)) * (16 : Int32))) := zl_27_56 v
theorem zi_58 (v : Nat → Int32) (k i : Nat) : dp_I (dq_58 v) k i = sF_3 v k i := zi_57 v k i
theorem zj_58 (v : Nat → Int32) (k i : Nat) : dp_J (dq_58 v) k i = 0 := zj_57 v k i
theorem zr_58 (v : Nat → Int32) (i : Nat) : dp_R (dq_58 v) 59 i = none := sz_rR (by decide) (zr_57 v) i
theorem zl_25_58 (v : Nat → Int32) : dp_len (dq_58 v) 25 = (Int32.toNatClampNeg (dq_h (v 0) (12 : Int32))) := zl_25_57 v
theorem zl_26_58 (v : Nat → Int32) : dp_len (dq_58 v) 26 = (Int32.toNatClampNeg (dq_h (v 0) (12 : Int32))) := zl_26_57 v
theorem zl_27_58 (v : Nat → Int32) : dp_len (dq_58 v) 27 = (Int32.toNatClampNeg ((dq_h (v 0) (12 : Int32)) * (16 : Int32))) := zl_27_57 v
theorem zi_59 (v : Nat → Int32) (k i : Nat) : dp_I (dq_59 v) k i = sF_3 v k i := sz_n (dqn_58 v) (zi_58 v) (fun _ => rfl) k i
theorem zj_59 (v : Nat → Int32) (k i : Nat) : dp_J (dq_59 v) k i = 0 := sz_nJ (zj_58 v) k i
theorem zr_59 (v : Nat → Int32) (i : Nat) : dp_R (dq_59 v) 59 i = none := sz_nR (zr_58 v) i
theorem zl_25_59 (v : Nat → Int32) : dp_len (dq_59 v) 25 = (Int32.toNatClampNeg (dq_h (v 0) (12 : Int32))) := sz_nL (dqn_58 v) (by decide) (zl_25_58 v)
theorem zl_26_59 (v : Nat → Int32) : dp_len (dq_59 v) 26 = (Int32.toNatClampNeg (dq_h (v 0) (12 : Int32))) := sz_nL (dqn_58 v) (by decide) (zl_26_58 v)
theorem zl_27_59 (v : Nat → Int32) : dp_len (dq_59 v) 27 = (Int32.toNatClampNeg ((dq_h (v 0) (12 : Int32)) * (16 : Int32))) := sz_nL (dqn_58 v) (by decide) (zl_27_58 v)
theorem zi_60 (v : Nat → Int32) (k i : Nat) : dp_I (dq_60 v) k i = sF_3 v k i := sz_n (dqn_59 v) (zi_59 v) (fun _ => rfl) k i
theorem zj_60 (v : Nat → Int32) (k i : Nat) : dp_J (dq_60 v) k i = 0 := sz_nJ (zj_59 v) k i
theorem zr_60 (v : Nat → Int32) (i : Nat) : dp_R (dq_60 v) 59 i = none := sz_nR (zr_59 v) i
theorem zl_25_60 (v : Nat → Int32) : dp_len (dq_60 v) 25 = (Int32.toNatClampNeg (dq_h (v 0) (12 : Int32))) := sz_nL (dqn_59 v) (by decide) (zl_25_59 v)
theorem zl_26_60 (v : Nat → Int32) : dp_len (dq_60 v) 26 = (Int32.toNatClampNeg (dq_h (v 0) (12 : Int32))) := sz_nL (dqn_59 v) (by decide) (zl_26_59 v)
theorem zl_27_60 (v : Nat → Int32) : dp_len (dq_60 v) 27 = (Int32.toNatClampNeg ((dq_h (v 0) (12 : Int32)) * (16 : Int32))) := sz_nL (dqn_59 v) (by decide) (zl_27_59 v)
theorem zi_61 (v : Nat → Int32) (k i : Nat) : dp_I (dq_61 v) k i = sF_3 v k i := zi_60 v k i
theorem zj_61 (v : Nat → Int32) (k i : Nat) : dp_J (dq_61 v) k i = 0 := zj_60 v k i
theorem zr_61 (v : Nat → Int32) (i : Nat) : dp_R (dq_61 v) 59 i = none := sz_rR (by decide) (zr_60 v) i
theorem zl_25_61 (v : Nat → Int32) : dp_len (dq_61 v) 25 = (Int32.toNatClampNeg (dq_h (v 0) (12 : Int32))) := zl_25_60 v
theorem zl_26_61 (v : Nat → Int32) : dp_len (dq_61 v) 26 = (Int32.toNatClampNeg (dq_h (v 0) (12 : Int32))) := zl_26_60 v
theorem zl_27_61 (v : Nat → Int32) : dp_len (dq_61 v) 27 = (Int32.toNatClampNeg ((dq_h (v 0) (12 : Int32)) * (16 : Int32))) := zl_27_60 v
theorem zi_62 (v : Nat → Int32) (k i : Nat) : dp_I (dq_62 v) k i = sF_3 v k i := sz_n (dqn_61 v) (zi_61 v) (fun _ => rfl) k i
theorem zj_62 (v : Nat → Int32) (k i : Nat) : dp_J (dq_62 v) k i = 0 := sz_nJ (zj_61 v) k i
theorem zr_62 (v : Nat → Int32) (i : Nat) : dp_R (dq_62 v) 59 i = none := sz_nR (zr_61 v) i
theorem zl_25_62 (v : Nat → Int32) : dp_len (dq_62 v) 25 = (Int32.toNatClampNeg (dq_h (v 0) (12 : Int32))) := sz_nL (dqn_61 v) (by decide) (zl_25_61 v)
theorem zl_26_62 (v : Nat → Int32) : dp_len (dq_62 v) 26 = (Int32.toNatClampNeg (dq_h (v 0) (12 : Int32))) := sz_nL (dqn_61 v) (by decide) (zl_26_61 v)
theorem zl_27_62 (v : Nat → Int32) : dp_len (dq_62 v) 27 = (Int32.toNatClampNeg ((dq_h (v 0) (12 : Int32)) * (16 : Int32))) := sz_nL (dqn_61 v) (by decide) (zl_27_61 v)
theorem zi_63 (v : Nat → Int32) (k i : Nat) : dp_I (dq_63 v) k i = sF_3 v k i := zi_62 v k i
theorem zj_63 (v : Nat → Int32) (k i : Nat) : dp_J (dq_63 v) k i = 0 := zj_62 v k i
theorem zr_63 (v : Nat → Int32) (i : Nat) : dp_R (dq_63 v) 59 i = none := sz_rR (by decide) (zr_62 v) i
theorem zl_25_63 (v : Nat → Int32) : dp_len (dq_63 v) 25 = (Int32.toNatClampNeg (dq_h (v 0) (12 : Int32))) := zl_25_62 v
theorem zl_26_63 (v : Nat → Int32) : dp_len (dq_63 v) 26 = (Int32.toNatClampNeg (dq_h (v 0) (12 : Int32))) := zl_26_62 v
theorem zl_27_63 (v : Nat → Int32) : dp_len (dq_63 v) 27 = (Int32.toNatClampNeg ((dq_h (v 0) (12 : Int32)) * (16 : Int32))) := zl_27_62 v
theorem zi_64 (v : Nat → Int32) (k i : Nat) : dp_I (dq_64 v) k i = sF_3 v k i := sz_n (dqn_63 v) (zi_63 v) (fun _ => rfl) k i
theorem zj_64 (v : Nat → Int32) (k i : Nat) : dp_J (dq_64 v) k i = 0 := sz_nJ (zj_63 v) k i
theorem zr_64 (v : Nat → Int32) (i : Nat) : dp_R (dq_64 v) 59 i = none := sz_nR (zr_63 v) i
theorem zl_25_64 (v : Nat → Int32) : dp_len (dq_64 v) 25 = (Int32.toNatClampNeg (dq_h (v 0) (12 : Int32))) := sz_nL (dqn_63 v) (by decide) (zl_25_63 v)
theorem zl_26_64 (v : Nat → Int32) : dp_len (dq_64 v) 26 = (Int32.toNatClampNeg (dq_h (v 0) (12 : Int32))) := sz_nL (dqn_63 v) (by decide) (zl_26_63 v)
theorem zl_27_64 (v : Nat → Int32) : dp_len (dq_64 v) 27 = (Int32.toNatClampNeg ((dq_h (v 0) (12 : Int32)) * (16 : Int32))) := sz_nL (dqn_63 v) (by decide) (zl_27_63 v)
theorem zi_65 (v : Nat → Int32) (k i : Nat) : dp_I (dq_65 v) k i = sF_3 v k i := zi_64 v k i
theorem zj_65 (v : Nat → Int32) (k i : Nat) : dp_J (dq_65 v) k i = 0 := zj_64 v k i
theorem zr_65 (v : Nat → Int32) (i : Nat) : dp_R (dq_65 v) 59 i = none := sz_rR (by decide) (zr_64 v) i
theorem zl_25_65 (v : Nat → Int32) : dp_len (dq_65 v) 25 = (Int32.toNatClampNeg (dq_h (v 0) (12 : Int32))) := zl_25_64 v
theorem zl_26_65 (v : Nat → Int32) : dp_len (dq_65 v) 26 = (Int32.toNatClampNeg (dq_h (v 0) (12 : Int32))) := zl_26_64 v
theorem zl_27_65 (v : Nat → Int32) : dp_len (dq_65 v) 27 = (Int32.toNatClampNeg ((dq_h (v 0) (12 : Int32)) * (16 : Int32))) := zl_27_64 v
theorem zi_66 (v : Nat → Int32) (k i : Nat) : dp_I (dq_66 v) k i = sF_3 v k i := sz_n (dqn_65 v) (zi_65 v) (fun _ => rfl) k i
theorem zj_66 (v : Nat → Int32) (k i : Nat) : dp_J (dq_66 v) k i = 0 := sz_nJ (zj_65 v) k i
theorem zr_66 (v : Nat → Int32) (i : Nat) : dp_R (dq_66 v) 59 i = none := sz_nR (zr_65 v) i
theorem zl_25_66 (v : Nat → Int32) : dp_len (dq_66 v) 25 = (Int32.toNatClampNeg (dq_h (v 0) (12 : Int32))) := sz_nL (dqn_65 v) (by decide) (zl_25_65 v)
theorem zl_26_66 (v : Nat → Int32) : dp_len (dq_66 v) 26 = (Int32.toNatClampNeg (dq_h (v 0) (12 : Int32))) := sz_nL (dqn_65 v) (by decide) (zl_26_65 v)
theorem zl_27_66 (v : Nat → Int32) : dp_len (dq_66 v) 27 = (Int32.toNatClampNeg ((dq_h (v 0) (12 : Int32)) * (16 : Int32))) := sz_nL (dqn_65 v) (by decide) (zl_27_65 v)
theorem zi_67 (v : Nat → Int32) (k i : Nat) : dp_I (dq_67 v) k i = sF_3 v k i := zi_66 v k i
theorem zj_67 (v : Nat → Int32) (k i : Nat) : dp_J (dq_67 v) k i = 0 := zj_66 v k i
theorem zr_67 (v : Nat → Int32) (i : Nat) : dp_R (dq_67 v) 59 i = none := sz_rR (by decide) (zr_66 v) i
theorem zl_25_67 (v : Nat → Int32) : dp_len (dq_67 v) 25 = (Int32.toNatClampNeg (dq_h (v 0) (12 : Int32))) := zl_25_66 v
theorem zl_26_67 (v : Nat → Int32) : dp_len (dq_67 v) 26 = (Int32.toNatClampNeg (dq_h (v 0) (12 : Int32))) := zl_26_66 v
theorem zl_27_67 (v : Nat → Int32) : dp_len (dq_67 v) 27 = (Int32.toNatClampNeg ((dq_h (v 0) (12 : Int32)) * (16 : Int32))) := zl_27_66 v
theorem zi_68 (v : Nat → Int32) (k i : Nat) : dp_I (dq_68 v) k i = sF_3 v k i := zi_67 v k i
theorem zj_68 (v : Nat → Int32) (k i : Nat) : dp_J (dq_68 v) k i = 0 := zj_67 v k i
theorem zr_68 (v : Nat → Int32) (i : Nat) : dp_R (dq_68 v) 59 i = none := sz_rR (by decide) (zr_67 v) i
theorem zl_25_68 (v : Nat → Int32) : dp_len (dq_68 v) 25 = (Int32.toNatClampNeg (dq_h (v 0) (12 : Int32))) := zl_25_67 v
theorem zl_26_68 (v : Nat → Int32) : dp_len (dq_68 v) 26 = (Int32.toNatClampNeg (dq_h (v 0) (12 : Int32))) := zl_26_67 v
theorem zl_27_68 (v : Nat → Int32) : dp_len (dq_68 v) 27 = (Int32.toNatClampNeg ((dq_h (v 0) (12 : Int32)) * (16 : Int32))) := zl_27_67 v
def sF_4 (v : Nat → Int32) (k i : Nat) : Int32 := if k = 28 ∧ i = 1 then (dq_h (v 2) (20 : Int32)) else sF_3 v k i
theorem zi_69 (v : Nat → Int32) (k i : Nat) : dp_I (dq_69 v) k i = sF_4 v k i := sz_i (zi_68 v) k i
theorem zj_69 (v : Nat → Int32) (k i : Nat) : dp_J (dq_69 v) k i = 0 := zj_68 v k i
theorem zr_69 (v : Nat → Int32) (i : Nat) : dp_R (dq_69 v) 59 i = none := zr_68 v i
theorem zl_25_69 (v : Nat → Int32) : dp_len (dq_69 v) 25 = (Int32.toNatClampNeg (dq_h (v 0) (12 : Int32))) := zl_25_68 v
theorem zl_26_69 (v : Nat → Int32) : dp_len (dq_69 v) 26 = (Int32.toNatClampNeg (dq_h (v 0) (12 : Int32))) := zl_26_68 v
theorem zl_27_69 (v : Nat → Int32) : dp_len (dq_69 v) 27 = (Int32.toNatClampNeg ((dq_h (v 0) (12 : Int32)) * (16 : Int32))) := zl_27_68 v
def sF_5 (v : Nat → Int32) (k i : Nat) : Int32 := if k = 28 ∧ i = 2 then (dq_h (v 3) (8 : Int32)) else sF_4 v k i
theorem zi_70 (v : Nat → Int32) (k i : Nat) : dp_I (dq_70 v) k i = sF_5 v k i := sz_i (zi_69 v) k i
theorem zj_70 (v : Nat → Int32) (k i : Nat) : dp_J (dq_70 v) k i = 0 := zj_69 v k i
theorem zr_70 (v : Nat → Int32) (i : Nat) : dp_R (dq_70 v) 59 i = none := zr_69 v i
theorem zl_25_70 (v : Nat → Int32) : dp_len (dq_70 v) 25 = (Int32.toNatClampNeg (dq_h (v 0) (12 : Int32))) := zl_25_69 v
theorem zl_26_70 (v : Nat → Int32) : dp_len (dq_70 v) 26 = (Int32.toNatClampNeg (dq_h (v 0) (12 : Int32))) := zl_26_69 v
theorem zl_27_70 (v : Nat → Int32) : dp_len (dq_70 v) 27 = (Int32.toNatClampNeg ((dq_h (v 0) (12 : Int32)) * (16 : Int32))) := zl_27_69 v
def sF_6 (v : Nat → Int32) (k i : Nat) : Int32 := if k = 28 ∧ i = 3 then (dq_h (v 4) (400 : Int32)) else sF_5 v k i
theorem zi_71 (v : Nat → Int32) (k i : Nat) : dp_I (dq_71 v) k i = sF_6 v k i := sz_i (zi_70 v) k i
theorem zj_71 (v : Nat → Int32) (k i : Nat) : dp_J (dq_71 v) k i = 0 := zj_70 v k i
theorem zr_71 (v : Nat → Int32) (i : Nat) : dp_R (dq_71 v) 59 i = none := zr_70 v i
theorem zl_25_71 (v : Nat → Int32) : dp_len (dq_71 v) 25 = (Int32.toNatClampNeg (dq_h (v 0) (12 : Int32))) := zl_25_70 v
theorem zl_26_71 (v : Nat → Int32) : dp_len (dq_71 v) 26 = (Int32.toNatClampNeg (dq_h (v 0) (12 : Int32))) := zl_26_70 v
theorem zl_27_71 (v : Nat → Int32) : dp_len (dq_71 v) 27 = (Int32.toNatClampNeg ((dq_h (v 0) (12 : Int32)) * (16 : Int32))) := zl_27_70 v
theorem zi_72 (v : Nat → Int32) (k i : Nat) : dp_I (dq_72 v) k i = sF_6 v k i := sz_n (dqn_71 v) (zi_71 v) (fun _ => rfl) k i
theorem zj_72 (v : Nat → Int32) (k i : Nat) : dp_J (dq_72 v) k i = 0 := sz_nJ (zj_71 v) k i
theorem zr_72 (v : Nat → Int32) (i : Nat) : dp_R (dq_72 v) 59 i = none := sz_nR (zr_71 v) i
theorem zl_25_72 (v : Nat → Int32) : dp_len (dq_72 v) 25 = (Int32.toNatClampNeg (dq_h (v 0) (12 : Int32))) := sz_nL (dqn_71 v) (by decide) (zl_25_71 v)
theorem zl_26_72 (v : Nat → Int32) : dp_len (dq_72 v) 26 = (Int32.toNatClampNeg (dq_h (v 0) (12 : Int32))) := sz_nL (dqn_71 v) (by decide) (zl_26_71 v)
theorem zl_27_72 (v : Nat → Int32) : dp_len (dq_72 v) 27 = (Int32.toNatClampNeg ((dq_h (v 0) (12 : Int32)) * (16 : Int32))) := sz_nL (dqn_71 v) (by decide) (zl_27_71 v)
theorem zl_33_72 (v : Nat → Int32) : dp_len (dq_72 v) 33 = (Int32.toNatClampNeg (dq_h (v 2) (20 : Int32))) := sz_oL (dqn_71 v)
theorem zi_73 (v : Nat → Int32) (k i : Nat) : dp_I (dq_73 v) k i = sF_6 v k i := zi_72 v k i
theorem zj_73 (v : Nat → Int32) (k i : Nat) : dp_J (dq_73 v) k i = 0 := zj_72 v k i
theorem zr_73 (v : Nat → Int32) (i : Nat) : dp_R (dq_73 v) 59 i = none := sz_rR (by decide) (zr_72 v) i
theorem zl_25_73 (v : Nat → Int32) : dp_len (dq_73 v) 25 = (Int32.toNatClampNeg (dq_h (v 0) (12 : Int32))) := zl_25_72 v
theorem zl_26_73 (v : Nat → Int32) : dp_len (dq_73 v) 26 = (Int32.toNatClampNeg (dq_h (v 0) (12 : Int32))) := zl_26_72 v
theorem zl_27_73 (v : Nat → Int32) : dp_len (dq_73 v) 27 = (Int32.toNatClampNeg ((dq_h (v 0) (12 : Int32)) * (16 : Int32))) := zl_27_72 v
theorem zl_33_73 (v : Nat → Int32) : dp_len (dq_73 v) 33 = (Int32.toNatClampNeg (dq_h (v 2) (20 : Int32))) := zl_33_72 v
theorem zi_74 (v : Nat → Int32) (k i : Nat) : dp_I (dq_74 v) k i = sF_6 v k i := sz_n (dqn_73 v) (zi_73 v) (fun _ => rfl) k i
theorem zj_74 (v : Nat → Int32) (k i : Nat) : dp_J (dq_74 v) k i = 0 := sz_nJ (zj_73 v) k i
theorem zr_74 (v : Nat → Int32) (i : Nat) : dp_R (dq_74 v) 59 i = none := sz_nR (zr_73 v) i
theorem zl_25_74 (v : Nat → Int32) : dp_len (dq_74 v) 25 = (Int32.toNatClampNeg (dq_h (v 0) (12 : Int32))) := sz_nL (dqn_73 v) (by decide) (zl_25_73 v)
theorem zl_26_74 (v : Nat → Int32) : dp_len (dq_74 v) 26 = (Int32.toNatClampNeg (dq_h (v 0) (12 : Int32))) := sz_nL (dqn_73 v) (by decide) (zl_26_73 v)
theorem zl_27_74 (v : Nat → Int32) : dp_len (dq_74 v) 27 = (Int32.toNatClampNeg ((dq_h (v 0) (12 : Int32)) * (16 : Int32))) := sz_nL (dqn_73 v) (by decide) (zl_27_73 v)
theorem zl_33_74 (v : Nat → Int32) : dp_len (dq_74 v) 33 = (Int32.toNatClampNeg (dq_h (v 2) (20 : Int32))) := sz_nL (dqn_73 v) (by decide) (zl_33_73 v)
theorem zl_34_74 (v : Nat → Int32) : dp_len (dq_74 v) 34 = (Int32.toNatClampNeg (dq_h (v 2) (20 : Int32))) := sz_oL (dqn_73 v)
theorem zi_75 (v : Nat → Int32) (k i : Nat) : dp_I (dq_75 v) k i = sF_6 v k i := zi_74 v k i
theorem zj_75 (v : Nat → Int32) (k i : Nat) : dp_J (dq_75 v) k i = 0 := zj_74 v k i
theorem zr_75 (v : Nat → Int32) (i : Nat) : dp_R (dq_75 v) 59 i = none := sz_rR (by decide) (zr_74 v) i
theorem zl_25_75 (v : Nat → Int32) : dp_len (dq_75 v) 25 = (Int32.toNatClampNeg (dq_h (v 0) (12 : Int32))) := zl_25_74 v
theorem zl_26_75 (v : Nat → Int32) : dp_len (dq_75 v) 26 = (Int32.toNatClampNeg (dq_h (v 0) (12 : Int32))) := zl_26_74 v
theorem zl_27_75 (v : Nat → Int32) : dp_len (dq_75 v) 27 = (Int32.toNatClampNeg ((dq_h (v 0) (12 : Int32)) * (16 : Int32))) := zl_27_74 v
theorem zl_33_75 (v : Nat → Int32) : dp_len (dq_75 v) 33 = (Int32.toNatClampNeg (dq_h (v 2) (20 : Int32))) := zl_33_74 v
theorem zl_34_75 (v : Nat → Int32) : dp_len (dq_75 v) 34 = (Int32.toNatClampNeg (dq_h (v 2) (20 : Int32))) := zl_34_74 v
theorem zi_76 (v : Nat → Int32) (k i : Nat) : dp_I (dq_76 v) k i = sF_6 v k i := sz_n (dqn_75 v) (zi_75 v) (fun _ => rfl) k i
theorem zj_76 (v : Nat → Int32) (k i : Nat) : dp_J (dq_76 v) k i = 0 := sz_nJ (zj_75 v) k i
theorem zr_76 (v : Nat → Int32) (i : Nat) : dp_R (dq_76 v) 59 i = none := sz_nR (zr_75 v) i
theorem zl_25_76 (v : Nat → Int32) : dp_len (dq_76 v) 25 = (Int32.toNatClampNeg (dq_h (v 0) (12 : Int32))) := sz_nL (dqn_75 v) (by decide) (zl_25_75 v)
theorem zl_26_76 (v : Nat → Int32) : dp_len (dq_76 v) 26 = (Int32.toNatClampNeg (dq_h (v 0) (12 : Int32))) := sz_nL (dqn_75 v) (by decide) (zl_26_75 v)
theorem zl_27_76 (v : Nat → Int32) : dp_len (dq_76 v) 27 = (Int32.toNatClampNeg ((dq_h (v 0) (12 : Int32)) * (16 : Int32))) := sz_nL (dqn_75 v) (by decide) (zl_27_75 v)
theorem zl_33_76 (v : Nat → Int32) : dp_len (dq_76 v) 33 = (Int32.toNatClampNeg (dq_h (v 2) (20 : Int32))) := sz_nL (dqn_75 v) (by decide) (zl_33_75 v)
theorem zl_34_76 (v : Nat → Int32) : dp_len (dq_76 v) 34 = (Int32.toNatClampNeg (dq_h (v 2) (20 : Int32))) := sz_nL (dqn_75 v) (by decide) (zl_34_75 v)
theorem zl_35_76 (v : Nat → Int32) : dp_len (dq_76 v) 35 = (Int32.toNatClampNeg (dq_h (v 2) (20 : Int32))) := sz_oL (dqn_75 v)
theorem zi_77 (v : Nat → Int32) (k i : Nat) : dp_I (dq_77 v) k i = sF_6 v k i := zi_76 v k i
theorem zj_77 (v : Nat → Int32) (k i : Nat) : dp_J (dq_77 v) k i = 0 := zj_76 v k i
theorem zr_77 (v : Nat → Int32) (i : Nat) : dp_R (dq_77 v) 59 i = none := sz_rR (by decide) (zr_76 v) i
theorem zl_25_77 (v : Nat → Int32) : dp_len (dq_77 v) 25 = (Int32.toNatClampNeg (dq_h (v 0) (12 : Int32))) := zl_25_76 v
theorem zl_26_77 (v : Nat → Int32) : dp_len (dq_77 v) 26 = (Int32.toNatClampNeg (dq_h (v 0) (12 : Int32))) := zl_26_76 v
theorem zl_27_77 (v : Nat → Int32) : dp_len (dq_77 v) 27 = (Int32.toNatClampNeg ((dq_h (v 0) (12 : Int32)) * (16 : Int32))) := zl_27_76 v
theorem zl_33_77 (v : Nat → Int32) : dp_len (dq_77 v) 33 = (Int32.toNatClampNeg (dq_h (v 2) (20 : Int32))) := zl_33_76 v
theorem zl_34_77 (v : Nat → Int32) : dp_len (dq_77 v) 34 = (Int32.toNatClampNeg (dq_h (v 2) (20 : Int32))) := zl_34_76 v
theorem zl_35_77 (v : Nat → Int32) : dp_len (dq_77 v) 35 = (Int32.toNatClampNeg (dq_h (v 2) (20 : Int32))) := zl_35_76 v
theorem zi_78 (v : Nat → Int32) (k i : Nat) : dp_I (dq_78 v) k i = sF_6 v k i := sz_n (dqn_77 v) (zi_77 v) (fun _ => rfl) k i
theorem zj_78 (v : Nat → Int32) (k i : Nat) : dp_J (dq_78 v) k i = 0 := sz_nJ (zj_77 v) k i
theorem zr_78 (v : Nat → Int32) (i : Nat) : dp_R (dq_78 v) 59 i = none := sz_nR (zr_77 v) i
theorem zl_25_78 (v : Nat → Int32) : dp_len (dq_78 v) 25 = (Int32.toNatClampNeg (dq_h (v 0) (12 : Int32))) := sz_nL (dqn_77 v) (by decide) (zl_25_77 v)
theorem zl_26_78 (v : Nat → Int32) : dp_len (dq_78 v) 26 = (Int32.toNatClampNeg (dq_h (v 0) (12 : Int32))) := sz_nL (dqn_77 v) (by decide) (zl_26_77 v)
theorem zl_27_78 (v : Nat → Int32) : dp_len (dq_78 v) 27 = (Int32.toNatClampNeg ((dq_h (v 0) (12 : Int32)) * (16 : Int32))) := sz_nL (dqn_77 v) (by decide) (zl_27_77 v)
theorem zl_33_78 (v : Nat → Int32) : dp_len (dq_78 v) 33 = (Int32.toNatClampNeg (dq_h (v 2) (20 : Int32))) := sz_nL (dqn_77 v) (by decide) (zl_33_77 v)
theorem zl_34_78 (v : Nat → Int32) : dp_len (dq_78 v) 34 = (Int32.toNatClampNeg (dq_h (v 2) (20 : Int32))) := sz_nL (dqn_77 v) (by decide) (zl_34_77 v)
theorem zl_35_78 (v : Nat → Int32) : dp_len (dq_78 v) 35 = (Int32.toNatClampNeg (dq_h (v 2) (20 : Int32))) := sz_nL (dqn_77 v) (by decide) (zl_35_77 v)
theorem zl_36_78 (v : Nat → Int32) : dp_len (dq_78 v) 36 = (Int32.toNatClampNeg ((dq_h (v 2) (20 : Int32)) * (dq_h (v 3) (8 : Int32)))) := sz_oL (dqn_77 v)
theorem zi_79 (v : Nat → Int32) (k i : Nat) : dp_I (dq_79 v) k i = sF_6 v k i := zi_78 v k i
theorem zj_79 (v : Nat → Int32) (k i : Nat) : dp_J (dq_79 v) k i = 0 := zj_78 v k i
theorem zr_79 (v : Nat → Int32) (i : Nat) : dp_R (dq_79 v) 59 i = none := sz_rR (by decide) (zr_78 v) i
theorem zl_25_79 (v : Nat → Int32) : dp_len (dq_79 v) 25 = (Int32.toNatClampNeg (dq_h (v 0) (12 : Int32))) := zl_25_78 v
theorem zl_26_79 (v : Nat → Int32) : dp_len (dq_79 v) 26 = (Int32.toNatClampNeg (dq_h (v 0) (12 : Int32))) := zl_26_78 v
theorem zl_27_79 (v : Nat → Int32) : dp_len (dq_79 v) 27 = (Int32.toNatClampNeg ((dq_h (v 0) (12 : Int32)) * (16 : Int32))) := zl_27_78 v
theorem zl_33_79 (v : Nat → Int32) : dp_len (dq_79 v) 33 = (Int32.toNatClampNeg (dq_h (v 2) (20 : Int32))) := zl_33_78 v
theorem zl_34_79 (v : Nat → Int32) : dp_len (dq_79 v) 34 = (Int32.toNatClampNeg (dq_h (v 2) (20 : Int32))) := zl_34_78 v
theorem zl_35_79 (v : Nat → Int32) : dp_len (dq_79 v) 35 = (Int32.toNatClampNeg (dq_h (v 2) (20 : Int32))) := zl_35_78 v
theorem zl_36_79 (v : Nat → Int32) : dp_len (dq_79 v) 36 = (Int32.toNatClampNeg ((dq_h (v 2) (20 : Int32)) * (dq_h (v 3) (8 : Int32)))) := zl_36_78 v
def sF_7 (v : Nat → Int32) (k i : Nat) : Int32 := if k = 29 ∧ i < 100 then (-1 : Int32) else sF_6 v k i
theorem zi_80 (v : Nat → Int32) (k i : Nat) : dp_I (dq_80 v) k i = sF_7 v k i := sz_f (zi_79 v) k i
theorem zj_80 (v : Nat → Int32) (k i : Nat) : dp_J (dq_80 v) k i = 0 := zj_79 v k i
theorem zr_80 (v : Nat → Int32) (i : Nat) : dp_R (dq_80 v) 59 i = none := zr_79 v i
theorem zl_25_80 (v : Nat → Int32) : dp_len (dq_80 v) 25 = (Int32.toNatClampNeg (dq_h (v 0) (12 : Int32))) := zl_25_79 v
theorem zl_26_80 (v : Nat → Int32) : dp_len (dq_80 v) 26 = (Int32.toNatClampNeg (dq_h (v 0) (12 : Int32))) := zl_26_79 v
theorem zl_27_80 (v : Nat → Int32) : dp_len (dq_80 v) 27 = (Int32.toNatClampNeg ((dq_h (v 0) (12 : Int32)) * (16 : Int32))) := zl_27_79 v
theorem zl_33_80 (v : Nat → Int32) : dp_len (dq_80 v) 33 = (Int32.toNatClampNeg (dq_h (v 2) (20 : Int32))) := zl_33_79 v
theorem zl_34_80 (v : Nat → Int32) : dp_len (dq_80 v) 34 = (Int32.toNatClampNeg (dq_h (v 2) (20 : Int32))) := zl_34_79 v
theorem zl_35_80 (v : Nat → Int32) : dp_len (dq_80 v) 35 = (Int32.toNatClampNeg (dq_h (v 2) (20 : Int32))) := zl_35_79 v
theorem zl_36_80 (v : Nat → Int32) : dp_len (dq_80 v) 36 = (Int32.toNatClampNeg ((dq_h (v 2) (20 : Int32)) * (dq_h (v 3) (8 : Int32)))) := zl_36_79 v
def sF_8 (v : Nat → Int32) (k i : Nat) : Int32 := if k = 30 ∧ i < 100 then (-1 : Int32) else sF_7 v k i
theorem zi_81 (v : Nat → Int32) (k i : Nat) : dp_I (dq_81 v) k i = sF_8 v k i := sz_f (zi_80 v) k i
theorem zj_81 (v : Nat → Int32) (k i : Nat) : dp_J (dq_81 v) k i = 0 := zj_80 v k i
theorem zr_81 (v : Nat → Int32) (i : Nat) : dp_R (dq_81 v) 59 i = none := zr_80 v i
theorem zl_25_81 (v : Nat → Int32) : dp_len (dq_81 v) 25 = (Int32.toNatClampNeg (dq_h (v 0) (12 : Int32))) := zl_25_80 v
theorem zl_26_81 (v : Nat → Int32) : dp_len (dq_81 v) 26 = (Int32.toNatClampNeg (dq_h (v 0) (12 : Int32))) := zl_26_80 v
theorem zl_27_81 (v : Nat → Int32) : dp_len (dq_81 v) 27 = (Int32.toNatClampNeg ((dq_h (v 0) (12 : Int32)) * (16 : Int32))) := zl_27_80 v
theorem zl_33_81 (v : Nat → Int32) : dp_len (dq_81 v) 33 = (Int32.toNatClampNeg (dq_h (v 2) (20 : Int32))) := zl_33_80 v
theorem zl_34_81 (v : Nat → Int32) : dp_len (dq_81 v) 34 = (Int32.toNatClampNeg (dq_h (v 2) (20 : Int32))) := zl_34_80 v
theorem zl_35_81 (v : Nat → Int32) : dp_len (dq_81 v) 35 = (Int32.toNatClampNeg (dq_h (v 2) (20 : Int32))) := zl_35_80 v
theorem zl_36_81 (v : Nat → Int32) : dp_len (dq_81 v) 36 = (Int32.toNatClampNeg ((dq_h (v 2) (20 : Int32)) * (dq_h (v 3) (8 : Int32)))) := zl_36_80 v
theorem zi_82 (v : Nat → Int32) (k i : Nat) : dp_I (dq_82 v) k i = sF_8 v k i := zi_81 v k i
theorem zj_82 (v : Nat → Int32) (k i : Nat) : dp_J (dq_82 v) k i = 0 := zj_81 v k i
theorem zr_82 (v : Nat → Int32) (i : Nat) : dp_R (dq_82 v) 59 i = none := sz_rR (by decide) (zr_81 v) i
theorem zl_25_82 (v : Nat → Int32) : dp_len (dq_82 v) 25 = (Int32.toNatClampNeg (dq_h (v 0) (12 : Int32))) := zl_25_81 v
theorem zl_26_82 (v : Nat → Int32) : dp_len (dq_82 v) 26 = (Int32.toNatClampNeg (dq_h (v 0) (12 : Int32))) := zl_26_81 v
theorem zl_27_82 (v : Nat → Int32) : dp_len (dq_82 v) 27 = (Int32.toNatClampNeg ((dq_h (v 0) (12 : Int32)) * (16 : Int32))) := zl_27_81 v
theorem zl_33_82 (v : Nat → Int32) : dp_len (dq_82 v) 33 = (Int32.toNatClampNeg (dq_h (v 2) (20 : Int32))) := zl_33_81 v
theorem zl_34_82 (v : Nat → Int32) : dp_len (dq_82 v) 34 = (Int32.toNatClampNeg (dq_h (v 2) (20 : Int32))) := zl_34_81 v
theorem zl_35_82 (v : Nat → Int32) : dp_len (dq_82 v) 35 = (Int32.toNatClampNeg (dq_h (v 2) (20 : Int32))) := zl_35_81 v
theorem zl_36_82 (v : Nat → Int32) : dp_len (dq_82 v) 36 = (Int32.toNatClampNeg ((dq_h (v 2) (20 : Int32)) * (dq_h (v 3) (8 : Int32)))) := zl_36_81 v
theorem zi_83 (v : Nat → Int32) (k i : Nat) : dp_I (dq_83 v) k i = sF_8 v k i := sz_n (dqn_82 v) (zi_82 v) (fun _ => rfl) k i
theorem zj_83 (v : Nat → Int32) (k i : Nat) : dp_J (dq_83 v) k i = 0 := sz_nJ (zj_82 v) k i
theorem zr_83 (v : Nat → Int32) (i : Nat) : dp_R (dq_83 v) 59 i = none := sz_nR (zr_82 v) i
theorem zl_25_83 (v : Nat → Int32) : dp_len (dq_83 v) 25 = (Int32.toNatClampNeg (dq_h (v 0) (12 : Int32))) := sz_nL (dqn_82 v) (by decide) (zl_25_82 v)
theorem zl_26_83 (v : Nat → Int32) : dp_len (dq_83 v) 26 = (Int32.toNatClampNeg (dq_h (v 0) (12 : Int32))) := sz_nL (dqn_82 v) (by decide) (zl_26_82 v)
theorem zl_27_83 (v : Nat → Int32) : dp_len (dq_83 v) 27 = (Int32.toNatClampNeg ((dq_h (v 0) (12 : Int32)) * (16 : Int32))) := sz_nL (dqn_82 v) (by decide) (zl_27_82 v)
theorem zl_33_83 (v : Nat → Int32) : dp_len (dq_83 v) 33 = (Int32.toNatClampNeg (dq_h (v 2) (20 : Int32))) := sz_nL (dqn_82 v) (by decide) (zl_33_82 v)
theorem zl_34_83 (v : Nat → Int32) : dp_len (dq_83 v) 34 = (Int32.toNatClampNeg (dq_h (v 2) (20 : Int32))) := sz_nL (dqn_82 v) (by decide) (zl_34_82 v)
theorem zl_35_83 (v : Nat → Int32) : dp_len (dq_83 v) 35 = (Int32.toNatClampNeg (dq_h (v 2) (20 : Int32))) := sz_nL (dqn_82 v) (by decide) (zl_35_82 v)
theorem zl_36_83 (v : Nat → Int32) : dp_len (dq_83 v) 36 = (Int32.toNatClampNeg ((dq_h (v 2) (20 : Int32)) * (dq_h (v 3) (8 : Int32)))) := sz_nL (dqn_82 v) (by decide) (zl_36_82 v)
theorem zi_84 (v : Nat → Int32) (k i : Nat) : dp_I (dq_84 v) k i = sF_8 v k i := sz_n (dqn_83 v) (zi_83 v) (fun _ => rfl) k i
theorem zj_84 (v : Nat → Int32) (k i : Nat) : dp_J (dq_84 v) k i = 0 := sz_nJ (zj_83 v) k i
theorem zr_84 (v : Nat → Int32) (i : Nat) : dp_R (dq_84 v) 59 i = none := sz_nR (zr_83 v) i
theorem zl_25_84 (v : Nat → Int32) : dp_len (dq_84 v) 25 = (Int32.toNatClampNeg (dq_h (v 0) (12 : Int32))) := sz_nL (dqn_83 v) (by decide) (zl_25_83 v)
theorem zl_26_84 (v : Nat → Int32) : dp_len (dq_84 v) 26 = (Int32.toNatClampNeg (dq_h (v 0) (12 : Int32))) := sz_nL (dqn_83 v) (by decide) (zl_26_83 v)
theorem zl_27_84 (v : Nat → Int32) : dp_len (dq_84 v) 27 = (Int32.toNatClampNeg ((dq_h (v 0) (12 : Int32)) * (16 : Int32))) := sz_nL (dqn_83 v) (by decide) (zl_27_83 v)
theorem zl_33_84 (v : Nat → Int32) : dp_len (dq_84 v) 33 = (Int32.toNatClampNeg (dq_h (v 2) (20 : Int32))) := sz_nL (dqn_83 v) (by decide) (zl_33_83 v)
theorem zl_34_84 (v : Nat → Int32) : dp_len (dq_84 v) 34 = (Int32.toNatClampNeg (dq_h (v 2) (20 : Int32))) := sz_nL (dqn_83 v) (by decide) (zl_34_83 v)
theorem zl_35_84 (v : Nat → Int32) : dp_len (dq_84 v) 35 = (Int32.toNatClampNeg (dq_h (v 2) (20 : Int32))) := sz_nL (dqn_83 v) (by decide) (zl_35_83 v)
theorem zl_36_84 (v : Nat → Int32) : dp_len (dq_84 v) 36 = (Int32.toNatClampNeg ((dq_h (v 2) (20 : Int32)) * (dq_h (v 3) (8 : Int32)))) := sz_nL (dqn_83 v) (by decide) (zl_36_83 v)
theorem zi_85 (v : Nat → Int32) (k i : Nat) : dp_I (dq_85 v) k i = sF_8 v k i := zi_84 v k i
theorem zj_85 (v : Nat → Int32) (k i : Nat) : dp_J (dq_85 v) k i = 0 := zj_84 v k i
theorem zr_85 (v : Nat → Int32) (i : Nat) : dp_R (dq_85 v) 59 i = none := sz_rR (by decide) (zr_84 v) i
theorem zl_25_85 (v : Nat → Int32) : dp_len (dq_85 v) 25 = (Int32.toNatClampNeg (dq_h (v 0) (12 : Int32))) := zl_25_84 v
theorem zl_26_85 (v : Nat → Int32) : dp_len (dq_85 v) 26 = (Int32.toNatClampNeg (dq_h (v 0) (12 : Int32))) := zl_26_84 v
theorem zl_27_85 (v : Nat → Int32) : dp_len (dq_85 v) 27 = (Int32.toNatClampNeg ((dq_h (v 0) (12 : Int32)) * (16 : Int32))) := zl_27_84 v
theorem zl_33_85 (v : Nat → Int32) : dp_len (dq_85 v) 33 = (Int32.toNatClampNeg (dq_h (v 2) (20 : Int32))) := zl_33_84 v
theorem zl_34_85 (v : Nat → Int32) : dp_len (dq_85 v) 34 = (Int32.toNatClampNeg (dq_h (v 2) (20 : Int32))) := zl_34_84 v
theorem zl_35_85 (v : Nat → Int32) : dp_len (dq_85 v) 35 = (Int32.toNatClampNeg (dq_h (v 2) (20 : Int32))) := zl_35_84 v
theorem zl_36_85 (v : Nat → Int32) : dp_len (dq_85 v) 36 = (Int32.toNatClampNeg ((dq_h (v 2) (20 : Int32)) * (dq_h (v 3) (8 : Int32)))) := zl_36_84 v
theorem zi_86 (v : Nat → Int32) (k i : Nat) : dp_I (dq_86 v) k i = sF_8 v k i := sz_n (dqn_85 v) (zi_85 v) (fun _ => rfl) k i
theorem zj_86 (v : Nat → Int32) (k i : Nat) : dp_J (dq_86 v) k i = 0 := sz_nJ (zj_85 v) k i
theorem zr_86 (v : Nat → Int32) (i : Nat) : dp_R (dq_86 v) 59 i = none := sz_nR (zr_85 v) i
theorem zl_25_86 (v : Nat → Int32) : dp_len (dq_86 v) 25 = (Int32.toNatClampNeg (dq_h (v 0) (12 : Int32))) := sz_nL (dqn_85 v) (by decide) (zl_25_85 v)
theorem zl_26_86 (v : Nat → Int32) : dp_len (dq_86 v) 26 = (Int32.toNatClampNeg (dq_h (v 0) (12 : Int32))) := sz_nL (dqn_85 v) (by decide) (zl_26_85 v)
theorem zl_27_86 (v : Nat → Int32) : dp_len (dq_86 v) 27 = (Int32.toNatClampNeg ((dq_h (v 0) (12 : Int32)) * (16 : Int32))) := sz_nL (dqn_85 v) (by decide) (zl_27_85 v)
theorem zl_33_86 (v : Nat → Int32) : dp_len (dq_86 v) 33 = (Int32.toNatClampNeg (dq_h (v 2) (20 : Int32))) := sz_nL (dqn_85 v) (by decide) (zl_33_85 v)
theorem zl_34_86 (v : Nat → Int32) : dp_len (dq_86 v) 34 = (Int32.toNatClampNeg (dq_h (v 2) (20 : Int32))) := sz_nL (dqn_85 v) (by decide) (zl_34_85 v)
theorem zl_35_86 (v : Nat → Int32) : dp_len (dq_86 v) 35 = (Int32.toNatClampNeg (dq_h (v 2) (20 : Int32))) := sz_nL (dqn_85 v) (by decide) (zl_35_85 v)
theorem zl_36_86 (v : Nat → Int32) : dp_len (dq_86 v) 36 = (Int32.toNatClampNeg ((dq_h (v 2) (20 : Int32)) * (dq_h (v 3) (8 : Int32)))) := sz_nL (dqn_85 v) (by decide) (zl_36_85 v)
theorem zi_87 (v : Nat → Int32) (k i : Nat) : dp_I (dq_87 v) k i = sF_8 v k i := zi_86 v k i
theorem zj_87 (v : Nat → Int32) (k i : Nat) : dp_J (dq_87 v) k i = 0 := zj_86 v k i
theorem zr_87 (v : Nat → Int32) (i : Nat) : dp_R (dq_87 v) 59 i = none := sz_rR (by decide) (zr_86 v) i
theorem zl_25_87 (v : Nat → Int32) : dp_len (dq_87 v) 25 = (Int32.toNatClampNeg (dq_h (v 0) (12 : Int32))) := zl_25_86 v
theorem zl_26_87 (v : Nat → Int32) : dp_len (dq_87 v) 26 = (Int32.toNatClampNeg (dq_h (v 0) (12 : Int32))) := zl_26_86 v
theorem zl_27_87 (v : Nat → Int32) : dp_len (dq_87 v) 27 = (Int32.toNatClampNeg ((dq_h (v 0) (12 : Int32)) * (16 : Int32))) := zl_27_86 v
theorem zl_33_87 (v : Nat → Int32) : dp_len (dq_87 v) 33 = (Int32.toNatClampNeg (dq_h (v 2) (20 : Int32))) := zl_33_86 v
theorem zl_34_87 (v : Nat → Int32) : dp_len (dq_87 v) 34 = (Int32.toNatClampNeg (dq_h (v 2) (20 : Int32))) := zl_34_86 v
theorem zl_35_87 (v : Nat → Int32) : dp_len (dq_87 v) 35 = (Int32.toNatClampNeg (dq_h (v 2) (20 : Int32))) := zl_35_86 v
theorem zl_36_87 (v : Nat → Int32) : dp_len (dq_87 v) 36 = (Int32.toNatClampNeg ((dq_h (v 2) (20 : Int32)) * (dq_h (v 3) (8 : Int32)))) := zl_36_86 v
theorem zi_88 (v : Nat → Int32) (k i : Nat) : dp_I (dq_88 v) k i = sF_8 v k i := sz_n (dqn_87 v) (zi_87 v) (fun _ => rfl) k i
theorem zj_88 (v : Nat → Int32) (k i : Nat) : dp_J (dq_88 v) k i = 0 := sz_nJ (zj_87 v) k i
theorem zr_88 (v : Nat → Int32) (i : Nat) : dp_R (dq_88 v) 59 i = none := sz_nR (zr_87 v) i
theorem zl_25_88 (v : Nat → Int32) : dp_len (dq_88 v) 25 = (Int32.toNatClampNeg (dq_h (v 0) (12 : Int32))) := sz_nL (dqn_87 v) (by decide) (zl_25_87 v)
theorem zl_26_88 (v : Nat → Int32) : dp_len (dq_88 v) 26 = (Int32.toNatClampNeg (dq_h (v 0) (12 : Int32))) := sz_nL (dqn_87 v) (by decide) (zl_26_87 v)
theorem zl_27_88 (v : Nat → Int32) : dp_len (dq_88 v) 27 = (Int32.toNatClampNeg ((dq_h (v 0) (12 : Int32)) * (16 : Int32))) := sz_nL (dqn_87 v) (by decide) (zl_27_87 v)
theorem zl_33_88 (v : Nat → Int32) : dp_len (dq_88 v) 33 = (Int32.toNatClampNeg (dq_h (v 2) (20 : Int32))) := sz_nL (dqn_87 v) (by decide) (zl_33_87 v)
theorem zl_34_88 (v : Nat → Int32) : dp_len (dq_88 v) 34 = (Int32.toNatClampNeg (dq_h (v 2) (20 : Int32))) := sz_nL (dqn_87 v) (by decide) (zl_34_87 v)
theorem zl_35_88 (v : Nat → Int32) : dp_len (dq_88 v) 35 = (Int32.toNatClampNeg (dq_h (v 2) (20 : Int32))) := sz_nL (dqn_87 v) (by decide) (zl_35_87 v)
theorem zl_36_88 (v : Nat → Int32) : dp_len (dq_88 v) 36 = (Int32.toNatClampNeg ((dq_h (v 2) (20 : Int32)) * (dq_h (v 3) (8 : Int32)))) := sz_nL (dqn_87 v) (by decide) (zl_36_87 v)
theorem zi_89 (v : Nat → Int32) (k i : Nat) : dp_I (dq_89 v) k i = sF_8 v k i := zi_88 v k i
theorem zj_89 (v : Nat → Int32) (k i : Nat) : dp_J (dq_89 v) k i = 0 := zj_88 v k i
theorem zr_89 (v : Nat → Int32) (i : Nat) : dp_R (dq_89 v) 59 i = none := sz_rR (by decide) (zr_88 v) i
theorem zl_25_89 (v : Nat → Int32) : dp_len (dq_89 v) 25 = (Int32.toNatClampNeg (dq_h (v 0) (12 : Int32))) := zl_25_88 v
theorem zl_26_89 (v : Nat → Int32) : dp_len (dq_89 v) 26 = (Int32.toNatClampNeg (dq_h (v 0) (12 : Int32))) := zl_26_88 v
theorem zl_27_89 (v : Nat → Int32) : dp_len (dq_89 v) 27 = (Int32.toNatClampNeg ((dq_h (v 0) (12 : Int32)) * (16 : Int32))) := zl_27_88 v
theorem zl_33_89 (v : Nat → Int32) : dp_len (dq_89 v) 33 = (Int32.toNatClampNeg (dq_h (v 2) (20 : Int32))) := zl_33_88 v
theorem zl_34_89 (v : Nat → Int32) : dp_len (dq_89 v) 34 = (Int32.toNatClampNeg (dq_h (v 2) (20 : Int32))) := zl_34_88 v
theorem zl_35_89 (v : Nat → Int32) : dp_len (dq_89 v) 35 = (Int32.toNatClampNeg (dq_h (v 2) (20 : Int32))) := zl_35_88 v
theorem zl_36_89 (v : Nat → Int32) : dp_len (dq_89 v) 36 = (Int32.toNatClampNeg ((dq_h (v 2) (20 : Int32)) * (dq_h (v 3) (8 : Int32)))) := zl_36_88 v
theorem zi_90 (v : Nat → Int32) (k i : Nat) : dp_I (dq_90 v) k i = sF_8 v k i := sz_n (dqn_89 v) (zi_89 v) (fun _ => rfl) k i
theorem zj_90 (v : Nat → Int32) (k i : Nat) : dp_J (dq_90 v) k i = 0 := sz_nJ (zj_89 v) k i
theorem zr_90 (v : Nat → Int32) (i : Nat) : dp_R (dq_90 v) 59 i = none := sz_nR (zr_89 v) i
theorem zl_25_90 (v : Nat → Int32) : dp_len (dq_90 v) 25 = (Int32.toNatClampNeg (dq_h (v 0) (12 : Int32))) := sz_nL (dqn_89 v) (by decide) (zl_25_89 v)
theorem zl_26_90 (v : Nat → Int32) : dp_len (dq_90 v) 26 = (Int32.toNatClampNeg (dq_h (v 0) (12 : Int32))) := sz_nL (dqn_89 v) (by decide) (zl_26_89 v)
theorem zl_27_90 (v : Nat → Int32) : dp_len (dq_90 v) 27 = (Int32.toNatClampNeg ((dq_h (v 0) (12 : Int32)) * (16 : Int32))) := sz_nL (dqn_89 v) (by decide) (zl_27_89 v)
theorem zl_33_90 (v : Nat → Int32) : dp_len (dq_90 v) 33 = (Int32.toNatClampNeg (dq_h (v 2) (20 : Int32))) := sz_nL (dqn_89 v) (by decide) (zl_33_89 v)
theorem zl_34_90 (v : Nat → Int32) : dp_len (dq_90 v) 34 = (Int32.toNatClampNeg (dq_h (v 2) (20 : Int32))) := sz_nL (dqn_89 v) (by decide) (zl_34_89 v)
theorem zl_35_90 (v : Nat → Int32) : dp_len (dq_90 v) 35 = (Int32.toNatClampNeg (dq_h (v 2) (20 : Int32))) := sz_nL (dqn_89 v) (by decide) (zl_35_89 v)
theorem zl_36_90 (v : Nat → Int32) : dp_len (dq_90 v) 36 = (Int32.toNatClampNeg ((dq_h (v 2) (20 : Int32)) * (dq_h (v 3) (8 : Int32)))) := sz_nL (dqn_89 v) (by decide) (zl_36_89 v)
theorem zi_91 (v : Nat → Int32) (k i : Nat) : dp_I (dq_91 v) k i = sF_8 v k i := zi_90 v k i
theorem zj_91 (v : Nat → Int32) (k i : Nat) : dp_J (dq_91 v) k i = 0 := zj_90 v k i
theorem zr_91 (v : Nat → Int32) (i : Nat) : dp_R (dq_91 v) 59 i = none := sz_rR (by decide) (zr_90 v) i
theorem zl_25_91 (v : Nat → Int32) : dp_len (dq_91 v) 25 = (Int32.toNatClampNeg (dq_h (v 0) (12 : Int32))) := zl_25_90 v
theorem zl_26_91 (v : Nat → Int32) : dp_len (dq_91 v) 26 = (Int32.toNatClampNeg (dq_h (v 0) (12 : Int32))) := zl_26_90 v
theorem zl_27_91 (v : Nat → Int32) : dp_len (dq_91 v) 27 = (Int32.toNatClampNeg ((dq_h (v 0) (12 : Int32)) * (16 : Int32))) := zl_27_90 v
theorem zl_33_91 (v : Nat → Int32) : dp_len (dq_91 v) 33 = (Int32.toNatClampNeg (dq_h (v 2) (20 : Int32))) := zl_33_90 v
theorem zl_34_91 (v : Nat → Int32) : dp_len (dq_91 v) 34 = (Int32.toNatClampNeg (dq_h (v 2) (20 : Int32))) := zl_34_90 v
theorem zl_35_91 (v : Nat → Int32) : dp_len (dq_91 v) 35 = (Int32.toNatClampNeg (dq_h (v 2) (20 : Int32))) := zl_35_90 v
theorem zl_36_91 (v : Nat → Int32) : dp_len (dq_91 v) 36 = (Int32.toNatClampNeg ((dq_h (v 2) (20 : Int32)) * (dq_h (v 3) (8 : Int32)))) := zl_36_90 v
theorem zi_92 (v : Nat → Int32) (k i : Nat) : dp_I (dq_92 v) k i = sF_8 v k i := sz_n (dqn_91 v) (zi_91 v) (fun _ => rfl) k i
theorem zj_92 (v : Nat → Int32) (k i : Nat) : dp_J (dq_92 v) k i = 0 := sz_nJ (zj_91 v) k i
theorem zr_92 (v : Nat → Int32) (i : Nat) : dp_R (dq_92 v) 59 i = none := sz_nR (zr_91 v) i
theorem zl_25_92 (v : Nat → Int32) : dp_len (dq_92 v) 25 = (Int32.toNatClampNeg (dq_h (v 0) (12 : Int32))) := sz_nL (dqn_91 v) (by decide) (zl_25_91 v)
theorem zl_26_92 (v : Nat → Int32) : dp_len (dq_92 v) 26 = (Int32.toNatClampNeg (dq_h (v 0) (12 : Int32))) := sz_nL (dqn_91 v) (by decide) (zl_26_91 v)
theorem zl_27_92 (v : Nat → Int32) : dp_len (dq_92 v) 27 = (Int32.toNatClampNeg ((dq_h (v 0) (12 : Int32)) * (16 : Int32))) := sz_nL (dqn_91 v) (by decide) (zl_27_91 v)
theorem zl_33_92 (v : Nat → Int32) : dp_len (dq_92 v) 33 = (Int32.toNatClampNeg (dq_h (v 2) (20 : Int32))) := sz_nL (dqn_91 v) (by decide) (zl_33_91 v)
theorem zl_34_92 (v : Nat → Int32) : dp_len (dq_92 v) 34 = (Int32.toNatClampNeg (dq_h (v 2) (20 : Int32))) := sz_nL (dqn_91 v) (by decide) (zl_34_91 v)
theorem zl_35_92 (v : Nat → Int32) : dp_len (dq_92 v) 35 = (Int32.toNatClampNeg (dq_h (v 2) (20 : Int32))) := sz_nL (dqn_91 v) (by decide) (zl_35_91 v)
theorem zl_36_92 (v : Nat → Int32) : dp_len (dq_92 v) 36 = (Int32.toNatClampNeg ((dq_h (v 2) (20 : Int32)) * (dq_h (v 3) (8 : Int32)))) := sz_nL (dqn_91 v) (by decide) (zl_36_91 v)
theorem zi_93 (v : Nat → Int32) (k i : Nat) : dp_I (dq_93 v) k i = sF_8 v k i := zi_92 v k i
theorem zj_93 (v : Nat → Int32) (k i : Nat) : dp_J (dq_93 v) k i = 0 := zj_92 v k i
theorem zr_93 (v : Nat → Int32) (i : Nat) : dp_R (dq_93 v) 59 i = none := sz_rR (by decide) (zr_92 v) i
theorem zl_25_93 (v : Nat → Int32) : dp_len (dq_93 v) 25 = (Int32.toNatClampNeg (dq_h (v 0) (12 : Int32))) := zl_25_92 v
theorem zl_26_93 (v : Nat → Int32) : dp_len (dq_93 v) 26 = (Int32.toNatClampNeg (dq_h (v 0) (12 : Int32))) := zl_26_92 v
theorem zl_27_93 (v : Nat → Int32) : dp_len (dq_93 v) 27 = (Int32.toNatClampNeg ((dq_h (v 0) (12 : Int32)) * (16 : Int32))) := zl_27_92 v
theorem zl_33_93 (v : Nat → Int32) : dp_len (dq_93 v) 33 = (Int32.toNatClampNeg (dq_h (v 2) (20 : Int32))) := zl_33_92 v
theorem zl_34_93 (v : Nat → Int32) : dp_len (dq_93 v) 34 = (Int32.toNatClampNeg (dq_h (v 2) (20 : Int32))) := zl_34_92 v
theorem zl_35_93 (v : Nat → Int32) : dp_len (dq_93 v) 35 = (Int32.toNatClampNeg (dq_h (v 2) (20 : Int32))) := zl_35_92 v
theorem zl_36_93 (v : Nat → Int32) : dp_len (dq_93 v) 36 = (Int32.toNatClampNeg ((dq_h (v 2) (20 : Int32)) * (dq_h (v 3) (8 : Int32)))) := zl_36_92 v
theorem zi_94 (v : Nat → Int32) (k i : Nat) : dp_I (dq_94 v) k i = sF_8 v k i := sz_n (dqn_93 v) (zi_93 v) (fun _ => rfl) k i
theorem zj_94 (v : Nat → Int32) (k i : Nat) : dp_J (dq_94 v) k i = 0 := sz_nJ (zj_93 v) k i
theorem zr_94 (v : Nat → Int32) (i : Nat) : dp_R (dq_94 v) 59 i = none := sz_nR (zr_93 v) i
theorem zl_25_94 (v : Nat → Int32) : dp_len (dq_94 v) 25 = (Int32.toNatClampNeg (dq_h (v 0) (12 : Int32))) := sz_nL (dqn_93 v) (by decide) (zl_25_93 v)
theorem zl_26_94 (v : Nat → Int32) : dp_len (dq_94 v) 26 = (Int32.toNatClampNeg (dq_h (v 0) (12 : Int32))) := sz_nL (dqn_93 v) (by decide) (zl_26_93 v)
theorem zl_27_94 (v : Nat → Int32) : dp_len (dq_94 v) 27 = (Int32.toNatClampNeg ((dq_h (v 0) (12 : Int32)) * (16 : Int32))) := sz_nL (dqn_93 v) (by decide) (zl_27_93 v)
theorem zl_33_94 (v : Nat → Int32) : dp_len (dq_94 v) 33 = (Int32.toNatClampNeg (dq_h (v 2) (20 : Int32))) := sz_nL (dqn_93 v) (by decide) (zl_33_93 v)
theorem zl_34_94 (v : Nat → Int32) : dp_len (dq_94 v) 34 = (Int32.toNatClampNeg (dq_h (v 2) (20 : Int32))) := sz_nL (dqn_93 v) (by decide) (zl_34_93 v)
theorem zl_35_94 (v : Nat → Int32) : dp_len (dq_94 v) 35 = (Int32.toNatClampNeg (dq_h (v 2) (20 : Int32))) := sz_nL (dqn_93 v) (by decide) (zl_35_93 v)
theorem zl_36_94 (v : Nat → Int32) : dp_len (dq_94 v) 36 = (Int32.toNatClampNeg ((dq_h (v 2) (20 : Int32)) * (dq_h (v 3) (8 : Int32)))) := sz_nL (dqn_93 v) (by decide) (zl_36_93 v)
theorem zi_95 (v : Nat → Int32) (k i : Nat) : dp_I (dq_95 v) k i = sF_8 v k i := zi_94 v k i
theorem zj_95 (v : Nat → Int32) (k i : Nat) : dp_J (dq_95 v) k i = 0 := zj_94 v k i
theorem zr_95 (v : Nat → Int32) (i : Nat) : dp_R (dq_95 v) 59 i = none := sz_rR (by decide) (zr_94 v) i
theorem zl_25_95 (v : Nat → Int32) : dp_len (dq_95 v) 25 = (Int32.toNatClampNeg (dq_h (v 0) (12 : Int32))) := zl_25_94 v
theorem zl_26_95 (v : Nat → Int32) : dp_len (dq_95 v) 26 = (Int32.toNatClampNeg (dq_h (v 0) (12 : Int32))) := zl_26_94 v
theorem zl_27_95 (v : Nat → Int32) : dp_len (dq_95 v) 27 = (Int32.toNatClampNeg ((dq_h (v 0) (12 : Int32)) * (16 : Int32))) := zl_27_94 v
theorem zl_33_95 (v : Nat → Int32) : dp_len (dq_95 v) 33 = (Int32.toNatClampNeg (dq_h (v 2) (20 : Int32))) := zl_33_94 v
theorem zl_34_95 (v : Nat → Int32) : dp_len (dq_95 v) 34 = (Int32.toNatClampNeg (dq_h (v 2) (20 : Int32))) := zl_34_94 v
theorem zl_35_95 (v : Nat → Int32) : dp_len (dq_95 v) 35 = (Int32.toNatClampNeg (dq_h (v 2) (20 : Int32))) := zl_35_94 v
theorem zl_36_95 (v : Nat → Int32) : dp_len (dq_95 v) 36 = (Int32.toNatClampNeg ((dq_h (v 2) (20 : Int32)) * (dq_h (v 3) (8 : Int32)))) := zl_36_94 v
theorem zi_96 (v : Nat → Int32) (k i : Nat) : dp_I (dq_96 v) k i = sF_8 v k i := sz_n (dqn_95 v) (zi_95 v) (fun _ => rfl) k i
theorem zj_96 (v : Nat → Int32) (k i : Nat) : dp_J (dq_96 v) k i = 0 := sz_nJ (zj_95 v) k i
theorem zr_96 (v : Nat → Int32) (i : Nat) : dp_R (dq_96 v) 59 i = none := sz_nR (zr_95 v) i
theorem zl_25_96 (v : Nat → Int32) : dp_len (dq_96 v) 25 = (Int32.toNatClampNeg (dq_h (v 0) (12 : Int32))) := sz_nL (dqn_95 v) (by decide) (zl_25_95 v)
theorem zl_26_96 (v : Nat → Int32) : dp_len (dq_96 v) 26 = (Int32.toNatClampNeg (dq_h (v 0) (12 : Int32))) := sz_nL (dqn_95 v) (by decide) (zl_26_95 v)
theorem zl_27_96 (v : Nat → Int32) : dp_len (dq_96 v) 27 = (Int32.toNatClampNeg ((dq_h (v 0) (12 : Int32)) * (16 : Int32))) := sz_nL (dqn_95 v) (by decide) (zl_27_95 v)
theorem zl_33_96 (v : Nat → Int32) : dp_len (dq_96 v) 33 = (Int32.toNatClampNeg (dq_h (v 2) (20 : Int32))) := sz_nL (dqn_95 v) (by decide) (zl_33_95 v)
theorem zl_34_96 (v : Nat → Int32) : dp_len (dq_96 v) 34 = (Int32.toNatClampNeg (dq_h (v 2) (20 : Int32))) := sz_nL (dqn_95 v) (by decide) (zl_34_95 v)
theorem zl_35_96 (v : Nat → Int32) : dp_len (dq_96 v) 35 = (Int32.toNatClampNeg (dq_h (v 2) (20 : Int32))) := sz_nL (dqn_95 v) (by decide) (zl_35_95 v)
theorem zl_36_96 (v : Nat → Int32) : dp_len (dq_96 v) 36 = (Int32.toNatClampNeg ((dq_h (v 2) (20 : Int32)) * (dq_h (v 3) (8 : Int32)))) := sz_nL (dqn_95 v) (by decide) (zl_36_95 v)
theorem zi_97 (v : Nat → Int32) (k i : Nat) : dp_I (dq_97 v) k i = sF_8 v k i := zi_96 v k i
theorem zj_97 (v : Nat → Int32) (k i : Nat) : dp_J (dq_97 v) k i = 0 := zj_96 v k i
theorem zr_97 (v : Nat → Int32) (i : Nat) : dp_R (dq_97 v) 59 i = none := sz_rR (by decide) (zr_96 v) i
theorem zl_25_97 (v : Nat → Int32) : dp_len (dq_97 v) 25 = (Int32.toNatClampNeg (dq_h (v 0) (12 : Int32))) := zl_25_96 v
theorem zl_26_97 (v : Nat → Int32) : dp_len (dq_97 v) 26 = (Int32.toNatClampNeg (dq_h (v 0) (12 : Int32))) := zl_26_96 v
theorem zl_27_97 (v : Nat → Int32) : dp_len (dq_97 v) 27 = (Int32.toNatClampNeg ((dq_h (v 0) (12 : Int32)) * (16 : Int32))) := zl_27_96 v
theorem zl_33_97 (v : Nat → Int32) : dp_len (dq_97 v) 33 = (Int32.toNatClampNeg (dq_h (v 2) (20 : Int32))) := zl_33_96 v
theorem zl_34_97 (v : Nat → Int32) : dp_len (dq_97 v) 34 = (Int32.toNatClampNeg (dq_h (v 2) (20 : Int32))) := zl_34_96 v
theorem zl_35_97 (v : Nat → Int32) : dp_len (dq_97 v) 35 = (Int32.toNatClampNeg (dq_h (v 2) (20 : Int32))) := zl_35_96 v
theorem zl_36_97 (v : Nat → Int32) : dp_len (dq_97 v) 36 = (Int32.toNatClampNeg ((dq_h (v 2) (20 : Int32)) * (dq_h (v 3) (8 : Int32)))) := zl_36_96 v
theorem zi_98 (v : Nat → Int32) (k i : Nat) : dp_I (dq_98 v) k i = sF_8 v k i := sz_n (dqn_97 v) (zi_97 v) (fun _ => rfl) k i
theorem zj_98 (v : Nat → Int32) (k i : Nat) : dp_J (dq_98 v) k i = 0 := sz_nJ (zj_97 v) k i
theorem zr_98 (v : Nat → Int32) (i : Nat) : dp_R (dq_98 v) 59 i = none := sz_nR (zr_97 v) i
theorem zl_25_98 (v : Nat → Int32) : dp_len (dq_98 v) 25 = (Int32.toNatClampNeg (dq_h (v 0) (12 : Int32))) := sz_nL (dqn_97 v) (by decide) (zl_25_97 v)
theorem zl_26_98 (v : Nat → Int32) : dp_len (dq_98 v) 26 = (Int32.toNatClampNeg (dq_h (v 0) (12 : Int32))) := sz_nL (dqn_97 v) (by decide) (zl_26_97 v)
theorem zl_27_98 (v : Nat → Int32) : dp_len (dq_98 v) 27 = (Int32.toNatClampNeg ((dq_h (v 0) (12 : Int32)) * (16 : Int32))) := sz_nL (dqn_97 v) (by decide) (zl_27_97 v)
theorem zl_33_98 (v : Nat → Int32) : dp_len (dq_98 v) 33 = (Int32.toNatClampNeg (dq_h (v 2) (20 : Int32))) := sz_nL (dqn_97 v) (by decide) (zl_33_97 v)
theorem zl_34_98 (v : Nat → Int32) : dp_len (dq_98 v) 34 = (Int32.toNatClampNeg (dq_h (v 2) (20 : Int32))) := sz_nL (dqn_97 v) (by decide) (zl_34_97 v)
theorem zl_35_98 (v : Nat → Int32) : dp_len (dq_98 v) 35 = (Int32.toNatClampNeg (dq_h (v 2) (20 : Int32))) := sz_nL (dqn_97 v) (by decide) (zl_35_97 v)
theorem zl_36_98 (v : Nat → Int32) : dp_len (dq_98 v) 36 = (Int32.toNatClampNeg ((dq_h (v 2) (20 : Int32)) * (dq_h (v 3) (8 : Int32)))) := sz_nL (dqn_97 v) (by decide) (zl_36_97 v)
theorem zi_99 (v : Nat → Int32) (k i : Nat) : dp_I (dq_99 v) k i = sF_8 v k i := zi_98 v k i
theorem zj_99 (v : Nat → Int32) (k i : Nat) : dp_J (dq_99 v) k i = 0 := zj_98 v k i
theorem zr_99 (v : Nat → Int32) (i : Nat) : dp_R (dq_99 v) 59 i = none := sz_rR (by decide) (zr_98 v) i
theorem zl_25_99 (v : Nat → Int32) : dp_len (dq_99 v) 25 = (Int32.toNatClampNeg (dq_h (v 0) (12 : Int32))) := zl_25_98 v
theorem zl_26_99 (v : Nat → Int32) : dp_len (dq_99 v) 26 = (Int32.toNatClampNeg (dq_h (v 0) (12 : Int32))) := zl_26_98 v
theorem zl_27_99 (v : Nat → Int32) : dp_len (dq_99 v) 27 = (Int32.toNatClampNeg ((dq_h (v 0) (12 : Int32)) * (16 : Int32))) := zl_27_98 v
theorem zl_33_99 (v : Nat → Int32) : dp_len (dq_99 v) 33 = (Int32.toNatClampNeg (dq_h (v 2) (20 : Int32))) := zl_33_98 v
theorem zl_34_99 (v : Nat → Int32) : dp_len (dq_99 v) 34 = (Int32.toNatClampNeg (dq_h (v 2) (20 : Int32))) := zl_34_98 v
theorem zl_35_99 (v : Nat → Int32) : dp_len (dq_99 v) 35 = (Int32.toNatClampNeg (dq_h (v 2) (20 : Int32))) := zl_35_98 v
theorem zl_36_99 (v : Nat → Int32) : dp_len (dq_99 v) 36 = (Int32.toNatClampNeg ((dq_h (v 2) (20 : Int32)) * (dq_h (v 3) (8 : Int32)))) := zl_36_98 v
theorem zi_100 (v : Nat → Int32) (k i : Nat) : dp_I (dq_100 v) k i = sF_8 v k i := sz_n (dqn_99 v) (zi_99 v) (fun _ => rfl) k i
theorem zj_100 (v : Nat → Int32) (k i : Nat) : dp_J (dq_100 v) k i = 0 := sz_nJ (zj_99 v) k i
theorem zr_100 (v : Nat → Int32) (i : Nat) : dp_R (dq_100 v) 59 i = none := sz_nR (zr_99 v) i
theorem zl_25_100 (v : Nat → Int32) : dp_len (dq_100 v) 25 = (Int32.toNatClampNeg (dq_h (v 0) (12 : Int32))) := sz_nL (dqn_99 v) (by decide) (zl_25_99 v)
theorem zl_26_100 (v : Nat → Int32) : dp_len (dq_100 v) 26 = (Int32.toNatClampNeg (dq_h (v 0) (12 : Int32))) := sz_nL (dqn_99 v) (by decide) (zl_26_99 v)
theorem zl_27_100 (v : Nat → Int32) : dp_len (dq_100 v) 27 = (Int32.toNatClampNeg ((dq_h (v 0) (12 : Int32)) * (16 : Int32))) := sz_nL (dqn_99 v) (by decide) (zl_27_99 v)
theorem zl_33_100 (v : Nat → Int32) : dp_len (dq_100 v) 33 = (Int32.toNatClampNeg (dq_h (v 2) (20 : Int32))) := sz_nL (dqn_99 v) (by decide) (zl_33_99 v)
theorem zl_34_100 (v : Nat → Int32) : dp_len (dq_100 v) 34 = (Int32.toNatClampNeg (dq_h (v 2) (20 : Int32))) := sz_nL (dqn_99 v) (by decide) (zl_34_99 v)
theorem zl_35_100 (v : Nat → Int32) : dp_len (dq_100 v) 35 = (Int32.toNatClampNeg (dq_h (v 2) (20 : Int32))) := sz_nL (dqn_99 v) (by decide) (zl_35_99 v)
theorem zl_36_100 (v : Nat → Int32) : dp_len (dq_100 v) 36 = (Int32.toNatClampNeg ((dq_h (v 2) (20 : Int32)) * (dq_h (v 3) (8 : Int32)))) := sz_nL (dqn_99 v) (by decide) (zl_36_99 v)
theorem zi_101 (v : Nat → Int32) (k i : Nat) : dp_I (dq_101 v) k i = sF_8 v k i := zi_100 v k i
theorem zj_101 (v : Nat → Int32) (k i : Nat) : dp_J (dq_101 v) k i = 0 := zj_100 v k i
theorem zr_101 (v : Nat → Int32) (i : Nat) : dp_R (dq_101 v) 59 i = none := sz_rR (by decide) (zr_100 v) i
theorem zl_25_101 (v : Nat → Int32) : dp_len (dq_101 v) 25 = (Int32.toNatClampNeg (dq_h (v 0) (12 : Int32))) := zl_25_100 v
theorem zl_26_101 (v : Nat → Int32) : dp_len (dq_101 v) 26 = (Int32.toNatClampNeg (dq_h (v 0) (12 : Int32))) := zl_26_100 v
theorem zl_27_101 (v : Nat → Int32) : dp_len (dq_101 v) 27 = (Int32.toNatClampNeg ((dq_h (v 0) (12 : Int32)) * (16 : Int32))) := zl_27_100 v
theorem zl_33_101 (v : Nat → Int32) : dp_len (dq_101 v) 33 = (Int32.toNatClampNeg (dq_h (v 2) (20 : Int32))) := zl_33_100 v
theorem zl_34_101 (v : Nat → Int32) : dp_len (dq_101 v) 34 = (Int32.toNatClampNeg (dq_h (v 2) (20 : Int32))) := zl_34_100 v
theorem zl_35_101 (v : Nat → Int32) : dp_len (dq_101 v) 35 = (Int32.toNatClampNeg (dq_h (v 2) (20 : Int32))) := zl_35_100 v
theorem zl_36_101 (v : Nat → Int32) : dp_len (dq_101 v) 36 = (Int32.toNatClampNeg ((dq_h (v 2) (20 : Int32)) * (dq_h (v 3) (8 : Int32)))) := zl_36_100 v
theorem zi_102 (v : Nat → Int32) (k i : Nat) : dp_I (dq_102 v) k i = sF_8 v k i := sz_n (dqn_101 v) (zi_101 v) (fun _ => rfl) k i
theorem zj_102 (v : Nat → Int32) (k i : Nat) : dp_J (dq_102 v) k i = 0 := sz_nJ (zj_101 v) k i
theorem zr_102 (v : Nat → Int32) (i : Nat) : dp_R (dq_102 v) 59 i = none := sz_nR (zr_101 v) i
theorem zl_25_102 (v : Nat → Int32) : dp_len (dq_102 v) 25 = (Int32.toNatClampNeg (dq_h (v 0) (12 : Int32))) := sz_nL (dqn_101 v) (by decide) (zl_25_101 v)
theorem zl_26_102 (v : Nat → Int32) : dp_len (dq_102 v) 26 = (Int32.toNatClampNeg (dq_h (v 0) (12 : Int32))) := sz_nL (dqn_101 v) (by decide) (zl_26_101 v)
theorem zl_27_102 (v : Nat → Int32) : dp_len (dq_102 v) 27 = (Int32.toNatClampNeg ((dq_h (v 0) (12 : Int32)) * (16 : Int32))) := sz_nL (dqn_101 v) (by decide) (zl_27_101 v)
theorem zl_33_102 (v : Nat → Int32) : dp_len (dq_102 v) 33 = (Int32.toNatClampNeg (dq_h (v 2) (20 : Int32))) := sz_nL (dqn_101 v) (by decide) (zl_33_101 v)
theorem zl_34_102 (v : Nat → Int32) : dp_len (dq_102 v) 34 = (Int32.toNatClampNeg (dq_h (v 2) (20 : Int32))) := sz_nL (dqn_101 v) (by decide) (zl_34_101 v)
theorem zl_35_102 (v : Nat → Int32) : dp_len (dq_102 v) 35 = (Int32.toNatClampNeg (dq_h (v 2) (20 : Int32))) := sz_nL (dqn_101 v) (by decide) (zl_35_101 v)
theorem zl_36_102 (v : Nat → Int32) : dp_len (dq_102 v) 36 = (Int32.toNatClampNeg ((dq_h (v 2) (20 : Int32)) * (dq_h (v 3) (8 : Int32)))) := sz_nL (dqn_101 v) (by decide) (zl_36_101 v)
theorem zi_103 (v : Nat → Int32) (k i : Nat) : dp_I (dq_103 v) k i = sF_8 v k i := zi_102 v k i
theorem zj_103 (v : Nat → Int32) (k i : Nat) : dp_J (dq_103 v) k i = 0 := zj_102 v k i
theorem zr_103 (v : Nat → Int32) (i : Nat) : dp_R (dq_103 v) 59 i = none := sz_rR (by decide) (zr_102 v) i
theorem zl_25_103 (v : Nat → Int32) : dp_len (dq_103 v) 25 = (Int32.toNatClampNeg (dq_h (v 0) (12 : Int32))) := zl_25_102 v
theorem zl_26_103 (v : Nat → Int32) : dp_len (dq_103 v) 26 = (Int32.toNatClampNeg (dq_h (v 0) (12 : Int32))) := zl_26_102 v
theorem zl_27_103 (v : Nat → Int32) : dp_len (dq_103 v) 27 = (Int32.toNatClampNeg ((dq_h (v 0) (12 : Int32)) * (16 : Int32))) := zl_27_102 v
theorem zl_33_103 (v : Nat → Int32) : dp_len (dq_103 v) 33 = (Int32.toNatClampNeg (dq_h (v 2) (20 : Int32))) := zl_33_102 v
theorem zl_34_103 (v : Nat → Int32) : dp_len (dq_103 v) 34 = (Int32.toNatClampNeg (dq_h (v 2) (20 : Int32))) := zl_34_102 v
theorem zl_35_103 (v : Nat → Int32) : dp_len (dq_103 v) 35 = (Int32.toNatClampNeg (dq_h (v 2) (20 : Int32))) := zl_35_102 v
theorem zl_36_103 (v : Nat → Int32) : dp_len (dq_103 v) 36 = (Int32.toNatClampNeg ((dq_h (v 2) (20 : Int32)) * (dq_h (v 3) (8 : Int32)))) := zl_36_102 v
theorem zi_104 (v : Nat → Int32) (k i : Nat) : dp_I (dq_104 v) k i = sF_8 v k i := sz_n (dqn_103 v) (zi_103 v) (fun _ => rfl) k i
theorem zj_104 (v : Nat → Int32) (k i : Nat) : dp_J (dq_104 v) k i = 0 := sz_nJ (zj_103 v) k i
theorem zr_104 (v : Nat → Int32) (i : Nat) : dp_R (dq_104 v) 59 i = none := sz_nR (zr_103 v) i
theorem zl_25_104 (v : Nat → Int32) : dp_len (dq_104 v) 25 = (Int32.toNatClampNeg (dq_h (v 0) (12 : Int32))) := sz_nL (dqn_103 v) (by decide) (zl_25_103 v)
theorem zl_26_104 (v : Nat → Int32) : dp_len (dq_104 v) 26 = (Int32.toNatClampNeg (dq_h (v 0) (12 : Int32))) := sz_nL (dqn_103 v) (by decide) (zl_26_103 v)
theorem zl_27_104 (v : Nat → Int32) : dp_len (dq_104 v) 27 = (Int32.toNatClampNeg ((dq_h (v 0) (12 : Int32)) * (16 : Int32))) := sz_nL (dqn_103 v) (by decide) (zl_27_103 v)
theorem zl_33_104 (v : Nat → Int32) : dp_len (dq_104 v) 33 = (Int32.toNatClampNeg (dq_h (v 2) (20 : Int32))) := sz_nL (dqn_103 v) (by decide) (zl_33_103 v)
theorem zl_34_104 (v : Nat → Int32) : dp_len (dq_104 v) 34 = (Int32.toNatClampNeg (dq_h (v 2) (20 : Int32))) := sz_nL (dqn_103 v) (by decide) (zl_34_103 v)
theorem zl_35_104 (v : Nat → Int32) : dp_len (dq_104 v) 35 = (Int32.toNatClampNeg (dq_h (v 2) (20 : Int32))) := sz_nL (dqn_103 v) (by decide) (zl_35_103 v)
theorem zl_36_104 (v : Nat → Int32) : dp_len (dq_104 v) 36 = (Int32.toNatClampNeg ((dq_h (v 2) (20 : Int32)) * (dq_h (v 3) (8 : Int32)))) := sz_nL (dqn_103 v) (by decide) (zl_36_103 v)
theorem zi_105 (v : Nat → Int32) (k i : Nat) : dp_I (dq_105 v) k i = sF_8 v k i := zi_104 v k i
theorem zj_105 (v : Nat → Int32) (k i : Nat) : dp_J (dq_105 v) k i = 0 := zj_104 v k i
theorem zr_105 (v : Nat → Int32) (i : Nat) : dp_R (dq_105 v) 59 i = none := sz_rR (by decide) (zr_104 v) i
theorem zl_25_105 (v : Nat → Int32) : dp_len (dq_105 v) 25 = (Int32.toNatClampNeg (dq_h (v 0) (12 : Int32))) := zl_25_104 v
theorem zl_26_105 (v : Nat → Int32) : dp_len (dq_105 v) 26 = (Int32.toNatClampNeg (dq_h (v 0) (12 : Int32))) := zl_26_104 v
theorem zl_27_105 (v : Nat → Int32) : dp_len (dq_105 v) 27 = (Int32.toNatClampNeg ((dq_h (v 0) (12 : Int32)) * (16 : Int32))) := zl_27_104 v
theorem zl_33_105 (v : Nat → Int32) : dp_len (dq_105 v) 33 = (Int32.toNatClampNeg (dq_h (v 2) (20 : Int32))) := zl_33_104 v
theorem zl_34_105 (v : Nat → Int32) : dp_len (dq_105 v) 34 = (Int32.toNatClampNeg (dq_h (v 2) (20 : Int32))) := zl_34_104 v
theorem zl_35_105 (v : Nat → Int32) : dp_len (dq_105 v) 35 = (Int32.toNatClampNeg (dq_h (v 2) (20 : Int32))) := zl_35_104 v
theorem zl_36_105 (v : Nat → Int32) : dp_len (dq_105 v) 36 = (Int32.toNatClampNeg ((dq_h (v 2) (20 : Int32)) * (dq_h (v 3) (8 : Int32)))) := zl_36_104 v
theorem zi_106 (v : Nat → Int32) (k i : Nat) : dp_I (dq_106 v) k i = sF_8 v k i := sz_n (dqn_105 v) (zi_105 v) (fun _ => rfl) k i
theorem zj_106 (v : Nat → Int32) (k i : Nat) : dp_J (dq_106 v) k i = 0 := sz_nJ (zj_105 v) k i
theorem zr_106 (v : Nat → Int32) (i : Nat) : dp_R (dq_106 v) 59 i = none := sz_nR (zr_105 v) i
theorem zl_25_106 (v : Nat → Int32) : dp_len (dq_106 v) 25 = (Int32.toNatClampNeg (dq_h (v 0) (12 : Int32))) := sz_nL (dqn_105 v) (by decide) (zl_25_105 v)
theorem zl_26_106 (v : Nat → Int32) : dp_len (dq_106 v) 26 = (Int32.toNatClampNeg (dq_h (v 0) (12 : Int32))) := sz_nL (dqn_105 v) (by decide) (zl_26_105 v)
theorem zl_27_106 (v : Nat → Int32) : dp_len (dq_106 v) 27 = (Int32.toNatClampNeg ((dq_h (v 0) (12 : Int32)) * (16 : Int32))) := sz_nL (dqn_105 v) (by decide) (zl_27_105 v)
theorem zl_33_106 (v : Nat → Int32) : dp_len (dq_106 v) 33 = (Int32.toNatClampNeg (dq_h (v 2) (20 : Int32))) := sz_nL (dqn_105 v) (by decide) (zl_33_105 v)
theorem zl_34_106 (v : Nat → Int32) : dp_len (dq_106 v) 34 = (Int32.toNatClampNeg (dq_h (v 2) (20 : Int32))) := sz_nL (dqn_105 v) (by decide) (zl_34_105 v)
theorem zl_35_106 (v : Nat → Int32) : dp_len (dq_106 v) 35 = (Int32.toNatClampNeg (dq_h (v 2) (20 : Int32))) := sz_nL (dqn_105 v) (by decide) (zl_35_105 v)
theorem zl_36_106 (v : Nat → Int32) : dp_len (dq_106 v) 36 = (Int32.toNatClampNeg ((dq_h (v 2) (20 : Int32)) * (dq_h (v 3) (8 : Int32)))) := sz_nL (dqn_105 v) (by decide) (zl_36_105 v)
theorem zi_107 (v : Nat → Int32) (k i : Nat) : dp_I (dq_107 v) k i = sF_8 v k i := zi_106 v k i
theorem zj_107 (v : Nat → Int32) (k i : Nat) : dp_J (dq_107 v) k i = 0 := zj_106 v k i
theorem zr_107 (v : Nat → Int32) (i : Nat) : dp_R (dq_107 v) 59 i = none := sz_rR (by decide) (zr_106 v) i
theorem zl_25_107 (v : Nat → Int32) : dp_len (dq_107 v) 25 = (Int32.toNatClampNeg (dq_h (v 0) (12 : Int32))) := zl_25_106 v
theorem zl_26_107 (v : Nat → Int32) : dp_len (dq_107 v) 26 = (Int32.toNatClampNeg (dq_h (v 0) (12 : Int32))) := zl_26_106 v
theorem zl_27_107 (v : Nat → Int32) : dp_len (dq_107 v) 27 = (Int32.toNatClampNeg ((dq_h (v 0) (12 : Int32)) * (16 : Int32))) := zl_27_106 v
theorem zl_33_107 (v : Nat → Int32) : dp_len (dq_107 v) 33 = (Int32.toNatClampNeg (dq_h (v 2) (20 : Int32))) := zl_33_106 v
theorem zl_34_107 (v : Nat → Int32) : dp_len (dq_107 v) 34 = (Int32.toNatClampNeg (dq_h (v 2) (20 : Int32))) := zl_34_106 v
theorem zl_35_107 (v : Nat → Int32) : dp_len (dq_107 v) 35 = (Int32.toNatClampNeg (dq_h (v 2) (20 : Int32))) := zl_35_106 v
theorem zl_36_107 (v : Nat → Int32) : dp_len (dq_107 v) 36 = (Int32.toNatClampNeg ((dq_h (v 2) (20 : Int32)) * (dq_h (v 3) (8 : Int32)))) := zl_36_106 v
theorem zi_108 (v : Nat → Int32) (k i : Nat) : dp_I (dq_108 v) k i = sF_8 v k i := sz_n (dqn_107 v) (zi_107 v) (fun _ => rfl) k i
theorem zj_108 (v : Nat → Int32) (k i : Nat) : dp_J (dq_108 v) k i = 0 := sz_nJ (zj_107 v) k i
theorem zr_108 (v : Nat → Int32) (i : Nat) : dp_R (dq_108 v) 59 i = none := sz_nR (zr_107 v) i
theorem zl_25_108 (v : Nat → Int32) : dp_len (dq_108 v) 25 = (Int32.toNatClampNeg (dq_h (v 0) (12 : Int32))) := sz_nL (dqn_107 v) (by decide) (zl_25_107 v)
theorem zl_26_108 (v : Nat → Int32) : dp_len (dq_108 v) 26 = (Int32.toNatClampNeg (dq_h (v 0) (12 : Int32))) := sz_nL (dqn_107 v) (by decide) (zl_26_107 v)
theorem zl_27_108 (v : Nat → Int32) : dp_len (dq_108 v) 27 = (Int32.toNatClampNeg ((dq_h (v 0) (12 : Int32)) * (16 : Int32))) := sz_nL (dqn_107 v) (by decide) (zl_27_107 v)
theorem zl_33_108 (v : Nat → Int32) : dp_len (dq_108 v) 33 = (Int32.toNatClampNeg (dq_h (v 2) (20 : Int32))) := sz_nL (dqn_107 v) (by decide) (zl_33_107 v)
theorem zl_34_108 (v : Nat → Int32) : dp_len (dq_108 v) 34 = (Int32.toNatClampNeg (dq_h (v 2) (20 : Int32))) := sz_nL (dqn_107 v) (by decide) (zl_34_107 v)
theorem zl_35_108 (v : Nat → Int32) : dp_len (dq_108 v) 35 = (Int32.toNatClampNeg (dq_h (v 2) (20 : Int32))) := sz_nL (dqn_107 v) (by decide) (zl_35_107 v)
theorem zl_36_108 (v : Nat → Int32) : dp_len (dq_108 v) 36 = (Int32.toNatClampNeg ((dq_h (v 2) (20 : Int32)) * (dq_h (v 3) (8 : Int32)))) := sz_nL (dqn_107 v) (by decide) (zl_36_107 v)
theorem zi_109 (v : Nat → Int32) (k i : Nat) : dp_I (dq_109 v) k i = sF_8 v k i := zi_108 v k i
theorem zj_109 (v : Nat → Int32) (k i : Nat) : dp_J (dq_109 v) k i = 0 := zj_108 v k i
theorem zr_109 (v : Nat → Int32) (i : Nat) : dp_R (dq_109 v) 59 i = none := sz_rR (by decide) (zr_108 v) i
theorem zl_25_109 (v : Nat → Int32) : dp_len (dq_109 v) 25 = (Int32.toNatClampNeg (dq_h (v 0) (12 : Int32))) := zl_25_108 v
theorem zl_26_109 (v : Nat → Int32) : dp_len (dq_109 v) 26 = (Int32.toNatClampNeg (dq_h (v 0) (12 : Int32))) := zl_26_108 v
theorem zl_27_109 (v : Nat → Int32) : dp_len (dq_109 v) 27 = (Int32.toNatClampNeg ((dq_h (v 0) (12 : Int32)) * (16 : Int32))) := zl_27_108 v
theorem zl_33_109 (v : Nat → Int32) : dp_len (dq_109 v) 33 = (Int32.toNatClampNeg (dq_h (v 2) (20 : Int32))) := zl_33_108 v
theorem zl_34_109 (v : Nat → Int32) : dp_len (dq_109 v) 34 = (Int32.toNatClampNeg (dq_h (v 2) (20 : Int32))) := zl_34_108 v
theorem zl_35_109 (v : Nat → Int32) : dp_len (dq_109 v) 35 = (Int32.toNatClampNeg (dq_h (v 2) (20 : Int32))) := zl_35_108 v
theorem zl_36_109 (v : Nat → Int32) : dp_len (dq_109 v) 36 = (Int32.toNatClampNeg ((dq_h (v 2) (20 : Int32)) * (dq_h (v 3) (8 : Int32)))) := zl_36_108 v
theorem zi_110 (v : Nat → Int32) (k i : Nat) : dp_I (dq_110 v) k i = sF_8 v k i := zi_109 v k i
theorem zj_110 (v : Nat → Int32) (k i : Nat) : dp_J (dq_110 v) k i = 0 := zj_109 v k i
theorem zr_110 (v : Nat → Int32) (i : Nat) : dp_R (dq_110 v) 59 i = none := sz_rR (by decide) (zr_109 v) i
theorem zl_25_110 (v : Nat → Int32) : dp_len (dq_110 v) 25 = (Int32.toNatClampNeg (dq_h (v 0) (12 : Int32))) := zl_25_109 v
theorem zl_26_110 (v : Nat → Int32) : dp_len (dq_110 v) 26 = (Int32.toNatClampNeg (dq_h (v 0) (12 : Int32))) := zl_26_109 v
theorem zl_27_110 (v : Nat → Int32) : dp_len (dq_110 v) 27 = (Int32.toNatClampNeg ((dq_h (v 0) (12 : Int32)) * (16 : Int32))) := zl_27_109 v
theorem zl_33_110 (v : Nat → Int32) : dp_len (dq_110 v) 33 = (Int32.toNatClampNeg (dq_h (v 2) (20 : Int32))) := zl_33_109 v
theorem zl_34_110 (v : Nat → Int32) : dp_len (dq_110 v) 34 = (Int32.toNatClampNeg (dq_h (v 2) (20 : Int32))) := zl_34_109 v
theorem zl_35_110 (v : Nat → Int32) : dp_len (dq_110 v) 35 = (Int32.toNatClampNeg (dq_h (v 2) (20 : Int32))) := zl_35_109 v
theorem zl_36_110 (v : Nat → Int32) : dp_len (dq_110 v) 36 = (Int32.toNatClampNeg ((dq_h (v 2) (20 : Int32)) * (dq_h (v 3) (8 : Int32)))) := zl_36_109 v
theorem zi_111 (v : Nat → Int32) (k i : Nat) : dp_I (dq_111 v) k i = sF_8 v k i := zi_110 v k i
theorem zj_111 (v : Nat → Int32) (k i : Nat) : dp_J (dq_111 v) k i = 0 := zj_110 v k i
theorem zr_111 (v : Nat → Int32) (i : Nat) : dp_R (dq_111 v) 59 i = none := sz_rR (by decide) (zr_110 v) i
theorem zl_25_111 (v : Nat → Int32) : dp_len (dq_111 v) 25 = (Int32.toNatClampNeg (dq_h (v 0) (12 : Int32))) := zl_25_110 v
theorem zl_26_111 (v : Nat → Int32) : dp_len (dq_111 v) 26 = (Int32.toNatClampNeg (dq_h (v 0) (12 : Int32))) := zl_26_110 v
theorem zl_27_111 (v : Nat → Int32) : dp_len (dq_111 v) 27 = (Int32.toNatClampNeg ((dq_h (v 0) (12 : Int32)) * (16 : Int32))) := zl_27_110 v
theorem zl_33_111 (v : Nat → Int32) : dp_len (dq_111 v) 33 = (Int32.toNatClampNeg (dq_h (v 2) (20 : Int32))) := zl_33_110 v
theorem zl_34_111 (v : Nat → Int32) : dp_len (dq_111 v) 34 = (Int32.toNatClampNeg (dq_h (v 2) (20 : Int32))) := zl_34_110 v
theorem zl_35_111 (v : Nat → Int32) : dp_len (dq_111 v) 35 = (Int32.toNatClampNeg (dq_h (v 2) (20 : Int32))) := zl_35_110 v
theorem zl_36_111 (v : Nat → Int32) : dp_len (dq_111 v) 36 = (Int32.toNatClampNeg ((dq_h (v 2) (20 : Int32)) * (dq_h (v 3) (8 : Int32)))) := zl_36_110 v
def sF_9 (v : Nat → Int32) (k i : Nat) : Int32 := if k = 43 ∧ i < 100 then nI i else sF_8 v k i
theorem zi_112 (v : Nat → Int32) (k i : Nat) : dp_I (dq_112 v) k i = sF_9 v k i := sz_l (zi_111 v) k i
theorem zj_112 (v : Nat → Int32) (k i : Nat) : dp_J (dq_112 v) k i = 0 := zj_111 v k i
theorem zr_112 (v : Nat → Int32) (i : Nat) : dp_R (dq_112 v) 59 i = none := zr_111 v i
theorem zl_25_112 (v : Nat → Int32) : dp_len (dq_112 v) 25 = (Int32.toNatClampNeg (dq_h (v 0) (12 : Int32))) := zl_25_111 v
theorem zl_26_112 (v : Nat → Int32) : dp_len (dq_112 v) 26 = (Int32.toNatClampNeg (dq_h (v 0) (12 : Int32))) := zl_26_111 v
theorem zl_27_112 (v : Nat → Int32) : dp_len (dq_112 v) 27 = (Int32.toNatClampNeg ((dq_h (v 0) (12 : Int32)) * (16 : Int32))) := zl_27_111 v
theorem zl_33_112 (v : Nat → Int32) : dp_len (dq_112 v) 33 = (Int32.toNatClampNeg (dq_h (v 2) (20 : Int32))) := zl_33_111 v
theorem zl_34_112 (v : Nat → Int32) : dp_len (dq_112 v) 34 = (Int32.toNatClampNeg (dq_h (v 2) (20 : Int32))) := zl_34_111 v
theorem zl_35_112 (v : Nat → Int32) : dp_len (dq_112 v) 35 = (Int32.toNatClampNeg (dq_h (v 2) (20 : Int32))) := zl_35_111 v
theorem zl_36_112 (v : Nat → Int32) : dp_len (dq_112 v) 36 = (Int32.toNatClampNeg ((dq_h (v 2) (20 : Int32)) * (dq_h (v 3) (8 : Int32)))) := zl_36_111 v
theorem zi_113 (v : Nat → Int32) (k i : Nat) : dp_I (dq_113 v) k i = sF_9 v k i := zi_112 v k i
theorem zj_113 (v : Nat → Int32) (k i : Nat) : dp_J (dq_113 v) k i = 0 := zj_112 v k i
theorem zr_113 (v : Nat → Int32) (i : Nat) : dp_R (dq_113 v) 59 i = none := sz_rR (by decide) (zr_112 v) i
theorem zl_25_113 (v : Nat → Int32) : dp_len (dq_113 v) 25 = (Int32.toNatClampNeg (dq_h (v 0) (12 : Int32))) := zl_25_112 v
theorem zl_26_113 (v : Nat → Int32) : dp_len (dq_113 v) 26 = (Int32.toNatClampNeg (dq_h (v 0) (12 : Int32))) := zl_26_112 v
theorem zl_27_113 (v : Nat → Int32) : dp_len (dq_113 v) 27 = (Int32.toNatClampNeg ((dq_h (v 0) (12 : Int32)) * (16 : Int32))) := zl_27_112 v
theorem zl_33_113 (v : Nat → Int32) : dp_len (dq_113 v) 33 = (Int32.toNatClampNeg (dq_h (v 2) (20 : Int32))) := zl_33_112 v
theorem zl_34_113 (v : Nat → Int32) : dp_len (dq_113 v) 34 = (Int32.toNatClampNeg (dq_h (v 2) (20 : Int32))) := zl_34_112 v
theorem zl_35_113 (v : Nat → Int32) : dp_len (dq_113 v) 35 = (Int32.toNatClampNeg (dq_h (v 2) (20 : Int32))) := zl_35_112 v
theorem zl_36_113 (v : Nat → Int32) : dp_len (dq_113 v) 36 = (Int32.toNatClampNeg ((dq_h (v 2) (20 : Int32)) * (dq_h (v 3) (8 : Int32)))) := zl_36_112 v
theorem zi_114 (v : Nat → Int32) (k i : Nat) : dp_I (dq_114 v) k i = sF_9 v k i := sz_n (dqn_113 v) (zi_113 v) (fun _ => rfl) k i
theorem zj_114 (v : Nat → Int32) (k i : Nat) : dp_J (dq_114 v) k i = 0 := sz_nJ (zj_113 v) k i
theorem zr_114 (v : Nat → Int32) (i : Nat) : dp_R (dq_114 v) 59 i = none := sz_nR (zr_113 v) i
theorem zl_25_114 (v : Nat → Int32) : dp_len (dq_114 v) 25 = (Int32.toNatClampNeg (dq_h (v 0) (12 : Int32))) := sz_nL (dqn_113 v) (by decide) (zl_25_113 v)
theorem zl_26_114 (v : Nat → Int32) : dp_len (dq_114 v) 26 = (Int32.toNatClampNeg (dq_h (v 0) (12 : Int32))) := sz_nL (dqn_113 v) (by decide) (zl_26_113 v)
theorem zl_27_114 (v : Nat → Int32) : dp_len (dq_114 v) 27 = (Int32.toNatClampNeg ((dq_h (v 0) (12 : Int32)) * (16 : Int32))) := sz_nL (dqn_113 v) (by decide) (zl_27_113 v)
theorem zl_33_114 (v : Nat → Int32) : dp_len (dq_114 v) 33 = (Int32.toNatClampNeg (dq_h (v 2) (20 : Int32))) := sz_nL (dqn_113 v) (by decide) (zl_33_113 v)
theorem zl_34_114 (v : Nat → Int32) : dp_len (dq_114 v) 34 = (Int32.toNatClampNeg (dq_h (v 2) (20 : Int32))) := sz_nL (dqn_113 v) (by decide) (zl_34_113 v)
theorem zl_35_114 (v : Nat → Int32) : dp_len (dq_114 v) 35 = (Int32.toNatClampNeg (dq_h (v 2) (20 : Int32))) := sz_nL (dqn_113 v) (by decide) (zl_35_113 v)
theorem zl_36_114 (v : Nat → Int32) : dp_len (dq_114 v) 36 = (Int32.toNatClampNeg ((dq_h (v 2) (20 : Int32)) * (dq_h (v 3) (8 : Int32)))) := sz_nL (dqn_113 v) (by decide) (zl_36_113 v)
theorem zi_115 (v : Nat → Int32) (k i : Nat) : dp_I (dq_115 v) k i = sF_9 v k i := sz_n (dqn_114 v) (zi_114 v) (fun _ => rfl) k i
theorem zj_115 (v : Nat → Int32) (k i : Nat) : dp_J (dq_115 v) k i = 0 := sz_nJ (zj_114 v) k i
theorem zr_115 (v : Nat → Int32) (i : Nat) : dp_R (dq_115 v) 59 i = none := sz_nR (zr_114 v) i
theorem zl_25_115 (v : Nat → Int32) : dp_len (dq_115 v) 25 = (Int32.toNatClampNeg (dq_h (v 0) (12 : Int32))) := sz_nL (dqn_114 v) (by decide) (zl_25_114 v)
theorem zl_26_115 (v : Nat → Int32) : dp_len (dq_115 v) 26 = (Int32.toNatClampNeg (dq_h (v 0) (12 : Int32))) := sz_nL (dqn_114 v) (by decide) (zl_26_114 v)
theorem zl_27_115 (v : Nat → Int32) : dp_len (dq_115 v) 27 = (Int32.toNatClampNeg ((dq_h (v 0) (12 : Int32)) * (16 : Int32))) := sz_nL (dqn_114 v) (by decide) (zl_27_114 v)
theorem zl_33_115 (v : Nat → Int32) : dp_len (dq_115 v) 33 = (Int32.toNatClampNeg (dq_h (v 2) (20 : Int32))) := sz_nL (dqn_114 v) (by decide) (zl_33_114 v)
theorem zl_34_115 (v : Nat → Int32) : dp_len (dq_115 v) 34 = (Int32.toNatClampNeg (dq_h (v 2) (20 : Int32))) := sz_nL (dqn_114 v) (by decide) (zl_34_114 v)
theorem zl_35_115 (v : Nat → Int32) : dp_len (dq_115 v) 35 = (Int32.toNatClampNeg (dq_h (v 2) (20 : Int32))) := sz_nL (dqn_114 v) (by decide) (zl_35_114 v)
theorem zl_36_115 (v : Nat → Int32) : dp_len (dq_115 v) 36 = (Int32.toNatClampNeg ((dq_h (v 2) (20 : Int32)) * (dq_h (v 3) (8 : Int32)))) := sz_nL (dqn_114 v) (by decide) (zl_36_114 v)
theorem zi_116 (v : Nat → Int32) (k i : Nat) : dp_I (dq_116 v) k i = sF_9 v k i := zi_115 v k i
theorem zj_116 (v : Nat → Int32) (k i : Nat) : dp_J (dq_116 v) k i = 0 := zj_115 v k i
theorem zr_116 (v : Nat → Int32) (i : Nat) : dp_R (dq_116 v) 59 i = none := sz_rR (by decide) (zr_115 v) i
theorem zl_25_116 (v : Nat → Int32) : dp_len (dq_116 v) 25 = (Int32.toNatClampNeg (dq_h (v 0) (12 : Int32))) := zl_25_115 v
theorem zl_26_116 (v : Nat → Int32) : dp_len (dq_116 v) 26 = (Int32.toNatClampNeg (dq_h (v 0) (12 : Int32))) := zl_26_115 v
theorem zl_27_116 (v : Nat → Int32) : dp_len (dq_116 v) 27 = (Int32.toNatClampNeg ((dq_h (v 0) (12 : Int32)) * (16 : Int32))) := zl_27_115 v
theorem zl_33_116 (v : Nat → Int32) : dp_len (dq_116 v) 33 = (Int32.toNatClampNeg (dq_h (v 2) (20 : Int32))) := zl_33_115 v
theorem zl_34_116 (v : Nat → Int32) : dp_len (dq_116 v) 34 = (Int32.toNatClampNeg (dq_h (v 2) (20 : Int32))) := zl_34_115 v
theorem zl_35_116 (v : Nat → Int32) : dp_len (dq_116 v) 35 = (Int32.toNatClampNeg (dq_h (v 2) (20 : Int32))) := zl_35_115 v
theorem zl_36_116 (v : Nat → Int32) : dp_len (dq_116 v) 36 = (Int32.toNatClampNeg ((dq_h (v 2) (20 : Int32)) * (dq_h (v 3) (8 : Int32)))) := zl_36_115 v
theorem zi_117 (v : Nat → Int32) (k i : Nat) : dp_I (dq_117 v) k i = sF_9 v k i := sz_n (dqn_116 v) (zi_116 v) (fun _ => rfl) k i
theorem zj_117 (v : Nat → Int32) (k i : Nat) : dp_J (dq_117 v) k i = 0 := sz_nJ (zj_116 v) k i
theorem zr_117 (v : Nat → Int32) (i : Nat) : dp_R (dq_117 v) 59 i = none := sz_nR (zr_116 v) i
theorem zl_25_117 (v : Nat → Int32) : dp_len (dq_117 v) 25 = (Int32.toNatClampNeg (dq_h (v 0) (12 : Int32))) := sz_nL (dqn_116 v) (by decide) (zl_25_116 v)
theorem zl_26_117 (v : Nat → Int32) : dp_len (dq_117 v) 26 = (Int32.toNatClampNeg (dq_h (v 0) (12 : Int32))) := sz_nL (dqn_116 v) (by decide) (zl_26_116 v)
theorem zl_27_117 (v : Nat → Int32) : dp_len (dq_117 v) 27 = (Int32.toNatClampNeg ((dq_h (v 0) (12 : Int32)) * (16 : Int32))) := sz_nL (dqn_116 v) (by decide) (zl_27_116 v)
theorem zl_33_117 (v : Nat → Int32) : dp_len (dq_117 v) 33 = (Int32.toNatClampNeg (dq_h (v 2) (20 : Int32))) := sz_nL (dqn_116 v) (by decide) (zl_33_116 v)
theorem zl_34_117 (v : Nat → Int32) : dp_len (dq_117 v) 34 = (Int32.toNatClampNeg (dq_h (v 2) (20 : Int32))) := sz_nL (dqn_116 v) (by decide) (zl_34_116 v)
theorem zl_35_117 (v : Nat → Int32) : dp_len (dq_117 v) 35 = (Int32.toNatClampNeg (dq_h (v 2) (20 : Int32))) := sz_nL (dqn_116 v) (by decide) (zl_35_116 v)
theorem zl_36_117 (v : Nat → Int32) : dp_len (dq_117 v) 36 = (Int32.toNatClampNeg ((dq_h (v 2) (20 : Int32)) * (dq_h (v 3) (8 : Int32)))) := sz_nL (dqn_116 v) (by decide) (zl_36_116 v)
theorem zi_118 (v : Nat → Int32) (k i : Nat) : dp_I (dq_118 v) k i = sF_9 v k i := zi_117 v k i
theorem zj_118 (v : Nat → Int32) (k i : Nat) : dp_J (dq_118 v) k i = 0 := zj_117 v k i
theorem zr_118 (v : Nat → Int32) (i : Nat) : dp_R (dq_118 v) 59 i = none := sz_rR (by decide) (zr_117 v) i
theorem zl_25_118 (v : Nat → Int32) : dp_len (dq_118 v) 25 = (Int32.toNatClampNeg (dq_h (v 0) (12 : Int32))) := zl_25_117 v
theorem zl_26_118 (v : Nat → Int32) : dp_len (dq_118 v) 26 = (Int32.toNatClampNeg (dq_h (v 0) (12 : Int32))) := zl_26_117 v
theorem zl_27_118 (v : Nat → Int32) : dp_len (dq_118 v) 27 = (Int32.toNatClampNeg ((dq_h (v 0) (12 : Int32)) * (16 : Int32))) := zl_27_117 v
theorem zl_33_118 (v : Nat → Int32) : dp_len (dq_118 v) 33 = (Int32.toNatClampNeg (dq_h (v 2) (20 : Int32))) := zl_33_117 v
theorem zl_34_118 (v : Nat → Int32) : dp_len (dq_118 v) 34 = (Int32.toNatClampNeg (dq_h (v 2) (20 : Int32))) := zl_34_117 v
theorem zl_35_118 (v : Nat → Int32) : dp_len (dq_118 v) 35 = (Int32.toNatClampNeg (dq_h (v 2) (20 : Int32))) := zl_35_117 v
theorem zl_36_118 (v : Nat → Int32) : dp_len (dq_118 v) 36 = (Int32.toNatClampNeg ((dq_h (v 2) (20 : Int32)) * (dq_h (v 3) (8 : Int32)))) := zl_36_117 v
theorem zi_119 (v : Nat → Int32) (k i : Nat) : dp_I (dq_119 v) k i = sF_9 v k i := sz_n (dqn_118 v) (zi_118 v) (fun _ => rfl) k i
theorem zj_119 (v : Nat → Int32) (k i : Nat) : dp_J (dq_119 v) k i = 0 := sz_nJ (zj_118 v) k i
theorem zr_119 (v : Nat → Int32) (i : Nat) : dp_R (dq_119 v) 59 i = none := sz_nR (zr_118 v) i
theorem zl_25_119 (v : Nat → Int32) : dp_len (dq_119 v) 25 = (Int32.toNatClampNeg (dq_h (v 0) (12 : Int32))) := sz_nL (dqn_118 v) (by decide) (zl_25_118 v)
theorem zl_26_119 (v : Nat → Int32) : dp_len (dq_119 v) 26 = (Int32.toNatClampNeg (dq_h (v 0) (12 : Int32))) := sz_nL (dqn_118 v) (by decide) (zl_26_118 v)
theorem zl_27_119 (v : Nat → Int32) : dp_len (dq_119 v) 27 = (Int32.toNatClampNeg ((dq_h (v 0) (12 : Int32)) * (16 : Int32))) := sz_nL (dqn_118 v) (by decide) (zl_27_118 v)
theorem zl_33_119 (v : Nat → Int32) : dp_len (dq_119 v) 33 = (Int32.toNatClampNeg (dq_h (v 2) (20 : Int32))) := sz_nL (dqn_118 v) (by decide) (zl_33_118 v)
theorem zl_34_119 (v : Nat → Int32) : dp_len (dq_119 v) 34 = (Int32.toNatClampNeg (dq_h (v 2) (20 : Int32))) := sz_nL (dqn_118 v) (by decide) (zl_34_118 v)
theorem zl_35_119 (v : Nat → Int32) : dp_len (dq_119 v) 35 = (Int32.toNatClampNeg (dq_h (v 2) (20 : Int32))) := sz_nL (dqn_118 v) (by decide) (zl_35_118 v)
theorem zl_36_119 (v : Nat → Int32) : dp_len (dq_119 v) 36 = (Int32.toNatClampNeg ((dq_h (v 2) (20 : Int32)) * (dq_h (v 3) (8 : Int32)))) := sz_nL (dqn_118 v) (by decide) (zl_36_118 v)
theorem zi_120 (v : Nat → Int32) (k i : Nat) : dp_I (dq_120 v) k i = sF_9 v k i := zi_119 v k i
theorem zj_120 (v : Nat → Int32) (k i : Nat) : dp_J (dq_120 v) k i = 0 := zj_119 v k i
theorem zr_120 (v : Nat → Int32) (i : Nat) : dp_R (dq_120 v) 59 i = none := sz_rR (by decide) (zr_119 v) i
theorem zl_25_120 (v : Nat → Int32) : dp_len (dq_120 v) 25 = (Int32.toNatClampNeg (dq_h (v 0) (12 : Int32))) := zl_25_119 v
theorem zl_26_120 (v : Nat → Int32) : dp_len (dq_120 v) 26 = (Int32.toNatClampNeg (dq_h (v 0) (12 : Int32))) := zl_26_119 v
theorem zl_27_120 (v : Nat → Int32) : dp_len (dq_120 v) 27 = (Int32.toNatClampNeg ((dq_h (v 0) (12 : Int32)) * (16 : Int32))) := zl_27_119 v
theorem zl_33_120 (v : Nat → Int32) : dp_len (dq_120 v) 33 = (Int32.toNatClampNeg (dq_h (v 2) (20 : Int32))) := zl_33_119 v
theorem zl_34_120 (v : Nat → Int32) : dp_len (dq_120 v) 34 = (Int32.toNatClampNeg (dq_h (v 2) (20 : Int32))) := zl_34_119 v
theorem zl_35_120 (v : Nat → Int32) : dp_len (dq_120 v) 35 = (Int32.toNatClampNeg (dq_h (v 2) (20 : Int32))) := zl_35_119 v
theorem zl_36_120 (v : Nat → Int32) : dp_len (dq_120 v) 36 = (Int32.toNatClampNeg ((dq_h (v 2) (20 : Int32)) * (dq_h (v 3) (8 : Int32)))) := zl_36_119 v
theorem zi_121 (v : Nat → Int32) (k i : Nat) : dp_I (dq_121 v) k i = sF_9 v k i := sz_n (dqn_120 v) (zi_120 v) (fun _ => rfl) k i
theorem zj_121 (v : Nat → Int32) (k i : Nat) : dp_J (dq_121 v) k i = 0 := sz_nJ (zj_120 v) k i
theorem zr_121 (v : Nat → Int32) (i : Nat) : dp_R (dq_121 v) 59 i = none := sz_nR (zr_120 v) i
theorem zl_25_121 (v : Nat → Int32) : dp_len (dq_121 v) 25 = (Int32.toNatClampNeg (dq_h (v 0) (12 : Int32))) := sz_nL (dqn_120 v) (by decide) (zl_25_120 v)
theorem zl_26_121 (v : Nat → Int32) : dp_len (dq_121 v) 26 = (Int32.toNatClampNeg (dq_h (v 0) (12 : Int32))) := sz_nL (dqn_120 v) (by decide) (zl_26_120 v)
theorem zl_27_121 (v : Nat → Int32) : dp_len (dq_121 v) 27 = (Int32.toNatClampNeg ((dq_h (v 0) (12 : Int32)) * (16 : Int32))) := sz_nL (dqn_120 v) (by decide) (zl_27_120 v)
theorem zl_33_121 (v : Nat → Int32) : dp_len (dq_121 v) 33 = (Int32.toNatClampNeg (dq_h (v 2) (20 : Int32))) := sz_nL (dqn_120 v) (by decide) (zl_33_120 v)
theorem zl_34_121 (v : Nat → Int32) : dp_len (dq_121 v) 34 = (Int32.toNatClampNeg (dq_h (v 2) (20 : Int32))) := sz_nL (dqn_120 v) (by decide) (zl_34_120 v)
theorem zl_35_121 (v : Nat → Int32) : dp_len (dq_121 v) 35 = (Int32.toNatClampNeg (dq_h (v 2) (20 : Int32))) := sz_nL (dqn_120 v) (by decide) (zl_35_120 v)
theorem zl_36_121 (v : Nat → Int32) : dp_len (dq_121 v) 36 = (Int32.toNatClampNeg ((dq_h (v 2) (20 : Int32)) * (dq_h (v 3) (8 : Int32)))) := sz_nL (dqn_120 v) (by decide) (zl_36_120 v)
theorem zi_122 (v : Nat → Int32) (k i : Nat) : dp_I (dq_122 v) k i = sF_9 v k i := zi_121 v k i
theorem zj_122 (v : Nat → Int32) (k i : Nat) : dp_J (dq_122 v) k i = 0 := zj_121 v k i
theorem zr_122 (v : Nat → Int32) (i : Nat) : dp_R (dq_122 v) 59 i = none := sz_rR (by decide) (zr_121 v) i
theorem zl_25_122 (v : Nat → Int32) : dp_len (dq_122 v) 25 = (Int32.toNatClampNeg (dq_h (v 0) (12 : Int32))) := zl_25_121 v
theorem zl_26_122 (v : Nat → Int32) : dp_len (dq_122 v) 26 = (Int32.toNatClampNeg (dq_h (v 0) (12 : Int32))) := zl_26_121 v
theorem zl_27_122 (v : Nat → Int32) : dp_len (dq_122 v) 27 = (Int32.toNatClampNeg ((dq_h (v 0) (12 : Int32)) * (16 : Int32))) := zl_27_121 v
theorem zl_33_122 (v : Nat → Int32) : dp_len (dq_122 v) 33 = (Int32.toNatClampNeg (dq_h (v 2) (20 : Int32))) := zl_33_121 v
theorem zl_34_122 (v : Nat → Int32) : dp_len (dq_122 v) 34 = (Int32.toNatClampNeg (dq_h (v 2) (20 : Int32))) := zl_34_121 v
theorem zl_35_122 (v : Nat → Int32) : dp_len (dq_122 v) 35 = (Int32.toNatClampNeg (dq_h (v 2) (20 : Int32))) := zl_35_121 v
theorem zl_36_122 (v : Nat → Int32) : dp_len (dq_122 v) 36 = (Int32.toNatClampNeg ((dq_h (v 2) (20 : Int32)) * (dq_h (v 3) (8 : Int32)))) := zl_36_121 v
theorem zi_123 (v : Nat → Int32) (k i : Nat) : dp_I (dq_123 v) k i = sF_9 v k i := sz_n (dqn_122 v) (zi_122 v) (fun _ => rfl) k i
theorem zj_123 (v : Nat → Int32) (k i : Nat) : dp_J (dq_123 v) k i = 0 := sz_nJ (zj_122 v) k i
theorem zr_123 (v : Nat → Int32) (i : Nat) : dp_R (dq_123 v) 59 i = none := sz_nR (zr_122 v) i
theorem zl_25_123 (v : Nat → Int32) : dp_len (dq_123 v) 25 = (Int32.toNatClampNeg (dq_h (v 0) (12 : Int32))) := sz_nL (dqn_122 v) (by decide) (zl_25_122 v)
theorem zl_26_123 (v : Nat → Int32) : dp_len (dq_123 v) 26 = (Int32.toNatClampNeg (dq_h (v 0) (12 : Int32))) := sz_nL (dqn_122 v) (by decide) (zl_26_122 v)
theorem zl_27_123 (v : Nat → Int32) : dp_len (dq_123 v) 27 = (Int32.toNatClampNeg ((dq_h (v 0) (12 : Int32)) * (16 : Int32))) := sz_nL (dqn_122 v) (by decide) (zl_27_122 v)
theorem zl_33_123 (v : Nat → Int32) : dp_len (dq_123 v) 33 = (Int32.toNatClampNeg (dq_h (v 2) (20 : Int32))) := sz_nL (dqn_122 v) (by decide) (zl_33_122 v)
theorem zl_34_123 (v : Nat → Int32) : dp_len (dq_123 v) 34 = (Int32.toNatClampNeg (dq_h (v 2) (20 : Int32))) := sz_nL (dqn_122 v) (by decide) (zl_34_122 v)
theorem zl_35_123 (v : Nat → Int32) : dp_len (dq_123 v) 35 = (Int32.toNatClampNeg (dq_h (v 2) (20 : Int32))) := sz_nL (dqn_122 v) (by decide) (zl_35_122 v)
theorem zl_36_123 (v : Nat → Int32) : dp_len (dq_123 v) 36 = (Int32.toNatClampNeg ((dq_h (v 2) (20 : Int32)) * (dq_h (v 3) (8 : Int32)))) := sz_nL (dqn_122 v) (by decide) (zl_36_122 v)
theorem zi_124 (v : Nat → Int32) (k i : Nat) : dp_I (dq_124 v) k i = sF_9 v k i := zi_123 v k i
theorem zj_124 (v : Nat → Int32) (k i : Nat) : dp_J (dq_124 v) k i = 0 := zj_123 v k i
theorem zr_124 (v : Nat → Int32) (i : Nat) : dp_R (dq_124 v) 59 i = none := sz_rR (by decide) (zr_123 v) i
theorem zl_25_124 (v : Nat → Int32) : dp_len (dq_124 v) 25 = (Int32.toNatClampNeg (dq_h (v 0) (12 : Int32))) := zl_25_123 v
theorem zl_26_124 (v : Nat → Int32) : dp_len (dq_124 v) 26 = (Int32.toNatClampNeg (dq_h (v 0) (12 : Int32))) := zl_26_123 v
theorem zl_27_124 (v : Nat → Int32) : dp_len (dq_124 v) 27 = (Int32.toNatClampNeg ((dq_h (v 0) (12 : Int32)) * (16 : Int32))) := zl_27_123 v
theorem zl_33_124 (v : Nat → Int32) : dp_len (dq_124 v) 33 = (Int32.toNatClampNeg (dq_h (v 2) (20 : Int32))) := zl_33_123 v
theorem zl_34_124 (v : Nat → Int32) : dp_len (dq_124 v) 34 = (Int32.toNatClampNeg (dq_h (v 2) (20 : Int32))) := zl_34_123 v
theorem zl_35_124 (v : Nat → Int32) : dp_len (dq_124 v) 35 = (Int32.toNatClampNeg (dq_h (v 2) (20 : Int32))) := zl_35_123 v
theorem zl_36_124 (v : Nat → Int32) : dp_len (dq_124 v) 36 = (Int32.toNatClampNeg ((dq_h (v 2) (20 : Int32)) * (dq_h (v 3) (8 : Int32)))) := zl_36_123 v
theorem zi_125 (v : Nat → Int32) (k i : Nat) : dp_I (dq_125 v) k i = sF_9 v k i := sz_n (dqn_124 v) (zi_124 v) (fun _ => rfl) k i
theorem zj_125 (v : Nat → Int32) (k i : Nat) : dp_J (dq_125 v) k i = 0 := sz_nJ (zj_124 v) k i
theorem zr_125 (v : Nat → Int32) (i : Nat) : dp_R (dq_125 v) 59 i = none := sz_nR (zr_124 v) i
theorem zl_25_125 (v : Nat → Int32) : dp_len (dq_125 v) 25 = (Int32.toNatClampNeg (dq_h (v 0) (12 : Int32))) := sz_nL (dqn_124 v) (by decide) (zl_25_124 v)
theorem zl_26_125 (v : Nat → Int32) : dp_len (dq_125 v) 26 = (Int32.toNatClampNeg (dq_h (v 0) (12 : Int32))) := sz_nL (dqn_124 v) (by decide) (zl_26_124 v)
theorem zl_27_125 (v : Nat → Int32) : dp_len (dq_125 v) 27 = (Int32.toNatClampNeg ((dq_h (v 0) (12 : Int32)) * (16 : Int32))) := sz_nL (dqn_124 v) (by decide) (zl_27_124 v)
theorem zl_33_125 (v : Nat → Int32) : dp_len (dq_125 v) 33 = (Int32.toNatClampNeg (dq_h (v 2) (20 : Int32))) := sz_nL (dqn_124 v) (by decide) (zl_33_124 v)
theorem zl_34_125 (v : Nat → Int32) : dp_len (dq_125 v) 34 = (Int32.toNatClampNeg (dq_h (v 2) (20 : Int32))) := sz_nL (dqn_124 v) (by decide) (zl_34_124 v)
theorem zl_35_125 (v : Nat → Int32) : dp_len (dq_125 v) 35 = (Int32.toNatClampNeg (dq_h (v 2) (20 : Int32))) := sz_nL (dqn_124 v) (by decide) (zl_35_124 v)
theorem zl_36_125 (v : Nat → Int32) : dp_len (dq_125 v) 36 = (Int32.toNatClampNeg ((dq_h (v 2) (20 : Int32)) * (dq_h (v 3) (8 : Int32)))) := sz_nL (dqn_124 v) (by decide) (zl_36_124 v)
theorem zi_126 (v : Nat → Int32) (k i : Nat) : dp_I (dq_126 v) k i = sF_9 v k i := zi_125 v k i
theorem zj_126 (v : Nat → Int32) (k i : Nat) : dp_J (dq_126 v) k i = 0 := zj_125 v k i
theorem zr_126 (v : Nat → Int32) (i : Nat) : dp_R (dq_126 v) 59 i = none := sz_rR (by decide) (zr_125 v) i
theorem zl_25_126 (v : Nat → Int32) : dp_len (dq_126 v) 25 = (Int32.toNatClampNeg (dq_h (v 0) (12 : Int32))) := zl_25_125 v
theorem zl_26_126 (v : Nat → Int32) : dp_len (dq_126 v) 26 = (Int32.toNatClampNeg (dq_h (v 0) (12 : Int32))) := zl_26_125 v
theorem zl_27_126 (v : Nat → Int32) : dp_len (dq_126 v) 27 = (Int32.toNatClampNeg ((dq_h (v 0) (12 : Int32)) * (16 : Int32))) := zl_27_125 v
theorem zl_33_126 (v : Nat → Int32) : dp_len (dq_126 v) 33 = (Int32.toNatClampNeg (dq_h (v 2) (20 : Int32))) := zl_33_125 v
theorem zl_34_126 (v : Nat → Int32) : dp_len (dq_126 v) 34 = (Int32.toNatClampNeg (dq_h (v 2) (20 : Int32))) := zl_34_125 v
theorem zl_35_126 (v : Nat → Int32) : dp_len (dq_126 v) 35 = (Int32.toNatClampNeg (dq_h (v 2) (20 : Int32))) := zl_35_125 v
theorem zl_36_126 (v : Nat → Int32) : dp_len (dq_126 v) 36 = (Int32.toNatClampNeg ((dq_h (v 2) (20 : Int32)) * (dq_h (v 3) (8 : Int32)))) := zl_36_125 v
theorem zi_127 (v : Nat → Int32) (k i : Nat) : dp_I (dq_127 v) k i = sF_9 v k i := sz_n (dqn_126 v) (zi_126 v) (fun _ => rfl) k i
theorem zj_127 (v : Nat → Int32) (k i : Nat) : dp_J (dq_127 v) k i = 0 := sz_nJ (zj_126 v) k i
theorem zr_127 (v : Nat → Int32) (i : Nat) : dp_R (dq_127 v) 59 i = none := sz_nR (zr_126 v) i
theorem zl_25_127 (v : Nat → Int32) : dp_len (dq_127 v) 25 = (Int32.toNatClampNeg (dq_h (v 0) (12 : Int32))) := sz_nL (dqn_126 v) (by decide) (zl_25_126 v)
theorem zl_26_127 (v : Nat → Int32) : dp_len (dq_127 v) 26 = (Int32.toNatClampNeg (dq_h (v 0) (12 : Int32))) := sz_nL (dqn_126 v) (by decide) (zl_26_126 v)
theorem zl_27_127 (v : Nat → Int32) : dp_len (dq_127 v) 27 = (Int32.toNatClampNeg ((dq_h (v 0) (12 : Int32)) * (16 : Int32))) := sz_nL (dqn_126 v) (by decide) (zl_27_126 v)
theorem zl_33_127 (v : Nat → Int32) : dp_len (dq_127 v) 33 = (Int32.toNatClampNeg (dq_h (v 2) (20 : Int32))) := sz_nL (dqn_126 v) (by decide) (zl_33_126 v)
theorem zl_34_127 (v : Nat → Int32) : dp_len (dq_127 v) 34 = (Int32.toNatClampNeg (dq_h (v 2) (20 : Int32))) := sz_nL (dqn_126 v) (by decide) (zl_34_126 v)
theorem zl_35_127 (v : Nat → Int32) : dp_len (dq_127 v) 35 = (Int32.toNatClampNeg (dq_h (v 2) (20 : Int32))) := sz_nL (dqn_126 v) (by decide) (zl_35_126 v)
theorem zl_36_127 (v : Nat → Int32) : dp_len (dq_127 v) 36 = (Int32.toNatClampNeg ((dq_h (v 2) (20 : Int32)) * (dq_h (v 3) (8 : Int32)))) := sz_nL (dqn_126 v) (by decide) (zl_36_126 v)
theorem zi_128 (v : Nat → Int32) (k i : Nat) : dp_I (dq_128 v) k i = sF_9 v k i := zi_127 v k i
theorem zj_128 (v : Nat → Int32) (k i : Nat) : dp_J (dq_128 v) k i = 0 := zj_127 v k i
theorem zr_128 (v : Nat → Int32) (i : Nat) : dp_R (dq_128 v) 59 i = none := sz_rR (by decide) (zr_127 v) i
theorem zl_25_128 (v : Nat → Int32) : dp_len (dq_128 v) 25 = (Int32.toNatClampNeg (dq_h (v 0) (12 : Int32))) := zl_25_127 v
theorem zl_26_128 (v : Nat → Int32) : dp_len (dq_128 v) 26 = (Int32.toNatClampNeg (dq_h (v 0) (12 : Int32))) := zl_26_127 v
theorem zl_27_128 (v : Nat → Int32) : dp_len (dq_128 v) 27 = (Int32.toNatClampNeg ((dq_h (v 0) (12 : Int32)) * (16 : Int32))) := zl_27_127 v
theorem zl_33_128 (v : Nat → Int32) : dp_len (dq_128 v) 33 = (Int32.toNatClampNeg (dq_h (v 2) (20 : Int32))) := zl_33_127 v
theorem zl_34_128 (v : Nat → Int32) : dp_len (dq_128 v) 34 = (Int32.toNatClampNeg (dq_h (v 2) (20 : Int32))) := zl_34_127 v
theorem zl_35_128 (v : Nat → Int32) : dp_len (dq_128 v) 35 = (Int32.toNatClampNeg (dq_h (v 2) (20 : Int32))) := zl_35_127 v
theorem zl_36_128 (v : Nat → Int32) : dp_len (dq_128 v) 36 = (Int32.toNatClampNeg ((dq_h (v 2) (20 : Int32)) * (dq_h (v 3) (8 : Int32)))) := zl_36_127 v
theorem zi_129 (v : Nat → Int32) (k i : Nat) : dp_I (dq_129 v) k i = sF_9 v k i := sz_n (dqn_128 v) (zi_128 v) (fun _ => rfl) k i
theorem zj_129 (v : Nat → Int32) (k i : Nat) : dp_J (dq_129 v) k i = 0 := sz_nJ (zj_128 v) k i
theorem zr_129 (v : Nat → Int32) (i : Nat) : dp_R (dq_129 v) 59 i = none := sz_nR (zr_128 v) i
theorem zl_25_129 (v : Nat → Int32) : dp_len (dq_129 v) 25 = (Int32.toNatClampNeg (dq_h (v 0) (12 : Int32))) := sz_nL (dqn_128 v) (by decide) (zl_25_128 v)
theorem zl_26_129 (v : Nat → Int32) : dp_len (dq_129 v) 26 = (Int32.toNatClampNeg (dq_h (v 0) (12 : Int32))) := sz_nL (dqn_128 v) (by decide) (zl_26_128 v)
theorem zl_27_129 (v : Nat → Int32) : dp_len (dq_129 v) 27 = (Int32.toNatClampNeg ((dq_h (v 0) (12 : Int32)) * (16 : Int32))) := sz_nL (dqn_128 v) (by decide) (zl_27_128 v)
theorem zl_33_129 (v : Nat → Int32) : dp_len (dq_129 v) 33 = (Int32.toNatClampNeg (dq_h (v 2) (20 : Int32))) := sz_nL (dqn_128 v) (by decide) (zl_33_128 v)
theorem zl_34_129 (v : Nat → Int32) : dp_len (dq_129 v) 34 = (Int32.toNatClampNeg (dq_h (v 2) (20 : Int32))) := sz_nL (dqn_128 v) (by decide) (zl_34_128 v)
theorem zl_35_129 (v : Nat → Int32) : dp_len (dq_129 v) 35 = (Int32.toNatClampNeg (dq_h (v 2) (20 : Int32))) := sz_nL (dqn_128 v) (by decide) (zl_35_128 v)
theorem zl_36_129 (v : Nat → Int32) : dp_len (dq_129 v) 36 = (Int32.toNatClampNeg ((dq_h (v 2) (20 : Int32)) * (dq_h (v 3) (8 : Int32)))) := sz_nL (dqn_128 v) (by decide) (zl_36_128 v)
theorem zi_130 (v : Nat → Int32) (k i : Nat) : dp_I (dq_130 v) k i = sF_9 v k i := zi_129 v k i
theorem zj_130 (v : Nat → Int32) (k i : Nat) : dp_J (dq_130 v) k i = 0 := zj_129 v k i
theorem zr_130 (v : Nat → Int32) (i : Nat) : dp_R (dq_130 v) 59 i = none := sz_rR (by decide) (zr_129 v) i
theorem zl_25_130 (v : Nat → Int32) : dp_len (dq_130 v) 25 = (Int32.toNatClampNeg (dq_h (v 0) (12 : Int32))) := zl_25_129 v
theorem zl_26_130 (v : Nat → Int32) : dp_len (dq_130 v) 26 = (Int32.toNatClampNeg (dq_h (v 0) (12 : Int32))) := zl_26_129 v
theorem zl_27_130 (v : Nat → Int32) : dp_len (dq_130 v) 27 = (Int32.toNatClampNeg ((dq_h (v 0) (12 : Int32)) * (16 : Int32))) := zl_27_129 v
theorem zl_33_130 (v : Nat → Int32) : dp_len (dq_130 v) 33 = (Int32.toNatClampNeg (dq_h (v 2) (20 : Int32))) := zl_33_129 v
theorem zl_34_130 (v : Nat → Int32) : dp_len (dq_130 v) 34 = (Int32.toNatClampNeg (dq_h (v 2) (20 : Int32))) := zl_34_129 v
theorem zl_35_130 (v : Nat → Int32) : dp_len (dq_130 v) 35 = (Int32.toNatClampNeg (dq_h (v 2) (20 : Int32))) := zl_35_129 v
theorem zl_36_130 (v : Nat → Int32) : dp_len (dq_130 v) 36 = (Int32.toNatClampNeg ((dq_h (v 2) (20 : Int32)) * (dq_h (v 3) (8 : Int32)))) := zl_36_129 v
theorem zi_131 (v : Nat → Int32) (k i : Nat) : dp_I (dq_131 v) k i = sF_9 v k i := sz_n (dqn_130 v) (zi_130 v) (fun _ => rfl) k i
theorem zj_131 (v : Nat → Int32) (k i : Nat) : dp_J (dq_131 v) k i = 0 := sz_nJ (zj_130 v) k i
theorem zr_131 (v : Nat → Int32) (i : Nat) : dp_R (dq_131 v) 59 i = none := sz_nR (zr_130 v) i
theorem zl_25_131 (v : Nat → Int32) : dp_len (dq_131 v) 25 = (Int32.toNatClampNeg (dq_h (v 0) (12 : Int32))) := sz_nL (dqn_130 v) (by decide) (zl_25_130 v)
theorem zl_26_131 (v : Nat → Int32) : dp_len (dq_131 v) 26 = (Int32.toNatClampNeg (dq_h (v 0) (12 : Int32))) := sz_nL (dqn_130 v) (by decide) (zl_26_130 v)
theorem zl_27_131 (v : Nat → Int32) : dp_len (dq_131 v) 27 = (Int32.toNatClampNeg ((dq_h (v 0) (12 : Int32)) * (16 : Int32))) := sz_nL (dqn_130 v) (by decide) (zl_27_130 v)
theorem zl_33_131 (v : Nat → Int32) : dp_len (dq_131 v) 33 = (Int32.toNatClampNeg (dq_h (v 2) (20 : Int32))) := sz_nL (dqn_130 v) (by decide) (zl_33_130 v)
theorem zl_34_131 (v : Nat → Int32) : dp_len (dq_131 v) 34 = (Int32.toNatClampNeg (dq_h (v 2) (20 : Int32))) := sz_nL (dqn_130 v) (by decide) (zl_34_130 v)
theorem zl_35_131 (v : Nat → Int32) : dp_len (dq_131 v) 35 = (Int32.toNatClampNeg (dq_h (v 2) (20 : Int32))) := sz_nL (dqn_130 v) (by decide) (zl_35_130 v)
theorem zl_36_131 (v : Nat → Int32) : dp_len (dq_131 v) 36 = (Int32.toNatClampNeg ((dq_h (v 2) (20 : Int32)) * (dq_h (v 3) (8 : Int32)))) := sz_nL (dqn_130 v) (by decide) (zl_36_130 v)
theorem zi_132 (v : Nat → Int32) (k i : Nat) : dp_I (dq_132 v) k i = sF_9 v k i := zi_131 v k i
theorem zj_132 (v : Nat → Int32) (k i : Nat) : dp_J (dq_132 v) k i = 0 := zj_131 v k i
theorem zr_132 (v : Nat → Int32) (i : Nat) : dp_R (dq_132 v) 59 i = none := sz_rR (by decide) (zr_131 v) i
theorem zl_25_132 (v : Nat → Int32) : dp_len (dq_132 v) 25 = (Int32.toNatClampNeg (dq_h (v 0) (12 : Int32))) := zl_25_131 v
theorem zl_26_132 (v : Nat → Int32) : dp_len (dq_132 v) 26 = (Int32.toNatClampNeg (dq_h (v 0) (12 : Int32))) := zl_26_131 v
theorem zl_27_132 (v : Nat → Int32) : dp_len (dq_132 v) 27 = (Int32.toNatClampNeg ((dq_h (v 0) (12 : Int32)) * (16 : Int32))) := zl_27_131 v
theorem zl_33_132 (v : Nat → Int32) : dp_len (dq_132 v) 33 = (Int32.toNatClampNeg (dq_h (v 2) (20 : Int32))) := zl_33_131 v
theorem zl_34_132 (v : Nat → Int32) : dp_len (dq_132 v) 34 = (Int32.toNatClampNeg (dq_h (v 2) (20 : Int32))) := zl_34_131 v
theorem zl_35_132 (v : Nat → Int32) : dp_len (dq_132 v) 35 = (Int32.toNatClampNeg (dq_h (v 2) (20 : Int32))) := zl_35_131 v
theorem zl_36_132 (v : Nat → Int32) : dp_len (dq_132 v) 36 = (Int32.toNatClampNeg ((dq_h (v 2) (20 : Int32)) * (dq_h (v 3) (8 : Int32)))) := zl_36_131 v
theorem zi_133 (v : Nat → Int32) (k i : Nat) : dp_I (dq_133 v) k i = sF_9 v k i := sz_n (dqn_132 v) (zi_132 v) (fun _ => rfl) k i
theorem zj_133 (v : Nat → Int32) (k i : Nat) : dp_J (dq_133 v) k i = 0 := sz_nJ (zj_132 v) k i
theorem zr_133 (v : Nat → Int32) (i : Nat) : dp_R (dq_133 v) 59 i = none := sz_nR (zr_132 v) i
theorem zl_25_133 (v : Nat → Int32) : dp_len (dq_133 v) 25 = (Int32.toNatClampNeg (dq_h (v 0) (12 : Int32))) := sz_nL (dqn_132 v) (by decide) (zl_25_132 v)
theorem zl_26_133 (v : Nat → Int32) : dp_len (dq_133 v) 26 = (Int32.toNatClampNeg (dq_h (v 0) (12 : Int32))) := sz_nL (dqn_132 v) (by decide) (zl_26_132 v)
theorem zl_27_133 (v : Nat → Int32) : dp_len (dq_133 v) 27 = (Int32.toNatClampNeg ((dq_h (v 0) (12 : Int32)) * (16 : Int32))) := sz_nL (dqn_132 v) (by decide) (zl_27_132 v)
theorem zl_33_133 (v : Nat → Int32) : dp_len (dq_133 v) 33 = (Int32.toNatClampNeg (dq_h (v 2) (20 : Int32))) := sz_nL (dqn_132 v) (by decide) (zl_33_132 v)
theorem zl_34_133 (v : Nat → Int32) : dp_len (dq_133 v) 34 = (Int32.toNatClampNeg (dq_h (v 2) (20 : Int32))) := sz_nL (dqn_132 v) (by decide) (zl_34_132 v)
theorem zl_35_133 (v : Nat → Int32) : dp_len (dq_133 v) 35 = (Int32.toNatClampNeg (dq_h (v 2) (20 : Int32))) := sz_nL (dqn_132 v) (by decide) (zl_35_132 v)
theorem zl_36_133 (v : Nat → Int32) : dp_len (dq_133 v) 36 = (Int32.toNatClampNeg ((dq_h (v 2) (20 : Int32)) * (dq_h (v 3) (8 : Int32)))) := sz_nL (dqn_132 v) (by decide) (zl_36_132 v)
theorem zi_134 (v : Nat → Int32) (k i : Nat) : dp_I (dq_134 v) k i = sF_9 v k i := zi_133 v k i
theorem zj_134 (v : Nat → Int32) (k i : Nat) : dp_J (dq_134 v) k i = 0 := zj_133 v k i
theorem zr_134 (v : Nat → Int32) (i : Nat) : dp_R (dq_134 v) 59 i = none := sz_rR (by decide) (zr_133 v) i
theorem zl_25_134 (v : Nat → Int32) : dp_len (dq_134 v) 25 = (Int32.toNatClampNeg (dq_h (v 0) (12 : Int32))) := zl_25_133 v
theorem zl_26_134 (v : Nat → Int32) : dp_len (dq_134 v) 26 = (Int32.toNatClampNeg (dq_h (v 0) (12 : Int32))) := zl_26_133 v
theorem zl_27_134 (v : Nat → Int32) : dp_len (dq_134 v) 27 = (Int32.toNatClampNeg ((dq_h (v 0) (12 : Int32)) * (16 : Int32))) := zl_27_133 v
theorem zl_33_134 (v : Nat → Int32) : dp_len (dq_134 v) 33 = (Int32.toNatClampNeg (dq_h (v 2) (20 : Int32))) := zl_33_133 v
theorem zl_34_134 (v : Nat → Int32) : dp_len (dq_134 v) 34 = (Int32.toNatClampNeg (dq_h (v 2) (20 : Int32))) := zl_34_133 v
theorem zl_35_134 (v : Nat → Int32) : dp_len (dq_134 v) 35 = (Int32.toNatClampNeg (dq_h (v 2) (20 : Int32))) := zl_35_133 v
theorem zl_36_134 (v : Nat → Int32) : dp_len (dq_134 v) 36 = (Int32.toNatClampNeg ((dq_h (v 2) (20 : Int32)) * (dq_h (v 3) (8 : Int32)))) := zl_36_133 v
theorem zi_135 (v : Nat → Int32) (k i : Nat) : dp_I (dq_135 v) k i = sF_9 v k i := sz_n (dqn_134 v) (zi_134 v) (fun _ => rfl) k i
theorem zj_135 (v : Nat → Int32) (k i : Nat) : dp_J (dq_135 v) k i = 0 := sz_nJ (zj_134 v) k i
theorem zr_135 (v : Nat → Int32) (i : Nat) : dp_R (dq_135 v) 59 i = none := sz_nR (zr_134 v) i
theorem zl_25_135 (v : Nat → Int32) : dp_len (dq_135 v) 25 = (Int32.toNatClampNeg (dq_h (v 0) (12 : Int32))) := sz_nL (dqn_134 v) (by decide) (zl_25_134 v)
theorem zl_26_135 (v : Nat → Int32) : dp_len (dq_135 v) 26 = (Int32.toNatClampNeg (dq_h (v 0) (12 : Int32))) := sz_nL (dqn_134 v) (by decide) (zl_26_134 v)
theorem zl_27_135 (v : Nat → Int32) : dp_len (dq_135 v) 27 = (Int32.toNatClampNeg ((dq_h (v 0) (12 : Int32)) * (16 : Int32))) := sz_nL (dqn_134 v) (by decide) (zl_27_134 v)
theorem zl_33_135 (v : Nat → Int32) : dp_len (dq_135 v) 33 = (Int32.toNatClampNeg (dq_h (v 2) (20 : Int32))) := sz_nL (dqn_134 v) (by decide) (zl_33_134 v)
theorem zl_34_135 (v : Nat → Int32) : dp_len (dq_135 v) 34 = (Int32.toNatClampNeg (dq_h (v 2) (20 : Int32))) := sz_nL (dqn_134 v) (by decide) (zl_34_134 v)
theorem zl_35_135 (v : Nat → Int32) : dp_len (dq_135 v) 35 = (Int32.toNatClampNeg (dq_h (v 2) (20 : Int32))) := sz_nL (dqn_134 v) (by decide) (zl_35_134 v)
theorem zl_36_135 (v : Nat → Int32) : dp_len (dq_135 v) 36 = (Int32.toNatClampNeg ((dq_h (v 2) (20 : Int32)) * (dq_h (v 3) (8 : Int32)))) := sz_nL (dqn_134 v) (by decide) (zl_36_134 v)
theorem zi_136 (v : Nat → Int32) (k i : Nat) : dp_I (dq_136 v) k i = sF_9 v k i := zi_135 v k i
theorem zj_136 (v : Nat → Int32) (k i : Nat) : dp_J (dq_136 v) k i = 0 := zj_135 v k i
theorem zr_136 (v : Nat → Int32) (i : Nat) : dp_R (dq_136 v) 59 i = none := sz_rR (by decide) (zr_135 v) i
theorem zl_25_136 (v : Nat → Int32) : dp_len (dq_136 v) 25 = (Int32.toNatClampNeg (dq_h (v 0) (12 : Int32))) := zl_25_135 v
theorem zl_26_136 (v : Nat → Int32) : dp_len (dq_136 v) 26 = (Int32.toNatClampNeg (dq_h (v 0) (12 : Int32))) := zl_26_135 v
theorem zl_27_136 (v : Nat → Int32) : dp_len (dq_136 v) 27 = (Int32.toNatClampNeg ((dq_h (v 0) (12 : Int32)) * (16 : Int32))) := zl_27_135 v
theorem zl_33_136 (v : Nat → Int32) : dp_len (dq_136 v) 33 = (Int32.toNatClampNeg (dq_h (v 2) (20 : Int32))) := zl_33_135 v
theorem zl_34_136 (v : Nat → Int32) : dp_len (dq_136 v) 34 = (Int32.toNatClampNeg (dq_h (v 2) (20 : Int32))) := zl_34_135 v
theorem zl_35_136 (v : Nat → Int32) : dp_len (dq_136 v) 35 = (Int32.toNatClampNeg (dq_h (v 2) (20 : Int32))) := zl_35_135 v
theorem zl_36_136 (v : Nat → Int32) : dp_len (dq_136 v) 36 = (Int32.toNatClampNeg ((dq_h (v 2) (20 : Int32)) * (dq_h (v 3) (8 : Int32)))) := zl_36_135 v
theorem zi_137 (v : Nat → Int32) (k i : Nat) : dp_I (dq_137 v) k i = sF_9 v k i := sz_n (dqn_136 v) (zi_136 v) (fun _ => rfl) k i
theorem zj_137 (v : Nat → Int32) (k i : Nat) : dp_J (dq_137 v) k i = 0 := sz_nJ (zj_136 v) k i
theorem zr_137 (v : Nat → Int32) (i : Nat) : dp_R (dq_137 v) 59 i = none := sz_nR (zr_136 v) i
theorem zl_25_137 (v : Nat → Int32) : dp_len (dq_137 v) 25 = (Int32.toNatClampNeg (dq_h (v 0) (12 : Int32))) := sz_nL (dqn_136 v) (by decide) (zl_25_136 v)
theorem zl_26_137 (v : Nat → Int32) : dp_len (dq_137 v) 26 = (Int32.toNatClampNeg (dq_h (v 0) (12 : Int32))) := sz_nL (dqn_136 v) (by decide) (zl_26_136 v)
theorem zl_27_137 (v : Nat → Int32) : dp_len (dq_137 v) 27 = (Int32.toNatClampNeg ((dq_h (v 0) (12 : Int32)) * (16 : Int32))) := sz_nL (dqn_136 v) (by decide) (zl_27_136 v)
theorem zl_33_137 (v : Nat → Int32) : dp_len (dq_137 v) 33 = (Int32.toNatClampNeg (dq_h (v 2) (20 : Int32))) := sz_nL (dqn_136 v) (by decide) (zl_33_136 v)
theorem zl_34_137 (v : Nat → Int32) : dp_len (dq_137 v) 34 = (Int32.toNatClampNeg (dq_h (v 2) (20 : Int32))) := sz_nL (dqn_136 v) (by decide) (zl_34_136 v)
theorem zl_35_137 (v : Nat → Int32) : dp_len (dq_137 v) 35 = (Int32.toNatClampNeg (dq_h (v 2) (20 : Int32))) := sz_nL (dqn_136 v) (by decide) (zl_35_136 v)
theorem zl_36_137 (v : Nat → Int32) : dp_len (dq_137 v) 36 = (Int32.toNatClampNeg ((dq_h (v 2) (20 : Int32)) * (dq_h (v 3) (8 : Int32)))) := sz_nL (dqn_136 v) (by decide) (zl_36_136 v)
theorem zi_138 (v : Nat → Int32) (k i : Nat) : dp_I (dq_138 v) k i = sF_9 v k i := zi_137 v k i
theorem zj_138 (v : Nat → Int32) (k i : Nat) : dp_J (dq_138 v) k i = 0 := zj_137 v k i
theorem zr_138 (v : Nat → Int32) (i : Nat) : dp_R (dq_138 v) 59 i = none := sz_rR (by decide) (zr_137 v) i
theorem zl_25_138 (v : Nat → Int32) : dp_len (dq_138 v) 25 = (Int32.toNatClampNeg (dq_h (v 0) (12 : Int32))) := zl_25_137 v
theorem zl_26_138 (v : Nat → Int32) : dp_len (dq_138 v) 26 = (Int32.toNatClampNeg (dq_h (v 0) (12 : Int32))) := zl_26_137 v
theorem zl_27_138 (v : Nat → Int32) : dp_len (dq_138 v) 27 = (Int32.toNatClampNeg ((dq_h (v 0) (12 : Int32)) * (16 : Int32))) := zl_27_137 v
theorem zl_33_138 (v : Nat → Int32) : dp_len (dq_138 v) 33 = (Int32.toNatClampNeg (dq_h (v 2) (20 : Int32))) := zl_33_137 v
theorem zl_34_138 (v : Nat → Int32) : dp_len (dq_138 v) 34 = (Int32.toNatClampNeg (dq_h (v 2) (20 : Int32))) := zl_34_137 v
theorem zl_35_138 (v : Nat → Int32) : dp_len (dq_138 v) 35 = (Int32.toNatClampNeg (dq_h (v 2) (20 : Int32))) := zl_35_137 v
theorem zl_36_138 (v : Nat → Int32) : dp_len (dq_138 v) 36 = (Int32.toNatClampNeg ((dq_h (v 2) (20 : Int32)) * (dq_h (v 3) (8 : Int32)))) := zl_36_137 v
theorem zi_139 (v : Nat → Int32) (k i : Nat) : dp_I (dq_139 v) k i = sF_9 v k i := sz_n (dqn_138 v) (zi_138 v) (fun _ => rfl) k i
theorem zj_139 (v : Nat → Int32) (k i : Nat) : dp_J (dq_139 v) k i = 0 := sz_nJ (zj_138 v) k i
theorem zr_139 (v : Nat → Int32) (i : Nat) : dp_R (dq_139 v) 59 i = none := sz_nR (zr_138 v) i
theorem zl_25_139 (v : Nat → Int32) : dp_len (dq_139 v) 25 = (Int32.toNatClampNeg (dq_h (v 0) (12 : Int32))) := sz_nL (dqn_138 v) (by decide) (zl_25_138 v)
theorem zl_26_139 (v : Nat → Int32) : dp_len (dq_139 v) 26 = (Int32.toNatClampNeg (dq_h (v 0) (12 : Int32))) := sz_nL (dqn_138 v) (by decide) (zl_26_138 v)
theorem zl_27_139 (v : Nat → Int32) : dp_len (dq_139 v) 27 = (Int32.toNatClampNeg ((dq_h (v 0) (12 : Int32)) * (16 : Int32))) := sz_nL (dqn_138 v) (by decide) (zl_27_138 v)
theorem zl_33_139 (v : Nat → Int32) : dp_len (dq_139 v) 33 = (Int32.toNatClampNeg (dq_h (v 2) (20 : Int32))) := sz_nL (dqn_138 v) (by decide) (zl_33_138 v)
theorem zl_34_139 (v : Nat → Int32) : dp_len (dq_139 v) 34 = (Int32.toNatClampNeg (dq_h (v 2) (20 : Int32))) := sz_nL (dqn_138 v) (by decide) (zl_34_138 v)
theorem zl_35_139 (v : Nat → Int32) : dp_len (dq_139 v) 35 = (Int32.toNatClampNeg (dq_h (v 2) (20 : Int32))) := sz_nL (dqn_138 v) (by decide) (zl_35_138 v)
theorem zl_36_139 (v : Nat → Int32) : dp_len (dq_139 v) 36 = (Int32.toNatClampNeg ((dq_h (v 2) (20 : Int32)) * (dq_h (v 3) (8 : Int32)))) := sz_nL (dqn_138 v) (by decide) (zl_36_138 v)
theorem zi_140 (v : Nat → Int32) (k i : Nat) : dp_I (dq_140 v) k i = sF_9 v k i := zi_139 v k i
theorem zj_140 (v : Nat → Int32) (k i : Nat) : dp_J (dq_140 v) k i = 0 := zj_139 v k i
theorem zr_140 (v : Nat → Int32) (i : Nat) : dp_R (dq_140 v) 59 i = none := sz_rR (by decide) (zr_139 v) i
theorem zl_25_140 (v : Nat → Int32) : dp_len (dq_140 v) 25 = (Int32.toNatClampNeg (dq_h (v 0) (12 : Int32))) := zl_25_139 v
theorem zl_26_140 (v : Nat → Int32) : dp_len (dq_140 v) 26 = (Int32.toNatClampNeg (dq_h (v 0) (12 : Int32))) := zl_26_139 v
theorem zl_27_140 (v : Nat → Int32) : dp_len (dq_140 v) 27 = (Int32.toNatClampNeg ((dq_h (v 0) (12 : Int32)) * (16 : Int32))) := zl_27_139 v
theorem zl_33_140 (v : Nat → Int32) : dp_len (dq_140 v) 33 = (Int32.toNatClampNeg (dq_h (v 2) (20 : Int32))) := zl_33_139 v
theorem zl_34_140 (v : Nat → Int32) : dp_len (dq_140 v) 34 = (Int32.toNatClampNeg (dq_h (v 2) (20 : Int32))) := zl_34_139 v
theorem zl_35_140 (v : Nat → Int32) : dp_len (dq_140 v) 35 = (Int32.toNatClampNeg (dq_h (v 2) (20 : Int32))) := zl_35_139 v
theorem zl_36_140 (v : Nat → Int32) : dp_len (dq_140 v) 36 = (Int32.toNatClampNeg ((dq_h (v 2) (20 : Int32)) * (dq_h (v 3) (8 : Int32)))) := zl_36_139 v
theorem zi_141 (v : Nat → Int32) (k i : Nat) : dp_I (dq_141 v) k i = sF_9 v k i := sz_n (dqn_140 v) (zi_140 v) (fun _ => rfl) k i
theorem zj_141 (v : Nat → Int32) (k i : Nat) : dp_J (dq_141 v) k i = 0 := sz_nJ (zj_140 v) k i
theorem zr_141 (v : Nat → Int32) (i : Nat) : dp_R (dq_141 v) 59 i = none := sz_nR (zr_140 v) i
theorem zl_25_141 (v : Nat → Int32) : dp_len (dq_141 v) 25 = (Int32.toNatClampNeg (dq_h (v 0) (12 : Int32))) := sz_nL (dqn_140 v) (by decide) (zl_25_140 v)
theorem zl_26_141 (v : Nat → Int32) : dp_len (dq_141 v) 26 = (Int32.toNatClampNeg (dq_h (v 0) (12 : Int32))) := sz_nL (dqn_140 v) (by decide) (zl_26_140 v)
theorem zl_27_141 (v : Nat → Int32) : dp_len (dq_141 v) 27 = (Int32.toNatClampNeg ((dq_h (v 0) (12 : Int32)) * (16 : Int32))) := sz_nL (dqn_140 v) (by decide) (zl_27_140 v)
theorem zl_33_141 (v : Nat → Int32) : dp_len (dq_141 v) 33 = (Int32.toNatClampNeg (dq_h (v 2) (20 : Int32))) := sz_nL (dqn_140 v) (by decide) (zl_33_140 v)
theorem zl_34_141 (v : Nat → Int32) : dp_len (dq_141 v) 34 = (Int32.toNatClampNeg (dq_h (v 2) (20 : Int32))) := sz_nL (dqn_140 v) (by decide) (zl_34_140 v)
theorem zl_35_141 (v : Nat → Int32) : dp_len (dq_141 v) 35 = (Int32.toNatClampNeg (dq_h (v 2) (20 : Int32))) := sz_nL (dqn_140 v) (by decide) (zl_35_140 v)
theorem zl_36_141 (v : Nat → Int32) : dp_len (dq_141 v) 36 = (Int32.toNatClampNeg ((dq_h (v 2) (20 : Int32)) * (dq_h (v 3) (8 : Int32)))) := sz_nL (dqn_140 v) (by decide) (zl_36_140 v)
theorem zi_142 (v : Nat → Int32) (k i : Nat) : dp_I (dq_142 v) k i = sF_9 v k i := zi_141 v k i
theorem zj_142 (v : Nat → Int32) (k i : Nat) : dp_J (dq_142 v) k i = 0 := zj_141 v k i
theorem zr_142 (v : Nat → Int32) (i : Nat) : dp_R (dq_142 v) 59 i = none := sz_rR (by decide) (zr_141 v) i
theorem zl_25_142 (v : Nat → Int32) : dp_len (dq_142 v) 25 = (Int32.toNatClampNeg (dq_h (v 0) (12 : Int32))) := zl_25_141 v
theorem zl_26_142 (v : Nat → Int32) : dp_len (dq_142 v) 26 = (Int32.toNatClampNeg (dq_h (v 0) (12 : Int32))) := zl_26_141 v
theorem zl_27_142 (v : Nat → Int32) : dp_len (dq_142 v) 27 = (Int32.toNatClampNeg ((dq_h (v 0) (12 : Int32)) * (16 : Int32))) := zl_27_141 v
theorem zl_33_142 (v : Nat → Int32) : dp_len (dq_142 v) 33 = (Int32.toNatClampNeg (dq_h (v 2) (20 : Int32))) := zl_33_141 v
theorem zl_34_142 (v : Nat → Int32) : dp_len (dq_142 v) 34 = (Int32.toNatClampNeg (dq_h (v 2) (20 : Int32))) := zl_34_141 v
theorem zl_35_142 (v : Nat → Int32) : dp_len (dq_142 v) 35 = (Int32.toNatClampNeg (dq_h (v 2) (20 : Int32))) := zl_35_141 v
theorem zl_36_142 (v : Nat → Int32) : dp_len (dq_142 v) 36 = (Int32.toNatClampNeg ((dq_h (v 2) (20 : Int32)) * (dq_h (v 3) (8 : Int32)))) := zl_36_141 v
theorem zi_143 (v : Nat → Int32) (k i : Nat) : dp_I (dq_143 v) k i = sF_9 v k i := sz_n (dqn_142 v) (zi_142 v) (fun _ => rfl) k i
theorem zj_143 (v : Nat → Int32) (k i : Nat) : dp_J (dq_143 v) k i = 0 := sz_nJ (zj_142 v) k i
theorem zr_143 (v : Nat → Int32) (i : Nat) : dp_R (dq_143 v) 59 i = none := sz_nR (zr_142 v) i
theorem zl_25_143 (v : Nat → Int32) : dp_len (dq_143 v) 25 = (Int32.toNatClampNeg (dq_h (v 0) (12 : Int32))) := sz_nL (dqn_142 v) (by decide) (zl_25_142 v)
theorem zl_26_143 (v : Nat → Int32) : dp_len (dq_143 v) 26 = (Int32.toNatClampNeg (dq_h (v 0) (12 : Int32))) := sz_nL (dqn_142 v) (by decide) (zl_26_142 v)
theorem zl_27_143 (v : Nat → Int32) : dp_len (dq_143 v) 27 = (Int32.toNatClampNeg ((dq_h (v 0) (12 : Int32)) * (16 : Int32))) := sz_nL (dqn_142 v) (by decide) (zl_27_142 v)
theorem zl_33_143 (v : Nat → Int32) : dp_len (dq_143 v) 33 = (Int32.toNatClampNeg (dq_h (v 2) (20 : Int32))) := sz_nL (dqn_142 v) (by decide) (zl_33_142 v)
theorem zl_34_143 (v : Nat → Int32) : dp_len (dq_143 v) 34 = (Int32.toNatClampNeg (dq_h (v 2) (20 : Int32))) := sz_nL (dqn_142 v) (by decide) (zl_34_142 v)
theorem zl_35_143 (v : Nat → Int32) : dp_len (dq_143 v) 35 = (Int32.toNatClampNeg (dq_h (v 2) (20 : Int32))) := sz_nL (dqn_142 v) (by decide) (zl_35_142 v)
theorem zl_36_143 (v : Nat → Int32) : dp_len (dq_143 v) 36 = (Int32.toNatClampNeg ((dq_h (v 2) (20 : Int32)) * (dq_h (v 3) (8 : Int32)))) := sz_nL (dqn_142 v) (by decide) (zl_36_142 v)
theorem zi_144 (v : Nat → Int32) (k i : Nat) : dp_I (dq_144 v) k i = sF_9 v k i := zi_143 v k i
theorem zj_144 (v : Nat → Int32) (k i : Nat) : dp_J (dq_144 v) k i = 0 := zj_143 v k i
theorem zr_144 (v : Nat → Int32) (i : Nat) : dp_R (dq_144 v) 59 i = none := sz_rR (by decide) (zr_143 v) i
theorem zl_25_144 (v : Nat → Int32) : dp_len (dq_144 v) 25 = (Int32.toNatClampNeg (dq_h (v 0) (12 : Int32))) := zl_25_143 v
theorem zl_26_144 (v : Nat → Int32) : dp_len (dq_144 v) 26 = (Int32.toNatClampNeg (dq_h (v 0) (12 : Int32))) := zl_26_143 v
theorem zl_27_144 (v : Nat → Int32) : dp_len (dq_144 v) 27 = (Int32.toNatClampNeg ((dq_h (v 0) (12 : Int32)) * (16 : Int32))) := zl_27_143 v
theorem zl_33_144 (v : Nat → Int32) : dp_len (dq_144 v) 33 = (Int32.toNatClampNeg (dq_h (v 2) (20 : Int32))) := zl_33_143 v
theorem zl_34_144 (v : Nat → Int32) : dp_len (dq_144 v) 34 = (Int32.toNatClampNeg (dq_h (v 2) (20 : Int32))) := zl_34_143 v
theorem zl_35_144 (v : Nat → Int32) : dp_len (dq_144 v) 35 = (Int32.toNatClampNeg (dq_h (v 2) (20 : Int32))) := zl_35_143 v
theorem zl_36_144 (v : Nat → Int32) : dp_len (dq_144 v) 36 = (Int32.toNatClampNeg ((dq_h (v 2) (20 : Int32)) * (dq_h (v 3) (8 : Int32)))) := zl_36_143 v
theorem zi_145 (v : Nat → Int32) (k i : Nat) : dp_I (dq_145 v) k i = sF_9 v k i := sz_n (dqn_144 v) (zi_144 v) (fun _ => rfl) k i
theorem zj_145 (v : Nat → Int32) (k i : Nat) : dp_J (dq_145 v) k i = 0 := sz_nJ (zj_144 v) k i
theorem zr_145 (v : Nat → Int32) (i : Nat) : dp_R (dq_145 v) 59 i = none := sz_nR (zr_144 v) i
theorem zl_25_145 (v : Nat → Int32) : dp_len (dq_145 v) 25 = (Int32.toNatClampNeg (dq_h (v 0) (12 : Int32))) := sz_nL (dqn_144 v) (by decide) (zl_25_144 v)
theorem zl_26_145 (v : Nat → Int32) : dp_len (dq_145 v) 26 = (Int32.toNatClampNeg (dq_h (v 0) (12 : Int32))) := sz_nL (dqn_144 v) (by decide) (zl_26_144 v)
theorem zl_27_145 (v : Nat → Int32) : dp_len (dq_145 v) 27 = (Int32.toNatClampNeg ((dq_h (v 0) (12 : Int32)) * (16 : Int32))) := sz_nL (dqn_144 v) (by decide) (zl_27_144 v)
theorem zl_33_145 (v : Nat → Int32) : dp_len (dq_145 v) 33 = (Int32.toNatClampNeg (dq_h (v 2) (20 : Int32))) := sz_nL (dqn_144 v) (by decide) (zl_33_144 v)
theorem zl_34_145 (v : Nat → Int32) : dp_len (dq_145 v) 34 = (Int32.toNatClampNeg (dq_h (v 2) (20 : Int32))) := sz_nL (dqn_144 v) (by decide) (zl_34_144 v)
theorem zl_35_145 (v : Nat → Int32) : dp_len (dq_145 v) 35 = (Int32.toNatClampNeg (dq_h (v 2) (20 : Int32))) := sz_nL (dqn_144 v) (by decide) (zl_35_144 v)
theorem zl_36_145 (v : Nat → Int32) : dp_len (dq_145 v) 36 = (Int32.toNatClampNeg ((dq_h (v 2) (20 : Int32)) * (dq_h (v 3) (8 : Int32)))) := sz_nL (dqn_144 v) (by decide) (zl_36_144 v)
theorem zi_146 (v : Nat → Int32) (k i : Nat) : dp_I (dq_146 v) k i = sF_9 v k i := zi_145 v k i
theorem zj_146 (v : Nat → Int32) (k i : Nat) : dp_J (dq_146 v) k i = 0 := zj_145 v k i
theorem zr_146 (v : Nat → Int32) (i : Nat) : dp_R (dq_146 v) 59 i = none := sz_rR (by decide) (zr_145 v) i
theorem zl_25_146 (v : Nat → Int32) : dp_len (dq_146 v) 25 = (Int32.toNatClampNeg (dq_h (v 0) (12 : Int32))) := zl_25_145 v
theorem zl_26_146 (v : Nat → Int32) : dp_len (dq_146 v) 26 = (Int32.toNatClampNeg (dq_h (v 0) (12 : Int32))) := zl_26_145 v
theorem zl_27_146 (v : Nat → Int32) : dp_len (dq_146 v) 27 = (Int32.toNatClampNeg ((dq_h (v 0) (12 : Int32)) * (16 : Int32))) := zl_27_145 v
theorem zl_33_146 (v : Nat → Int32) : dp_len (dq_146 v) 33 = (Int32.toNatClampNeg (dq_h (v 2) (20 : Int32))) := zl_33_145 v
theorem zl_34_146 (v : Nat → Int32) : dp_len (dq_146 v) 34 = (Int32.toNatClampNeg (dq_h (v 2) (20 : Int32))) := zl_34_145 v
theorem zl_35_146 (v : Nat → Int32) : dp_len (dq_146 v) 35 = (Int32.toNatClampNeg (dq_h (v 2) (20 : Int32))) := zl_35_145 v
theorem zl_36_146 (v : Nat → Int32) : dp_len (dq_146 v) 36 = (Int32.toNatClampNeg ((dq_h (v 2) (20 : Int32)) * (dq_h (v 3) (8 : Int32)))) := zl_36_145 v
theorem zi_147 (v : Nat → Int32) (k i : Nat) : dp_I (dq_147 v) k i = sF_9 v k i := zi_146 v k i
theorem zj_147 (v : Nat → Int32) (k i : Nat) : dp_J (dq_147 v) k i = 0 := zj_146 v k i
theorem zr_147 (v : Nat → Int32) (i : Nat) : dp_R (dq_147 v) 59 i = none := sz_rR (by decide) (zr_146 v) i
theorem zl_25_147 (v : Nat → Int32) : dp_len (dq_147 v) 25 = (Int32.toNatClampNeg (dq_h (v 0) (12 : Int32))) := zl_25_146 v
theorem zl_26_147 (v : Nat → Int32) : dp_len (dq_147 v) 26 = (Int32.toNatClampNeg (dq_h (v 0) (12 : Int32))) := zl_26_146 v
theorem zl_27_147 (v : Nat → Int32) : dp_len (dq_147 v) 27 = (Int32.toNatClampNeg ((dq_h (v 0) (12 : Int32)) * (16 : Int32))) := zl_27_146 v
theorem zl_33_147 (v : Nat → Int32) : dp_len (dq_147 v) 33 = (Int32.toNatClampNeg (dq_h (v 2) (20 : Int32))) := zl_33_146 v
theorem zl_34_147 (v : Nat → Int32) : dp_len (dq_147 v) 34 = (Int32.toNatClampNeg (dq_h (v 2) (20 : Int32))) := zl_34_146 v
theorem zl_35_147 (v : Nat → Int32) : dp_len (dq_147 v) 35 = (Int32.toNatClampNeg (dq_h (v 2) (20 : Int32))) := zl_35_146 v
theorem zl_36_147 (v : Nat → Int32) : dp_len (dq_147 v) 36 = (Int32.toNatClampNeg ((dq_h (v 2) (20 : Int32)) * (dq_h (v 3) (8 : Int32)))) := zl_36_146 v
theorem zi_148 (v : Nat → Int32) (k i : Nat) : dp_I (dq_148 v) k i = sF_9 v k i := sz_n (dqn_147 v) (zi_147 v) (fun _ => rfl) k i
theorem zj_148 (v : Nat → Int32) (k i : Nat) : dp_J (dq_148 v) k i = 0 := sz_nJ (zj_147 v) k i
theorem zr_148 (v : Nat → Int32) (i : Nat) : dp_R (dq_148 v) 59 i = none := sz_nR (zr_147 v) i
theorem zl_25_148 (v : Nat → Int32) : dp_len (dq_148 v) 25 = (Int32.toNatClampNeg (dq_h (v 0) (12 : Int32))) := sz_nL (dqn_147 v) (by decide) (zl_25_147 v)
theorem zl_26_148 (v : Nat → Int32) : dp_len (dq_148 v) 26 = (Int32.toNatClampNeg (dq_h (v 0) (12 : Int32))) := sz_nL (dqn_147 v) (by decide) (zl_26_147 v)
theorem zl_27_148 (v : Nat → Int32) : dp_len (dq_148 v) 27 = (Int32.toNatClampNeg ((dq_h (v 0) (12 : Int32)) * (16 : Int32))) := sz_nL (dqn_147 v) (by decide) (zl_27_147 v)
theorem zl_33_148 (v : Nat → Int32) : dp_len (dq_148 v) 33 = (Int32.toNatClampNeg (dq_h (v 2) (20 : Int32))) := sz_nL (dqn_147 v) (by decide) (zl_33_147 v)
theorem zl_34_148 (v : Nat → Int32) : dp_len (dq_148 v) 34 = (Int32.toNatClampNeg (dq_h (v 2) (20 : Int32))) := sz_nL (dqn_147 v) (by decide) (zl_34_147 v)
theorem zl_35_148 (v : Nat → Int32) : dp_len (dq_148 v) 35 = (Int32.toNatClampNeg (dq_h (v 2) (20 : Int32))) := sz_nL (dqn_147 v) (by decide) (zl_35_147 v)
theorem zl_36_148 (v : Nat → Int32) : dp_len (dq_148 v) 36 = (Int32.toNatClampNeg ((dq_h (v 2) (20 : Int32)) * (dq_h (v 3) (8 : Int32)))) := sz_nL (dqn_147 v) (by decide) (zl_36_147 v)
def sF_10 (v : Nat → Int32) (k i : Nat) : Int32 := if k = 68 ∧ i = 2 then (-1 : Int32) else sF_9 v k i
theorem zi_149 (v : Nat → Int32) (k i : Nat) : dp_I (dq_149 v) k i = sF_10 v k i := sz_i (zi_148 v) k i
theorem zj_149 (v : Nat → Int32) (k i : Nat) : dp_J (dq_149 v) k i = 0 := zj_148 v k i
theorem zr_149 (v : Nat → Int32) (i : Nat) : dp_R (dq_149 v) 59 i = none := zr_148 v i
theorem zl_25_149 (v : Nat → Int32) : dp_len (dq_149 v) 25 = (Int32.toNatClampNeg (dq_h (v 0) (12 : Int32))) := zl_25_148 v
theorem zl_26_149 (v : Nat → Int32) : dp_len (dq_149 v) 26 = (Int32.toNatClampNeg (dq_h (v 0) (12 : Int32))) := zl_26_148 v
theorem zl_27_149 (v : Nat → Int32) : dp_len (dq_149 v) 27 = (Int32.toNatClampNeg ((dq_h (v 0) (12 : Int32)) * (16 : Int32))) := zl_27_148 v
theorem zl_33_149 (v : Nat → Int32) : dp_len (dq_149 v) 33 = (Int32.toNatClampNeg (dq_h (v 2) (20 : Int32))) := zl_33_148 v
theorem zl_34_149 (v : Nat → Int32) : dp_len (dq_149 v) 34 = (Int32.toNatClampNeg (dq_h (v 2) (20 : Int32))) := zl_34_148 v
theorem zl_35_149 (v : Nat → Int32) : dp_len (dq_149 v) 35 = (Int32.toNatClampNeg (dq_h (v 2) (20 : Int32))) := zl_35_148 v
theorem zl_36_149 (v : Nat → Int32) : dp_len (dq_149 v) 36 = (Int32.toNatClampNeg ((dq_h (v 2) (20 : Int32)) * (dq_h (v 3) (8 : Int32)))) := zl_36_148 v
theorem zi_150 (v : Nat → Int32) (k i : Nat) : dp_I (dq_150 v) k i = sF_10 v k i := sz_n (dqn_149 v) (zi_149 v) (fun _ => rfl) k i
theorem zj_150 (v : Nat → Int32) (k i : Nat) : dp_J (dq_150 v) k i = 0 := sz_nJ (zj_149 v) k i
theorem zr_150 (v : Nat → Int32) (i : Nat) : dp_R (dq_150 v) 59 i = none := sz_nR (zr_149 v) i
theorem zl_25_150 (v : Nat → Int32) : dp_len (dq_150 v) 25 = (Int32.toNatClampNeg (dq_h (v 0) (12 : Int32))) := sz_nL (dqn_149 v) (by decide) (zl_25_149 v)
theorem zl_26_150 (v : Nat → Int32) : dp_len (dq_150 v) 26 = (Int32.toNatClampNeg (dq_h (v 0) (12 : Int32))) := sz_nL (dqn_149 v) (by decide) (zl_26_149 v)
theorem zl_27_150 (v : Nat → Int32) : dp_len (dq_150 v) 27 = (Int32.toNatClampNeg ((dq_h (v 0) (12 : Int32)) * (16 : Int32))) := sz_nL (dqn_149 v) (by decide) (zl_27_149 v)
theorem zl_33_150 (v : Nat → Int32) : dp_len (dq_150 v) 33 = (Int32.toNatClampNeg (dq_h (v 2) (20 : Int32))) := sz_nL (dqn_149 v) (by decide) (zl_33_149 v)
theorem zl_34_150 (v : Nat → Int32) : dp_len (dq_150 v) 34 = (Int32.toNatClampNeg (dq_h (v 2) (20 : Int32))) := sz_nL (dqn_149 v) (by decide) (zl_34_149 v)
theorem zl_35_150 (v : Nat → Int32) : dp_len (dq_150 v) 35 = (Int32.toNatClampNeg (dq_h (v 2) (20 : Int32))) := sz_nL (dqn_149 v) (by decide) (zl_35_149 v)
theorem zl_36_150 (v : Nat → Int32) : dp_len (dq_150 v) 36 = (Int32.toNatClampNeg ((dq_h (v 2) (20 : Int32)) * (dq_h (v 3) (8 : Int32)))) := sz_nL (dqn_149 v) (by decide) (zl_36_149 v)
theorem zi_151 (v : Nat → Int32) (k i : Nat) : dp_I (dq_151 v) k i = sF_10 v k i := zi_150 v k i
theorem zj_151 (v : Nat → Int32) (k i : Nat) : dp_J (dq_151 v) k i = 0 := zj_150 v k i
theorem zr_151 (v : Nat → Int32) (i : Nat) : dp_R (dq_151 v) 59 i = none := sz_rR (by decide) (zr_150 v) i
theorem zl_25_151 (v : Nat → Int32) : dp_len (dq_151 v) 25 = (Int32.toNatClampNeg (dq_h (v 0) (12 : Int32))) := zl_25_150 v
theorem zl_26_151 (v : Nat → Int32) : dp_len (dq_151 v) 26 = (Int32.toNatClampNeg (dq_h (v 0) (12 : Int32))) := zl_26_150 v
theorem zl_27_151 (v : Nat → Int32) : dp_len (dq_151 v) 27 = (Int32.toNatClampNeg ((dq_h (v 0) (12 : Int32)) * (16 : Int32))) := zl_27_150 v
theorem zl_33_151 (v : Nat → Int32) : dp_len (dq_151 v) 33 = (Int32.toNatClampNeg (dq_h (v 2) (20 : Int32))) := zl_33_150 v
theorem zl_34_151 (v : Nat → Int32) : dp_len (dq_151 v) 34 = (Int32.toNatClampNeg (dq_h (v 2) (20 : Int32))) := zl_34_150 v
theorem zl_35_151 (v : Nat → Int32) : dp_len (dq_151 v) 35 = (Int32.toNatClampNeg (dq_h (v 2) (20 : Int32))) := zl_35_150 v
theorem zl_36_151 (v : Nat → Int32) : dp_len (dq_151 v) 36 = (Int32.toNatClampNeg ((dq_h (v 2) (20 : Int32)) * (dq_h (v 3) (8 : Int32)))) := zl_36_150 v
theorem zi_152 (v : Nat → Int32) (k i : Nat) : dp_I (dq_152 v) k i = sF_10 v k i := sz_n (dqn_151 v) (zi_151 v) (fun _ => rfl) k i
theorem zj_152 (v : Nat → Int32) (k i : Nat) : dp_J (dq_152 v) k i = 0 := sz_nJ (zj_151 v) k i
theorem zr_152 (v : Nat → Int32) (i : Nat) : dp_R (dq_152 v) 59 i = none := sz_nR (zr_151 v) i
theorem zl_25_152 (v : Nat → Int32) : dp_len (dq_152 v) 25 = (Int32.toNatClampNeg (dq_h (v 0) (12 : Int32))) := sz_nL (dqn_151 v) (by decide) (zl_25_151 v)
theorem zl_26_152 (v : Nat → Int32) : dp_len (dq_152 v) 26 = (Int32.toNatClampNeg (dq_h (v 0) (12 : Int32))) := sz_nL (dqn_151 v) (by decide) (zl_26_151 v)
theorem zl_27_152 (v : Nat → Int32) : dp_len (dq_152 v) 27 = (Int32.toNatClampNeg ((dq_h (v 0) (12 : Int32)) * (16 : Int32))) := sz_nL (dqn_151 v) (by decide) (zl_27_151 v)
theorem zl_33_152 (v : Nat → Int32) : dp_len (dq_152 v) 33 = (Int32.toNatClampNeg (dq_h (v 2) (20 : Int32))) := sz_nL (dqn_151 v) (by decide) (zl_33_151 v)
theorem zl_34_152 (v : Nat → Int32) : dp_len (dq_152 v) 34 = (Int32.toNatClampNeg (dq_h (v 2) (20 : Int32))) := sz_nL (dqn_151 v) (by decide) (zl_34_151 v)
theorem zl_35_152 (v : Nat → Int32) : dp_len (dq_152 v) 35 = (Int32.toNatClampNeg (dq_h (v 2) (20 : Int32))) := sz_nL (dqn_151 v) (by decide) (zl_35_151 v)
theorem zl_36_152 (v : Nat → Int32) : dp_len (dq_152 v) 36 = (Int32.toNatClampNeg ((dq_h (v 2) (20 : Int32)) * (dq_h (v 3) (8 : Int32)))) := sz_nL (dqn_151 v) (by decide) (zl_36_151 v)
theorem zi_153 (v : Nat → Int32) (k i : Nat) : dp_I (dq_153 v) k i = sF_10 v k i := zi_152 v k i
theorem zj_153 (v : Nat → Int32) (k i : Nat) : dp_J (dq_153 v) k i = 0 := zj_152 v k i
theorem zr_153 (v : Nat → Int32) (i : Nat) : dp_R (dq_153 v) 59 i = none := sz_rR (by decide) (zr_152 v) i
theorem zl_25_153 (v : Nat → Int32) : dp_len (dq_153 v) 25 = (Int32.toNatClampNeg (dq_h (v 0) (12 : Int32))) := zl_25_152 v
theorem zl_26_153 (v : Nat → Int32) : dp_len (dq_153 v) 26 = (Int32.toNatClampNeg (dq_h (v 0) (12 : Int32))) := zl_26_152 v
theorem zl_27_153 (v : Nat → Int32) : dp_len (dq_153 v) 27 = (Int32.toNatClampNeg ((dq_h (v 0) (12 : Int32)) * (16 : Int32))) := zl_27_152 v
theorem zl_33_153 (v : Nat → Int32) : dp_len (dq_153 v) 33 = (Int32.toNatClampNeg (dq_h (v 2) (20 : Int32))) := zl_33_152 v
theorem zl_34_153 (v : Nat → Int32) : dp_len (dq_153 v) 34 = (Int32.toNatClampNeg (dq_h (v 2) (20 : Int32))) := zl_34_152 v
theorem zl_35_153 (v : Nat → Int32) : dp_len (dq_153 v) 35 = (Int32.toNatClampNeg (dq_h (v 2) (20 : Int32))) := zl_35_152 v
theorem zl_36_153 (v : Nat → Int32) : dp_len (dq_153 v) 36 = (Int32.toNatClampNeg ((dq_h (v 2) (20 : Int32)) * (dq_h (v 3) (8 : Int32)))) := zl_36_152 v
theorem zi_154 (v : Nat → Int32) (k i : Nat) : dp_I (dq_154 v) k i = sF_10 v k i := sz_n (dqn_153 v) (zi_153 v) (fun _ => rfl) k i
theorem zj_154 (v : Nat → Int32) (k i : Nat) : dp_J (dq_154 v) k i = 0 := sz_nJ (zj_153 v) k i
theorem zr_154 (v : Nat → Int32) (i : Nat) : dp_R (dq_154 v) 59 i = none := sz_nR (zr_153 v) i
theorem zl_25_154 (v : Nat → Int32) : dp_len (dq_154 v) 25 = (Int32.toNatClampNeg (dq_h (v 0) (12 : Int32))) := sz_nL (dqn_153 v) (by decide) (zl_25_153 v)
theorem zl_26_154 (v : Nat → Int32) : dp_len (dq_154 v) 26 = (Int32.toNatClampNeg (dq_h (v 0) (12 : Int32))) := sz_nL (dqn_153 v) (by decide) (zl_26_153 v)
theorem zl_27_154 (v : Nat → Int32) : dp_len (dq_154 v) 27 = (Int32.toNatClampNeg ((dq_h (v 0) (12 : Int32)) * (16 : Int32))) := sz_nL (dqn_153 v) (by decide) (zl_27_153 v)
theorem zl_33_154 (v : Nat → Int32) : dp_len (dq_154 v) 33 = (Int32.toNatClampNeg (dq_h (v 2) (20 : Int32))) := sz_nL (dqn_153 v) (by decide) (zl_33_153 v)
theorem zl_34_154 (v : Nat → Int32) : dp_len (dq_154 v) 34 = (Int32.toNatClampNeg (dq_h (v 2) (20 : Int32))) := sz_nL (dqn_153 v) (by decide) (zl_34_153 v)
theorem zl_35_154 (v : Nat → Int32) : dp_len (dq_154 v) 35 = (Int32.toNatClampNeg (dq_h (v 2) (20 : Int32))) := sz_nL (dqn_153 v) (by decide) (zl_35_153 v)
theorem zl_36_154 (v : Nat → Int32) : dp_len (dq_154 v) 36 = (Int32.toNatClampNeg ((dq_h (v 2) (20 : Int32)) * (dq_h (v 3) (8 : Int32)))) := sz_nL (dqn_153 v) (by decide) (zl_36_153 v)
theorem zi_155 (v : Nat → Int32) (k i : Nat) : dp_I (dq_155 v) k i = sF_10 v k i := zi_154 v k i
theorem zj_155 (v : Nat → Int32) (k i : Nat) : dp_J (dq_155 v) k i = 0 := zj_154 v k i
theorem zr_155 (v : Nat → Int32) (i : Nat) : dp_R (dq_155 v) 59 i = none := sz_rR (by decide) (zr_154 v) i
theorem zl_25_155 (v : Nat → Int32) : dp_len (dq_155 v) 25 = (Int32.toNatClampNeg (dq_h (v 0) (12 : Int32))) := zl_25_154 v
theorem zl_26_155 (v : Nat → Int32) : dp_len (dq_155 v) 26 = (Int32.toNatClampNeg (dq_h (v 0) (12 : Int32))) := zl_26_154 v
theorem zl_27_155 (v : Nat → Int32) : dp_len (dq_155 v) 27 = (Int32.toNatClampNeg ((dq_h (v 0) (12 : Int32)) * (16 : Int32))) := zl_27_154 v
theorem zl_33_155 (v : Nat → Int32) : dp_len (dq_155 v) 33 = (Int32.toNatClampNeg (dq_h (v 2) (20 : Int32))) := zl_33_154 v
theorem zl_34_155 (v : Nat → Int32) : dp_len (dq_155 v) 34 = (Int32.toNatClampNeg (dq_h (v 2) (20 : Int32))) := zl_34_154 v
theorem zl_35_155 (v : Nat → Int32) : dp_len (dq_155 v) 35 = (Int32.toNatClampNeg (dq_h (v 2) (20 : Int32))) := zl_35_154 v
theorem zl_36_155 (v : Nat → Int32) : dp_len (dq_155 v) 36 = (Int32.toNatClampNeg ((dq_h (v 2) (20 : Int32)) * (dq_h (v 3) (8 : Int32)))) := zl_36_154 v
theorem zi_156 (v : Nat → Int32) (k i : Nat) : dp_I (dq_156 v) k i = sF_10 v k i := sz_n (dqn_155 v) (zi_155 v) (fun _ => rfl) k i
theorem zj_156 (v : Nat → Int32) (k i : Nat) : dp_J (dq_156 v) k i = 0 := sz_nJ (zj_155 v) k i
theorem zr_156 (v : Nat → Int32) (i : Nat) : dp_R (dq_156 v) 59 i = none := sz_nR (zr_155 v) i
theorem zl_25_156 (v : Nat → Int32) : dp_len (dq_156 v) 25 = (Int32.toNatClampNeg (dq_h (v 0) (12 : Int32))) := sz_nL (dqn_155 v) (by decide) (zl_25_155 v)
theorem zl_26_156 (v : Nat → Int32) : dp_len (dq_156 v) 26 = (Int32.toNatClampNeg (dq_h (v 0) (12 : Int32))) := sz_nL (dqn_155 v) (by decide) (zl_26_155 v)
theorem zl_27_156 (v : Nat → Int32) : dp_len (dq_156 v) 27 = (Int32.toNatClampNeg ((dq_h (v 0) (12 : Int32)) * (16 : Int32))) := sz_nL (dqn_155 v) (by decide) (zl_27_155 v)
theorem zl_33_156 (v : Nat → Int32) : dp_len (dq_156 v) 33 = (Int32.toNatClampNeg (dq_h (v 2) (20 : Int32))) := sz_nL (dqn_155 v) (by decide) (zl_33_155 v)
theorem zl_34_156 (v : Nat → Int32) : dp_len (dq_156 v) 34 = (Int32.toNatClampNeg (dq_h (v 2) (20 : Int32))) := sz_nL (dqn_155 v) (by decide) (zl_34_155 v)
theorem zl_35_156 (v : Nat → Int32) : dp_len (dq_156 v) 35 = (Int32.toNatClampNeg (dq_h (v 2) (20 : Int32))) := sz_nL (dqn_155 v) (by decide) (zl_35_155 v)
theorem zl_36_156 (v : Nat → Int32) : dp_len (dq_156 v) 36 = (Int32.toNatClampNeg ((dq_h (v 2) (20 : Int32)) * (dq_h (v 3) (8 : Int32)))) := sz_nL (dqn_155 v) (by decide) (zl_36_155 v)
theorem zi_157 (v : Nat → Int32) (k i : Nat) : dp_I (dq_157 v) k i = sF_10 v k i := zi_156 v k i
theorem zj_157 (v : Nat → Int32) (k i : Nat) : dp_J (dq_157 v) k i = 0 := zj_156 v k i
theorem zr_157 (v : Nat → Int32) (i : Nat) : dp_R (dq_157 v) 59 i = none := sz_rR (by decide) (zr_156 v) i
theorem zl_25_157 (v : Nat → Int32) : dp_len (dq_157 v) 25 = (Int32.toNatClampNeg (dq_h (v 0) (12 : Int32))) := zl_25_156 v
theorem zl_26_157 (v : Nat → Int32) : dp_len (dq_157 v) 26 = (Int32.toNatClampNeg (dq_h (v 0) (12 : Int32))) := zl_26_156 v
theorem zl_27_157 (v : Nat → Int32) : dp_len (dq_157 v) 27 = (Int32.toNatClampNeg ((dq_h (v 0) (12 : Int32)) * (16 : Int32))) := zl_27_156 v
theorem zl_33_157 (v : Nat → Int32) : dp_len (dq_157 v) 33 = (Int32.toNatClampNeg (dq_h (v 2) (20 : Int32))) := zl_33_156 v
theorem zl_34_157 (v : Nat → Int32) : dp_len (dq_157 v) 34 = (Int32.toNatClampNeg (dq_h (v 2) (20 : Int32))) := zl_34_156 v
theorem zl_35_157 (v : Nat → Int32) : dp_len (dq_157 v) 35 = (Int32.toNatClampNeg (dq_h (v 2) (20 : Int32))) := zl_35_156 v
theorem zl_36_157 (v : Nat → Int32) : dp_len (dq_157 v) 36 = (Int32.toNatClampNeg ((dq_h (v 2) (20 : Int32)) * (dq_h (v 3) (8 : Int32)))) := zl_36_156 v
theorem zi_158 (v : Nat → Int32) (k i : Nat) : dp_I (dq_158 v) k i = sF_10 v k i := sz_n (dqn_157 v) (zi_157 v) (fun _ => rfl) k i
theorem zj_158 (v : Nat → Int32) (k i : Nat) : dp_J (dq_158 v) k i = 0 := sz_nJ (zj_157 v) k i
theorem zr_158 (v : Nat → Int32) (i : Nat) : dp_R (dq_158 v) 59 i = none := sz_nR (zr_157 v) i
theorem zl_25_158 (v : Nat → Int32) : dp_len (dq_158 v) 25 = (Int32.toNatClampNeg (dq_h (v 0) (12 : Int32))) := sz_nL (dqn_157 v) (by decide) (zl_25_157 v)
theorem zl_26_158 (v : Nat → Int32) : dp_len (dq_158 v) 26 = (Int32.toNatClampNeg (dq_h (v 0) (12 : Int32))) := sz_nL (dqn_157 v) (by decide) (zl_26_157 v)
theorem zl_27_158 (v : Nat → Int32) : dp_len (dq_158 v) 27 = (Int32.toNatClampNeg ((dq_h (v 0) (12 : Int32)) * (16 : Int32))) := sz_nL (dqn_157 v) (by decide) (zl_27_157 v)
theorem zl_33_158 (v : Nat → Int32) : dp_len (dq_158 v) 33 = (Int32.toNatClampNeg (dq_h (v 2) (20 : Int32))) := sz_nL (dqn_157 v) (by decide) (zl_33_157 v)
theorem zl_34_158 (v : Nat → Int32) : dp_len (dq_158 v) 34 = (Int32.toNatClampNeg (dq_h (v 2) (20 : Int32))) := sz_nL (dqn_157 v) (by decide) (zl_34_157 v)
theorem zl_35_158 (v : Nat → Int32) : dp_len (dq_158 v) 35 = (Int32.toNatClampNeg (dq_h (v 2) (20 : Int32))) := sz_nL (dqn_157 v) (by decide) (zl_35_157 v)
theorem zl_36_158 (v : Nat → Int32) : dp_len (dq_158 v) 36 = (Int32.toNatClampNeg ((dq_h (v 2) (20 : Int32)) * (dq_h (v 3) (8 : Int32)))) := sz_nL (dqn_157 v) (by decide) (zl_36_157 v)
theorem zi_159 (v : Nat → Int32) (k i : Nat) : dp_I (dq_159 v) k i = sF_10 v k i := zi_158 v k i
theorem zj_159 (v : Nat → Int32) (k i : Nat) : dp_J (dq_159 v) k i = 0 := zj_158 v k i
theorem zr_159 (v : Nat → Int32) (i : Nat) : dp_R (dq_159 v) 59 i = none := sz_rR (by decide) (zr_158 v) i
theorem zl_25_159 (v : Nat → Int32) : dp_len (dq_159 v) 25 = (Int32.toNatClampNeg (dq_h (v 0) (12 : Int32))) := zl_25_158 v
theorem zl_26_159 (v : Nat → Int32) : dp_len (dq_159 v) 26 = (Int32.toNatClampNeg (dq_h (v 0) (12 : Int32))) := zl_26_158 v
theorem zl_27_159 (v : Nat → Int32) : dp_len (dq_159 v) 27 = (Int32.toNatClampNeg ((dq_h (v 0) (12 : Int32)) * (16 : Int32))) := zl_27_158 v
theorem zl_33_159 (v : Nat → Int32) : dp_len (dq_159 v) 33 = (Int32.toNatClampNeg (dq_h (v 2) (20 : Int32))) := zl_33_158 v
theorem zl_34_159 (v : Nat → Int32) : dp_len (dq_159 v) 34 = (Int32.toNatClampNeg (dq_h (v 2) (20 : Int32))) := zl_34_158 v
theorem zl_35_159 (v : Nat → Int32) : dp_len (dq_159 v) 35 = (Int32.toNatClampNeg (dq_h (v 2) (20 : Int32))) := zl_35_158 v
theorem zl_36_159 (v : Nat → Int32) : dp_len (dq_159 v) 36 = (Int32.toNatClampNeg ((dq_h (v 2) (20 : Int32)) * (dq_h (v 3) (8 : Int32)))) := zl_36_158 v
theorem zi_160 (v : Nat → Int32) (k i : Nat) : dp_I (dq_160 v) k i = sF_10 v k i := sz_n (dqn_159 v) (zi_159 v) (fun _ => rfl) k i
theorem zj_160 (v : Nat → Int32) (k i : Nat) : dp_J (dq_160 v) k i = 0 := sz_nJ (zj_159 v) k i
theorem zr_160 (v : Nat → Int32) (i : Nat) : dp_R (dq_160 v) 59 i = none := sz_nR (zr_159 v) i
theorem zl_25_160 (v : Nat → Int32) : dp_len (dq_160 v) 25 = (Int32.toNatClampNeg (dq_h (v 0) (12 : Int32))) := sz_nL (dqn_159 v) (by decide) (zl_25_159 v)
theorem zl_26_160 (v : Nat → Int32) : dp_len (dq_160 v) 26 = (Int32.toNatClampNeg (dq_h (v 0) (12 : Int32))) := sz_nL (dqn_159 v) (by decide) (zl_26_159 v)
theorem zl_27_160 (v : Nat → Int32) : dp_len (dq_160 v) 27 = (Int32.toNatClampNeg ((dq_h (v 0) (12 : Int32)) * (16 : Int32))) := sz_nL (dqn_159 v) (by decide) (zl_27_159 v)
theorem zl_33_160 (v : Nat → Int32) : dp_len (dq_160 v) 33 = (Int32.toNatClampNeg (dq_h (v 2) (20 : Int32))) := sz_nL (dqn_159 v) (by decide) (zl_33_159 v)
theorem zl_34_160 (v : Nat → Int32) : dp_len (dq_160 v) 34 = (Int32.toNatClampNeg (dq_h (v 2) (20 : Int32))) := sz_nL (dqn_159 v) (by decide) (zl_34_159 v)
theorem zl_35_160 (v : Nat → Int32) : dp_len (dq_160 v) 35 = (Int32.toNatClampNeg (dq_h (v 2) (20 : Int32))) := sz_nL (dqn_159 v) (by decide) (zl_35_159 v)
theorem zl_36_160 (v : Nat → Int32) : dp_len (dq_160 v) 36 = (Int32.toNatClampNeg ((dq_h (v 2) (20 : Int32)) * (dq_h (v 3) (8 : Int32)))) := sz_nL (dqn_159 v) (by decide) (zl_36_159 v)
theorem zi_161 (v : Nat → Int32) (k i : Nat) : dp_I (dq_161 v) k i = sF_10 v k i := zi_160 v k i
theorem zj_161 (v : Nat → Int32) (k i : Nat) : dp_J (dq_161 v) k i = 0 := zj_160 v k i
theorem zr_161 (v : Nat → Int32) (i : Nat) : dp_R (dq_161 v) 59 i = none := sz_rR (by decide) (zr_160 v) i
theorem zl_25_161 (v : Nat → Int32) : dp_len (dq_161 v) 25 = (Int32.toNatClampNeg (dq_h (v 0) (12 : Int32))) := zl_25_160 v
theorem zl_26_161 (v : Nat → Int32) : dp_len (dq_161 v) 26 = (Int32.toNatClampNeg (dq_h (v 0) (12 : Int32))) := zl_26_160 v
theorem zl_27_161 (v : Nat → Int32) : dp_len (dq_161 v) 27 = (Int32.toNatClampNeg ((dq_h (v 0) (12 : Int32)) * (16 : Int32))) := zl_27_160 v
theorem zl_33_161 (v : Nat → Int32) : dp_len (dq_161 v) 33 = (Int32.toNatClampNeg (dq_h (v 2) (20 : Int32))) := zl_33_160 v
theorem zl_34_161 (v : Nat → Int32) : dp_len (dq_161 v) 34 = (Int32.toNatClampNeg (dq_h (v 2) (20 : Int32))) := zl_34_160 v
theorem zl_35_161 (v : Nat → Int32) : dp_len (dq_161 v) 35 = (Int32.toNatClampNeg (dq_h (v 2) (20 : Int32))) := zl_35_160 v
theorem zl_36_161 (v : Nat → Int32) : dp_len (dq_161 v) 36 = (Int32.toNatClampNeg ((dq_h (v 2) (20 : Int32)) * (dq_h (v 3) (8 : Int32)))) := zl_36_160 v
theorem zi_162 (v : Nat → Int32) (k i : Nat) : dp_I (dq_162 v) k i = sF_10 v k i := zi_161 v k i
theorem zj_162 (v : Nat → Int32) (k i : Nat) : dp_J (dq_162 v) k i = 0 := zj_161 v k i
theorem zr_162 (v : Nat → Int32) (i : Nat) : dp_R (dq_162 v) 59 i = none := sz_rR (by decide) (zr_161 v) i
theorem zl_25_162 (v : Nat → Int32) : dp_len (dq_162 v) 25 = (Int32.toNatClampNeg (dq_h (v 0) (12 : Int32))) := zl_25_161 v
theorem zl_26_162 (v : Nat → Int32) : dp_len (dq_162 v) 26 = (Int32.toNatClampNeg (dq_h (v 0) (12 : Int32))) := zl_26_161 v
theorem zl_27_162 (v : Nat → Int32) : dp_len (dq_162 v) 27 = (Int32.toNatClampNeg ((dq_h (v 0) (12 : Int32)) * (16 : Int32))) := zl_27_161 v
theorem zl_33_162 (v : Nat → Int32) : dp_len (dq_162 v) 33 = (Int32.toNatClampNeg (dq_h (v 2) (20 : Int32))) := zl_33_161 v
theorem zl_34_162 (v : Nat → Int32) : dp_len (dq_162 v) 34 = (Int32.toNatClampNeg (dq_h (v 2) (20 : Int32))) := zl_34_161 v
theorem zl_35_162 (v : Nat → Int32) : dp_len (dq_162 v) 35 = (Int32.toNatClampNeg (dq_h (v 2) (20 : Int32))) := zl_35_161 v
theorem zl_36_162 (v : Nat → Int32) : dp_len (dq_162 v) 36 = (Int32.toNatClampNeg ((dq_h (v 2) (20 : Int32)) * (dq_h (v 3) (8 : Int32)))) := zl_36_161 v
theorem zi_163 (v : Nat → Int32) (k i : Nat) : dp_I (dq_163 v) k i = sF_10 v k i := sz_n (dqn_162 v) (zi_162 v) (fun _ => rfl) k i
theorem zj_163 (v : Nat → Int32) (k i : Nat) : dp_J (dq_163 v) k i = 0 := sz_nJ (zj_162 v) k i
theorem zr_163 (v : Nat → Int32) (i : Nat) : dp_R (dq_163 v) 59 i = none := sz_nR (zr_162 v) i
theorem zl_25_163 (v : Nat → Int32) : dp_len (dq_163 v) 25 = (Int32.toNatClampNeg (dq_h (v 0) (12 : Int32))) := sz_nL (dqn_162 v) (by decide) (zl_25_162 v)
theorem zl_26_163 (v : Nat → Int32) : dp_len (dq_163 v) 26 = (Int32.toNatClampNeg (dq_h (v 0) (12 : Int32))) := sz_nL (dqn_162 v) (by decide) (zl_26_162 v)
theorem zl_27_163 (v : Nat → Int32) : dp_len (dq_163 v) 27 = (Int32.toNatClampNeg ((dq_h (v 0) (12 : Int32)) * (16 : Int32))) := sz_nL (dqn_162 v) (by decide) (zl_27_162 v)
theorem zl_33_163 (v : Nat → Int32) : dp_len (dq_163 v) 33 = (Int32.toNatClampNeg (dq_h (v 2) (20 : Int32))) := sz_nL (dqn_162 v) (by decide) (zl_33_162 v)
theorem zl_34_163 (v : Nat → Int32) : dp_len (dq_163 v) 34 = (Int32.toNatClampNeg (dq_h (v 2) (20 : Int32))) := sz_nL (dqn_162 v) (by decide) (zl_34_162 v)
theorem zl_35_163 (v : Nat → Int32) : dp_len (dq_163 v) 35 = (Int32.toNatClampNeg (dq_h (v 2) (20 : Int32))) := sz_nL (dqn_162 v) (by decide) (zl_35_162 v)
theorem zl_36_163 (v : Nat → Int32) : dp_len (dq_163 v) 36 = (Int32.toNatClampNeg ((dq_h (v 2) (20 : Int32)) * (dq_h (v 3) (8 : Int32)))) := sz_nL (dqn_162 v) (by decide) (zl_36_162 v)
theorem zi_164 (v : Nat → Int32) (k i : Nat) : dp_I (dq_164 v) k i = sF_10 v k i := sz_n (dqn_163 v) (zi_163 v) (fun _ => rfl) k i
theorem zj_164 (v : Nat → Int32) (k i : Nat) : dp_J (dq_164 v) k i = 0 := sz_nJ (zj_163 v) k i
theorem zr_164 (v : Nat → Int32) (i : Nat) : dp_R (dq_164 v) 59 i = none := sz_nR (zr_163 v) i
theorem zl_25_164 (v : Nat → Int32) : dp_len (dq_164 v) 25 = (Int32.toNatClampNeg (dq_h (v 0) (12 : Int32))) := sz_nL (dqn_163 v) (by decide) (zl_25_163 v)
theorem zl_26_164 (v : Nat → Int32) : dp_len (dq_164 v) 26 = (Int32.toNatClampNeg (dq_h (v 0) (12 : Int32))) := sz_nL (dqn_163 v) (by decide) (zl_26_163 v)
theorem zl_27_164 (v : Nat → Int32) : dp_len (dq_164 v) 27 = (Int32.toNatClampNeg ((dq_h (v 0) (12 : Int32)) * (16 : Int32))) := sz_nL (dqn_163 v) (by decide) (zl_27_163 v)
theorem zl_33_164 (v : Nat → Int32) : dp_len (dq_164 v) 33 = (Int32.toNatClampNeg (dq_h (v 2) (20 : Int32))) := sz_nL (dqn_163 v) (by decide) (zl_33_163 v)
theorem zl_34_164 (v : Nat → Int32) : dp_len (dq_164 v) 34 = (Int32.toNatClampNeg (dq_h (v 2) (20 : Int32))) := sz_nL (dqn_163 v) (by decide) (zl_34_163 v)
theorem zl_35_164 (v : Nat → Int32) : dp_len (dq_164 v) 35 = (Int32.toNatClampNeg (dq_h (v 2) (20 : Int32))) := sz_nL (dqn_163 v) (by decide) (zl_35_163 v)
theorem zl_36_164 (v : Nat → Int32) : dp_len (dq_164 v) 36 = (Int32.toNatClampNeg ((dq_h (v 2) (20 : Int32)) * (dq_h (v 3) (8 : Int32)))) := sz_nL (dqn_163 v) (by decide) (zl_36_163 v)
theorem zi_165 (v : Nat → Int32) (k i : Nat) : dp_I (dq_165 v) k i = sF_10 v k i := zi_164 v k i
theorem zj_165 (v : Nat → Int32) (k i : Nat) : dp_J (dq_165 v) k i = 0 := zj_164 v k i
theorem zr_165 (v : Nat → Int32) (i : Nat) : dp_R (dq_165 v) 59 i = none := sz_rR (by decide) (zr_164 v) i
theorem zl_25_165 (v : Nat → Int32) : dp_len (dq_165 v) 25 = (Int32.toNatClampNeg (dq_h (v 0) (12 : Int32))) := zl_25_164 v
theorem zl_26_165 (v : Nat → Int32) : dp_len (dq_165 v) 26 = (Int32.toNatClampNeg (dq_h (v 0) (12 : Int32))) := zl_26_164 v
theorem zl_27_165 (v : Nat → Int32) : dp_len (dq_165 v) 27 = (Int32.toNatClampNeg ((dq_h (v 0) (12 : Int32)) * (16 : Int32))) := zl_27_164 v
theorem zl_33_165 (v : Nat → Int32) : dp_len (dq_165 v) 33 = (Int32.toNatClampNeg (dq_h (v 2) (20 : Int32))) := zl_33_164 v
theorem zl_34_165 (v : Nat → Int32) : dp_len (dq_165 v) 34 = (Int32.toNatClampNeg (dq_h (v 2) (20 : Int32))) := zl_34_164 v
theorem zl_35_165 (v : Nat → Int32) : dp_len (dq_165 v) 35 = (Int32.toNatClampNeg (dq_h (v 2) (20 : Int32))) := zl_35_164 v
theorem zl_36_165 (v : Nat → Int32) : dp_len (dq_165 v) 36 = (Int32.toNatClampNeg ((dq_h (v 2) (20 : Int32)) * (dq_h (v 3) (8 : Int32)))) := zl_36_164 v
theorem zi_166 (v : Nat → Int32) (k i : Nat) : dp_I (dq_166 v) k i = sF_10 v k i := sz_n (dqn_165 v) (zi_165 v) (fun _ => rfl) k i
theorem zj_166 (v : Nat → Int32) (k i : Nat) : dp_J (dq_166 v) k i = 0 := sz_nJ (zj_165 v) k i
theorem zr_166 (v : Nat → Int32) (i : Nat) : dp_R (dq_166 v) 59 i = none := sz_nR (zr_165 v) i
theorem zl_25_166 (v : Nat → Int32) : dp_len (dq_166 v) 25 = (Int32.toNatClampNeg (dq_h (v 0) (12 : Int32))) := sz_nL (dqn_165 v) (by decide) (zl_25_165 v)
theorem zl_26_166 (v : Nat → Int32) : dp_len (dq_166 v) 26 = (Int32.toNatClampNeg (dq_h (v 0) (12 : Int32))) := sz_nL (dqn_165 v) (by decide) (zl_26_165 v)
theorem zl_27_166 (v : Nat → Int32) : dp_len (dq_166 v) 27 = (Int32.toNatClampNeg ((dq_h (v 0) (12 : Int32)) * (16 : Int32))) := sz_nL (dqn_165 v) (by decide) (zl_27_165 v)
theorem zl_33_166 (v : Nat → Int32) : dp_len (dq_166 v) 33 = (Int32.toNatClampNeg (dq_h (v 2) (20 : Int32))) := sz_nL (dqn_165 v) (by decide) (zl_33_165 v)
theorem zl_34_166 (v : Nat → Int32) : dp_len (dq_166 v) 34 = (Int32.toNatClampNeg (dq_h (v 2) (20 : Int32))) := sz_nL (dqn_165 v) (by decide) (zl_34_165 v)
theorem zl_35_166 (v : Nat → Int32) : dp_len (dq_166 v) 35 = (Int32.toNatClampNeg (dq_h (v 2) (20 : Int32))) := sz_nL (dqn_165 v) (by decide) (zl_35_165 v)
theorem zl_36_166 (v : Nat → Int32) : dp_len (dq_166 v) 36 = (Int32.toNatClampNeg ((dq_h (v 2) (20 : Int32)) * (dq_h (v 3) (8 : Int32)))) := sz_nL (dqn_165 v) (by decide) (zl_36_165 v)
theorem zi_167 (v : Nat → Int32) (k i : Nat) : dp_I (dq_167 v) k i = sF_10 v k i := zi_166 v k i
theorem zj_167 (v : Nat → Int32) (k i : Nat) : dp_J (dq_167 v) k i = 0 := zj_166 v k i
theorem zr_167 (v : Nat → Int32) (i : Nat) : dp_R (dq_167 v) 59 i = none := sz_rR (by decide) (zr_166 v) i
theorem zl_25_167 (v : Nat → Int32) : dp_len (dq_167 v) 25 = (Int32.toNatClampNeg (dq_h (v 0) (12 : Int32))) := zl_25_166 v
theorem zl_26_167 (v : Nat → Int32) : dp_len (dq_167 v) 26 = (Int32.toNatClampNeg (dq_h (v 0) (12 : Int32))) := zl_26_166 v
theorem zl_27_167 (v : Nat → Int32) : dp_len (dq_167 v) 27 = (Int32.toNatClampNeg ((dq_h (v 0) (12 : Int32)) * (16 : Int32))) := zl_27_166 v
theorem zl_33_167 (v : Nat → Int32) : dp_len (dq_167 v) 33 = (Int32.toNatClampNeg (dq_h (v 2) (20 : Int32))) := zl_33_166 v
theorem zl_34_167 (v : Nat → Int32) : dp_len (dq_167 v) 34 = (Int32.toNatClampNeg (dq_h (v 2) (20 : Int32))) := zl_34_166 v
theorem zl_35_167 (v : Nat → Int32) : dp_len (dq_167 v) 35 = (Int32.toNatClampNeg (dq_h (v 2) (20 : Int32))) := zl_35_166 v
theorem zl_36_167 (v : Nat → Int32) : dp_len (dq_167 v) 36 = (Int32.toNatClampNeg ((dq_h (v 2) (20 : Int32)) * (dq_h (v 3) (8 : Int32)))) := zl_36_166 v
theorem zi_168 (v : Nat → Int32) (k i : Nat) : dp_I (dq_168 v) k i = sF_10 v k i := sz_n (dqn_167 v) (zi_167 v) (fun _ => rfl) k i
theorem zj_168 (v : Nat → Int32) (k i : Nat) : dp_J (dq_168 v) k i = 0 := sz_nJ (zj_167 v) k i
theorem zr_168 (v : Nat → Int32) (i : Nat) : dp_R (dq_168 v) 59 i = none := sz_nR (zr_167 v) i
theorem zl_25_168 (v : Nat → Int32) : dp_len (dq_168 v) 25 = (Int32.toNatClampNeg (dq_h (v 0) (12 : Int32))) := sz_nL (dqn_167 v) (by decide) (zl_25_167 v)
theorem zl_26_168 (v : Nat → Int32) : dp_len (dq_168 v) 26 = (Int32.toNatClampNeg (dq_h (v 0) (12 : Int32))) := sz_nL (dqn_167 v) (by decide) (zl_26_167 v)
theorem zl_27_168 (v : Nat → Int32) : dp_len (dq_168 v) 27 = (Int32.toNatClampNeg ((dq_h (v 0) (12 : Int32)) * (16 : Int32))) := sz_nL (dqn_167 v) (by decide) (zl_27_167 v)
theorem zl_33_168 (v : Nat → Int32) : dp_len (dq_168 v) 33 = (Int32.toNatClampNeg (dq_h (v 2) (20 : Int32))) := sz_nL (dqn_167 v) (by decide) (zl_33_167 v)
theorem zl_34_168 (v : Nat → Int32) : dp_len (dq_168 v) 34 = (Int32.toNatClampNeg (dq_h (v 2) (20 : Int32))) := sz_nL (dqn_167 v) (by decide) (zl_34_167 v)
theorem zl_35_168 (v : Nat → Int32) : dp_len (dq_168 v) 35 = (Int32.toNatClampNeg (dq_h (v 2) (20 : Int32))) := sz_nL (dqn_167 v) (by decide) (zl_35_167 v)
theorem zl_36_168 (v : Nat → Int32) : dp_len (dq_168 v) 36 = (Int32.toNatClampNeg ((dq_h (v 2) (20 : Int32)) * (dq_h (v 3) (8 : Int32)))) := sz_nL (dqn_167 v) (by decide) (zl_36_167 v)
theorem zi_169 (v : Nat → Int32) (k i : Nat) : dp_I (dq_169 v) k i = sF_10 v k i := zi_168 v k i
theorem zj_169 (v : Nat → Int32) (k i : Nat) : dp_J (dq_169 v) k i = 0 := zj_168 v k i
theorem zr_169 (v : Nat → Int32) (i : Nat) : dp_R (dq_169 v) 59 i = none := sz_rR (by decide) (zr_168 v) i
theorem zl_25_169 (v : Nat → Int32) : dp_len (dq_169 v) 25 = (Int32.toNatClampNeg (dq_h (v 0) (12 : Int32))) := zl_25_168 v
theorem zl_26_169 (v : Nat → Int32) : dp_len (dq_169 v) 26 = (Int32.toNatClampNeg (dq_h (v 0) (12 : Int32))) := zl_26_168 v
theorem zl_27_169 (v : Nat → Int32) : dp_len (dq_169 v) 27 = (Int32.toNatClampNeg ((dq_h (v 0) (12 : Int32)) * (16 : Int32))) := zl_27_168 v
theorem zl_33_169 (v : Nat → Int32) : dp_len (dq_169 v) 33 = (Int32.toNatClampNeg (dq_h (v 2) (20 : Int32))) := zl_33_168 v
theorem zl_34_169 (v : Nat → Int32) : dp_len (dq_169 v) 34 = (Int32.toNatClampNeg (dq_h (v 2) (20 : Int32))) := zl_34_168 v
theorem zl_35_169 (v : Nat → Int32) : dp_len (dq_169 v) 35 = (Int32.toNatClampNeg (dq_h (v 2) (20 : Int32))) := zl_35_168 v
theorem zl_36_169 (v : Nat → Int32) : dp_len (dq_169 v) 36 = (Int32.toNatClampNeg ((dq_h (v 2) (20 : Int32)) * (dq_h (v 3) (8 : Int32)))) := zl_36_168 v
theorem zi_170 (v : Nat → Int32) (k i : Nat) : dp_I (dq_170 v) k i = sF_10 v k i := sz_n (dqn_169 v) (zi_169 v) (fun _ => rfl) k i
theorem zj_170 (v : Nat → Int32) (k i : Nat) : dp_J (dq_170 v) k i = 0 := sz_nJ (zj_169 v) k i
theorem zr_170 (v : Nat → Int32) (i : Nat) : dp_R (dq_170 v) 59 i = none := sz_nR (zr_169 v) i
theorem zl_25_170 (v : Nat → Int32) : dp_len (dq_170 v) 25 = (Int32.toNatClampNeg (dq_h (v 0) (12 : Int32))) := sz_nL (dqn_169 v) (by decide) (zl_25_169 v)
theorem zl_26_170 (v : Nat → Int32) : dp_len (dq_170 v) 26 = (Int32.toNatClampNeg (dq_h (v 0) (12 : Int32))) := sz_nL (dqn_169 v) (by decide) (zl_26_169 v)
theorem zl_27_170 (v : Nat → Int32) : dp_len (dq_170 v) 27 = (Int32.toNatClampNeg ((dq_h (v 0) (12 : Int32)) * (16 : Int32))) := sz_nL (dqn_169 v) (by decide) (zl_27_169 v)
theorem zl_33_170 (v : Nat → Int32) : dp_len (dq_170 v) 33 = (Int32.toNatClampNeg (dq_h (v 2) (20 : Int32))) := sz_nL (dqn_169 v) (by decide) (zl_33_169 v)
theorem zl_34_170 (v : Nat → Int32) : dp_len (dq_170 v) 34 = (Int32.toNatClampNeg (dq_h (v 2) (20 : Int32))) := sz_nL (dqn_169 v) (by decide) (zl_34_169 v)
theorem zl_35_170 (v : Nat → Int32) : dp_len (dq_170 v) 35 = (Int32.toNatClampNeg (dq_h (v 2) (20 : Int32))) := sz_nL (dqn_169 v) (by decide) (zl_35_169 v)
theorem zl_36_170 (v : Nat → Int32) : dp_len (dq_170 v) 36 = (Int32.toNatClampNeg ((dq_h (v 2) (20 : Int32)) * (dq_h (v 3) (8 : Int32)))) := sz_nL (dqn_169 v) (by decide) (zl_36_169 v)
theorem zi_171 (v : Nat → Int32) (k i : Nat) : dp_I (dq_171 v) k i = sF_10 v k i := zi_170 v k i
theorem zj_171 (v : Nat → Int32) (k i : Nat) : dp_J (dq_171 v) k i = 0 := zj_170 v k i
theorem zr_171 (v : Nat → Int32) (i : Nat) : dp_R (dq_171 v) 59 i = none := sz_rR (by decide) (zr_170 v) i
theorem zl_25_171 (v : Nat → Int32) : dp_len (dq_171 v) 25 = (Int32.toNatClampNeg (dq_h (v 0) (12 : Int32))) := zl_25_170 v
theorem zl_26_171 (v : Nat → Int32) : dp_len (dq_171 v) 26 = (Int32.toNatClampNeg (dq_h (v 0) (12 : Int32))) := zl_26_170 v
theorem zl_27_171 (v : Nat → Int32) : dp_len (dq_171 v) 27 = (Int32.toNatClampNeg ((dq_h (v 0) (12 : Int32)) * (16 : Int32))) := zl_27_170 v
theorem zl_33_171 (v : Nat → Int32) : dp_len (dq_171 v) 33 = (Int32.toNatClampNeg (dq_h (v 2) (20 : Int32))) := zl_33_170 v
theorem zl_34_171 (v : Nat → Int32) : dp_len (dq_171 v) 34 = (Int32.toNatClampNeg (dq_h (v 2) (20 : Int32))) := zl_34_170 v
theorem zl_35_171 (v : Nat → Int32) : dp_len (dq_171 v) 35 = (Int32.toNatClampNeg (dq_h (v 2) (20 : Int32))) := zl_35_170 v
theorem zl_36_171 (v : Nat → Int32) : dp_len (dq_171 v) 36 = (Int32.toNatClampNeg ((dq_h (v 2) (20 : Int32)) * (dq_h (v 3) (8 : Int32)))) := zl_36_170 v
theorem zi_172 (v : Nat → Int32) (k i : Nat) : dp_I (dq_172 v) k i = sF_10 v k i := sz_n (dqn_171 v) (zi_171 v) (fun _ => rfl) k i
theorem zj_172 (v : Nat → Int32) (k i : Nat) : dp_J (dq_172 v) k i = 0 := sz_nJ (zj_171 v) k i
theorem zr_172 (v : Nat → Int32) (i : Nat) : dp_R (dq_172 v) 59 i = none := sz_nR (zr_171 v) i
theorem zl_25_172 (v : Nat → Int32) : dp_len (dq_172 v) 25 = (Int32.toNatClampNeg (dq_h (v 0) (12 : Int32))) := sz_nL (dqn_171 v) (by decide) (zl_25_171 v)
theorem zl_26_172 (v : Nat → Int32) : dp_len (dq_172 v) 26 = (Int32.toNatClampNeg (dq_h (v 0) (12 : Int32))) := sz_nL (dqn_171 v) (by decide) (zl_26_171 v)
theorem zl_27_172 (v : Nat → Int32) : dp_len (dq_172 v) 27 = (Int32.toNatClampNeg ((dq_h (v 0) (12 : Int32)) * (16 : Int32))) := sz_nL (dqn_171 v) (by decide) (zl_27_171 v)
theorem zl_33_172 (v : Nat → Int32) : dp_len (dq_172 v) 33 = (Int32.toNatClampNeg (dq_h (v 2) (20 : Int32))) := sz_nL (dqn_171 v) (by decide) (zl_33_171 v)
theorem zl_34_172 (v : Nat → Int32) : dp_len (dq_172 v) 34 = (Int32.toNatClampNeg (dq_h (v 2) (20 : Int32))) := sz_nL (dqn_171 v) (by decide) (zl_34_171 v)
theorem zl_35_172 (v : Nat → Int32) : dp_len (dq_172 v) 35 = (Int32.toNatClampNeg (dq_h (v 2) (20 : Int32))) := sz_nL (dqn_171 v) (by decide) (zl_35_171 v)
theorem zl_36_172 (v : Nat → Int32) : dp_len (dq_172 v) 36 = (Int32.toNatClampNeg ((dq_h (v 2) (20 : Int32)) * (dq_h (v 3) (8 : Int32)))) := sz_nL (dqn_171 v) (by decide) (zl_36_171 v)
theorem zi_173 (v : Nat → Int32) (k i : Nat) : dp_I (dq_173 v) k i = sF_10 v k i := zi_172 v k i
theorem zj_173 (v : Nat → Int32) (k i : Nat) : dp_J (dq_173 v) k i = 0 := zj_172 v k i
theorem zr_173 (v : Nat → Int32) (i : Nat) : dp_R (dq_173 v) 59 i = none := sz_rR (by decide) (zr_172 v) i
theorem zl_25_173 (v : Nat → Int32) : dp_len (dq_173 v) 25 = (Int32.toNatClampNeg (dq_h (v 0) (12 : Int32))) := zl_25_172 v
theorem zl_26_173 (v : Nat → Int32) : dp_len (dq_173 v) 26 = (Int32.toNatClampNeg (dq_h (v 0) (12 : Int32))) := zl_26_172 v
theorem zl_27_173 (v : Nat → Int32) : dp_len (dq_173 v) 27 = (Int32.toNatClampNeg ((dq_h (v 0) (12 : Int32)) * (16 : Int32))) := zl_27_172 v
theorem zl_33_173 (v : Nat → Int32) : dp_len (dq_173 v) 33 = (Int32.toNatClampNeg (dq_h (v 2) (20 : Int32))) := zl_33_172 v
theorem zl_34_173 (v : Nat → Int32) : dp_len (dq_173 v) 34 = (Int32.toNatClampNeg (dq_h (v 2) (20 : Int32))) := zl_34_172 v
theorem zl_35_173 (v : Nat → Int32) : dp_len (dq_173 v) 35 = (Int32.toNatClampNeg (dq_h (v 2) (20 : Int32))) := zl_35_172 v
theorem zl_36_173 (v : Nat → Int32) : dp_len (dq_173 v) 36 = (Int32.toNatClampNeg ((dq_h (v 2) (20 : Int32)) * (dq_h (v 3) (8 : Int32)))) := zl_36_172 v
theorem zi_174 (v : Nat → Int32) (k i : Nat) : dp_I (dq_174 v) k i = sF_10 v k i := sz_n (dqn_173 v) (zi_173 v) (fun _ => rfl) k i
theorem zj_174 (v : Nat → Int32) (k i : Nat) : dp_J (dq_174 v) k i = 0 := sz_nJ (zj_173 v) k i
theorem zr_174 (v : Nat → Int32) (i : Nat) : dp_R (dq_174 v) 59 i = none := sz_nR (zr_173 v) i
theorem zl_25_174 (v : Nat → Int32) : dp_len (dq_174 v) 25 = (Int32.toNatClampNeg (dq_h (v 0) (12 : Int32))) := sz_nL (dqn_173 v) (by decide) (zl_25_173 v)
theorem zl_26_174 (v : Nat → Int32) : dp_len (dq_174 v) 26 = (Int32.toNatClampNeg (dq_h (v 0) (12 : Int32))) := sz_nL (dqn_173 v) (by decide) (zl_26_173 v)
theorem zl_27_174 (v : Nat → Int32) : dp_len (dq_174 v) 27 = (Int32.toNatClampNeg ((dq_h (v 0) (12 : Int32)) * (16 : Int32))) := sz_nL (dqn_173 v) (by decide) (zl_27_173 v)
theorem zl_33_174 (v : Nat → Int32) : dp_len (dq_174 v) 33 = (Int32.toNatClampNeg (dq_h (v 2) (20 : Int32))) := sz_nL (dqn_173 v) (by decide) (zl_33_173 v)
theorem zl_34_174 (v : Nat → Int32) : dp_len (dq_174 v) 34 = (Int32.toNatClampNeg (dq_h (v 2) (20 : Int32))) := sz_nL (dqn_173 v) (by decide) (zl_34_173 v)
theorem zl_35_174 (v : Nat → Int32) : dp_len (dq_174 v) 35 = (Int32.toNatClampNeg (dq_h (v 2) (20 : Int32))) := sz_nL (dqn_173 v) (by decide) (zl_35_173 v)
theorem zl_36_174 (v : Nat → Int32) : dp_len (dq_174 v) 36 = (Int32.toNatClampNeg ((dq_h (v 2) (20 : Int32)) * (dq_h (v 3) (8 : Int32)))) := sz_nL (dqn_173 v) (by decide) (zl_36_173 v)
theorem zi_175 (v : Nat → Int32) (k i : Nat) : dp_I (dq_175 v) k i = sF_10 v k i := zi_174 v k i
theorem zj_175 (v : Nat → Int32) (k i : Nat) : dp_J (dq_175 v) k i = 0 := zj_174 v k i
theorem zr_175 (v : Nat → Int32) (i : Nat) : dp_R (dq_175 v) 59 i = none := sz_rR (by decide) (zr_174 v) i
theorem zl_25_175 (v : Nat → Int32) : dp_len (dq_175 v) 25 = (Int32.toNatClampNeg (dq_h (v 0) (12 : Int32))) := zl_25_174 v
theorem zl_26_175 (v : Nat → Int32) : dp_len (dq_175 v) 26 = (Int32.toNatClampNeg (dq_h (v 0) (12 : Int32))) := zl_26_174 v
theorem zl_27_175 (v : Nat → Int32) : dp_len (dq_175 v) 27 = (Int32.toNatClampNeg ((dq_h (v 0) (12 : Int32)) * (16 : Int32))) := zl_27_174 v
theorem zl_33_175 (v : Nat → Int32) : dp_len (dq_175 v) 33 = (Int32.toNatClampNeg (dq_h (v 2) (20 : Int32))) := zl_33_174 v
theorem zl_34_175 (v : Nat → Int32) : dp_len (dq_175 v) 34 = (Int32.toNatClampNeg (dq_h (v 2) (20 : Int32))) := zl_34_174 v
theorem zl_35_175 (v : Nat → Int32) : dp_len (dq_175 v) 35 = (Int32.toNatClampNeg (dq_h (v 2) (20 : Int32))) := zl_35_174 v
theorem zl_36_175 (v : Nat → Int32) : dp_len (dq_175 v) 36 = (Int32.toNatClampNeg ((dq_h (v 2) (20 : Int32)) * (dq_h (v 3) (8 : Int32)))) := zl_36_174 v
theorem zi_176 (v : Nat → Int32) (k i : Nat) : dp_I (dq_176 v) k i = sF_10 v k i := sz_n (dqn_175 v) (zi_175 v) (fun _ => rfl) k i
theorem zj_176 (v : Nat → Int32) (k i : Nat) : dp_J (dq_176 v) k i = 0 := sz_nJ (zj_175 v) k i
theorem zr_176 (v : Nat → Int32) (i : Nat) : dp_R (dq_176 v) 59 i = none := sz_nR (zr_175 v) i
theorem zl_25_176 (v : Nat → Int32) : dp_len (dq_176 v) 25 = (Int32.toNatClampNeg (dq_h (v 0) (12 : Int32))) := sz_nL (dqn_175 v) (by decide) (zl_25_175 v)
theorem zl_26_176 (v : Nat → Int32) : dp_len (dq_176 v) 26 = (Int32.toNatClampNeg (dq_h (v 0) (12 : Int32))) := sz_nL (dqn_175 v) (by decide) (zl_26_175 v)
theorem zl_27_176 (v : Nat → Int32) : dp_len (dq_176 v) 27 = (Int32.toNatClampNeg ((dq_h (v 0) (12 : Int32)) * (16 : Int32))) := sz_nL (dqn_175 v) (by decide) (zl_27_175 v)
theorem zl_33_176 (v : Nat → Int32) : dp_len (dq_176 v) 33 = (Int32.toNatClampNeg (dq_h (v 2) (20 : Int32))) := sz_nL (dqn_175 v) (by decide) (zl_33_175 v)
theorem zl_34_176 (v : Nat → Int32) : dp_len (dq_176 v) 34 = (Int32.toNatClampNeg (dq_h (v 2) (20 : Int32))) := sz_nL (dqn_175 v) (by decide) (zl_34_175 v)
theorem zl_35_176 (v : Nat → Int32) : dp_len (dq_176 v) 35 = (Int32.toNatClampNeg (dq_h (v 2) (20 : Int32))) := sz_nL (dqn_175 v) (by decide) (zl_35_175 v)
theorem zl_36_176 (v : Nat → Int32) : dp_len (dq_176 v) 36 = (Int32.toNatClampNeg ((dq_h (v 2) (20 : Int32)) * (dq_h (v 3) (8 : Int32)))) := sz_nL (dqn_175 v) (by decide) (zl_36_175 v)
theorem zi_177 (v : Nat → Int32) (k i : Nat) : dp_I (dq_177 v) k i = sF_10 v k i := zi_176 v k i
theorem zj_177 (v : Nat → Int32) (k i : Nat) : dp_J (dq_177 v) k i = 0 := zj_176 v k i
theorem zr_177 (v : Nat → Int32) (i : Nat) : dp_R (dq_177 v) 59 i = none := sz_rR (by decide) (zr_176 v) i
theorem zl_25_177 (v : Nat → Int32) : dp_len (dq_177 v) 25 = (Int32.toNatClampNeg (dq_h (v 0) (12 : Int32))) := zl_25_176 v
theorem zl_26_177 (v : Nat → Int32) : dp_len (dq_177 v) 26 = (Int32.toNatClampNeg (dq_h (v 0) (12 : Int32))) := zl_26_176 v
theorem zl_27_177 (v : Nat → Int32) : dp_len (dq_177 v) 27 = (Int32.toNatClampNeg ((dq_h (v 0) (12 : Int32)) * (16 : Int32))) := zl_27_176 v
theorem zl_33_177 (v : Nat → Int32) : dp_len (dq_177 v) 33 = (Int32.toNatClampNeg (dq_h (v 2) (20 : Int32))) := zl_33_176 v
theorem zl_34_177 (v : Nat → Int32) : dp_len (dq_177 v) 34 = (Int32.toNatClampNeg (dq_h (v 2) (20 : Int32))) := zl_34_176 v
theorem zl_35_177 (v : Nat → Int32) : dp_len (dq_177 v) 35 = (Int32.toNatClampNeg (dq_h (v 2) (20 : Int32))) := zl_35_176 v
theorem zl_36_177 (v : Nat → Int32) : dp_len (dq_177 v) 36 = (Int32.toNatClampNeg ((dq_h (v 2) (20 : Int32)) * (dq_h (v 3) (8 : Int32)))) := zl_36_176 v
theorem zi_178 (v : Nat → Int32) (k i : Nat) : dp_I (dq_178 v) k i = sF_10 v k i := sz_n (dqn_177 v) (zi_177 v) (fun _ => rfl) k i
theorem zj_178 (v : Nat → Int32) (k i : Nat) : dp_J (dq_178 v) k i = 0 := sz_nJ (zj_177 v) k i
theorem zr_178 (v : Nat → Int32) (i : Nat) : dp_R (dq_178 v) 59 i = none := sz_nR (zr_177 v) i
theorem zl_25_178 (v : Nat → Int32) : dp_len (dq_178 v) 25 = (Int32.toNatClampNeg (dq_h (v 0) (12 : Int32))) := sz_nL (dqn_177 v) (by decide) (zl_25_177 v)
theorem zl_26_178 (v : Nat → Int32) : dp_len (dq_178 v) 26 = (Int32.toNatClampNeg (dq_h (v 0) (12 : Int32))) := sz_nL (dqn_177 v) (by decide) (zl_26_177 v)
theorem zl_27_178 (v : Nat → Int32) : dp_len (dq_178 v) 27 = (Int32.toNatClampNeg ((dq_h (v 0) (12 : Int32)) * (16 : Int32))) := sz_nL (dqn_177 v) (by decide) (zl_27_177 v)
theorem zl_33_178 (v : Nat → Int32) : dp_len (dq_178 v) 33 = (Int32.toNatClampNeg (dq_h (v 2) (20 : Int32))) := sz_nL (dqn_177 v) (by decide) (zl_33_177 v)
theorem zl_34_178 (v : Nat → Int32) : dp_len (dq_178 v) 34 = (Int32.toNatClampNeg (dq_h (v 2) (20 : Int32))) := sz_nL (dqn_177 v) (by decide) (zl_34_177 v)
theorem zl_35_178 (v : Nat → Int32) : dp_len (dq_178 v) 35 = (Int32.toNatClampNeg (dq_h (v 2) (20 : Int32))) := sz_nL (dqn_177 v) (by decide) (zl_35_177 v)
theorem zl_36_178 (v : Nat → Int32) : dp_len (dq_178 v) 36 = (Int32.toNatClampNeg ((dq_h (v 2) (20 : Int32)) * (dq_h (v 3) (8 : Int32)))) := sz_nL (dqn_177 v) (by decide) (zl_36_177 v)
theorem zi_179 (v : Nat → Int32) (k i : Nat) : dp_I (dq_179 v) k i = sF_10 v k i := zi_178 v k i
theorem zj_179 (v : Nat → Int32) (k i : Nat) : dp_J (dq_179 v) k i = 0 := zj_178 v k i
theorem zr_179 (v : Nat → Int32) (i : Nat) : dp_R (dq_179 v) 59 i = none := sz_rR (by decide) (zr_178 v) i
theorem zl_25_179 (v : Nat → Int32) : dp_len (dq_179 v) 25 = (Int32.toNatClampNeg (dq_h (v 0) (12 : Int32))) := zl_25_178 v
theorem zl_26_179 (v : Nat → Int32) : dp_len (dq_179 v) 26 = (Int32.toNatClampNeg (dq_h (v 0) (12 : Int32))) := zl_26_178 v
theorem zl_27_179 (v : Nat → Int32) : dp_len (dq_179 v) 27 = (Int32.toNatClampNeg ((dq_h (v 0) (12 : Int32)) * (16 : Int32))) := zl_27_178 v
theorem zl_33_179 (v : Nat → Int32) : dp_len (dq_179 v) 33 = (Int32.toNatClampNeg (dq_h (v 2) (20 : Int32))) := zl_33_178 v
theorem zl_34_179 (v : Nat → Int32) : dp_len (dq_179 v) 34 = (Int32.toNatClampNeg (dq_h (v 2) (20 : Int32))) := zl_34_178 v
theorem zl_35_179 (v : Nat → Int32) : dp_len (dq_179 v) 35 = (Int32.toNatClampNeg (dq_h (v 2) (20 : Int32))) := zl_35_178 v
theorem zl_36_179 (v : Nat → Int32) : dp_len (dq_179 v) 36 = (Int32.toNatClampNeg ((dq_h (v 2) (20 : Int32)) * (dq_h (v 3) (8 : Int32)))) := zl_36_178 v
theorem zi_180 (v : Nat → Int32) (k i : Nat) : dp_I (dq_180 v) k i = sF_10 v k i := sz_n (dqn_179 v) (zi_179 v) (fun _ => rfl) k i
theorem zj_180 (v : Nat → Int32) (k i : Nat) : dp_J (dq_180 v) k i = 0 := sz_nJ (zj_179 v) k i
theorem zr_180 (v : Nat → Int32) (i : Nat) : dp_R (dq_180 v) 59 i = none := sz_nR (zr_179 v) i
theorem zl_25_180 (v : Nat → Int32) : dp_len (dq_180 v) 25 = (Int32.toNatClampNeg (dq_h (v 0) (12 : Int32))) := sz_nL (dqn_179 v) (by decide) (zl_25_179 v)
theorem zl_26_180 (v : Nat → Int32) : dp_len (dq_180 v) 26 = (Int32.toNatClampNeg (dq_h (v 0) (12 : Int32))) := sz_nL (dqn_179 v) (by decide) (zl_26_179 v)
theorem zl_27_180 (v : Nat → Int32) : dp_len (dq_180 v) 27 = (Int32.toNatClampNeg ((dq_h (v 0) (12 : Int32)) * (16 : Int32))) := sz_nL (dqn_179 v) (by decide) (zl_27_179 v)
theorem zl_33_180 (v : Nat → Int32) : dp_len (dq_180 v) 33 = (Int32.toNatClampNeg (dq_h (v 2) (20 : Int32))) := sz_nL (dqn_179 v) (by decide) (zl_33_179 v)
theorem zl_34_180 (v : Nat → Int32) : dp_len (dq_180 v) 34 = (Int32.toNatClampNeg (dq_h (v 2) (20 : Int32))) := sz_nL (dqn_179 v) (by decide) (zl_34_179 v)
theorem zl_35_180 (v : Nat → Int32) : dp_len (dq_180 v) 35 = (Int32.toNatClampNeg (dq_h (v 2) (20 : Int32))) := sz_nL (dqn_179 v) (by decide) (zl_35_179 v)
theorem zl_36_180 (v : Nat → Int32) : dp_len (dq_180 v) 36 = (Int32.toNatClampNeg ((dq_h (v 2) (20 : Int32)) * (dq_h (v 3) (8 : Int32)))) := sz_nL (dqn_179 v) (by decide) (zl_36_179 v)
theorem zi_181 (v : Nat → Int32) (k i : Nat) : dp_I (dq_181 v) k i = sF_10 v k i := zi_180 v k i
theorem zj_181 (v : Nat → Int32) (k i : Nat) : dp_J (dq_181 v) k i = 0 := zj_180 v k i
theorem zr_181 (v : Nat → Int32) (i : Nat) : dp_R (dq_181 v) 59 i = none := sz_rR (by decide) (zr_180 v) i
theorem zl_25_181 (v : Nat → Int32) : dp_len (dq_181 v) 25 = (Int32.toNatClampNeg (dq_h (v 0) (12 : Int32))) := zl_25_180 v
theorem zl_26_181 (v : Nat → Int32) : dp_len (dq_181 v) 26 = (Int32.toNatClampNeg (dq_h (v 0) (12 : Int32))) := zl_26_180 v
theorem zl_27_181 (v : Nat → Int32) : dp_len (dq_181 v) 27 = (Int32.toNatClampNeg ((dq_h (v 0) (12 : Int32)) * (16 : Int32))) := zl_27_180 v
theorem zl_33_181 (v : Nat → Int32) : dp_len (dq_181 v) 33 = (Int32.toNatClampNeg (dq_h (v 2) (20 : Int32))) := zl_33_180 v
theorem zl_34_181 (v : Nat → Int32) : dp_len (dq_181 v) 34 = (Int32.toNatClampNeg (dq_h (v 2) (20 : Int32))) := zl_34_180 v
theorem zl_35_181 (v : Nat → Int32) : dp_len (dq_181 v) 35 = (Int32.toNatClampNeg (dq_h (v 2) (20 : Int32))) := zl_35_180 v
theorem zl_36_181 (v : Nat → Int32) : dp_len (dq_181 v) 36 = (Int32.toNatClampNeg ((dq_h (v 2) (20 : Int32)) * (dq_h (v 3) (8 : Int32)))) := zl_36_180 v
theorem zi_182 (v : Nat → Int32) (k i : Nat) : dp_I (dq_182 v) k i = sF_10 v k i := sz_n (dqn_181 v) (zi_181 v) (fun _ => rfl) k i
theorem zj_182 (v : Nat → Int32) (k i : Nat) : dp_J (dq_182 v) k i = 0 := sz_nJ (zj_181 v) k i
theorem zr_182 (v : Nat → Int32) (i : Nat) : dp_R (dq_182 v) 59 i = none := sz_nR (zr_181 v) i
theorem zl_25_182 (v : Nat → Int32) : dp_len (dq_182 v) 25 = (Int32.toNatClampNeg (dq_h (v 0) (12 : Int32))) := sz_nL (dqn_181 v) (by decide) (zl_25_181 v)
theorem zl_26_182 (v : Nat → Int32) : dp_len (dq_182 v) 26 = (Int32.toNatClampNeg (dq_h (v 0) (12 : Int32))) := sz_nL (dqn_181 v) (by decide) (zl_26_181 v)
theorem zl_27_182 (v : Nat → Int32) : dp_len (dq_182 v) 27 = (Int32.toNatClampNeg ((dq_h (v 0) (12 : Int32)) * (16 : Int32))) := sz_nL (dqn_181 v) (by decide) (zl_27_181 v)
theorem zl_33_182 (v : Nat → Int32) : dp_len (dq_182 v) 33 = (Int32.toNatClampNeg (dq_h (v 2) (20 : Int32))) := sz_nL (dqn_181 v) (by decide) (zl_33_181 v)
theorem zl_34_182 (v : Nat → Int32) : dp_len (dq_182 v) 34 = (Int32.toNatClampNeg (dq_h (v 2) (20 : Int32))) := sz_nL (dqn_181 v) (by decide) (zl_34_181 v)
theorem zl_35_182 (v : Nat → Int32) : dp_len (dq_182 v) 35 = (Int32.toNatClampNeg (dq_h (v 2) (20 : Int32))) := sz_nL (dqn_181 v) (by decide) (zl_35_181 v)
theorem zl_36_182 (v : Nat → Int32) : dp_len (dq_182 v) 36 = (Int32.toNatClampNeg ((dq_h (v 2) (20 : Int32)) * (dq_h (v 3) (8 : Int32)))) := sz_nL (dqn_181 v) (by decide) (zl_36_181 v)
theorem zi_183 (v : Nat → Int32) (k i : Nat) : dp_I (dq_183 v) k i = sF_10 v k i := zi_182 v k i
theorem zj_183 (v : Nat → Int32) (k i : Nat) : dp_J (dq_183 v) k i = 0 := zj_182 v k i
theorem zr_183 (v : Nat → Int32) (i : Nat) : dp_R (dq_183 v) 59 i = none := sz_rR (by decide) (zr_182 v) i
theorem zl_25_183 (v : Nat → Int32) : dp_len (dq_183 v) 25 = (Int32.toNatClampNeg (dq_h (v 0) (12 : Int32))) := zl_25_182 v
theorem zl_26_183 (v : Nat → Int32) : dp_len (dq_183 v) 26 = (Int32.toNatClampNeg (dq_h (v 0) (12 : Int32))) := zl_26_182 v
theorem zl_27_183 (v : Nat → Int32) : dp_len (dq_183 v) 27 = (Int32.toNatClampNeg ((dq_h (v 0) (12 : Int32)) * (16 : Int32))) := zl_27_182 v
theorem zl_33_183 (v : Nat → Int32) : dp_len (dq_183 v) 33 = (Int32.toNatClampNeg (dq_h (v 2) (20 : Int32))) := zl_33_182 v
theorem zl_34_183 (v : Nat → Int32) : dp_len (dq_183 v) 34 = (Int32.toNatClampNeg (dq_h (v 2) (20 : Int32))) := zl_34_182 v
theorem zl_35_183 (v : Nat → Int32) : dp_len (dq_183 v) 35 = (Int32.toNatClampNeg (dq_h (v 2) (20 : Int32))) := zl_35_182 v
theorem zl_36_183 (v : Nat → Int32) : dp_len (dq_183 v) 36 = (Int32.toNatClampNeg ((dq_h (v 2) (20 : Int32)) * (dq_h (v 3) (8 : Int32)))) := zl_36_182 v
theorem zi_184 (v : Nat → Int32) (k i : Nat) : dp_I (dq_184 v) k i = sF_10 v k i := sz_n (dqn_183 v) (zi_183 v) (fun _ => rfl) k i
theorem zj_184 (v : Nat → Int32) (k i : Nat) : dp_J (dq_184 v) k i = 0 := sz_nJ (zj_183 v) k i
theorem zr_184 (v : Nat → Int32) (i : Nat) : dp_R (dq_184 v) 59 i = none := sz_nR (zr_183 v) i
theorem zl_25_184 (v : Nat → Int32) : dp_len (dq_184 v) 25 = (Int32.toNatClampNeg (dq_h (v 0) (12 : Int32))) := sz_nL (dqn_183 v) (by decide) (zl_25_183 v)
theorem zl_26_184 (v : Nat → Int32) : dp_len (dq_184 v) 26 = (Int32.toNatClampNeg (dq_h (v 0) (12 : Int32))) := sz_nL (dqn_183 v) (by decide) (zl_26_183 v)
theorem zl_27_184 (v : Nat → Int32) : dp_len (dq_184 v) 27 = (Int32.toNatClampNeg ((dq_h (v 0) (12 : Int32)) * (16 : Int32))) := sz_nL (dqn_183 v) (by decide) (zl_27_183 v)
theorem zl_33_184 (v : Nat → Int32) : dp_len (dq_184 v) 33 = (Int32.toNatClampNeg (dq_h (v 2) (20 : Int32))) := sz_nL (dqn_183 v) (by decide) (zl_33_183 v)
theorem zl_34_184 (v : Nat → Int32) : dp_len (dq_184 v) 34 = (Int32.toNatClampNeg (dq_h (v 2) (20 : Int32))) := sz_nL (dqn_183 v) (by decide) (zl_34_183 v)
theorem zl_35_184 (v : Nat → Int32) : dp_len (dq_184 v) 35 = (Int32.toNatClampNeg (dq_h (v 2) (20 : Int32))) := sz_nL (dqn_183 v) (by decide) (zl_35_183 v)
theorem zl_36_184 (v : Nat → Int32) : dp_len (dq_184 v) 36 = (Int32.toNatClampNeg ((dq_h (v 2) (20 : Int32)) * (dq_h (v 3) (8 : Int32)))) := sz_nL (dqn_183 v) (by decide) (zl_36_183 v)
theorem zi_185 (v : Nat → Int32) (k i : Nat) : dp_I (dq_185 v) k i = sF_10 v k i := zi_184 v k i
theorem zj_185 (v : Nat → Int32) (k i : Nat) : dp_J (dq_185 v) k i = 0 := zj_184 v k i
theorem zr_185 (v : Nat → Int32) (i : Nat) : dp_R (dq_185 v) 59 i = none := sz_rR (by decide) (zr_184 v) i
theorem zl_25_185 (v : Nat → Int32) : dp_len (dq_185 v) 25 = (Int32.toNatClampNeg (dq_h (v 0) (12 : Int32))) := zl_25_184 v
theorem zl_26_185 (v : Nat → Int32) : dp_len (dq_185 v) 26 = (Int32.toNatClampNeg (dq_h (v 0) (12 : Int32))) := zl_26_184 v
theorem zl_27_185 (v : Nat → Int32) : dp_len (dq_185 v) 27 = (Int32.toNatClampNeg ((dq_h (v 0) (12 : Int32)) * (16 : Int32))) := zl_27_184 v
theorem zl_33_185 (v : Nat → Int32) : dp_len (dq_185 v) 33 = (Int32.toNatClampNeg (dq_h (v 2) (20 : Int32))) := zl_33_184 v
theorem zl_34_185 (v : Nat → Int32) : dp_len (dq_185 v) 34 = (Int32.toNatClampNeg (dq_h (v 2) (20 : Int32))) := zl_34_184 v
theorem zl_35_185 (v : Nat → Int32) : dp_len (dq_185 v) 35 = (Int32.toNatClampNeg (dq_h (v 2) (20 : Int32))) := zl_35_184 v
theorem zl_36_185 (v : Nat → Int32) : dp_len (dq_185 v) 36 = (Int32.toNatClampNeg ((dq_h (v 2) (20 : Int32)) * (dq_h (v 3) (8 : Int32)))) := zl_36_184 v
theorem zi_186 (v : Nat → Int32) (k i : Nat) : dp_I (dq_186 v) k i = sF_10 v k i := sz_n (dqn_185 v) (zi_185 v) (fun _ => rfl) k i
theorem zj_186 (v : Nat → Int32) (k i : Nat) : dp_J (dq_186 v) k i = 0 := sz_nJ (zj_185 v) k i
theorem zr_186 (v : Nat → Int32) (i : Nat) : dp_R (dq_186 v) 59 i = none := sz_nR (zr_185 v) i
theorem zl_25_186 (v : Nat → Int32) : dp_len (dq_186 v) 25 = (Int32.toNatClampNeg (dq_h (v 0) (12 : Int32))) := sz_nL (dqn_185 v) (by decide) (zl_25_185 v)
theorem zl_26_186 (v : Nat → Int32) : dp_len (dq_186 v) 26 = (Int32.toNatClampNeg (dq_h (v 0) (12 : Int32))) := sz_nL (dqn_185 v) (by decide) (zl_26_185 v)
theorem zl_27_186 (v : Nat → Int32) : dp_len (dq_186 v) 27 = (Int32.toNatClampNeg ((dq_h (v 0) (12 : Int32)) * (16 : Int32))) := sz_nL (dqn_185 v) (by decide) (zl_27_185 v)
theorem zl_33_186 (v : Nat → Int32) : dp_len (dq_186 v) 33 = (Int32.toNatClampNeg (dq_h (v 2) (20 : Int32))) := sz_nL (dqn_185 v) (by decide) (zl_33_185 v)
theorem zl_34_186 (v : Nat → Int32) : dp_len (dq_186 v) 34 = (Int32.toNatClampNeg (dq_h (v 2) (20 : Int32))) := sz_nL (dqn_185 v) (by decide) (zl_34_185 v)
theorem zl_35_186 (v : Nat → Int32) : dp_len (dq_186 v) 35 = (Int32.toNatClampNeg (dq_h (v 2) (20 : Int32))) := sz_nL (dqn_185 v) (by decide) (zl_35_185 v)
theorem zl_36_186 (v : Nat → Int32) : dp_len (dq_186 v) 36 = (Int32.toNatClampNeg ((dq_h (v 2) (20 : Int32)) * (dq_h (v 3) (8 : Int32)))) := sz_nL (dqn_185 v) (by decide) (zl_36_185 v)
theorem zi_187 (v : Nat → Int32) (k i : Nat) : dp_I (dq_187 v) k i = sF_10 v k i := zi_186 v k i
theorem zj_187 (v : Nat → Int32) (k i : Nat) : dp_J (dq_187 v) k i = 0 := zj_186 v k i
theorem zr_187 (v : Nat → Int32) (i : Nat) : dp_R (dq_187 v) 59 i = none := sz_rR (by decide) (zr_186 v) i
theorem zl_25_187 (v : Nat → Int32) : dp_len (dq_187 v) 25 = (Int32.toNatClampNeg (dq_h (v 0) (12 : Int32))) := zl_25_186 v
theorem zl_26_187 (v : Nat → Int32) : dp_len (dq_187 v) 26 = (Int32.toNatClampNeg (dq_h (v 0) (12 : Int32))) := zl_26_186 v
theorem zl_27_187 (v : Nat → Int32) : dp_len (dq_187 v) 27 = (Int32.toNatClampNeg ((dq_h (v 0) (12 : Int32)) * (16 : Int32))) := zl_27_186 v
theorem zl_33_187 (v : Nat → Int32) : dp_len (dq_187 v) 33 = (Int32.toNatClampNeg (dq_h (v 2) (20 : Int32))) := zl_33_186 v
theorem zl_34_187 (v : Nat → Int32) : dp_len (dq_187 v) 34 = (Int32.toNatClampNeg (dq_h (v 2) (20 : Int32))) := zl_34_186 v
theorem zl_35_187 (v : Nat → Int32) : dp_len (dq_187 v) 35 = (Int32.toNatClampNeg (dq_h (v 2) (20 : Int32))) := zl_35_186 v
theorem zl_36_187 (v : Nat → Int32) : dp_len (dq_187 v) 36 = (Int32.toNatClampNeg ((dq_h (v 2) (20 : Int32)) * (dq_h (v 3) (8 : Int32)))) := zl_36_186 v
theorem zi_188 (v : Nat → Int32) (k i : Nat) : dp_I (dq_188 v) k i = sF_10 v k i := sz_n (dqn_187 v) (zi_187 v) (fun _ => rfl) k i
theorem zj_188 (v : Nat → Int32) (k i : Nat) : dp_J (dq_188 v) k i = 0 := sz_nJ (zj_187 v) k i
theorem zr_188 (v : Nat → Int32) (i : Nat) : dp_R (dq_188 v) 59 i = none := sz_nR (zr_187 v) i
theorem zl_25_188 (v : Nat → Int32) : dp_len (dq_188 v) 25 = (Int32.toNatClampNeg (dq_h (v 0) (12 : Int32))) := sz_nL (dqn_187 v) (by decide) (zl_25_187 v)
theorem zl_26_188 (v : Nat → Int32) : dp_len (dq_188 v) 26 = (Int32.toNatClampNeg (dq_h (v 0) (12 : Int32))) := sz_nL (dqn_187 v) (by decide) (zl_26_187 v)
theorem zl_27_188 (v : Nat → Int32) : dp_len (dq_188 v) 27 = (Int32.toNatClampNeg ((dq_h (v 0) (12 : Int32)) * (16 : Int32))) := sz_nL (dqn_187 v) (by decide) (zl_27_187 v)
theorem zl_33_188 (v : Nat → Int32) : dp_len (dq_188 v) 33 = (Int32.toNatClampNeg (dq_h (v 2) (20 : Int32))) := sz_nL (dqn_187 v) (by decide) (zl_33_187 v)
theorem zl_34_188 (v : Nat → Int32) : dp_len (dq_188 v) 34 = (Int32.toNatClampNeg (dq_h (v 2) (20 : Int32))) := sz_nL (dqn_187 v) (by decide) (zl_34_187 v)
theorem zl_35_188 (v : Nat → Int32) : dp_len (dq_188 v) 35 = (Int32.toNatClampNeg (dq_h (v 2) (20 : Int32))) := sz_nL (dqn_187 v) (by decide) (zl_35_187 v)
theorem zl_36_188 (v : Nat → Int32) : dp_len (dq_188 v) 36 = (Int32.toNatClampNeg ((dq_h (v 2) (20 : Int32)) * (dq_h (v 3) (8 : Int32)))) := sz_nL (dqn_187 v) (by decide) (zl_36_187 v)
theorem zi_189 (v : Nat → Int32) (k i : Nat) : dp_I (dq_189 v) k i = sF_10 v k i := zi_188 v k i
theorem zj_189 (v : Nat → Int32) (k i : Nat) : dp_J (dq_189 v) k i = 0 := zj_188 v k i
theorem zr_189 (v : Nat → Int32) (i : Nat) : dp_R (dq_189 v) 59 i = none := sz_rR (by decide) (zr_188 v) i
theorem zl_25_189 (v : Nat → Int32) : dp_len (dq_189 v) 25 = (Int32.toNatClampNeg (dq_h (v 0) (12 : Int32))) := zl_25_188 v
theorem zl_26_189 (v : Nat → Int32) : dp_len (dq_189 v) 26 = (Int32.toNatClampNeg (dq_h (v 0) (12 : Int32))) := zl_26_188 v
theorem zl_27_189 (v : Nat → Int32) : dp_len (dq_189 v) 27 = (Int32.toNatClampNeg ((dq_h (v 0) (12 : Int32)) * (16 : Int32))) := zl_27_188 v
theorem zl_33_189 (v : Nat → Int32) : dp_len (dq_189 v) 33 = (Int32.toNatClampNeg (dq_h (v 2) (20 : Int32))) := zl_33_188 v
theorem zl_34_189 (v : Nat → Int32) : dp_len (dq_189 v) 34 = (Int32.toNatClampNeg (dq_h (v 2) (20 : Int32))) := zl_34_188 v
theorem zl_35_189 (v : Nat → Int32) : dp_len (dq_189 v) 35 = (Int32.toNatClampNeg (dq_h (v 2) (20 : Int32))) := zl_35_188 v
theorem zl_36_189 (v : Nat → Int32) : dp_len (dq_189 v) 36 = (Int32.toNatClampNeg ((dq_h (v 2) (20 : Int32)) * (dq_h (v 3) (8 : Int32)))) := zl_36_188 v
theorem zi_190 (v : Nat → Int32) (k i : Nat) : dp_I (dq_190 v) k i = sF_10 v k i := sz_n (dqn_189 v) (zi_189 v) (fun _ => rfl) k i
theorem zj_190 (v : Nat → Int32) (k i : Nat) : dp_J (dq_190 v) k i = 0 := sz_nJ (zj_189 v) k i
theorem zr_190 (v : Nat → Int32) (i : Nat) : dp_R (dq_190 v) 59 i = none := sz_nR (zr_189 v) i
theorem zl_25_190 (v : Nat → Int32) : dp_len (dq_190 v) 25 = (Int32.toNatClampNeg (dq_h (v 0) (12 : Int32))) := sz_nL (dqn_189 v) (by decide) (zl_25_189 v)
theorem zl_26_190 (v : Nat → Int32) : dp_len (dq_190 v) 26 = (Int32.toNatClampNeg (dq_h (v 0) (12 : Int32))) := sz_nL (dqn_189 v) (by decide) (zl_26_189 v)
theorem zl_27_190 (v : Nat → Int32) : dp_len (dq_190 v) 27 = (Int32.toNatClampNeg ((dq_h (v 0) (12 : Int32)) * (16 : Int32))) := sz_nL (dqn_189 v) (by decide) (zl_27_189 v)
theorem zl_33_190 (v : Nat → Int32) : dp_len (dq_190 v) 33 = (Int32.toNatClampNeg (dq_h (v 2) (20 : Int32))) := sz_nL (dqn_189 v) (by decide) (zl_33_189 v)
theorem zl_34_190 (v : Nat → Int32) : dp_len (dq_190 v) 34 = (Int32.toNatClampNeg (dq_h (v 2) (20 : Int32))) := sz_nL (dqn_189 v) (by decide) (zl_34_189 v)
theorem zl_35_190 (v : Nat → Int32) : dp_len (dq_190 v) 35 = (Int32.toNatClampNeg (dq_h (v 2) (20 : Int32))) := sz_nL (dqn_189 v) (by decide) (zl_35_189 v)
theorem zl_36_190 (v : Nat → Int32) : dp_len (dq_190 v) 36 = (Int32.toNatClampNeg ((dq_h (v 2) (20 : Int32)) * (dq_h (v 3) (8 : Int32)))) := sz_nL (dqn_189 v) (by decide) (zl_36_189 v)
theorem zi_191 (v : Nat → Int32) (k i : Nat) : dp_I (dq_191 v) k i = sF_10 v k i := zi_190 v k i
theorem zj_191 (v : Nat → Int32) (k i : Nat) : dp_J (dq_191 v) k i = 0 := zj_190 v k i
theorem zr_191 (v : Nat → Int32) (i : Nat) : dp_R (dq_191 v) 59 i = none := sz_rR (by decide) (zr_190 v) i
theorem zl_25_191 (v : Nat → Int32) : dp_len (dq_191 v) 25 = (Int32.toNatClampNeg (dq_h (v 0) (12 : Int32))) := zl_25_190 v
theorem zl_26_191 (v : Nat → Int32) : dp_len (dq_191 v) 26 = (Int32.toNatClampNeg (dq_h (v 0) (12 : Int32))) := zl_26_190 v
theorem zl_27_191 (v : Nat → Int32) : dp_len (dq_191 v) 27 = (Int32.toNatClampNeg ((dq_h (v 0) (12 : Int32)) * (16 : Int32))) := zl_27_190 v
theorem zl_33_191 (v : Nat → Int32) : dp_len (dq_191 v) 33 = (Int32.toNatClampNeg (dq_h (v 2) (20 : Int32))) := zl_33_190 v
theorem zl_34_191 (v : Nat → Int32) : dp_len (dq_191 v) 34 = (Int32.toNatClampNeg (dq_h (v 2) (20 : Int32))) := zl_34_190 v
theorem zl_35_191 (v : Nat → Int32) : dp_len (dq_191 v) 35 = (Int32.toNatClampNeg (dq_h (v 2) (20 : Int32))) := zl_35_190 v
theorem zl_36_191 (v : Nat → Int32) : dp_len (dq_191 v) 36 = (Int32.toNatClampNeg ((dq_h (v 2) (20 : Int32)) * (dq_h (v 3) (8 : Int32)))) := zl_36_190 v
theorem zi_192 (v : Nat → Int32) (k i : Nat) : dp_I (dq_192 v) k i = sF_10 v k i := zi_191 v k i
theorem zj_192 (v : Nat → Int32) (k i : Nat) : dp_J (dq_192 v) k i = 0 := zj_191 v k i
theorem zr_192 (v : Nat → Int32) (i : Nat) : dp_R (dq_192 v) 59 i = none := sz_rR (by decide) (zr_191 v) i
theorem zl_25_192 (v : Nat → Int32) : dp_len (dq_192 v) 25 = (Int32.toNatClampNeg (dq_h (v 0) (12 : Int32))) := zl_25_191 v
theorem zl_26_192 (v : Nat → Int32) : dp_len (dq_192 v) 26 = (Int32.toNatClampNeg (dq_h (v 0) (12 : Int32))) := zl_26_191 v
theorem zl_27_192 (v : Nat → Int32) : dp_len (dq_192 v) 27 = (Int32.toNatClampNeg ((dq_h (v 0) (12 : Int32)) * (16 : Int32))) := zl_27_191 v
theorem zl_33_192 (v : Nat → Int32) : dp_len (dq_192 v) 33 = (Int32.toNatClampNeg (dq_h (v 2) (20 : Int32))) := zl_33_191 v
theorem zl_34_192 (v : Nat → Int32) : dp_len (dq_192 v) 34 = (Int32.toNatClampNeg (dq_h (v 2) (20 : Int32))) := zl_34_191 v
theorem zl_35_192 (v : Nat → Int32) : dp_len (dq_192 v) 35 = (Int32.toNatClampNeg (dq_h (v 2) (20 : Int32))) := zl_35_191 v
theorem zl_36_192 (v : Nat → Int32) : dp_len (dq_192 v) 36 = (Int32.toNatClampNeg ((dq_h (v 2) (20 : Int32)) * (dq_h (v 3) (8 : Int32)))) := zl_36_191 v
theorem zi_193 (v : Nat → Int32) (k i : Nat) : dp_I (dq_193 v) k i = sF_10 v k i := sz_n (dqn_192 v) (zi_192 v) (fun _ => rfl) k i
theorem zj_193 (v : Nat → Int32) (k i : Nat) : dp_J (dq_193 v) k i = 0 := sz_nJ (zj_192 v) k i
theorem zr_193 (v : Nat → Int32) (i : Nat) : dp_R (dq_193 v) 59 i = none := sz_nR (zr_192 v) i
theorem zl_25_193 (v : Nat → Int32) : dp_len (dq_193 v) 25 = (Int32.toNatClampNeg (dq_h (v 0) (12 : Int32))) := sz_nL (dqn_192 v) (by decide) (zl_25_192 v)
theorem zl_26_193 (v : Nat → Int32) : dp_len (dq_193 v) 26 = (Int32.toNatClampNeg (dq_h (v 0) (12 : Int32))) := sz_nL (dqn_192 v) (by decide) (zl_26_192 v)
theorem zl_27_193 (v : Nat → Int32) : dp_len (dq_193 v) 27 = (Int32.toNatClampNeg ((dq_h (v 0) (12 : Int32)) * (16 : Int32))) := sz_nL (dqn_192 v) (by decide) (zl_27_192 v)
theorem zl_33_193 (v : Nat → Int32) : dp_len (dq_193 v) 33 = (Int32.toNatClampNeg (dq_h (v 2) (20 : Int32))) := sz_nL (dqn_192 v) (by decide) (zl_33_192 v)
theorem zl_34_193 (v : Nat → Int32) : dp_len (dq_193 v) 34 = (Int32.toNatClampNeg (dq_h (v 2) (20 : Int32))) := sz_nL (dqn_192 v) (by decide) (zl_34_192 v)
theorem zl_35_193 (v : Nat → Int32) : dp_len (dq_193 v) 35 = (Int32.toNatClampNeg (dq_h (v 2) (20 : Int32))) := sz_nL (dqn_192 v) (by decide) (zl_35_192 v)
theorem zl_36_193 (v : Nat → Int32) : dp_len (dq_193 v) 36 = (Int32.toNatClampNeg ((dq_h (v 2) (20 : Int32)) * (dq_h (v 3) (8 : Int32)))) := sz_nL (dqn_192 v) (by decide) (zl_36_192 v)
theorem zi_194 (v : Nat → Int32) (k i : Nat) : dp_I (dq_194 v) k i = sF_10 v k i := sz_n (dqn_193 v) (zi_193 v) (fun _ => rfl) k i
theorem zj_194 (v : Nat → Int32) (k i : Nat) : dp_J (dq_194 v) k i = 0 := sz_nJ (zj_193 v) k i
theorem zr_194 (v : Nat → Int32) (i : Nat) : dp_R (dq_194 v) 59 i = none := sz_nR (zr_193 v) i
theorem zl_25_194 (v : Nat → Int32) : dp_len (dq_194 v) 25 = (Int32.toNatClampNeg (dq_h (v 0) (12 : Int32))) := sz_nL (dqn_193 v) (by decide) (zl_25_193 v)
theorem zl_26_194 (v : Nat → Int32) : dp_len (dq_194 v) 26 = (Int32.toNatClampNeg (dq_h (v 0) (12 : Int32))) := sz_nL (dqn_193 v) (by decide) (zl_26_193 v)
theorem zl_27_194 (v : Nat → Int32) : dp_len (dq_194 v) 27 = (Int32.toNatClampNeg ((dq_h (v 0) (12 : Int32)) * (16 : Int32))) := sz_nL (dqn_193 v) (by decide) (zl_27_193 v)
theorem zl_33_194 (v : Nat → Int32) : dp_len (dq_194 v) 33 = (Int32.toNatClampNeg (dq_h (v 2) (20 : Int32))) := sz_nL (dqn_193 v) (by decide) (zl_33_193 v)
theorem zl_34_194 (v : Nat → Int32) : dp_len (dq_194 v) 34 = (Int32.toNatClampNeg (dq_h (v 2) (20 : Int32))) := sz_nL (dqn_193 v) (by decide) (zl_34_193 v)
theorem zl_35_194 (v : Nat → Int32) : dp_len (dq_194 v) 35 = (Int32.toNatClampNeg (dq_h (v 2) (20 : Int32))) := sz_nL (dqn_193 v) (by decide) (zl_35_193 v)
theorem zl_36_194 (v : Nat → Int32) : dp_len (dq_194 v) 36 = (Int32.toNatClampNeg ((dq_h (v 2) (20 : Int32)) * (dq_h (v 3) (8 : Int32)))) := sz_nL (dqn_193 v) (by decide) (zl_36_193 v)
theorem zi_195 (v : Nat → Int32) (k i : Nat) : dp_I (dq_195 v) k i = sF_10 v k i := zi_194 v k i
theorem zj_195 (v : Nat → Int32) (k i : Nat) : dp_J (dq_195 v) k i = 0 := zj_194 v k i
theorem zr_195 (v : Nat → Int32) (i : Nat) : dp_R (dq_195 v) 59 i = none := sz_rR (by decide) (zr_194 v) i
theorem zl_25_195 (v : Nat → Int32) : dp_len (dq_195 v) 25 = (Int32.toNatClampNeg (dq_h (v 0) (12 : Int32))) := zl_25_194 v
theorem zl_26_195 (v : Nat → Int32) : dp_len (dq_195 v) 26 = (Int32.toNatClampNeg (dq_h (v 0) (12 : Int32))) := zl_26_194 v
theorem zl_27_195 (v : Nat → Int32) : dp_len (dq_195 v) 27 = (Int32.toNatClampNeg ((dq_h (v 0) (12 : Int32)) * (16 : Int32))) := zl_27_194 v
theorem zl_33_195 (v : Nat → Int32) : dp_len (dq_195 v) 33 = (Int32.toNatClampNeg (dq_h (v 2) (20 : Int32))) := zl_33_194 v
theorem zl_34_195 (v : Nat → Int32) : dp_len (dq_195 v) 34 = (Int32.toNatClampNeg (dq_h (v 2) (20 : Int32))) := zl_34_194 v
theorem zl_35_195 (v : Nat → Int32) : dp_len (dq_195 v) 35 = (Int32.toNatClampNeg (dq_h (v 2) (20 : Int32))) := zl_35_194 v
theorem zl_36_195 (v : Nat → Int32) : dp_len (dq_195 v) 36 = (Int32.toNatClampNeg ((dq_h (v 2) (20 : Int32)) * (dq_h (v 3) (8 : Int32)))) := zl_36_194 v
theorem zi_196 (v : Nat → Int32) (k i : Nat) : dp_I (dq_196 v) k i = sF_10 v k i := sz_n (dqn_195 v) (zi_195 v) (fun _ => rfl) k i
theorem zj_196 (v : Nat → Int32) (k i : Nat) : dp_J (dq_196 v) k i = 0 := sz_nJ (zj_195 v) k i
theorem zr_196 (v : Nat → Int32) (i : Nat) : dp_R (dq_196 v) 59 i = none := sz_nR (zr_195 v) i
theorem zl_25_196 (v : Nat → Int32) : dp_len (dq_196 v) 25 = (Int32.toNatClampNeg (dq_h (v 0) (12 : Int32))) := sz_nL (dqn_195 v) (by decide) (zl_25_195 v)
theorem zl_26_196 (v : Nat → Int32) : dp_len (dq_196 v) 26 = (Int32.toNatClampNeg (dq_h (v 0) (12 : Int32))) := sz_nL (dqn_195 v) (by decide) (zl_26_195 v)
theorem zl_27_196 (v : Nat → Int32) : dp_len (dq_196 v) 27 = (Int32.toNatClampNeg ((dq_h (v 0) (12 : Int32)) * (16 : Int32))) := sz_nL (dqn_195 v) (by decide) (zl_27_195 v)
theorem zl_33_196 (v : Nat → Int32) : dp_len (dq_196 v) 33 = (Int32.toNatClampNeg (dq_h (v 2) (20 : Int32))) := sz_nL (dqn_195 v) (by decide) (zl_33_195 v)
theorem zl_34_196 (v : Nat → Int32) : dp_len (dq_196 v) 34 = (Int32.toNatClampNeg (dq_h (v 2) (20 : Int32))) := sz_nL (dqn_195 v) (by decide) (zl_34_195 v)
theorem zl_35_196 (v : Nat → Int32) : dp_len (dq_196 v) 35 = (Int32.toNatClampNeg (dq_h (v 2) (20 : Int32))) := sz_nL (dqn_195 v) (by decide) (zl_35_195 v)
theorem zl_36_196 (v : Nat → Int32) : dp_len (dq_196 v) 36 = (Int32.toNatClampNeg ((dq_h (v 2) (20 : Int32)) * (dq_h (v 3) (8 : Int32)))) := sz_nL (dqn_195 v) (by decide) (zl_36_195 v)
theorem zi_197 (v : Nat → Int32) (k i : Nat) : dp_I (dq_197 v) k i = sF_10 v k i := zi_196 v k i
theorem zj_197 (v : Nat → Int32) (k i : Nat) : dp_J (dq_197 v) k i = 0 := zj_196 v k i
theorem zr_197 (v : Nat → Int32) (i : Nat) : dp_R (dq_197 v) 59 i = none := sz_rR (by decide) (zr_196 v) i
theorem zl_25_197 (v : Nat → Int32) : dp_len (dq_197 v) 25 = (Int32.toNatClampNeg (dq_h (v 0) (12 : Int32))) := zl_25_196 v
theorem zl_26_197 (v : Nat → Int32) : dp_len (dq_197 v) 26 = (Int32.toNatClampNeg (dq_h (v 0) (12 : Int32))) := zl_26_196 v
theorem zl_27_197 (v : Nat → Int32) : dp_len (dq_197 v) 27 = (Int32.toNatClampNeg ((dq_h (v 0) (12 : Int32)) * (16 : Int32))) := zl_27_196 v
theorem zl_33_197 (v : Nat → Int32) : dp_len (dq_197 v) 33 = (Int32.toNatClampNeg (dq_h (v 2) (20 : Int32))) := zl_33_196 v
theorem zl_34_197 (v : Nat → Int32) : dp_len (dq_197 v) 34 = (Int32.toNatClampNeg (dq_h (v 2) (20 : Int32))) := zl_34_196 v
theorem zl_35_197 (v : Nat → Int32) : dp_len (dq_197 v) 35 = (Int32.toNatClampNeg (dq_h (v 2) (20 : Int32))) := zl_35_196 v
theorem zl_36_197 (v : Nat → Int32) : dp_len (dq_197 v) 36 = (Int32.toNatClampNeg ((dq_h (v 2) (20 : Int32)) * (dq_h (v 3) (8 : Int32)))) := zl_36_196 v
theorem zi_198 (v : Nat → Int32) (k i : Nat) : dp_I (dq_198 v) k i = sF_10 v k i := sz_n (dqn_197 v) (zi_197 v) (fun _ => rfl) k i
theorem zj_198 (v : Nat → Int32) (k i : Nat) : dp_J (dq_198 v) k i = 0 := sz_nJ (zj_197 v) k i
theorem zr_198 (v : Nat → Int32) (i : Nat) : dp_R (dq_198 v) 59 i = none := sz_nR (zr_197 v) i
theorem zl_25_198 (v : Nat → Int32) : dp_len (dq_198 v) 25 = (Int32.toNatClampNeg (dq_h (v 0) (12 : Int32))) := sz_nL (dqn_197 v) (by decide) (zl_25_197 v)
theorem zl_26_198 (v : Nat → Int32) : dp_len (dq_198 v) 26 = (Int32.toNatClampNeg (dq_h (v 0) (12 : Int32))) := sz_nL (dqn_197 v) (by decide) (zl_26_197 v)
theorem zl_27_198 (v : Nat → Int32) : dp_len (dq_198 v) 27 = (Int32.toNatClampNeg ((dq_h (v 0) (12 : Int32)) * (16 : Int32))) := sz_nL (dqn_197 v) (by decide) (zl_27_197 v)
theorem zl_33_198 (v : Nat → Int32) : dp_len (dq_198 v) 33 = (Int32.toNatClampNeg (dq_h (v 2) (20 : Int32))) := sz_nL (dqn_197 v) (by decide) (zl_33_197 v)
theorem zl_34_198 (v : Nat → Int32) : dp_len (dq_198 v) 34 = (Int32.toNatClampNeg (dq_h (v 2) (20 : Int32))) := sz_nL (dqn_197 v) (by decide) (zl_34_197 v)
theorem zl_35_198 (v : Nat → Int32) : dp_len (dq_198 v) 35 = (Int32.toNatClampNeg (dq_h (v 2) (20 : Int32))) := sz_nL (dqn_197 v) (by decide) (zl_35_197 v)
theorem zl_36_198 (v : Nat → Int32) : dp_len (dq_198 v) 36 = (Int32.toNatClampNeg ((dq_h (v 2) (20 : Int32)) * (dq_h (v 3) (8 : Int32)))) := sz_nL (dqn_197 v) (by decide) (zl_36_197 v)
theorem zi_199 (v : Nat → Int32) (k i : Nat) : dp_I (dq_199 v) k i = sF_10 v k i := zi_198 v k i
theorem zj_199 (v : Nat → Int32) (k i : Nat) : dp_J (dq_199 v) k i = 0 := zj_198 v k i
theorem zr_199 (v : Nat → Int32) (i : Nat) : dp_R (dq_199 v) 59 i = none := sz_rR (by decide) (zr_198 v) i
theorem zl_25_199 (v : Nat → Int32) : dp_len (dq_199 v) 25 = (Int32.toNatClampNeg (dq_h (v 0) (12 : Int32))) := zl_25_198 v
theorem zl_26_199 (v : Nat → Int32) : dp_len (dq_199 v) 26 = (Int32.toNatClampNeg (dq_h (v 0) (12 : Int32))) := zl_26_198 v
theorem zl_27_199 (v : Nat → Int32) : dp_len (dq_199 v) 27 = (Int32.toNatClampNeg ((dq_h (v 0) (12 : Int32)) * (16 : Int32))) := zl_27_198 v
theorem zl_33_199 (v : Nat → Int32) : dp_len (dq_199 v) 33 = (Int32.toNatClampNeg (dq_h (v 2) (20 : Int32))) := zl_33_198 v
theorem zl_34_199 (v : Nat → Int32) : dp_len (dq_199 v) 34 = (Int32.toNatClampNeg (dq_h (v 2) (20 : Int32))) := zl_34_198 v
theorem zl_35_199 (v : Nat → Int32) : dp_len (dq_199 v) 35 = (Int32.toNatClampNeg (dq_h (v 2) (20 : Int32))) := zl_35_198 v
theorem zl_36_199 (v : Nat → Int32) : dp_len (dq_199 v) 36 = (Int32.toNatClampNeg ((dq_h (v 2) (20 : Int32)) * (dq_h (v 3) (8 : Int32)))) := zl_36_198 v
theorem zi_200 (v : Nat → Int32) (k i : Nat) : dp_I (dq_200 v) k i = sF_10 v k i := sz_n (dqn_199 v) (zi_199 v) (fun _ => rfl) k i
theorem zj_200 (v : Nat → Int32) (k i : Nat) : dp_J (dq_200 v) k i = 0 := sz_nJ (zj_199 v) k i
theorem zr_200 (v : Nat → Int32) (i : Nat) : dp_R (dq_200 v) 59 i = none := sz_nR (zr_199 v) i
theorem zl_25_200 (v : Nat → Int32) : dp_len (dq_200 v) 25 = (Int32.toNatClampNeg (dq_h (v 0) (12 : Int32))) := sz_nL (dqn_199 v) (by decide) (zl_25_199 v)
theorem zl_26_200 (v : Nat → Int32) : dp_len (dq_200 v) 26 = (Int32.toNatClampNeg (dq_h (v 0) (12 : Int32))) := sz_nL (dqn_199 v) (by decide) (zl_26_199 v)
theorem zl_27_200 (v : Nat → Int32) : dp_len (dq_200 v) 27 = (Int32.toNatClampNeg ((dq_h (v 0) (12 : Int32)) * (16 : Int32))) := sz_nL (dqn_199 v) (by decide) (zl_27_199 v)
theorem zl_33_200 (v : Nat → Int32) : dp_len (dq_200 v) 33 = (Int32.toNatClampNeg (dq_h (v 2) (20 : Int32))) := sz_nL (dqn_199 v) (by decide) (zl_33_199 v)
theorem zl_34_200 (v : Nat → Int32) : dp_len (dq_200 v) 34 = (Int32.toNatClampNeg (dq_h (v 2) (20 : Int32))) := sz_nL (dqn_199 v) (by decide) (zl_34_199 v)
theorem zl_35_200 (v : Nat → Int32) : dp_len (dq_200 v) 35 = (Int32.toNatClampNeg (dq_h (v 2) (20 : Int32))) := sz_nL (dqn_199 v) (by decide) (zl_35_199 v)
theorem zl_36_200 (v : Nat → Int32) : dp_len (dq_200 v) 36 = (Int32.toNatClampNeg ((dq_h (v 2) (20 : Int32)) * (dq_h (v 3) (8 : Int32)))) := sz_nL (dqn_199 v) (by decide) (zl_36_199 v)
theorem zi_201 (v : Nat → Int32) (k i : Nat) : dp_I (dq_201 v) k i = sF_10 v k i := zi_200 v k i
theorem zj_201 (v : Nat → Int32) (k i : Nat) : dp_J (dq_201 v) k i = 0 := zj_200 v k i
theorem zr_201 (v : Nat → Int32) (i : Nat) : dp_R (dq_201 v) 59 i = none := sz_rR (by decide) (zr_200 v) i
theorem zl_25_201 (v : Nat → Int32) : dp_len (dq_201 v) 25 = (Int32.toNatClampNeg (dq_h (v 0) (12 : Int32))) := zl_25_200 v
theorem zl_26_201 (v : Nat → Int32) : dp_len (dq_201 v) 26 = (Int32.toNatClampNeg (dq_h (v 0) (12 : Int32))) := zl_26_200 v
theorem zl_27_201 (v : Nat → Int32) : dp_len (dq_201 v) 27 = (Int32.toNatClampNeg ((dq_h (v 0) (12 : Int32)) * (16 : Int32))) := zl_27_200 v
theorem zl_33_201 (v : Nat → Int32) : dp_len (dq_201 v) 33 = (Int32.toNatClampNeg (dq_h (v 2) (20 : Int32))) := zl_33_200 v
theorem zl_34_201 (v : Nat → Int32) : dp_len (dq_201 v) 34 = (Int32.toNatClampNeg (dq_h (v 2) (20 : Int32))) := zl_34_200 v
theorem zl_35_201 (v : Nat → Int32) : dp_len (dq_201 v) 35 = (Int32.toNatClampNeg (dq_h (v 2) (20 : Int32))) := zl_35_200 v
theorem zl_36_201 (v : Nat → Int32) : dp_len (dq_201 v) 36 = (Int32.toNatClampNeg ((dq_h (v 2) (20 : Int32)) * (dq_h (v 3) (8 : Int32)))) := zl_36_200 v
theorem zi_202 (v : Nat → Int32) (k i : Nat) : dp_I (dq_202 v) k i = sF_10 v k i := sz_n (dqn_201 v) (zi_201 v) (fun _ => rfl) k i
theorem zj_202 (v : Nat → Int32) (k i : Nat) : dp_J (dq_202 v) k i = 0 := sz_nJ (zj_201 v) k i
theorem zr_202 (v : Nat → Int32) (i : Nat) : dp_R (dq_202 v) 59 i = none := sz_nR (zr_201 v) i
theorem zl_25_202 (v : Nat → Int32) : dp_len (dq_202 v) 25 = (Int32.toNatClampNeg (dq_h (v 0) (12 : Int32))) := sz_nL (dqn_201 v) (by decide) (zl_25_201 v)
theorem zl_26_202 (v : Nat → Int32) : dp_len (dq_202 v) 26 = (Int32.toNatClampNeg (dq_h (v 0) (12 : Int32))) := sz_nL (dqn_201 v) (by decide) (zl_26_201 v)
theorem zl_27_202 (v : Nat → Int32) : dp_len (dq_202 v) 27 = (Int32.toNatClampNeg ((dq_h (v 0) (12 : Int32)) * (16 : Int32))) := sz_nL (dqn_201 v) (by decide) (zl_27_201 v)
theorem zl_33_202 (v : Nat → Int32) : dp_len (dq_202 v) 33 = (Int32.toNatClampNeg (dq_h (v 2) (20 : Int32))) := sz_nL (dqn_201 v) (by decide) (zl_33_201 v)
theorem zl_34_202 (v : Nat → Int32) : dp_len (dq_202 v) 34 = (Int32.toNatClampNeg (dq_h (v 2) (20 : Int32))) := sz_nL (dqn_201 v) (by decide) (zl_34_201 v)
theorem zl_35_202 (v : Nat → Int32) : dp_len (dq_202 v) 35 = (Int32.toNatClampNeg (dq_h (v 2) (20 : Int32))) := sz_nL (dqn_201 v) (by decide) (zl_35_201 v)
theorem zl_36_202 (v : Nat → Int32) : dp_len (dq_202 v) 36 = (Int32.toNatClampNeg ((dq_h (v 2) (20 : Int32)) * (dq_h (v 3) (8 : Int32)))) := sz_nL (dqn_201 v) (by decide) (zl_36_201 v)
theorem zi_203 (v : Nat → Int32) (k i : Nat) : dp_I (dq_203 v) k i = sF_10 v k i := zi_202 v k i
theorem zj_203 (v : Nat → Int32) (k i : Nat) : dp_J (dq_203 v) k i = 0 := zj_202 v k i
theorem zr_203 (v : Nat → Int32) (i : Nat) : dp_R (dq_203 v) 59 i = none := sz_rR (by decide) (zr_202 v) i
theorem zl_25_203 (v : Nat → Int32) : dp_len (dq_203 v) 25 = (Int32.toNatClampNeg (dq_h (v 0) (12 : Int32))) := zl_25_202 v
theorem zl_26_203 (v : Nat → Int32) : dp_len (dq_203 v) 26 = (Int32.toNatClampNeg (dq_h (v 0) (12 : Int32))) := zl_26_202 v
theorem zl_27_203 (v : Nat → Int32) : dp_len (dq_203 v) 27 = (Int32.toNatClampNeg ((dq_h (v 0) (12 : Int32)) * (16 : Int32))) := zl_27_202 v
theorem zl_33_203 (v : Nat → Int32) : dp_len (dq_203 v) 33 = (Int32.toNatClampNeg (dq_h (v 2) (20 : Int32))) := zl_33_202 v
theorem zl_34_203 (v : Nat → Int32) : dp_len (dq_203 v) 34 = (Int32.toNatClampNeg (dq_h (v 2) (20 : Int32))) := zl_34_202 v
theorem zl_35_203 (v : Nat → Int32) : dp_len (dq_203 v) 35 = (Int32.toNatClampNeg (dq_h (v 2) (20 : Int32))) := zl_35_202 v
theorem zl_36_203 (v : Nat → Int32) : dp_len (dq_203 v) 36 = (Int32.toNatClampNeg ((dq_h (v 2) (20 : Int32)) * (dq_h (v 3) (8 : Int32)))) := zl_36_202 v
theorem zi_204 (v : Nat → Int32) (k i : Nat) : dp_I (dq_204 v) k i = sF_10 v k i := sz_n (dqn_203 v) (zi_203 v) (fun _ => rfl) k i
theorem zj_204 (v : Nat → Int32) (k i : Nat) : dp_J (dq_204 v) k i = 0 := sz_nJ (zj_203 v) k i
theorem zr_204 (v : Nat → Int32) (i : Nat) : dp_R (dq_204 v) 59 i = none := sz_nR (zr_203 v) i
theorem zl_25_204 (v : Nat → Int32) : dp_len (dq_204 v) 25 = (Int32.toNatClampNeg (dq_h (v 0) (12 : Int32))) := sz_nL (dqn_203 v) (by decide) (zl_25_203 v)
theorem zl_26_204 (v : Nat → Int32) : dp_len (dq_204 v) 26 = (Int32.toNatClampNeg (dq_h (v 0) (12 : Int32))) := sz_nL (dqn_203 v) (by decide) (zl_26_203 v)
theorem zl_27_204 (v : Nat → Int32) : dp_len (dq_204 v) 27 = (Int32.toNatClampNeg ((dq_h (v 0) (12 : Int32)) * (16 : Int32))) := sz_nL (dqn_203 v) (by decide) (zl_27_203 v)
theorem zl_33_204 (v : Nat → Int32) : dp_len (dq_204 v) 33 = (Int32.toNatClampNeg (dq_h (v 2) (20 : Int32))) := sz_nL (dqn_203 v) (by decide) (zl_33_203 v)
theorem zl_34_204 (v : Nat → Int32) : dp_len (dq_204 v) 34 = (Int32.toNatClampNeg (dq_h (v 2) (20 : Int32))) := sz_nL (dqn_203 v) (by decide) (zl_34_203 v)
theorem zl_35_204 (v : Nat → Int32) : dp_len (dq_204 v) 35 = (Int32.toNatClampNeg (dq_h (v 2) (20 : Int32))) := sz_nL (dqn_203 v) (by decide) (zl_35_203 v)
theorem zl_36_204 (v : Nat → Int32) : dp_len (dq_204 v) 36 = (Int32.toNatClampNeg ((dq_h (v 2) (20 : Int32)) * (dq_h (v 3) (8 : Int32)))) := sz_nL (dqn_203 v) (by decide) (zl_36_203 v)
theorem zi_205 (v : Nat → Int32) (k i : Nat) : dp_I (dq_205 v) k i = sF_10 v k i := zi_204 v k i
theorem zj_205 (v : Nat → Int32) (k i : Nat) : dp_J (dq_205 v) k i = 0 := zj_204 v k i
theorem zr_205 (v : Nat → Int32) (i : Nat) : dp_R (dq_205 v) 59 i = none := sz_rR (by decide) (zr_204 v) i
theorem zl_25_205 (v : Nat → Int32) : dp_len (dq_205 v) 25 = (Int32.toNatClampNeg (dq_h (v 0) (12 : Int32))) := zl_25_204 v
theorem zl_26_205 (v : Nat → Int32) : dp_len (dq_205 v) 26 = (Int32.toNatClampNeg (dq_h (v 0) (12 : Int32))) := zl_26_204 v
theorem zl_27_205 (v : Nat → Int32) : dp_len (dq_205 v) 27 = (Int32.toNatClampNeg ((dq_h (v 0) (12 : Int32)) * (16 : Int32))) := zl_27_204 v
theorem zl_33_205 (v : Nat → Int32) : dp_len (dq_205 v) 33 = (Int32.toNatClampNeg (dq_h (v 2) (20 : Int32))) := zl_33_204 v
theorem zl_34_205 (v : Nat → Int32) : dp_len (dq_205 v) 34 = (Int32.toNatClampNeg (dq_h (v 2) (20 : Int32))) := zl_34_204 v
theorem zl_35_205 (v : Nat → Int32) : dp_len (dq_205 v) 35 = (Int32.toNatClampNeg (dq_h (v 2) (20 : Int32))) := zl_35_204 v
theorem zl_36_205 (v : Nat → Int32) : dp_len (dq_205 v) 36 = (Int32.toNatClampNeg ((dq_h (v 2) (20 : Int32)) * (dq_h (v 3) (8 : Int32)))) := zl_36_204 v
theorem zi_206 (v : Nat → Int32) (k i : Nat) : dp_I (dq_206 v) k i = sF_10 v k i := zi_205 v k i
theorem zj_206 (v : Nat → Int32) (k i : Nat) : dp_J (dq_206 v) k i = 0 := zj_205 v k i
theorem zr_206 (v : Nat → Int32) (i : Nat) : dp_R (dq_206 v) 59 i = none := sz_rR (by decide) (zr_205 v) i
theorem zl_25_206 (v : Nat → Int32) : dp_len (dq_206 v) 25 = (Int32.toNatClampNeg (dq_h (v 0) (12 : Int32))) := zl_25_205 v
theorem zl_26_206 (v : Nat → Int32) : dp_len (dq_206 v) 26 = (Int32.toNatClampNeg (dq_h (v 0) (12 : Int32))) := zl_26_205 v
theorem zl_27_206 (v : Nat → Int32) : dp_len (dq_206 v) 27 = (Int32.toNatClampNeg ((dq_h (v 0) (12 : Int32)) * (16 : Int32))) := zl_27_205 v
theorem zl_33_206 (v : Nat → Int32) : dp_len (dq_206 v) 33 = (Int32.toNatClampNeg (dq_h (v 2) (20 : Int32))) := zl_33_205 v
theorem zl_34_206 (v : Nat → Int32) : dp_len (dq_206 v) 34 = (Int32.toNatClampNeg (dq_h (v 2) (20 : Int32))) := zl_34_205 v
theorem zl_35_206 (v : Nat → Int32) : dp_len (dq_206 v) 35 = (Int32.toNatClampNeg (dq_h (v 2) (20 : Int32))) := zl_35_205 v
theorem zl_36_206 (v : Nat → Int32) : dp_len (dq_206 v) 36 = (Int32.toNatClampNeg ((dq_h (v 2) (20 : Int32)) * (dq_h (v 3) (8 : Int32)))) := zl_36_205 v
theorem zi_207 (v : Nat → Int32) (k i : Nat) : dp_I (dq_207 v) k i = sF_10 v k i := sz_n (dqn_206 v) (zi_206 v) (fun _ => rfl) k i
theorem zj_207 (v : Nat → Int32) (k i : Nat) : dp_J (dq_207 v) k i = 0 := sz_nJ (zj_206 v) k i
theorem zr_207 (v : Nat → Int32) (i : Nat) : dp_R (dq_207 v) 59 i = none := sz_nR (zr_206 v) i
theorem zl_25_207 (v : Nat → Int32) : dp_len (dq_207 v) 25 = (Int32.toNatClampNeg (dq_h (v 0) (12 : Int32))) := sz_nL (dqn_206 v) (by decide) (zl_25_206 v)
theorem zl_26_207 (v : Nat → Int32) : dp_len (dq_207 v) 26 = (Int32.toNatClampNeg (dq_h (v 0) (12 : Int32))) := sz_nL (dqn_206 v) (by decide) (zl_26_206 v)
theorem zl_27_207 (v : Nat → Int32) : dp_len (dq_207 v) 27 = (Int32.toNatClampNeg ((dq_h (v 0) (12 : Int32)) * (16 : Int32))) := sz_nL (dqn_206 v) (by decide) (zl_27_206 v)
theorem zl_33_207 (v : Nat → Int32) : dp_len (dq_207 v) 33 = (Int32.toNatClampNeg (dq_h (v 2) (20 : Int32))) := sz_nL (dqn_206 v) (by decide) (zl_33_206 v)
theorem zl_34_207 (v : Nat → Int32) : dp_len (dq_207 v) 34 = (Int32.toNatClampNeg (dq_h (v 2) (20 : Int32))) := sz_nL (dqn_206 v) (by decide) (zl_34_206 v)
theorem zl_35_207 (v : Nat → Int32) : dp_len (dq_207 v) 35 = (Int32.toNatClampNeg (dq_h (v 2) (20 : Int32))) := sz_nL (dqn_206 v) (by decide) (zl_35_206 v)
theorem zl_36_207 (v : Nat → Int32) : dp_len (dq_207 v) 36 = (Int32.toNatClampNeg ((dq_h (v 2) (20 : Int32)) * (dq_h (v 3) (8 : Int32)))) := sz_nL (dqn_206 v) (by decide) (zl_36_206 v)
def sF_11 (v : Nat → Int32) (k i : Nat) : Int32 := if k = 97 ∧ i = 2 then (-1 : Int32) else sF_10 v k i
theorem zi_208 (v : Nat → Int32) (k i : Nat) : dp_I (dq_208 v) k i = sF_11 v k i := sz_i (zi_207 v) k i
theorem zj_208 (v : Nat → Int32) (k i : Nat) : dp_J (dq_208 v) k i = 0 := zj_207 v k i
theorem zr_208 (v : Nat → Int32) (i : Nat) : dp_R (dq_208 v) 59 i = none := zr_207 v i
theorem zl_25_208 (v : Nat → Int32) : dp_len (dq_208 v) 25 = (Int32.toNatClampNeg (dq_h (v 0) (12 : Int32))) := zl_25_207 v
theorem zl_26_208 (v : Nat → Int32) : dp_len (dq_208 v) 26 = (Int32.toNatClampNeg (dq_h (v 0) (12 : Int32))) := zl_26_207 v
theorem zl_27_208 (v : Nat → Int32) : dp_len (dq_208 v) 27 = (Int32.toNatClampNeg ((dq_h (v 0) (12 : Int32)) * (16 : Int32))) := zl_27_207 v
theorem zl_33_208 (v : Nat → Int32) : dp_len (dq_208 v) 33 = (Int32.toNatClampNeg (dq_h (v 2) (20 : Int32))) := zl_33_207 v
theorem zl_34_208 (v : Nat → Int32) : dp_len (dq_208 v) 34 = (Int32.toNatClampNeg (dq_h (v 2) (20 : Int32))) := zl_34_207 v
theorem zl_35_208 (v : Nat → Int32) : dp_len (dq_208 v) 35 = (Int32.toNatClampNeg (dq_h (v 2) (20 : Int32))) := zl_35_207 v
theorem zl_36_208 (v : Nat → Int32) : dp_len (dq_208 v) 36 = (Int32.toNatClampNeg ((dq_h (v 2) (20 : Int32)) * (dq_h (v 3) (8 : Int32)))) := zl_36_207 v
def sF_12 (v : Nat → Int32) (k i : Nat) : Int32 := if k = 97 ∧ i = 3 then (-1 : Int32) else sF_11 v k i
theorem zi_209 (v : Nat → Int32) (k i : Nat) : dp_I (dq_209 v) k i = sF_12 v k i := sz_i (zi_208 v) k i
theorem zj_209 (v : Nat → Int32) (k i : Nat) : dp_J (dq_209 v) k i = 0 := zj_208 v k i
theorem zr_209 (v : Nat → Int32) (i : Nat) : dp_R (dq_209 v) 59 i = none := zr_208 v i
theorem zl_25_209 (v : Nat → Int32) : dp_len (dq_209 v) 25 = (Int32.toNatClampNeg (dq_h (v 0) (12 : Int32))) := zl_25_208 v
theorem zl_26_209 (v : Nat → Int32) : dp_len (dq_209 v) 26 = (Int32.toNatClampNeg (dq_h (v 0) (12 : Int32))) := zl_26_208 v
theorem zl_27_209 (v : Nat → Int32) : dp_len (dq_209 v) 27 = (Int32.toNatClampNeg ((dq_h (v 0) (12 : Int32)) * (16 : Int32))) := zl_27_208 v
theorem zl_33_209 (v : Nat → Int32) : dp_len (dq_209 v) 33 = (Int32.toNatClampNeg (dq_h (v 2) (20 : Int32))) := zl_33_208 v
theorem zl_34_209 (v : Nat → Int32) : dp_len (dq_209 v) 34 = (Int32.toNatClampNeg (dq_h (v 2) (20 : Int32))) := zl_34_208 v
theorem zl_35_209 (v : Nat → Int32) : dp_len (dq_209 v) 35 = (Int32.toNatClampNeg (dq_h (v 2) (20 : Int32))) := zl_35_208 v
theorem zl_36_209 (v : Nat → Int32) : dp_len (dq_209 v) 36 = (Int32.toNatClampNeg ((dq_h (v 2) (20 : Int32)) * (dq_h (v 3) (8 : Int32)))) := zl_36_208 v
def sF_13 (v : Nat → Int32) (k i : Nat) : Int32 := if k = 97 ∧ i = 5 then (-1 : Int32) else sF_12 v k i
theorem zi_210 (v : Nat → Int32) (k i : Nat) : dp_I (dq_210 v) k i = sF_13 v k i := sz_i (zi_209 v) k i
theorem zj_210 (v : Nat → Int32) (k i : Nat) : dp_J (dq_210 v) k i = 0 := zj_209 v k i
theorem zr_210 (v : Nat → Int32) (i : Nat) : dp_R (dq_210 v) 59 i = none := zr_209 v i
theorem zl_25_210 (v : Nat → Int32) : dp_len (dq_210 v) 25 = (Int32.toNatClampNeg (dq_h (v 0) (12 : Int32))) := zl_25_209 v
theorem zl_26_210 (v : Nat → Int32) : dp_len (dq_210 v) 26 = (Int32.toNatClampNeg (dq_h (v 0) (12 : Int32))) := zl_26_209 v
theorem zl_27_210 (v : Nat → Int32) : dp_len (dq_210 v) 27 = (Int32.toNatClampNeg ((dq_h (v 0) (12 : Int32)) * (16 : Int32))) := zl_27_209 v
theorem zl_33_210 (v : Nat → Int32) : dp_len (dq_210 v) 33 = (Int32.toNatClampNeg (dq_h (v 2) (20 : Int32))) := zl_33_209 v
theorem zl_34_210 (v : Nat → Int32) : dp_len (dq_210 v) 34 = (Int32.toNatClampNeg (dq_h (v 2) (20 : Int32))) := zl_34_209 v
theorem zl_35_210 (v : Nat → Int32) : dp_len (dq_210 v) 35 = (Int32.toNatClampNeg (dq_h (v 2) (20 : Int32))) := zl_35_209 v
theorem zl_36_210 (v : Nat → Int32) : dp_len (dq_210 v) 36 = (Int32.toNatClampNeg ((dq_h (v 2) (20 : Int32)) * (dq_h (v 3) (8 : Int32)))) := zl_36_209 v
theorem zi_211 (v : Nat → Int32) (k i : Nat) : dp_I (dq_211 v) k i = sF_13 v k i := sz_n (dqn_210 v) (zi_210 v) (fun _ => rfl) k i
theorem zj_211 (v : Nat → Int32) (k i : Nat) : dp_J (dq_211 v) k i = 0 := sz_nJ (zj_210 v) k i
theorem zr_211 (v : Nat → Int32) (i : Nat) : dp_R (dq_211 v) 59 i = none := sz_nR (zr_210 v) i
theorem zl_25_211 (v : Nat → Int32) : dp_len (dq_211 v) 25 = (Int32.toNatClampNeg (dq_h (v 0) (12 : Int32))) := sz_nL (dqn_210 v) (by decide) (zl_25_210 v)
theorem zl_26_211 (v : Nat → Int32) : dp_len (dq_211 v) 26 = (Int32.toNatClampNeg (dq_h (v 0) (12 : Int32))) := sz_nL (dqn_210 v) (by decide) (zl_26_210 v)
theorem zl_27_211 (v : Nat → Int32) : dp_len (dq_211 v) 27 = (Int32.toNatClampNeg ((dq_h (v 0) (12 : Int32)) * (16 : Int32))) := sz_nL (dqn_210 v) (by decide) (zl_27_210 v)
theorem zl_33_211 (v : Nat → Int32) : dp_len (dq_211 v) 33 = (Int32.toNatClampNeg (dq_h (v 2) (20 : Int32))) := sz_nL (dqn_210 v) (by decide) (zl_33_210 v)
theorem zl_34_211 (v : Nat → Int32) : dp_len (dq_211 v) 34 = (Int32.toNatClampNeg (dq_h (v 2) (20 : Int32))) := sz_nL (dqn_210 v) (by decide) (zl_34_210 v)
theorem zl_35_211 (v : Nat → Int32) : dp_len (dq_211 v) 35 = (Int32.toNatClampNeg (dq_h (v 2) (20 : Int32))) := sz_nL (dqn_210 v) (by decide) (zl_35_210 v)
theorem zl_36_211 (v : Nat → Int32) : dp_len (dq_211 v) 36 = (Int32.toNatClampNeg ((dq_h (v 2) (20 : Int32)) * (dq_h (v 3) (8 : Int32)))) := sz_nL (dqn_210 v) (by decide) (zl_36_210 v)
theorem zi_212 (v : Nat → Int32) (k i : Nat) : dp_I (dq_212 v) k i = sF_13 v k i := zi_211 v k i
theorem zj_212 (v : Nat → Int32) (k i : Nat) : dp_J (dq_212 v) k i = 0 := zj_211 v k i
theorem zr_212 (v : Nat → Int32) (i : Nat) : dp_R (dq_212 v) 59 i = none := sz_rR (by decide) (zr_211 v) i
theorem zl_25_212 (v : Nat → Int32) : dp_len (dq_212 v) 25 = (Int32.toNatClampNeg (dq_h (v 0) (12 : Int32))) := zl_25_211 v
theorem zl_26_212 (v : Nat → Int32) : dp_len (dq_212 v) 26 = (Int32.toNatClampNeg (dq_h (v 0) (12 : Int32))) := zl_26_211 v
theorem zl_27_212 (v : Nat → Int32) : dp_len (dq_212 v) 27 = (Int32.toNatClampNeg ((dq_h (v 0) (12 : Int32)) * (16 : Int32))) := zl_27_211 v
theorem zl_33_212 (v : Nat → Int32) : dp_len (dq_212 v) 33 = (Int32.toNatClampNeg (dq_h (v 2) (20 : Int32))) := zl_33_211 v
theorem zl_34_212 (v : Nat → Int32) : dp_len (dq_212 v) 34 = (Int32.toNatClampNeg (dq_h (v 2) (20 : Int32))) := zl_34_211 v
theorem zl_35_212 (v : Nat → Int32) : dp_len (dq_212 v) 35 = (Int32.toNatClampNeg (dq_h (v 2) (20 : Int32))) := zl_35_211 v
theorem zl_36_212 (v : Nat → Int32) : dp_len (dq_212 v) 36 = (Int32.toNatClampNeg ((dq_h (v 2) (20 : Int32)) * (dq_h (v 3) (8 : Int32)))) := zl_36_211 v
theorem zi_213 (v : Nat → Int32) (k i : Nat) : dp_I (dq_213 v) k i = sF_13 v k i := sz_n (dqn_212 v) (zi_212 v) (fun _ => rfl) k i
theorem zj_213 (v : Nat → Int32) (k i : Nat) : dp_J (dq_213 v) k i = 0 := sz_nJ (zj_212 v) k i
theorem zr_213 (v : Nat → Int32) (i : Nat) : dp_R (dq_213 v) 59 i = none := sz_nR (zr_212 v) i
theorem zl_25_213 (v : Nat → Int32) : dp_len (dq_213 v) 25 = (Int32.toNatClampNeg (dq_h (v 0) (12 : Int32))) := sz_nL (dqn_212 v) (by decide) (zl_25_212 v)
theorem zl_26_213 (v : Nat → Int32) : dp_len (dq_213 v) 26 = (Int32.toNatClampNeg (dq_h (v 0) (12 : Int32))) := sz_nL (dqn_212 v) (by decide) (zl_26_212 v)
theorem zl_27_213 (v : Nat → Int32) : dp_len (dq_213 v) 27 = (Int32.toNatClampNeg ((dq_h (v 0) (12 : Int32)) * (16 : Int32))) := sz_nL (dqn_212 v) (by decide) (zl_27_212 v)
theorem zl_33_213 (v : Nat → Int32) : dp_len (dq_213 v) 33 = (Int32.toNatClampNeg (dq_h (v 2) (20 : Int32))) := sz_nL (dqn_212 v) (by decide) (zl_33_212 v)
theorem zl_34_213 (v : Nat → Int32) : dp_len (dq_213 v) 34 = (Int32.toNatClampNeg (dq_h (v 2) (20 : Int32))) := sz_nL (dqn_212 v) (by decide) (zl_34_212 v)
theorem zl_35_213 (v : Nat → Int32) : dp_len (dq_213 v) 35 = (Int32.toNatClampNeg (dq_h (v 2) (20 : Int32))) := sz_nL (dqn_212 v) (by decide) (zl_35_212 v)
theorem zl_36_213 (v : Nat → Int32) : dp_len (dq_213 v) 36 = (Int32.toNatClampNeg ((dq_h (v 2) (20 : Int32)) * (dq_h (v 3) (8 : Int32)))) := sz_nL (dqn_212 v) (by decide) (zl_36_212 v)
theorem zi_214 (v : Nat → Int32) (k i : Nat) : dp_I (dq_214 v) k i = sF_13 v k i := zi_213 v k i
theorem zj_214 (v : Nat → Int32) (k i : Nat) : dp_J (dq_214 v) k i = 0 := zj_213 v k i
theorem zr_214 (v : Nat → Int32) (i : Nat) : dp_R (dq_214 v) 59 i = none := sz_rR (by decide) (zr_213 v) i
theorem zl_25_214 (v : Nat → Int32) : dp_len (dq_214 v) 25 = (Int32.toNatClampNeg (dq_h (v 0) (12 : Int32))) := zl_25_213 v
theorem zl_26_214 (v : Nat → Int32) : dp_len (dq_214 v) 26 = (Int32.toNatClampNeg (dq_h (v 0) (12 : Int32))) := zl_26_213 v
theorem zl_27_214 (v : Nat → Int32) : dp_len (dq_214 v) 27 = (Int32.toNatClampNeg ((dq_h (v 0) (12 : Int32)) * (16 : Int32))) := zl_27_213 v
theorem zl_33_214 (v : Nat → Int32) : dp_len (dq_214 v) 33 = (Int32.toNatClampNeg (dq_h (v 2) (20 : Int32))) := zl_33_213 v
theorem zl_34_214 (v : Nat → Int32) : dp_len (dq_214 v) 34 = (Int32.toNatClampNeg (dq_h (v 2) (20 : Int32))) := zl_34_213 v
theorem zl_35_214 (v : Nat → Int32) : dp_len (dq_214 v) 35 = (Int32.toNatClampNeg (dq_h (v 2) (20 : Int32))) := zl_35_213 v
theorem zl_36_214 (v : Nat → Int32) : dp_len (dq_214 v) 36 = (Int32.toNatClampNeg ((dq_h (v 2) (20 : Int32)) * (dq_h (v 3) (8 : Int32)))) := zl_36_213 v
theorem zi_215 (v : Nat → Int32) (k i : Nat) : dp_I (dq_215 v) k i = sF_13 v k i := sz_n (dqn_214 v) (zi_214 v) (fun _ => rfl) k i
theorem zj_215 (v : Nat → Int32) (k i : Nat) : dp_J (dq_215 v) k i = 0 := sz_nJ (zj_214 v) k i
theorem zr_215 (v : Nat → Int32) (i : Nat) : dp_R (dq_215 v) 59 i = none := sz_nR (zr_214 v) i
theorem zl_25_215 (v : Nat → Int32) : dp_len (dq_215 v) 25 = (Int32.toNatClampNeg (dq_h (v 0) (12 : Int32))) := sz_nL (dqn_214 v) (by decide) (zl_25_214 v)
theorem zl_26_215 (v : Nat → Int32) : dp_len (dq_215 v) 26 = (Int32.toNatClampNeg (dq_h (v 0) (12 : Int32))) := sz_nL (dqn_214 v) (by decide) (zl_26_214 v)
theorem zl_27_215 (v : Nat → Int32) : dp_len (dq_215 v) 27 = (Int32.toNatClampNeg ((dq_h (v 0) (12 : Int32)) * (16 : Int32))) := sz_nL (dqn_214 v) (by decide) (zl_27_214 v)
theorem zl_33_215 (v : Nat → Int32) : dp_len (dq_215 v) 33 = (Int32.toNatClampNeg (dq_h (v 2) (20 : Int32))) := sz_nL (dqn_214 v) (by decide) (zl_33_214 v)
theorem zl_34_215 (v : Nat → Int32) : dp_len (dq_215 v) 34 = (Int32.toNatClampNeg (dq_h (v 2) (20 : Int32))) := sz_nL (dqn_214 v) (by decide) (zl_34_214 v)
theorem zl_35_215 (v : Nat → Int32) : dp_len (dq_215 v) 35 = (Int32.toNatClampNeg (dq_h (v 2) (20 : Int32))) := sz_nL (dqn_214 v) (by decide) (zl_35_214 v)
theorem zl_36_215 (v : Nat → Int32) : dp_len (dq_215 v) 36 = (Int32.toNatClampNeg ((dq_h (v 2) (20 : Int32)) * (dq_h (v 3) (8 : Int32)))) := sz_nL (dqn_214 v) (by decide) (zl_36_214 v)
theorem zi_216 (v : Nat → Int32) (k i : Nat) : dp_I (dq_216 v) k i = sF_13 v k i := zi_215 v k i
theorem zj_216 (v : Nat → Int32) (k i : Nat) : dp_J (dq_216 v) k i = 0 := zj_215 v k i
theorem zr_216 (v : Nat → Int32) (i : Nat) : dp_R (dq_216 v) 59 i = none := sz_rR (by decide) (zr_215 v) i
theorem zl_25_216 (v : Nat → Int32) : dp_len (dq_216 v) 25 = (Int32.toNatClampNeg (dq_h (v 0) (12 : Int32))) := zl_25_215 v
theorem zl_26_216 (v : Nat → Int32) : dp_len (dq_216 v) 26 = (Int32.toNatClampNeg (dq_h (v 0) (12 : Int32))) := zl_26_215 v
theorem zl_27_216 (v : Nat → Int32) : dp_len (dq_216 v) 27 = (Int32.toNatClampNeg ((dq_h (v 0) (12 : Int32)) * (16 : Int32))) := zl_27_215 v
theorem zl_33_216 (v : Nat → Int32) : dp_len (dq_216 v) 33 = (Int32.toNatClampNeg (dq_h (v 2) (20 : Int32))) := zl_33_215 v
theorem zl_34_216 (v : Nat → Int32) : dp_len (dq_216 v) 34 = (Int32.toNatClampNeg (dq_h (v 2) (20 : Int32))) := zl_34_215 v
theorem zl_35_216 (v : Nat → Int32) : dp_len (dq_216 v) 35 = (Int32.toNatClampNeg (dq_h (v 2) (20 : Int32))) := zl_35_215 v
theorem zl_36_216 (v : Nat → Int32) : dp_len (dq_216 v) 36 = (Int32.toNatClampNeg ((dq_h (v 2) (20 : Int32)) * (dq_h (v 3) (8 : Int32)))) := zl_36_215 v
theorem zi_217 (v : Nat → Int32) (k i : Nat) : dp_I (dq_217 v) k i = sF_13 v k i := sz_n (dqn_216 v) (zi_216 v) (fun _ => rfl) k i
theorem zj_217 (v : Nat → Int32) (k i : Nat) : dp_J (dq_217 v) k i = 0 := sz_nJ (zj_216 v) k i
theorem zr_217 (v : Nat → Int32) (i : Nat) : dp_R (dq_217 v) 59 i = none := sz_nR (zr_216 v) i
theorem zl_25_217 (v : Nat → Int32) : dp_len (dq_217 v) 25 = (Int32.toNatClampNeg (dq_h (v 0) (12 : Int32))) := sz_nL (dqn_216 v) (by decide) (zl_25_216 v)
theorem zl_26_217 (v : Nat → Int32) : dp_len (dq_217 v) 26 = (Int32.toNatClampNeg (dq_h (v 0) (12 : Int32))) := sz_nL (dqn_216 v) (by decide) (zl_26_216 v)
theorem zl_27_217 (v : Nat → Int32) : dp_len (dq_217 v) 27 = (Int32.toNatClampNeg ((dq_h (v 0) (12 : Int32)) * (16 : Int32))) := sz_nL (dqn_216 v) (by decide) (zl_27_216 v)
theorem zl_33_217 (v : Nat → Int32) : dp_len (dq_217 v) 33 = (Int32.toNatClampNeg (dq_h (v 2) (20 : Int32))) := sz_nL (dqn_216 v) (by decide) (zl_33_216 v)
theorem zl_34_217 (v : Nat → Int32) : dp_len (dq_217 v) 34 = (Int32.toNatClampNeg (dq_h (v 2) (20 : Int32))) := sz_nL (dqn_216 v) (by decide) (zl_34_216 v)
theorem zl_35_217 (v : Nat → Int32) : dp_len (dq_217 v) 35 = (Int32.toNatClampNeg (dq_h (v 2) (20 : Int32))) := sz_nL (dqn_216 v) (by decide) (zl_35_216 v)
theorem zl_36_217 (v : Nat → Int32) : dp_len (dq_217 v) 36 = (Int32.toNatClampNeg ((dq_h (v 2) (20 : Int32)) * (dq_h (v 3) (8 : Int32)))) := sz_nL (dqn_216 v) (by decide) (zl_36_216 v)
theorem zi_218 (v : Nat → Int32) (k i : Nat) : dp_I (dq_218 v) k i = sF_13 v k i := zi_217 v k i
theorem zj_218 (v : Nat → Int32) (k i : Nat) : dp_J (dq_218 v) k i = 0 := zj_217 v k i
theorem zr_218 (v : Nat → Int32) (i : Nat) : dp_R (dq_218 v) 59 i = none := sz_rR (by decide) (zr_217 v) i
theorem zl_25_218 (v : Nat → Int32) : dp_len (dq_218 v) 25 = (Int32.toNatClampNeg (dq_h (v 0) (12 : Int32))) := zl_25_217 v
theorem zl_26_218 (v : Nat → Int32) : dp_len (dq_218 v) 26 = (Int32.toNatClampNeg (dq_h (v 0) (12 : Int32))) := zl_26_217 v
theorem zl_27_218 (v : Nat → Int32) : dp_len (dq_218 v) 27 = (Int32.toNatClampNeg ((dq_h (v 0) (12 : Int32)) * (16 : Int32))) := zl_27_217 v
theorem zl_33_218 (v : Nat → Int32) : dp_len (dq_218 v) 33 = (Int32.toNatClampNeg (dq_h (v 2) (20 : Int32))) := zl_33_217 v
theorem zl_34_218 (v : Nat → Int32) : dp_len (dq_218 v) 34 = (Int32.toNatClampNeg (dq_h (v 2) (20 : Int32))) := zl_34_217 v
theorem zl_35_218 (v : Nat → Int32) : dp_len (dq_218 v) 35 = (Int32.toNatClampNeg (dq_h (v 2) (20 : Int32))) := zl_35_217 v
theorem zl_36_218 (v : Nat → Int32) : dp_len (dq_218 v) 36 = (Int32.toNatClampNeg ((dq_h (v 2) (20 : Int32)) * (dq_h (v 3) (8 : Int32)))) := zl_36_217 v
theorem zi_219 (v : Nat → Int32) (k i : Nat) : dp_I (dq_219 v) k i = sF_13 v k i := sz_n (dqn_218 v) (zi_218 v) (fun _ => rfl) k i
theorem zj_219 (v : Nat → Int32) (k i : Nat) : dp_J (dq_219 v) k i = 0 := sz_nJ (zj_218 v) k i
theorem zr_219 (v : Nat → Int32) (i : Nat) : dp_R (dq_219 v) 59 i = none := sz_nR (zr_218 v) i
theorem zl_25_219 (v : Nat → Int32) : dp_len (dq_219 v) 25 = (Int32.toNatClampNeg (dq_h (v 0) (12 : Int32))) := sz_nL (dqn_218 v) (by decide) (zl_25_218 v)
theorem zl_26_219 (v : Nat → Int32) : dp_len (dq_219 v) 26 = (Int32.toNatClampNeg (dq_h (v 0) (12 : Int32))) := sz_nL (dqn_218 v) (by decide) (zl_26_218 v)
theorem zl_27_219 (v : Nat → Int32) : dp_len (dq_219 v) 27 = (Int32.toNatClampNeg ((dq_h (v 0) (12 : Int32)) * (16 : Int32))) := sz_nL (dqn_218 v) (by decide) (zl_27_218 v)
theorem zl_33_219 (v : Nat → Int32) : dp_len (dq_219 v) 33 = (Int32.toNatClampNeg (dq_h (v 2) (20 : Int32))) := sz_nL (dqn_218 v) (by decide) (zl_33_218 v)
theorem zl_34_219 (v : Nat → Int32) : dp_len (dq_219 v) 34 = (Int32.toNatClampNeg (dq_h (v 2) (20 : Int32))) := sz_nL (dqn_218 v) (by decide) (zl_34_218 v)
theorem zl_35_219 (v : Nat → Int32) : dp_len (dq_219 v) 35 = (Int32.toNatClampNeg (dq_h (v 2) (20 : Int32))) := sz_nL (dqn_218 v) (by decide) (zl_35_218 v)
theorem zl_36_219 (v : Nat → Int32) : dp_len (dq_219 v) 36 = (Int32.toNatClampNeg ((dq_h (v 2) (20 : Int32)) * (dq_h (v 3) (8 : Int32)))) := sz_nL (dqn_218 v) (by decide) (zl_36_218 v)
theorem zi_220 (v : Nat → Int32) (k i : Nat) : dp_I (dq_220 v) k i = sF_13 v k i := zi_219 v k i
theorem zj_220 (v : Nat → Int32) (k i : Nat) : dp_J (dq_220 v) k i = 0 := zj_219 v k i
theorem zr_220 (v : Nat → Int32) (i : Nat) : dp_R (dq_220 v) 59 i = none := sz_rR (by decide) (zr_219 v) i
theorem zl_25_220 (v : Nat → Int32) : dp_len (dq_220 v) 25 = (Int32.toNatClampNeg (dq_h (v 0) (12 : Int32))) := zl_25_219 v
theorem zl_26_220 (v : Nat → Int32) : dp_len (dq_220 v) 26 = (Int32.toNatClampNeg (dq_h (v 0) (12 : Int32))) := zl_26_219 v
theorem zl_27_220 (v : Nat → Int32) : dp_len (dq_220 v) 27 = (Int32.toNatClampNeg ((dq_h (v 0) (12 : Int32)) * (16 : Int32))) := zl_27_219 v
theorem zl_33_220 (v : Nat → Int32) : dp_len (dq_220 v) 33 = (Int32.toNatClampNeg (dq_h (v 2) (20 : Int32))) := zl_33_219 v
theorem zl_34_220 (v : Nat → Int32) : dp_len (dq_220 v) 34 = (Int32.toNatClampNeg (dq_h (v 2) (20 : Int32))) := zl_34_219 v
theorem zl_35_220 (v : Nat → Int32) : dp_len (dq_220 v) 35 = (Int32.toNatClampNeg (dq_h (v 2) (20 : Int32))) := zl_35_219 v
theorem zl_36_220 (v : Nat → Int32) : dp_len (dq_220 v) 36 = (Int32.toNatClampNeg ((dq_h (v 2) (20 : Int32)) * (dq_h (v 3) (8 : Int32)))) := zl_36_219 v
theorem zi_221 (v : Nat → Int32) (k i : Nat) : dp_I (dq_221 v) k i = sF_13 v k i := sz_n (dqn_220 v) (zi_220 v) (fun _ => rfl) k i
theorem zj_221 (v : Nat → Int32) (k i : Nat) : dp_J (dq_221 v) k i = 0 := sz_nJ (zj_220 v) k i
theorem zr_221 (v : Nat → Int32) (i : Nat) : dp_R (dq_221 v) 59 i = none := sz_nR (zr_220 v) i
theorem zl_25_221 (v : Nat → Int32) : dp_len (dq_221 v) 25 = (Int32.toNatClampNeg (dq_h (v 0) (12 : Int32))) := sz_nL (dqn_220 v) (by decide) (zl_25_220 v)
theorem zl_26_221 (v : Nat → Int32) : dp_len (dq_221 v) 26 = (Int32.toNatClampNeg (dq_h (v 0) (12 : Int32))) := sz_nL (dqn_220 v) (by decide) (zl_26_220 v)
theorem zl_27_221 (v : Nat → Int32) : dp_len (dq_221 v) 27 = (Int32.toNatClampNeg ((dq_h (v 0) (12 : Int32)) * (16 : Int32))) := sz_nL (dqn_220 v) (by decide) (zl_27_220 v)
theorem zl_33_221 (v : Nat → Int32) : dp_len (dq_221 v) 33 = (Int32.toNatClampNeg (dq_h (v 2) (20 : Int32))) := sz_nL (dqn_220 v) (by decide) (zl_33_220 v)
theorem zl_34_221 (v : Nat → Int32) : dp_len (dq_221 v) 34 = (Int32.toNatClampNeg (dq_h (v 2) (20 : Int32))) := sz_nL (dqn_220 v) (by decide) (zl_34_220 v)
theorem zl_35_221 (v : Nat → Int32) : dp_len (dq_221 v) 35 = (Int32.toNatClampNeg (dq_h (v 2) (20 : Int32))) := sz_nL (dqn_220 v) (by decide) (zl_35_220 v)
theorem zl_36_221 (v : Nat → Int32) : dp_len (dq_221 v) 36 = (Int32.toNatClampNeg ((dq_h (v 2) (20 : Int32)) * (dq_h (v 3) (8 : Int32)))) := sz_nL (dqn_220 v) (by decide) (zl_36_220 v)
theorem zi_222 (v : Nat → Int32) (k i : Nat) : dp_I (dq_222 v) k i = sF_13 v k i := zi_221 v k i
theorem zj_222 (v : Nat → Int32) (k i : Nat) : dp_J (dq_222 v) k i = 0 := zj_221 v k i
theorem zr_222 (v : Nat → Int32) (i : Nat) : dp_R (dq_222 v) 59 i = none := sz_rR (by decide) (zr_221 v) i
theorem zl_25_222 (v : Nat → Int32) : dp_len (dq_222 v) 25 = (Int32.toNatClampNeg (dq_h (v 0) (12 : Int32))) := zl_25_221 v
theorem zl_26_222 (v : Nat → Int32) : dp_len (dq_222 v) 26 = (Int32.toNatClampNeg (dq_h (v 0) (12 : Int32))) := zl_26_221 v
theorem zl_27_222 (v : Nat → Int32) : dp_len (dq_222 v) 27 = (Int32.toNatClampNeg ((dq_h (v 0) (12 : Int32)) * (16 : Int32))) := zl_27_221 v
theorem zl_33_222 (v : Nat → Int32) : dp_len (dq_222 v) 33 = (Int32.toNatClampNeg (dq_h (v 2) (20 : Int32))) := zl_33_221 v
theorem zl_34_222 (v : Nat → Int32) : dp_len (dq_222 v) 34 = (Int32.toNatClampNeg (dq_h (v 2) (20 : Int32))) := zl_34_221 v
theorem zl_35_222 (v : Nat → Int32) : dp_len (dq_222 v) 35 = (Int32.toNatClampNeg (dq_h (v 2) (20 : Int32))) := zl_35_221 v
theorem zl_36_222 (v : Nat → Int32) : dp_len (dq_222 v) 36 = (Int32.toNatClampNeg ((dq_h (v 2) (20 : Int32)) * (dq_h (v 3) (8 : Int32)))) := zl_36_221 v
theorem zi_223 (v : Nat → Int32) (k i : Nat) : dp_I (dq_223 v) k i = sF_13 v k i := sz_n (dqn_222 v) (zi_222 v) (fun _ => rfl) k i
theorem zj_223 (v : Nat → Int32) (k i : Nat) : dp_J (dq_223 v) k i = 0 := sz_nJ (zj_222 v) k i
theorem zr_223 (v : Nat → Int32) (i : Nat) : dp_R (dq_223 v) 59 i = none := sz_nR (zr_222 v) i
theorem zl_25_223 (v : Nat → Int32) : dp_len (dq_223 v) 25 = (Int32.toNatClampNeg (dq_h (v 0) (12 : Int32))) := sz_nL (dqn_222 v) (by decide) (zl_25_222 v)
theorem zl_26_223 (v : Nat → Int32) : dp_len (dq_223 v) 26 = (Int32.toNatClampNeg (dq_h (v 0) (12 : Int32))) := sz_nL (dqn_222 v) (by decide) (zl_26_222 v)
theorem zl_27_223 (v : Nat → Int32) : dp_len (dq_223 v) 27 = (Int32.toNatClampNeg ((dq_h (v 0) (12 : Int32)) * (16 : Int32))) := sz_nL (dqn_222 v) (by decide) (zl_27_222 v)
theorem zl_33_223 (v : Nat → Int32) : dp_len (dq_223 v) 33 = (Int32.toNatClampNeg (dq_h (v 2) (20 : Int32))) := sz_nL (dqn_222 v) (by decide) (zl_33_222 v)
theorem zl_34_223 (v : Nat → Int32) : dp_len (dq_223 v) 34 = (Int32.toNatClampNeg (dq_h (v 2) (20 : Int32))) := sz_nL (dqn_222 v) (by decide) (zl_34_222 v)
theorem zl_35_223 (v : Nat → Int32) : dp_len (dq_223 v) 35 = (Int32.toNatClampNeg (dq_h (v 2) (20 : Int32))) := sz_nL (dqn_222 v) (by decide) (zl_35_222 v)
theorem zl_36_223 (v : Nat → Int32) : dp_len (dq_223 v) 36 = (Int32.toNatClampNeg ((dq_h (v 2) (20 : Int32)) * (dq_h (v 3) (8 : Int32)))) := sz_nL (dqn_222 v) (by decide) (zl_36_222 v)
theorem zi_224 (v : Nat → Int32) (k i : Nat) : dp_I (dq_224 v) k i = sF_13 v k i := zi_223 v k i
theorem zj_224 (v : Nat → Int32) (k i : Nat) : dp_J (dq_224 v) k i = 0 := zj_223 v k i
theorem zr_224 (v : Nat → Int32) (i : Nat) : dp_R (dq_224 v) 59 i = none := sz_rR (by decide) (zr_223 v) i
theorem zl_25_224 (v : Nat → Int32) : dp_len (dq_224 v) 25 = (Int32.toNatClampNeg (dq_h (v 0) (12 : Int32))) := zl_25_223 v
theorem zl_26_224 (v : Nat → Int32) : dp_len (dq_224 v) 26 = (Int32.toNatClampNeg (dq_h (v 0) (12 : Int32))) := zl_26_223 v
theorem zl_27_224 (v : Nat → Int32) : dp_len (dq_224 v) 27 = (Int32.toNatClampNeg ((dq_h (v 0) (12 : Int32)) * (16 : Int32))) := zl_27_223 v
theorem zl_33_224 (v : Nat → Int32) : dp_len (dq_224 v) 33 = (Int32.toNatClampNeg (dq_h (v 2) (20 : Int32))) := zl_33_223 v
theorem zl_34_224 (v : Nat → Int32) : dp_len (dq_224 v) 34 = (Int32.toNatClampNeg (dq_h (v 2) (20 : Int32))) := zl_34_223 v
theorem zl_35_224 (v : Nat → Int32) : dp_len (dq_224 v) 35 = (Int32.toNatClampNeg (dq_h (v 2) (20 : Int32))) := zl_35_223 v
theorem zl_36_224 (v : Nat → Int32) : dp_len (dq_224 v) 36 = (Int32.toNatClampNeg ((dq_h (v 2) (20 : Int32)) * (dq_h (v 3) (8 : Int32)))) := zl_36_223 v
theorem zi_225 (v : Nat → Int32) (k i : Nat) : dp_I (dq_225 v) k i = sF_13 v k i := sz_n (dqn_224 v) (zi_224 v) (fun _ => rfl) k i
theorem zj_225 (v : Nat → Int32) (k i : Nat) : dp_J (dq_225 v) k i = 0 := sz_nJ (zj_224 v) k i
theorem zr_225 (v : Nat → Int32) (i : Nat) : dp_R (dq_225 v) 59 i = none := sz_nR (zr_224 v) i
theorem zl_25_225 (v : Nat → Int32) : dp_len (dq_225 v) 25 = (Int32.toNatClampNeg (dq_h (v 0) (12 : Int32))) := sz_nL (dqn_224 v) (by decide) (zl_25_224 v)
theorem zl_26_225 (v : Nat → Int32) : dp_len (dq_225 v) 26 = (Int32.toNatClampNeg (dq_h (v 0) (12 : Int32))) := sz_nL (dqn_224 v) (by decide) (zl_26_224 v)
theorem zl_27_225 (v : Nat → Int32) : dp_len (dq_225 v) 27 = (Int32.toNatClampNeg ((dq_h (v 0) (12 : Int32)) * (16 : Int32))) := sz_nL (dqn_224 v) (by decide) (zl_27_224 v)
theorem zl_33_225 (v : Nat → Int32) : dp_len (dq_225 v) 33 = (Int32.toNatClampNeg (dq_h (v 2) (20 : Int32))) := sz_nL (dqn_224 v) (by decide) (zl_33_224 v)
theorem zl_34_225 (v : Nat → Int32) : dp_len (dq_225 v) 34 = (Int32.toNatClampNeg (dq_h (v 2) (20 : Int32))) := sz_nL (dqn_224 v) (by decide) (zl_34_224 v)
theorem zl_35_225 (v : Nat → Int32) : dp_len (dq_225 v) 35 = (Int32.toNatClampNeg (dq_h (v 2) (20 : Int32))) := sz_nL (dqn_224 v) (by decide) (zl_35_224 v)
theorem zl_36_225 (v : Nat → Int32) : dp_len (dq_225 v) 36 = (Int32.toNatClampNeg ((dq_h (v 2) (20 : Int32)) * (dq_h (v 3) (8 : Int32)))) := sz_nL (dqn_224 v) (by decide) (zl_36_224 v)
theorem zi_226 (v : Nat → Int32) (k i : Nat) : dp_I (dq_226 v) k i = sF_13 v k i := zi_225 v k i
theorem zj_226 (v : Nat → Int32) (k i : Nat) : dp_J (dq_226 v) k i = 0 := zj_225 v k i
theorem zr_226 (v : Nat → Int32) (i : Nat) : dp_R (dq_226 v) 59 i = none := sz_rR (by decide) (zr_225 v) i
theorem zl_25_226 (v : Nat → Int32) : dp_len (dq_226 v) 25 = (Int32.toNatClampNeg (dq_h (v 0) (12 : Int32))) := zl_25_225 v
theorem zl_26_226 (v : Nat → Int32) : dp_len (dq_226 v) 26 = (Int32.toNatClampNeg (dq_h (v 0) (12 : Int32))) := zl_26_225 v
theorem zl_27_226 (v : Nat → Int32) : dp_len (dq_226 v) 27 = (Int32.toNatClampNeg ((dq_h (v 0) (12 : Int32)) * (16 : Int32))) := zl_27_225 v
theorem zl_33_226 (v : Nat → Int32) : dp_len (dq_226 v) 33 = (Int32.toNatClampNeg (dq_h (v 2) (20 : Int32))) := zl_33_225 v
theorem zl_34_226 (v : Nat → Int32) : dp_len (dq_226 v) 34 = (Int32.toNatClampNeg (dq_h (v 2) (20 : Int32))) := zl_34_225 v
theorem zl_35_226 (v : Nat → Int32) : dp_len (dq_226 v) 35 = (Int32.toNatClampNeg (dq_h (v 2) (20 : Int32))) := zl_35_225 v
theorem zl_36_226 (v : Nat → Int32) : dp_len (dq_226 v) 36 = (Int32.toNatClampNeg ((dq_h (v 2) (20 : Int32)) * (dq_h (v 3) (8 : Int32)))) := zl_36_225 v
theorem zi_227 (v : Nat → Int32) (k i : Nat) : dp_I (dq_227 v) k i = sF_13 v k i := sz_n (dqn_226 v) (zi_226 v) (fun _ => rfl) k i
theorem zj_227 (v : Nat → Int32) (k i : Nat) : dp_J (dq_227 v) k i = 0 := sz_nJ (zj_226 v) k i
theorem zr_227 (v : Nat → Int32) (i : Nat) : dp_R (dq_227 v) 59 i = none := sz_nR (zr_226 v) i
theorem zl_25_227 (v : Nat → Int32) : dp_len (dq_227 v) 25 = (Int32.toNatClampNeg (dq_h (v 0) (12 : Int32))) := sz_nL (dqn_226 v) (by decide) (zl_25_226 v)
theorem zl_26_227 (v : Nat → Int32) : dp_len (dq_227 v) 26 = (Int32.toNatClampNeg (dq_h (v 0) (12 : Int32))) := sz_nL (dqn_226 v) (by decide) (zl_26_226 v)
theorem zl_27_227 (v : Nat → Int32) : dp_len (dq_227 v) 27 = (Int32.toNatClampNeg ((dq_h (v 0) (12 : Int32)) * (16 : Int32))) := sz_nL (dqn_226 v) (by decide) (zl_27_226 v)
theorem zl_33_227 (v : Nat → Int32) : dp_len (dq_227 v) 33 = (Int32.toNatClampNeg (dq_h (v 2) (20 : Int32))) := sz_nL (dqn_226 v) (by decide) (zl_33_226 v)
theorem zl_34_227 (v : Nat → Int32) : dp_len (dq_227 v) 34 = (Int32.toNatClampNeg (dq_h (v 2) (20 : Int32))) := sz_nL (dqn_226 v) (by decide) (zl_34_226 v)
theorem zl_35_227 (v : Nat → Int32) : dp_len (dq_227 v) 35 = (Int32.toNatClampNeg (dq_h (v 2) (20 : Int32))) := sz_nL (dqn_226 v) (by decide) (zl_35_226 v)
theorem zl_36_227 (v : Nat → Int32) : dp_len (dq_227 v) 36 = (Int32.toNatClampNeg ((dq_h (v 2) (20 : Int32)) * (dq_h (v 3) (8 : Int32)))) := sz_nL (dqn_226 v) (by decide) (zl_36_226 v)
theorem zi_228 (v : Nat → Int32) (k i : Nat) : dp_I (dq_228 v) k i = sF_13 v k i := zi_227 v k i
theorem zj_228 (v : Nat → Int32) (k i : Nat) : dp_J (dq_228 v) k i = 0 := zj_227 v k i
theorem zr_228 (v : Nat → Int32) (i : Nat) : dp_R (dq_228 v) 59 i = none := sz_rR (by decide) (zr_227 v) i
theorem zl_25_228 (v : Nat → Int32) : dp_len (dq_228 v) 25 = (Int32.toNatClampNeg (dq_h (v 0) (12 : Int32))) := zl_25_227 v
theorem zl_26_228 (v : Nat → Int32) : dp_len (dq_228 v) 26 = (Int32.toNatClampNeg (dq_h (v 0) (12 : Int32))) := zl_26_227 v
theorem zl_27_228 (v : Nat → Int32) : dp_len (dq_228 v) 27 = (Int32.toNatClampNeg ((dq_h (v 0) (12 : Int32)) * (16 : Int32))) := zl_27_227 v
theorem zl_33_228 (v : Nat → Int32) : dp_len (dq_228 v) 33 = (Int32.toNatClampNeg (dq_h (v 2) (20 : Int32))) := zl_33_227 v
theorem zl_34_228 (v : Nat → Int32) : dp_len (dq_228 v) 34 = (Int32.toNatClampNeg (dq_h (v 2) (20 : Int32))) := zl_34_227 v
theorem zl_35_228 (v : Nat → Int32) : dp_len (dq_228 v) 35 = (Int32.toNatClampNeg (dq_h (v 2) (20 : Int32))) := zl_35_227 v
theorem zl_36_228 (v : Nat → Int32) : dp_len (dq_228 v) 36 = (Int32.toNatClampNeg ((dq_h (v 2) (20 : Int32)) * (dq_h (v 3) (8 : Int32)))) := zl_36_227 v
theorem zi_229 (v : Nat → Int32) (k i : Nat) : dp_I (dq_229 v) k i = sF_13 v k i := sz_n (dqn_228 v) (zi_228 v) (fun _ => rfl) k i
theorem zj_229 (v : Nat → Int32) (k i : Nat) : dp_J (dq_229 v) k i = 0 := sz_nJ (zj_228 v) k i
theorem zr_229 (v : Nat → Int32) (i : Nat) : dp_R (dq_229 v) 59 i = none := sz_nR (zr_228 v) i
theorem zl_25_229 (v : Nat → Int32) : dp_len (dq_229 v) 25 = (Int32.toNatClampNeg (dq_h (v 0) (12 : Int32))) := sz_nL (dqn_228 v) (by decide) (zl_25_228 v)
theorem zl_26_229 (v : Nat → Int32) : dp_len (dq_229 v) 26 = (Int32.toNatClampNeg (dq_h (v 0) (12 : Int32))) := sz_nL (dqn_228 v) (by decide) (zl_26_228 v)
theorem zl_27_229 (v : Nat → Int32) : dp_len (dq_229 v) 27 = (Int32.toNatClampNeg ((dq_h (v 0) (12 : Int32)) * (16 : Int32))) := sz_nL (dqn_228 v) (by decide) (zl_27_228 v)
theorem zl_33_229 (v : Nat → Int32) : dp_len (dq_229 v) 33 = (Int32.toNatClampNeg (dq_h (v 2) (20 : Int32))) := sz_nL (dqn_228 v) (by decide) (zl_33_228 v)
theorem zl_34_229 (v : Nat → Int32) : dp_len (dq_229 v) 34 = (Int32.toNatClampNeg (dq_h (v 2) (20 : Int32))) := sz_nL (dqn_228 v) (by decide) (zl_34_228 v)
theorem zl_35_229 (v : Nat → Int32) : dp_len (dq_229 v) 35 = (Int32.toNatClampNeg (dq_h (v 2) (20 : Int32))) := sz_nL (dqn_228 v) (by decide) (zl_35_228 v)
theorem zl_36_229 (v : Nat → Int32) : dp_len (dq_229 v) 36 = (Int32.toNatClampNeg ((dq_h (v 2) (20 : Int32)) * (dq_h (v 3) (8 : Int32)))) := sz_nL (dqn_228 v) (by decide) (zl_36_228 v)
theorem zi_230 (v : Nat → Int32) (k i : Nat) : dp_I (dq_230 v) k i = sF_13 v k i := zi_229 v k i
theorem zj_230 (v : Nat → Int32) (k i : Nat) : dp_J (dq_230 v) k i = 0 := zj_229 v k i
theorem zr_230 (v : Nat → Int32) (i : Nat) : dp_R (dq_230 v) 59 i = none := sz_rR (by decide) (zr_229 v) i
theorem zl_25_230 (v : Nat → Int32) : dp_len (dq_230 v) 25 = (Int32.toNatClampNeg (dq_h (v 0) (12 : Int32))) := zl_25_229 v
theorem zl_26_230 (v : Nat → Int32) : dp_len (dq_230 v) 26 = (Int32.toNatClampNeg (dq_h (v 0) (12 : Int32))) := zl_26_229 v
theorem zl_27_230 (v : Nat → Int32) : dp_len (dq_230 v) 27 = (Int32.toNatClampNeg ((dq_h (v 0) (12 : Int32)) * (16 : Int32))) := zl_27_229 v
theorem zl_33_230 (v : Nat → Int32) : dp_len (dq_230 v) 33 = (Int32.toNatClampNeg (dq_h (v 2) (20 : Int32))) := zl_33_229 v
theorem zl_34_230 (v : Nat → Int32) : dp_len (dq_230 v) 34 = (Int32.toNatClampNeg (dq_h (v 2) (20 : Int32))) := zl_34_229 v
theorem zl_35_230 (v : Nat → Int32) : dp_len (dq_230 v) 35 = (Int32.toNatClampNeg (dq_h (v 2) (20 : Int32))) := zl_35_229 v
theorem zl_36_230 (v : Nat → Int32) : dp_len (dq_230 v) 36 = (Int32.toNatClampNeg ((dq_h (v 2) (20 : Int32)) * (dq_h (v 3) (8 : Int32)))) := zl_36_229 v
theorem zi_231 (v : Nat → Int32) (k i : Nat) : dp_I (dq_231 v) k i = sF_13 v k i := zi_230 v k i
theorem zj_231 (v : Nat → Int32) (k i : Nat) : dp_J (dq_231 v) k i = 0 := zj_230 v k i
theorem zr_231 (v : Nat → Int32) (i : Nat) : dp_R (dq_231 v) 59 i = none := sz_rR (by decide) (zr_230 v) i
theorem zl_25_231 (v : Nat → Int32) : dp_len (dq_231 v) 25 = (Int32.toNatClampNeg (dq_h (v 0) (12 : Int32))) := zl_25_230 v
theorem zl_26_231 (v : Nat → Int32) : dp_len (dq_231 v) 26 = (Int32.toNatClampNeg (dq_h (v 0) (12 : Int32))) := zl_26_230 v
theorem zl_27_231 (v : Nat → Int32) : dp_len (dq_231 v) 27 = (Int32.toNatClampNeg ((dq_h (v 0) (12 : Int32)) * (16 : Int32))) := zl_27_230 v
theorem zl_33_231 (v : Nat → Int32) : dp_len (dq_231 v) 33 = (Int32.toNatClampNeg (dq_h (v 2) (20 : Int32))) := zl_33_230 v
theorem zl_34_231 (v : Nat → Int32) : dp_len (dq_231 v) 34 = (Int32.toNatClampNeg (dq_h (v 2) (20 : Int32))) := zl_34_230 v
theorem zl_35_231 (v : Nat → Int32) : dp_len (dq_231 v) 35 = (Int32.toNatClampNeg (dq_h (v 2) (20 : Int32))) := zl_35_230 v
theorem zl_36_231 (v : Nat → Int32) : dp_len (dq_231 v) 36 = (Int32.toNatClampNeg ((dq_h (v 2) (20 : Int32)) * (dq_h (v 3) (8 : Int32)))) := zl_36_230 v
theorem zi_232 (v : Nat → Int32) (k i : Nat) : dp_I (dq_232 v) k i = sF_13 v k i := sz_n (dqn_231 v) (zi_231 v) (fun _ => rfl) k i
theorem zj_232 (v : Nat → Int32) (k i : Nat) : dp_J (dq_232 v) k i = 0 := sz_nJ (zj_231 v) k i
theorem zr_232 (v : Nat → Int32) (i : Nat) : dp_R (dq_232 v) 59 i = none := sz_nR (zr_231 v) i
theorem zl_25_232 (v : Nat → Int32) : dp_len (dq_232 v) 25 = (Int32.toNatClampNeg (dq_h (v 0) (12 : Int32))) := sz_nL (dqn_231 v) (by decide) (zl_25_231 v)
theorem zl_26_232 (v : Nat → Int32) : dp_len (dq_232 v) 26 = (Int32.toNatClampNeg (dq_h (v 0) (12 : Int32))) := sz_nL (dqn_231 v) (by decide) (zl_26_231 v)
theorem zl_27_232 (v : Nat → Int32) : dp_len (dq_232 v) 27 = (Int32.toNatClampNeg ((dq_h (v 0) (12 : Int32)) * (16 : Int32))) := sz_nL (dqn_231 v) (by decide) (zl_27_231 v)
theorem zl_33_232 (v : Nat → Int32) : dp_len (dq_232 v) 33 = (Int32.toNatClampNeg (dq_h (v 2) (20 : Int32))) := sz_nL (dqn_231 v) (by decide) (zl_33_231 v)
theorem zl_34_232 (v : Nat → Int32) : dp_len (dq_232 v) 34 = (Int32.toNatClampNeg (dq_h (v 2) (20 : Int32))) := sz_nL (dqn_231 v) (by decide) (zl_34_231 v)
theorem zl_35_232 (v : Nat → Int32) : dp_len (dq_232 v) 35 = (Int32.toNatClampNeg (dq_h (v 2) (20 : Int32))) := sz_nL (dqn_231 v) (by decide) (zl_35_231 v)
theorem zl_36_232 (v : Nat → Int32) : dp_len (dq_232 v) 36 = (Int32.toNatClampNeg ((dq_h (v 2) (20 : Int32)) * (dq_h (v 3) (8 : Int32)))) := sz_nL (dqn_231 v) (by decide) (zl_36_231 v)
theorem zi_233 (v : Nat → Int32) (k i : Nat) : dp_I (dq_233 v) k i = sF_13 v k i := sz_n (dqn_232 v) (zi_232 v) (fun _ => rfl) k i
theorem zj_233 (v : Nat → Int32) (k i : Nat) : dp_J (dq_233 v) k i = 0 := sz_nJ (zj_232 v) k i
theorem zr_233 (v : Nat → Int32) (i : Nat) : dp_R (dq_233 v) 59 i = none := sz_nR (zr_232 v) i
theorem zl_25_233 (v : Nat → Int32) : dp_len (dq_233 v) 25 = (Int32.toNatClampNeg (dq_h (v 0) (12 : Int32))) := sz_nL (dqn_232 v) (by decide) (zl_25_232 v)
theorem zl_26_233 (v : Nat → Int32) : dp_len (dq_233 v) 26 = (Int32.toNatClampNeg (dq_h (v 0) (12 : Int32))) := sz_nL (dqn_232 v) (by decide) (zl_26_232 v)
theorem zl_27_233 (v : Nat → Int32) : dp_len (dq_233 v) 27 = (Int32.toNatClampNeg ((dq_h (v 0) (12 : Int32)) * (16 : Int32))) := sz_nL (dqn_232 v) (by decide) (zl_27_232 v)
theorem zl_33_233 (v : Nat → Int32) : dp_len (dq_233 v) 33 = (Int32.toNatClampNeg (dq_h (v 2) (20 : Int32))) := sz_nL (dqn_232 v) (by decide) (zl_33_232 v)
theorem zl_34_233 (v : Nat → Int32) : dp_len (dq_233 v) 34 = (Int32.toNatClampNeg (dq_h (v 2) (20 : Int32))) := sz_nL (dqn_232 v) (by decide) (zl_34_232 v)
theorem zl_35_233 (v : Nat → Int32) : dp_len (dq_233 v) 35 = (Int32.toNatClampNeg (dq_h (v 2) (20 : Int32))) := sz_nL (dqn_232 v) (by decide) (zl_35_232 v)
theorem zl_36_233 (v : Nat → Int32) : dp_len (dq_233 v) 36 = (Int32.toNatClampNeg ((dq_h (v 2) (20 : Int32)) * (dq_h (v 3) (8 : Int32)))) := sz_nL (dqn_232 v) (by decide) (zl_36_232 v)
theorem zi_234 (v : Nat → Int32) (k i : Nat) : dp_I (dq_234 v) k i = sF_13 v k i := zi_233 v k i
theorem zj_234 (v : Nat → Int32) (k i : Nat) : dp_J (dq_234 v) k i = 0 := zj_233 v k i
theorem zr_234 (v : Nat → Int32) (i : Nat) : dp_R (dq_234 v) 59 i = none := sz_rR (by decide) (zr_233 v) i
theorem zl_25_234 (v : Nat → Int32) : dp_len (dq_234 v) 25 = (Int32.toNatClampNeg (dq_h (v 0) (12 : Int32))) := zl_25_233 v
theorem zl_26_234 (v : Nat → Int32) : dp_len (dq_234 v) 26 = (Int32.toNatClampNeg (dq_h (v 0) (12 : Int32))) := zl_26_233 v
theorem zl_27_234 (v : Nat → Int32) : dp_len (dq_234 v) 27 = (Int32.toNatClampNeg ((dq_h (v 0) (12 : Int32)) * (16 : Int32))) := zl_27_233 v
theorem zl_33_234 (v : Nat → Int32) : dp_len (dq_234 v) 33 = (Int32.toNatClampNeg (dq_h (v 2) (20 : Int32))) := zl_33_233 v
theorem zl_34_234 (v : Nat → Int32) : dp_len (dq_234 v) 34 = (Int32.toNatClampNeg (dq_h (v 2) (20 : Int32))) := zl_34_233 v
theorem zl_35_234 (v : Nat → Int32) : dp_len (dq_234 v) 35 = (Int32.toNatClampNeg (dq_h (v 2) (20 : Int32))) := zl_35_233 v
theorem zl_36_234 (v : Nat → Int32) : dp_len (dq_234 v) 36 = (Int32.toNatClampNeg ((dq_h (v 2) (20 : Int32)) * (dq_h (v 3) (8 : Int32)))) := zl_36_233 v
theorem zi_235 (v : Nat → Int32) (k i : Nat) : dp_I (dq_235 v) k i = sF_13 v k i := sz_n (dqn_234 v) (zi_234 v) (fun _ => rfl) k i
theorem zj_235 (v : Nat → Int32) (k i : Nat) : dp_J (dq_235 v) k i = 0 := sz_nJ (zj_234 v) k i
theorem zr_235 (v : Nat → Int32) (i : Nat) : dp_R (dq_235 v) 59 i = none := sz_nR (zr_234 v) i
theorem zl_25_235 (v : Nat → Int32) : dp_len (dq_235 v) 25 = (Int32.toNatClampNeg (dq_h (v 0) (12 : Int32))) := sz_nL (dqn_234 v) (by decide) (zl_25_234 v)
theorem zl_26_235 (v : Nat → Int32) : dp_len (dq_235 v) 26 = (Int32.toNatClampNeg (dq_h (v 0) (12 : Int32))) := sz_nL (dqn_234 v) (by decide) (zl_26_234 v)
theorem zl_27_235 (v : Nat → Int32) : dp_len (dq_235 v) 27 = (Int32.toNatClampNeg ((dq_h (v 0) (12 : Int32)) * (16 : Int32))) := sz_nL (dqn_234 v) (by decide) (zl_27_234 v)
theorem zl_33_235 (v : Nat → Int32) : dp_len (dq_235 v) 33 = (Int32.toNatClampNeg (dq_h (v 2) (20 : Int32))) := sz_nL (dqn_234 v) (by decide) (zl_33_234 v)
theorem zl_34_235 (v : Nat → Int32) : dp_len (dq_235 v) 34 = (Int32.toNatClampNeg (dq_h (v 2) (20 : Int32))) := sz_nL (dqn_234 v) (by decide) (zl_34_234 v)
theorem zl_35_235 (v : Nat → Int32) : dp_len (dq_235 v) 35 = (Int32.toNatClampNeg (dq_h (v 2) (20 : Int32))) := sz_nL (dqn_234 v) (by decide) (zl_35_234 v)
theorem zl_36_235 (v : Nat → Int32) : dp_len (dq_235 v) 36 = (Int32.toNatClampNeg ((dq_h (v 2) (20 : Int32)) * (dq_h (v 3) (8 : Int32)))) := sz_nL (dqn_234 v) (by decide) (zl_36_234 v)
theorem zi_236 (v : Nat → Int32) (k i : Nat) : dp_I (dq_236 v) k i = sF_13 v k i := zi_235 v k i
theorem zj_236 (v : Nat → Int32) (k i : Nat) : dp_J (dq_236 v) k i = 0 := zj_235 v k i
theorem zr_236 (v : Nat → Int32) (i : Nat) : dp_R (dq_236 v) 59 i = none := sz_rR (by decide) (zr_235 v) i
theorem zl_25_236 (v : Nat → Int32) : dp_len (dq_236 v) 25 = (Int32.toNatClampNeg (dq_h (v 0) (12 : Int32))) := zl_25_235 v
theorem zl_26_236 (v : Nat → Int32) : dp_len (dq_236 v) 26 = (Int32.toNatClampNeg (dq_h (v 0) (12 : Int32))) := zl_26_235 v
theorem zl_27_236 (v : Nat → Int32) : dp_len (dq_236 v) 27 = (Int32.toNatClampNeg ((dq_h (v 0) (12 : Int32)) * (16 : Int32))) := zl_27_235 v
theorem zl_33_236 (v : Nat → Int32) : dp_len (dq_236 v) 33 = (Int32.toNatClampNeg (dq_h (v 2) (20 : Int32))) := zl_33_235 v
theorem zl_34_236 (v : Nat → Int32) : dp_len (dq_236 v) 34 = (Int32.toNatClampNeg (dq_h (v 2) (20 : Int32))) := zl_34_235 v
theorem zl_35_236 (v : Nat → Int32) : dp_len (dq_236 v) 35 = (Int32.toNatClampNeg (dq_h (v 2) (20 : Int32))) := zl_35_235 v
theorem zl_36_236 (v : Nat → Int32) : dp_len (dq_236 v) 36 = (Int32.toNatClampNeg ((dq_h (v 2) (20 : Int32)) * (dq_h (v 3) (8 : Int32)))) := zl_36_235 v
theorem zi_237 (v : Nat → Int32) (k i : Nat) : dp_I (dq_237 v) k i = sF_13 v k i := sz_n (dqn_236 v) (zi_236 v) (fun _ => rfl) k i
theorem zj_237 (v : Nat → Int32) (k i : Nat) : dp_J (dq_237 v) k i = 0 := sz_nJ (zj_236 v) k i
theorem zr_237 (v : Nat → Int32) (i : Nat) : dp_R (dq_237 v) 59 i = none := sz_nR (zr_236 v) i
theorem zl_25_237 (v : Nat → Int32) : dp_len (dq_237 v) 25 = (Int32.toNatClampNeg (dq_h (v 0) (12 : Int32))) := sz_nL (dqn_236 v) (by decide) (zl_25_236 v)
theorem zl_26_237 (v : Nat → Int32) : dp_len (dq_237 v) 26 = (Int32.toNatClampNeg (dq_h (v 0) (12 : Int32))) := sz_nL (dqn_236 v) (by decide) (zl_26_236 v)
theorem zl_27_237 (v : Nat → Int32) : dp_len (dq_237 v) 27 = (Int32.toNatClampNeg ((dq_h (v 0) (12 : Int32)) * (16 : Int32))) := sz_nL (dqn_236 v) (by decide) (zl_27_236 v)
theorem zl_33_237 (v : Nat → Int32) : dp_len (dq_237 v) 33 = (Int32.toNatClampNeg (dq_h (v 2) (20 : Int32))) := sz_nL (dqn_236 v) (by decide) (zl_33_236 v)
theorem zl_34_237 (v : Nat → Int32) : dp_len (dq_237 v) 34 = (Int32.toNatClampNeg (dq_h (v 2) (20 : Int32))) := sz_nL (dqn_236 v) (by decide) (zl_34_236 v)
theorem zl_35_237 (v : Nat → Int32) : dp_len (dq_237 v) 35 = (Int32.toNatClampNeg (dq_h (v 2) (20 : Int32))) := sz_nL (dqn_236 v) (by decide) (zl_35_236 v)
theorem zl_36_237 (v : Nat → Int32) : dp_len (dq_237 v) 36 = (Int32.toNatClampNeg ((dq_h (v 2) (20 : Int32)) * (dq_h (v 3) (8 : Int32)))) := sz_nL (dqn_236 v) (by decide) (zl_36_236 v)
theorem zi_238 (v : Nat → Int32) (k i : Nat) : dp_I (dq_238 v) k i = sF_13 v k i := zi_237 v k i
theorem zj_238 (v : Nat → Int32) (k i : Nat) : dp_J (dq_238 v) k i = 0 := zj_237 v k i
theorem zr_238 (v : Nat → Int32) (i : Nat) : dp_R (dq_238 v) 59 i = none := sz_rR (by decide) (zr_237 v) i
theorem zl_25_238 (v : Nat → Int32) : dp_len (dq_238 v) 25 = (Int32.toNatClampNeg (dq_h (v 0) (12 : Int32))) := zl_25_237 v
theorem zl_26_238 (v : Nat → Int32) : dp_len (dq_238 v) 26 = (Int32.toNatClampNeg (dq_h (v 0) (12 : Int32))) := zl_26_237 v
theorem zl_27_238 (v : Nat → Int32) : dp_len (dq_238 v) 27 = (Int32.toNatClampNeg ((dq_h (v 0) (12 : Int32)) * (16 : Int32))) := zl_27_237 v
theorem zl_33_238 (v : Nat → Int32) : dp_len (dq_238 v) 33 = (Int32.toNatClampNeg (dq_h (v 2) (20 : Int32))) := zl_33_237 v
theorem zl_34_238 (v : Nat → Int32) : dp_len (dq_238 v) 34 = (Int32.toNatClampNeg (dq_h (v 2) (20 : Int32))) := zl_34_237 v
theorem zl_35_238 (v : Nat → Int32) : dp_len (dq_238 v) 35 = (Int32.toNatClampNeg (dq_h (v 2) (20 : Int32))) := zl_35_237 v
theorem zl_36_238 (v : Nat → Int32) : dp_len (dq_238 v) 36 = (Int32.toNatClampNeg ((dq_h (v 2) (20 : Int32)) * (dq_h (v 3) (8 : Int32)))) := zl_36_237 v
theorem zi_239 (v : Nat → Int32) (k i : Nat) : dp_I (dq_239 v) k i = sF_13 v k i := sz_n (dqn_238 v) (zi_238 v) (fun _ => rfl) k i
theorem zj_239 (v : Nat → Int32) (k i : Nat) : dp_J (dq_239 v) k i = 0 := sz_nJ (zj_238 v) k i
theorem zr_239 (v : Nat → Int32) (i : Nat) : dp_R (dq_239 v) 59 i = none := sz_nR (zr_238 v) i
theorem zl_25_239 (v : Nat → Int32) : dp_len (dq_239 v) 25 = (Int32.toNatClampNeg (dq_h (v 0) (12 : Int32))) := sz_nL (dqn_238 v) (by decide) (zl_25_238 v)
theorem zl_26_239 (v : Nat → Int32) : dp_len (dq_239 v) 26 = (Int32.toNatClampNeg (dq_h (v 0) (12 : Int32))) := sz_nL (dqn_238 v) (by decide) (zl_26_238 v)
theorem zl_27_239 (v : Nat → Int32) : dp_len (dq_239 v) 27 = (Int32.toNatClampNeg ((dq_h (v 0) (12 : Int32)) * (16 : Int32))) := sz_nL (dqn_238 v) (by decide) (zl_27_238 v)
theorem zl_33_239 (v : Nat → Int32) : dp_len (dq_239 v) 33 = (Int32.toNatClampNeg (dq_h (v 2) (20 : Int32))) := sz_nL (dqn_238 v) (by decide) (zl_33_238 v)
theorem zl_34_239 (v : Nat → Int32) : dp_len (dq_239 v) 34 = (Int32.toNatClampNeg (dq_h (v 2) (20 : Int32))) := sz_nL (dqn_238 v) (by decide) (zl_34_238 v)
theorem zl_35_239 (v : Nat → Int32) : dp_len (dq_239 v) 35 = (Int32.toNatClampNeg (dq_h (v 2) (20 : Int32))) := sz_nL (dqn_238 v) (by decide) (zl_35_238 v)
theorem zl_36_239 (v : Nat → Int32) : dp_len (dq_239 v) 36 = (Int32.toNatClampNeg ((dq_h (v 2) (20 : Int32)) * (dq_h (v 3) (8 : Int32)))) := sz_nL (dqn_238 v) (by decide) (zl_36_238 v)
theorem zi_240 (v : Nat → Int32) (k i : Nat) : dp_I (dq_240 v) k i = sF_13 v k i := zi_239 v k i
theorem zj_240 (v : Nat → Int32) (k i : Nat) : dp_J (dq_240 v) k i = 0 := zj_239 v k i
theorem zr_240 (v : Nat → Int32) (i : Nat) : dp_R (dq_240 v) 59 i = none := sz_rR (by decide) (zr_239 v) i
theorem zl_25_240 (v : Nat → Int32) : dp_len (dq_240 v) 25 = (Int32.toNatClampNeg (dq_h (v 0) (12 : Int32))) := zl_25_239 v
theorem zl_26_240 (v : Nat → Int32) : dp_len (dq_240 v) 26 = (Int32.toNatClampNeg (dq_h (v 0) (12 : Int32))) := zl_26_239 v
theorem zl_27_240 (v : Nat → Int32) : dp_len (dq_240 v) 27 = (Int32.toNatClampNeg ((dq_h (v 0) (12 : Int32)) * (16 : Int32))) := zl_27_239 v
theorem zl_33_240 (v : Nat → Int32) : dp_len (dq_240 v) 33 = (Int32.toNatClampNeg (dq_h (v 2) (20 : Int32))) := zl_33_239 v
theorem zl_34_240 (v : Nat → Int32) : dp_len (dq_240 v) 34 = (Int32.toNatClampNeg (dq_h (v 2) (20 : Int32))) := zl_34_239 v
theorem zl_35_240 (v : Nat → Int32) : dp_len (dq_240 v) 35 = (Int32.toNatClampNeg (dq_h (v 2) (20 : Int32))) := zl_35_239 v
theorem zl_36_240 (v : Nat → Int32) : dp_len (dq_240 v) 36 = (Int32.toNatClampNeg ((dq_h (v 2) (20 : Int32)) * (dq_h (v 3) (8 : Int32)))) := zl_36_239 v
theorem zi_241 (v : Nat → Int32) (k i : Nat) : dp_I (dq_241 v) k i = sF_13 v k i := sz_n (dqn_240 v) (zi_240 v) (fun _ => rfl) k i
theorem zj_241 (v : Nat → Int32) (k i : Nat) : dp_J (dq_241 v) k i = 0 := sz_nJ (zj_240 v) k i
theorem zr_241 (v : Nat → Int32) (i : Nat) : dp_R (dq_241 v) 59 i = none := sz_nR (zr_240 v) i
theorem zl_25_241 (v : Nat → Int32) : dp_len (dq_241 v) 25 = (Int32.toNatClampNeg (dq_h (v 0) (12 : Int32))) := sz_nL (dqn_240 v) (by decide) (zl_25_240 v)
theorem zl_26_241 (v : Nat → Int32) : dp_len (dq_241 v) 26 = (Int32.toNatClampNeg (dq_h (v 0) (12 : Int32))) := sz_nL (dqn_240 v) (by decide) (zl_26_240 v)
theorem zl_27_241 (v : Nat → Int32) : dp_len (dq_241 v) 27 = (Int32.toNatClampNeg ((dq_h (v 0) (12 : Int32)) * (16 : Int32))) := sz_nL (dqn_240 v) (by decide) (zl_27_240 v)
theorem zl_33_241 (v : Nat → Int32) : dp_len (dq_241 v) 33 = (Int32.toNatClampNeg (dq_h (v 2) (20 : Int32))) := sz_nL (dqn_240 v) (by decide) (zl_33_240 v)
theorem zl_34_241 (v : Nat → Int32) : dp_len (dq_241 v) 34 = (Int32.toNatClampNeg (dq_h (v 2) (20 : Int32))) := sz_nL (dqn_240 v) (by decide) (zl_34_240 v)
theorem zl_35_241 (v : Nat → Int32) : dp_len (dq_241 v) 35 = (Int32.toNatClampNeg (dq_h (v 2) (20 : Int32))) := sz_nL (dqn_240 v) (by decide) (zl_35_240 v)
theorem zl_36_241 (v : Nat → Int32) : dp_len (dq_241 v) 36 = (Int32.toNatClampNeg ((dq_h (v 2) (20 : Int32)) * (dq_h (v 3) (8 : Int32)))) := sz_nL (dqn_240 v) (by decide) (zl_36_240 v)
theorem zi_242 (v : Nat → Int32) (k i : Nat) : dp_I (dq_242 v) k i = sF_13 v k i := zi_241 v k i
theorem zj_242 (v : Nat → Int32) (k i : Nat) : dp_J (dq_242 v) k i = 0 := zj_241 v k i
theorem zr_242 (v : Nat → Int32) (i : Nat) : dp_R (dq_242 v) 59 i = none := sz_rR (by decide) (zr_241 v) i
theorem zl_25_242 (v : Nat → Int32) : dp_len (dq_242 v) 25 = (Int32.toNatClampNeg (dq_h (v 0) (12 : Int32))) := zl_25_241 v
theorem zl_26_242 (v : Nat → Int32) : dp_len (dq_242 v) 26 = (Int32.toNatClampNeg (dq_h (v 0) (12 : Int32))) := zl_26_241 v
theorem zl_27_242 (v : Nat → Int32) : dp_len (dq_242 v) 27 = (Int32.toNatClampNeg ((dq_h (v 0) (12 : Int32)) * (16 : Int32))) := zl_27_241 v
theorem zl_33_242 (v : Nat → Int32) : dp_len (dq_242 v) 33 = (Int32.toNatClampNeg (dq_h (v 2) (20 : Int32))) := zl_33_241 v
theorem zl_34_242 (v : Nat → Int32) : dp_len (dq_242 v) 34 = (Int32.toNatClampNeg (dq_h (v 2) (20 : Int32))) := zl_34_241 v
theorem zl_35_242 (v : Nat → Int32) : dp_len (dq_242 v) 35 = (Int32.toNatClampNeg (dq_h (v 2) (20 : Int32))) := zl_35_241 v
theorem zl_36_242 (v : Nat → Int32) : dp_len (dq_242 v) 36 = (Int32.toNatClampNeg ((dq_h (v 2) (20 : Int32)) * (dq_h (v 3) (8 : Int32)))) := zl_36_241 v
theorem zi_243 (v : Nat → Int32) (k i : Nat) : dp_I (dq_243 v) k i = sF_13 v k i := zi_242 v k i
theorem zj_243 (v : Nat → Int32) (k i : Nat) : dp_J (dq_243 v) k i = 0 := zj_242 v k i
theorem zr_243 (v : Nat → Int32) (i : Nat) : dp_R (dq_243 v) 59 i = none := sz_rR (by decide) (zr_242 v) i
theorem zl_25_243 (v : Nat → Int32) : dp_len (dq_243 v) 25 = (Int32.toNatClampNeg (dq_h (v 0) (12 : Int32))) := zl_25_242 v
theorem zl_26_243 (v : Nat → Int32) : dp_len (dq_243 v) 26 = (Int32.toNatClampNeg (dq_h (v 0) (12 : Int32))) := zl_26_242 v
theorem zl_27_243 (v : Nat → Int32) : dp_len (dq_243 v) 27 = (Int32.toNatClampNeg ((dq_h (v 0) (12 : Int32)) * (16 : Int32))) := zl_27_242 v
theorem zl_33_243 (v : Nat → Int32) : dp_len (dq_243 v) 33 = (Int32.toNatClampNeg (dq_h (v 2) (20 : Int32))) := zl_33_242 v
theorem zl_34_243 (v : Nat → Int32) : dp_len (dq_243 v) 34 = (Int32.toNatClampNeg (dq_h (v 2) (20 : Int32))) := zl_34_242 v
theorem zl_35_243 (v : Nat → Int32) : dp_len (dq_243 v) 35 = (Int32.toNatClampNeg (dq_h (v 2) (20 : Int32))) := zl_35_242 v
theorem zl_36_243 (v : Nat → Int32) : dp_len (dq_243 v) 36 = (Int32.toNatClampNeg ((dq_h (v 2) (20 : Int32)) * (dq_h (v 3) (8 : Int32)))) := zl_36_242 v
theorem zi_244 (v : Nat → Int32) (k i : Nat) : dp_I (dq_244 v) k i = sF_13 v k i := zi_243 v k i
theorem zj_244 (v : Nat → Int32) (k i : Nat) : dp_J (dq_244 v) k i = 0 := zj_243 v k i
theorem zr_244 (v : Nat → Int32) (i : Nat) : dp_R (dq_244 v) 59 i = none := sz_rR (by decide) (zr_243 v) i
theorem zl_25_244 (v : Nat → Int32) : dp_len (dq_244 v) 25 = (Int32.toNatClampNeg (dq_h (v 0) (12 : Int32))) := zl_25_243 v
theorem zl_26_244 (v : Nat → Int32) : dp_len (dq_244 v) 26 = (Int32.toNatClampNeg (dq_h (v 0) (12 : Int32))) := zl_26_243 v
theorem zl_27_244 (v : Nat → Int32) : dp_len (dq_244 v) 27 = (Int32.toNatClampNeg ((dq_h (v 0) (12 : Int32)) * (16 : Int32))) := zl_27_243 v
theorem zl_33_244 (v : Nat → Int32) : dp_len (dq_244 v) 33 = (Int32.toNatClampNeg (dq_h (v 2) (20 : Int32))) := zl_33_243 v
theorem zl_34_244 (v : Nat → Int32) : dp_len (dq_244 v) 34 = (Int32.toNatClampNeg (dq_h (v 2) (20 : Int32))) := zl_34_243 v
theorem zl_35_244 (v : Nat → Int32) : dp_len (dq_244 v) 35 = (Int32.toNatClampNeg (dq_h (v 2) (20 : Int32))) := zl_35_243 v
theorem zl_36_244 (v : Nat → Int32) : dp_len (dq_244 v) 36 = (Int32.toNatClampNeg ((dq_h (v 2) (20 : Int32)) * (dq_h (v 3) (8 : Int32)))) := zl_36_243 v
theorem zi_245 (v : Nat → Int32) (k i : Nat) : dp_I (dq_245 v) k i = sF_13 v k i := zi_244 v k i
theorem zj_245 (v : Nat → Int32) (k i : Nat) : dp_J (dq_245 v) k i = 0 := zj_244 v k i
theorem zr_245 (v : Nat → Int32) (i : Nat) : dp_R (dq_245 v) 59 i = none := sz_rR (by decide) (zr_244 v) i
theorem zl_25_245 (v : Nat → Int32) : dp_len (dq_245 v) 25 = (Int32.toNatClampNeg (dq_h (v 0) (12 : Int32))) := zl_25_244 v
theorem zl_26_245 (v : Nat → Int32) : dp_len (dq_245 v) 26 = (Int32.toNatClampNeg (dq_h (v 0) (12 : Int32))) := zl_26_244 v
theorem zl_27_245 (v : Nat → Int32) : dp_len (dq_245 v) 27 = (Int32.toNatClampNeg ((dq_h (v 0) (12 : Int32)) * (16 : Int32))) := zl_27_244 v
theorem zl_33_245 (v : Nat → Int32) : dp_len (dq_245 v) 33 = (Int32.toNatClampNeg (dq_h (v 2) (20 : Int32))) := zl_33_244 v
theorem zl_34_245 (v : Nat → Int32) : dp_len (dq_245 v) 34 = (Int32.toNatClampNeg (dq_h (v 2) (20 : Int32))) := zl_34_244 v
theorem zl_35_245 (v : Nat → Int32) : dp_len (dq_245 v) 35 = (Int32.toNatClampNeg (dq_h (v 2) (20 : Int32))) := zl_35_244 v
theorem zl_36_245 (v : Nat → Int32) : dp_len (dq_245 v) 36 = (Int32.toNatClampNeg ((dq_h (v 2) (20 : Int32)) * (dq_h (v 3) (8 : Int32)))) := zl_36_244 v
theorem zi_246 (v : Nat → Int32) (k i : Nat) : dp_I (dq_246 v) k i = sF_13 v k i := zi_245 v k i
theorem zj_246 (v : Nat → Int32) (k i : Nat) : dp_J (dq_246 v) k i = 0 := zj_245 v k i
theorem zr_246 (v : Nat → Int32) (i : Nat) : dp_R (dq_246 v) 59 i = none := sz_rR (by decide) (zr_245 v) i
theorem zl_25_246 (v : Nat → Int32) : dp_len (dq_246 v) 25 = (Int32.toNatClampNeg (dq_h (v 0) (12 : Int32))) := zl_25_245 v
theorem zl_26_246 (v : Nat → Int32) : dp_len (dq_246 v) 26 = (Int32.toNatClampNeg (dq_h (v 0) (12 : Int32))) := zl_26_245 v
theorem zl_27_246 (v : Nat → Int32) : dp_len (dq_246 v) 27 = (Int32.toNatClampNeg ((dq_h (v 0) (12 : Int32)) * (16 : Int32))) := zl_27_245 v
theorem zl_33_246 (v : Nat → Int32) : dp_len (dq_246 v) 33 = (Int32.toNatClampNeg (dq_h (v 2) (20 : Int32))) := zl_33_245 v
theorem zl_34_246 (v : Nat → Int32) : dp_len (dq_246 v) 34 = (Int32.toNatClampNeg (dq_h (v 2) (20 : Int32))) := zl_34_245 v
theorem zl_35_246 (v : Nat → Int32) : dp_len (dq_246 v) 35 = (Int32.toNatClampNeg (dq_h (v 2) (20 : Int32))) := zl_35_245 v
theorem zl_36_246 (v : Nat → Int32) : dp_len (dq_246 v) 36 = (Int32.toNatClampNeg ((dq_h (v 2) (20 : Int32)) * (dq_h (v 3) (8 : Int32)))) := zl_36_245 v
theorem zi_247 (v : Nat → Int32) (k i : Nat) : dp_I (dq_247 v) k i = sF_13 v k i := zi_246 v k i
theorem zj_247 (v : Nat → Int32) (k i : Nat) : dp_J (dq_247 v) k i = 0 := zj_246 v k i
theorem zr_247 (v : Nat → Int32) (i : Nat) : dp_R (dq_247 v) 59 i = none := sz_rR (by decide) (zr_246 v) i
theorem zl_25_247 (v : Nat → Int32) : dp_len (dq_247 v) 25 = (Int32.toNatClampNeg (dq_h (v 0) (12 : Int32))) := zl_25_246 v
theorem zl_26_247 (v : Nat → Int32) : dp_len (dq_247 v) 26 = (Int32.toNatClampNeg (dq_h (v 0) (12 : Int32))) := zl_26_246 v
theorem zl_27_247 (v : Nat → Int32) : dp_len (dq_247 v) 27 = (Int32.toNatClampNeg ((dq_h (v 0) (12 : Int32)) * (16 : Int32))) := zl_27_246 v
theorem zl_33_247 (v : Nat → Int32) : dp_len (dq_247 v) 33 = (Int32.toNatClampNeg (dq_h (v 2) (20 : Int32))) := zl_33_246 v
theorem zl_34_247 (v : Nat → Int32) : dp_len (dq_247 v) 34 = (Int32.toNatClampNeg (dq_h (v 2) (20 : Int32))) := zl_34_246 v
theorem zl_35_247 (v : Nat → Int32) : dp_len (dq_247 v) 35 = (Int32.toNatClampNeg (dq_h (v 2) (20 : Int32))) := zl_35_246 v
theorem zl_36_247 (v : Nat → Int32) : dp_len (dq_247 v) 36 = (Int32.toNatClampNeg ((dq_h (v 2) (20 : Int32)) * (dq_h (v 3) (8 : Int32)))) := zl_36_246 v
theorem zi_248 (v : Nat → Int32) (k i : Nat) : dp_I (dq_248 v) k i = sF_13 v k i := zi_247 v k i
theorem zj_248 (v : Nat → Int32) (k i : Nat) : dp_J (dq_248 v) k i = 0 := zj_247 v k i
theorem zr_248 (v : Nat → Int32) (i : Nat) : dp_R (dq_248 v) 59 i = none := sz_rR (by decide) (zr_247 v) i
theorem zl_25_248 (v : Nat → Int32) : dp_len (dq_248 v) 25 = (Int32.toNatClampNeg (dq_h (v 0) (12 : Int32))) := zl_25_247 v
theorem zl_26_248 (v : Nat → Int32) : dp_len (dq_248 v) 26 = (Int32.toNatClampNeg (dq_h (v 0) (12 : Int32))) := zl_26_247 v
theorem zl_27_248 (v : Nat → Int32) : dp_len (dq_248 v) 27 = (Int32.toNatClampNeg ((dq_h (v 0) (12 : Int32)) * (16 : Int32))) := zl_27_247 v
theorem zl_33_248 (v : Nat → Int32) : dp_len (dq_248 v) 33 = (Int32.toNatClampNeg (dq_h (v 2) (20 : Int32))) := zl_33_247 v
theorem zl_34_248 (v : Nat → Int32) : dp_len (dq_248 v) 34 = (Int32.toNatClampNeg (dq_h (v 2) (20 : Int32))) := zl_34_247 v
theorem zl_35_248 (v : Nat → Int32) : dp_len (dq_248 v) 35 = (Int32.toNatClampNeg (dq_h (v 2) (20 : Int32))) := zl_35_247 v
theorem zl_36_248 (v : Nat → Int32) : dp_len (dq_248 v) 36 = (Int32.toNatClampNeg ((dq_h (v 2) (20 : Int32)) * (dq_h (v 3) (8 : Int32)))) := zl_36_247 v
theorem zi_249 (v : Nat → Int32) (k i : Nat) : dp_I (dq_249 v) k i = sF_13 v k i := sz_n (dqn_248 v) (zi_248 v) (fun _ => rfl) k i
theorem zj_249 (v : Nat → Int32) (k i : Nat) : dp_J (dq_249 v) k i = 0 := sz_nJ (zj_248 v) k i
theorem zr_249 (v : Nat → Int32) (i : Nat) : dp_R (dq_249 v) 59 i = none := sz_nR (zr_248 v) i
theorem zl_25_249 (v : Nat → Int32) : dp_len (dq_249 v) 25 = (Int32.toNatClampNeg (dq_h (v 0) (12 : Int32))) := sz_nL (dqn_248 v) (by decide) (zl_25_248 v)
theorem zl_26_249 (v : Nat → Int32) : dp_len (dq_249 v) 26 = (Int32.toNatClampNeg (dq_h (v 0) (12 : Int32))) := sz_nL (dqn_248 v) (by decide) (zl_26_248 v)
theorem zl_27_249 (v : Nat → Int32) : dp_len (dq_249 v) 27 = (Int32.toNatClampNeg ((dq_h (v 0) (12 : Int32)) * (16 : Int32))) := sz_nL (dqn_248 v) (by decide) (zl_27_248 v)
theorem zl_33_249 (v : Nat → Int32) : dp_len (dq_249 v) 33 = (Int32.toNatClampNeg (dq_h (v 2) (20 : Int32))) := sz_nL (dqn_248 v) (by decide) (zl_33_248 v)
theorem zl_34_249 (v : Nat → Int32) : dp_len (dq_249 v) 34 = (Int32.toNatClampNeg (dq_h (v 2) (20 : Int32))) := sz_nL (dqn_248 v) (by decide) (zl_34_248 v)
theorem zl_35_249 (v : Nat → Int32) : dp_len (dq_249 v) 35 = (Int32.toNatClampNeg (dq_h (v 2) (20 : Int32))) := sz_nL (dqn_248 v) (by decide) (zl_35_248 v)
theorem zl_36_249 (v : Nat → Int32) : dp_len (dq_249 v) 36 = (Int32.toNatClampNeg ((dq_h (v 2) (20 : Int32)) * (dq_h (v 3) (8 : Int32)))) := sz_nL (dqn_248 v) (by decide) (zl_36_248 v)
theorem zi_250 (v : Nat → Int32) (k i : Nat) : dp_I (dq_250 v) k i = sF_13 v k i := sz_n (dqn_249 v) (zi_249 v) (fun _ => rfl) k i
theorem zj_250 (v : Nat → Int32) (k i : Nat) : dp_J (dq_250 v) k i = 0 := sz_nJ (zj_249 v) k i
theorem zr_250 (v : Nat → Int32) (i : Nat) : dp_R (dq_250 v) 59 i = none := sz_nR (zr_249 v) i
theorem zl_25_250 (v : Nat → Int32) : dp_len (dq_250 v) 25 = (Int32.toNatClampNeg (dq_h (v 0) (12 : Int32))) := sz_nL (dqn_249 v) (by decide) (zl_25_249 v)
theorem zl_26_250 (v : Nat → Int32) : dp_len (dq_250 v) 26 = (Int32.toNatClampNeg (dq_h (v 0) (12 : Int32))) := sz_nL (dqn_249 v) (by decide) (zl_26_249 v)
theorem zl_27_250 (v : Nat → Int32) : dp_len (dq_250 v) 27 = (Int32.toNatClampNeg ((dq_h (v 0) (12 : Int32)) * (16 : Int32))) := sz_nL (dqn_249 v) (by decide) (zl_27_249 v)
theorem zl_33_250 (v : Nat → Int32) : dp_len (dq_250 v) 33 = (Int32.toNatClampNeg (dq_h (v 2) (20 : Int32))) := sz_nL (dqn_249 v) (by decide) (zl_33_249 v)
theorem zl_34_250 (v : Nat → Int32) : dp_len (dq_250 v) 34 = (Int32.toNatClampNeg (dq_h (v 2) (20 : Int32))) := sz_nL (dqn_249 v) (by decide) (zl_34_249 v)
theorem zl_35_250 (v : Nat → Int32) : dp_len (dq_250 v) 35 = (Int32.toNatClampNeg (dq_h (v 2) (20 : Int32))) := sz_nL (dqn_249 v) (by decide) (zl_35_249 v)
theorem zl_36_250 (v : Nat → Int32) : dp_len (dq_250 v) 36 = (Int32.toNatClampNeg ((dq_h (v 2) (20 : Int32)) * (dq_h (v 3) (8 : Int32)))) := sz_nL (dqn_249 v) (by decide) (zl_36_249 v)
theorem zi_251 (v : Nat → Int32) (k i : Nat) : dp_I (dq_251 v) k i = sF_13 v k i := zi_250 v k i
theorem zj_251 (v : Nat → Int32) (k i : Nat) : dp_J (dq_251 v) k i = 0 := zj_250 v k i
theorem zr_251 (v : Nat → Int32) (i : Nat) : dp_R (dq_251 v) 59 i = none := sz_rR (by decide) (zr_250 v) i
theorem zl_25_251 (v : Nat → Int32) : dp_len (dq_251 v) 25 = (Int32.toNatClampNeg (dq_h (v 0) (12 : Int32))) := zl_25_250 v
theorem zl_26_251 (v : Nat → Int32) : dp_len (dq_251 v) 26 = (Int32.toNatClampNeg (dq_h (v 0) (12 : Int32))) := zl_26_250 v
theorem zl_27_251 (v : Nat → Int32) : dp_len (dq_251 v) 27 = (Int32.toNatClampNeg ((dq_h (v 0) (12 : Int32)) * (16 : Int32))) := zl_27_250 v
theorem zl_33_251 (v : Nat → Int32) : dp_len (dq_251 v) 33 = (Int32.toNatClampNeg (dq_h (v 2) (20 : Int32))) := zl_33_250 v
theorem zl_34_251 (v : Nat → Int32) : dp_len (dq_251 v) 34 = (Int32.toNatClampNeg (dq_h (v 2) (20 : Int32))) := zl_34_250 v
theorem zl_35_251 (v : Nat → Int32) : dp_len (dq_251 v) 35 = (Int32.toNatClampNeg (dq_h (v 2) (20 : Int32))) := zl_35_250 v
theorem zl_36_251 (v : Nat → Int32) : dp_len (dq_251 v) 36 = (Int32.toNatClampNeg ((dq_h (v 2) (20 : Int32)) * (dq_h (v 3) (8 : Int32)))) := zl_36_250 v
theorem zi_252 (v : Nat → Int32) (k i : Nat) : dp_I (dq_252 v) k i = sF_13 v k i := sz_n (dqn_251 v) (zi_251 v) (fun _ => rfl) k i
theorem zj_252 (v : Nat → Int32) (k i : Nat) : dp_J (dq_252 v) k i = 0 := sz_nJ (zj_251 v) k i
theorem zr_252 (v : Nat → Int32) (i : Nat) : dp_R (dq_252 v) 59 i = none := sz_nR (zr_251 v) i
theorem zl_25_252 (v : Nat → Int32) : dp_len (dq_252 v) 25 = (Int32.toNatClampNeg (dq_h (v 0) (12 : Int32))) := sz_nL (dqn_251 v) (by decide) (zl_25_251 v)
theorem zl_26_252 (v : Nat → Int32) : dp_len (dq_252 v) 26 = (Int32.toNatClampNeg (dq_h (v 0) (12 : Int32))) := sz_nL (dqn_251 v) (by decide) (zl_26_251 v)
theorem zl_27_252 (v : Nat → Int32) : dp_len (dq_252 v) 27 = (Int32.toNatClampNeg ((dq_h (v 0) (12 : Int32)) * (16 : Int32))) := sz_nL (dqn_251 v) (by decide) (zl_27_251 v)
theorem zl_33_252 (v : Nat → Int32) : dp_len (dq_252 v) 33 = (Int32.toNatClampNeg (dq_h (v 2) (20 : Int32))) := sz_nL (dqn_251 v) (by decide) (zl_33_251 v)
theorem zl_34_252 (v : Nat → Int32) : dp_len (dq_252 v) 34 = (Int32.toNatClampNeg (dq_h (v 2) (20 : Int32))) := sz_nL (dqn_251 v) (by decide) (zl_34_251 v)
theorem zl_35_252 (v : Nat → Int32) : dp_len (dq_252 v) 35 = (Int32.toNatClampNeg (dq_h (v 2) (20 : Int32))) := sz_nL (dqn_251 v) (by decide) (zl_35_251 v)
theorem zl_36_252 (v : Nat → Int32) : dp_len (dq_252 v) 36 = (Int32.toNatClampNeg ((dq_h (v 2) (20 : Int32)) * (dq_h (v 3) (8 : Int32)))) := sz_nL (dqn_251 v) (by decide) (zl_36_251 v)
theorem zi_253 (v : Nat → Int32) (k i : Nat) : dp_I (dq_253 v) k i = sF_13 v k i := zi_252 v k i
theorem zj_253 (v : Nat → Int32) (k i : Nat) : dp_J (dq_253 v) k i = 0 := zj_252 v k i
theorem zr_253 (v : Nat → Int32) (i : Nat) : dp_R (dq_253 v) 59 i = none := sz_rR (by decide) (zr_252 v) i
theorem zl_25_253 (v : Nat → Int32) : dp_len (dq_253 v) 25 = (Int32.toNatClampNeg (dq_h (v 0) (12 : Int32))) := zl_25_252 v
theorem zl_26_253 (v : Nat → Int32) : dp_len (dq_253 v) 26 = (Int32.toNatClampNeg (dq_h (v 0) (12 : Int32))) := zl_26_252 v
theorem zl_27_253 (v : Nat → Int32) : dp_len (dq_253 v) 27 = (Int32.toNatClampNeg ((dq_h (v 0) (12 : Int32)) * (16 : Int32))) := zl_27_252 v
theorem zl_33_253 (v : Nat → Int32) : dp_len (dq_253 v) 33 = (Int32.toNatClampNeg (dq_h (v 2) (20 : Int32))) := zl_33_252 v
theorem zl_34_253 (v : Nat → Int32) : dp_len (dq_253 v) 34 = (Int32.toNatClampNeg (dq_h (v 2) (20 : Int32))) := zl_34_252 v
theorem zl_35_253 (v : Nat → Int32) : dp_len (dq_253 v) 35 = (Int32.toNatClampNeg (dq_h (v 2) (20 : Int32))) := zl_35_252 v
theorem zl_36_253 (v : Nat → Int32) : dp_len (dq_253 v) 36 = (Int32.toNatClampNeg ((dq_h (v 2) (20 : Int32)) * (dq_h (v 3) (8 : Int32)))) := zl_36_252 v
theorem zi_254 (v : Nat → Int32) (k i : Nat) : dp_I (dq_254 v) k i = sF_13 v k i := sz_n (dqn_253 v) (zi_253 v) (fun _ => rfl) k i
theorem zj_254 (v : Nat → Int32) (k i : Nat) : dp_J (dq_254 v) k i = 0 := sz_nJ (zj_253 v) k i
theorem zr_254 (v : Nat → Int32) (i : Nat) : dp_R (dq_254 v) 59 i = none := sz_nR (zr_253 v) i
theorem zl_25_254 (v : Nat → Int32) : dp_len (dq_254 v) 25 = (Int32.toNatClampNeg (dq_h (v 0) (12 : Int32))) := sz_nL (dqn_253 v) (by decide) (zl_25_253 v)
theorem zl_26_254 (v : Nat → Int32) : dp_len (dq_254 v) 26 = (Int32.toNatClampNeg (dq_h (v 0) (12 : Int32))) := sz_nL (dqn_253 v) (by decide) (zl_26_253 v)
theorem zl_27_254 (v : Nat → Int32) : dp_len (dq_254 v) 27 = (Int32.toNatClampNeg ((dq_h (v 0) (12 : Int32)) * (16 : Int32))) := sz_nL (dqn_253 v) (by decide) (zl_27_253 v)
theorem zl_33_254 (v : Nat → Int32) : dp_len (dq_254 v) 33 = (Int32.toNatClampNeg (dq_h (v 2) (20 : Int32))) := sz_nL (dqn_253 v) (by decide) (zl_33_253 v)
theorem zl_34_254 (v : Nat → Int32) : dp_len (dq_254 v) 34 = (Int32.toNatClampNeg (dq_h (v 2) (20 : Int32))) := sz_nL (dqn_253 v) (by decide) (zl_34_253 v)
theorem zl_35_254 (v : Nat → Int32) : dp_len (dq_254 v) 35 = (Int32.toNatClampNeg (dq_h (v 2) (20 : Int32))) := sz_nL (dqn_253 v) (by decide) (zl_35_253 v)
theorem zl_36_254 (v : Nat → Int32) : dp_len (dq_254 v) 36 = (Int32.toNatClampNeg ((dq_h (v 2) (20 : Int32)) * (dq_h (v 3) (8 : Int32)))) := sz_nL (dqn_253 v) (by decide) (zl_36_253 v)
theorem zi_255 (v : Nat → Int32) (k i : Nat) : dp_I (dq_255 v) k i = sF_13 v k i := zi_254 v k i
theorem zj_255 (v : Nat → Int32) (k i : Nat) : dp_J (dq_255 v) k i = 0 := zj_254 v k i
theorem zr_255 (v : Nat → Int32) (i : Nat) : dp_R (dq_255 v) 59 i = none := sz_rR (by decide) (zr_254 v) i
theorem zl_25_255 (v : Nat → Int32) : dp_len (dq_255 v) 25 = (Int32.toNatClampNeg (dq_h (v 0) (12 : Int32))) := zl_25_254 v
theorem zl_26_255 (v : Nat → Int32) : dp_len (dq_255 v) 26 = (Int32.toNatClampNeg (dq_h (v 0) (12 : Int32))) := zl_26_254 v
theorem zl_27_255 (v : Nat → Int32) : dp_len (dq_255 v) 27 = (Int32.toNatClampNeg ((dq_h (v 0) (12 : Int32)) * (16 : Int32))) := zl_27_254 v
theorem zl_33_255 (v : Nat → Int32) : dp_len (dq_255 v) 33 = (Int32.toNatClampNeg (dq_h (v 2) (20 : Int32))) := zl_33_254 v
theorem zl_34_255 (v : Nat → Int32) : dp_len (dq_255 v) 34 = (Int32.toNatClampNeg (dq_h (v 2) (20 : Int32))) := zl_34_254 v
theorem zl_35_255 (v : Nat → Int32) : dp_len (dq_255 v) 35 = (Int32.toNatClampNeg (dq_h (v 2) (20 : Int32))) := zl_35_254 v
theorem zl_36_255 (v : Nat → Int32) : dp_len (dq_255 v) 36 = (Int32.toNatClampNeg ((dq_h (v 2) (20 : Int32)) * (dq_h (v 3) (8 : Int32)))) := zl_36_254 v
theorem zi_256 (v : Nat → Int32) (k i : Nat) : dp_I (dq_256 v) k i = sF_13 v k i := sz_n (dqn_255 v) (zi_255 v) (fun _ => rfl) k i
theorem zj_256 (v : Nat → Int32) (k i : Nat) : dp_J (dq_256 v) k i = 0 := sz_nJ (zj_255 v) k i
theorem zr_256 (v : Nat → Int32) (i : Nat) : dp_R (dq_256 v) 59 i = none := sz_nR (zr_255 v) i
theorem zl_25_256 (v : Nat → Int32) : dp_len (dq_256 v) 25 = (Int32.toNatClampNeg (dq_h (v 0) (12 : Int32))) := sz_nL (dqn_255 v) (by decide) (zl_25_255 v)
theorem zl_26_256 (v : Nat → Int32) : dp_len (dq_256 v) 26 = (Int32.toNatClampNeg (dq_h (v 0) (12 : Int32))) := sz_nL (dqn_255 v) (by decide) (zl_26_255 v)
theorem zl_27_256 (v : Nat → Int32) : dp_len (dq_256 v) 27 = (Int32.toNatClampNeg ((dq_h (v 0) (12 : Int32)) * (16 : Int32))) := sz_nL (dqn_255 v) (by decide) (zl_27_255 v)
theorem zl_33_256 (v : Nat → Int32) : dp_len (dq_256 v) 33 = (Int32.toNatClampNeg (dq_h (v 2) (20 : Int32))) := sz_nL (dqn_255 v) (by decide) (zl_33_255 v)
theorem zl_34_256 (v : Nat → Int32) : dp_len (dq_256 v) 34 = (Int32.toNatClampNeg (dq_h (v 2) (20 : Int32))) := sz_nL (dqn_255 v) (by decide) (zl_34_255 v)
theorem zl_35_256 (v : Nat → Int32) : dp_len (dq_256 v) 35 = (Int32.toNatClampNeg (dq_h (v 2) (20 : Int32))) := sz_nL (dqn_255 v) (by decide) (zl_35_255 v)
theorem zl_36_256 (v : Nat → Int32) : dp_len (dq_256 v) 36 = (Int32.toNatClampNeg ((dq_h (v 2) (20 : Int32)) * (dq_h (v 3) (8 : Int32)))) := sz_nL (dqn_255 v) (by decide) (zl_36_255 v)
theorem zi_257 (v : Nat → Int32) (k i : Nat) : dp_I (dq_257 v) k i = sF_13 v k i := zi_256 v k i
theorem zj_257 (v : Nat → Int32) (k i : Nat) : dp_J (dq_257 v) k i = 0 := zj_256 v k i
theorem zr_257 (v : Nat → Int32) (i : Nat) : dp_R (dq_257 v) 59 i = none := sz_rR (by decide) (zr_256 v) i
theorem zl_25_257 (v : Nat → Int32) : dp_len (dq_257 v) 25 = (Int32.toNatClampNeg (dq_h (v 0) (12 : Int32))) := zl_25_256 v
theorem zl_26_257 (v : Nat → Int32) : dp_len (dq_257 v) 26 = (Int32.toNatClampNeg (dq_h (v 0) (12 : Int32))) := zl_26_256 v
theorem zl_27_257 (v : Nat → Int32) : dp_len (dq_257 v) 27 = (Int32.toNatClampNeg ((dq_h (v 0) (12 : Int32)) * (16 : Int32))) := zl_27_256 v
theorem zl_33_257 (v : Nat → Int32) : dp_len (dq_257 v) 33 = (Int32.toNatClampNeg (dq_h (v 2) (20 : Int32))) := zl_33_256 v
theorem zl_34_257 (v : Nat → Int32) : dp_len (dq_257 v) 34 = (Int32.toNatClampNeg (dq_h (v 2) (20 : Int32))) := zl_34_256 v
theorem zl_35_257 (v : Nat → Int32) : dp_len (dq_257 v) 35 = (Int32.toNatClampNeg (dq_h (v 2) (20 : Int32))) := zl_35_256 v
theorem zl_36_257 (v : Nat → Int32) : dp_len (dq_257 v) 36 = (Int32.toNatClampNeg ((dq_h (v 2) (20 : Int32)) * (dq_h (v 3) (8 : Int32)))) := zl_36_256 v
theorem zi_258 (v : Nat → Int32) (k i : Nat) : dp_I (dq_258 v) k i = sF_13 v k i := sz_n (dqn_257 v) (zi_257 v) (fun _ => rfl) k i
theorem zj_258 (v : Nat → Int32) (k i : Nat) : dp_J (dq_258 v) k i = 0 := sz_nJ (zj_257 v) k i
theorem zr_258 (v : Nat → Int32) (i : Nat) : dp_R (dq_258 v) 59 i = none := sz_nR (zr_257 v) i
theorem zl_25_258 (v : Nat → Int32) : dp_len (dq_258 v) 25 = (Int32.toNatClampNeg (dq_h (v 0) (12 : Int32))) := sz_nL (dqn_257 v) (by decide) (zl_25_257 v)
theorem zl_26_258 (v : Nat → Int32) : dp_len (dq_258 v) 26 = (Int32.toNatClampNeg (dq_h (v 0) (12 : Int32))) := sz_nL (dqn_257 v) (by decide) (zl_26_257 v)
theorem zl_27_258 (v : Nat → Int32) : dp_len (dq_258 v) 27 = (Int32.toNatClampNeg ((dq_h (v 0) (12 : Int32)) * (16 : Int32))) := sz_nL (dqn_257 v) (by decide) (zl_27_257 v)
theorem zl_33_258 (v : Nat → Int32) : dp_len (dq_258 v) 33 = (Int32.toNatClampNeg (dq_h (v 2) (20 : Int32))) := sz_nL (dqn_257 v) (by decide) (zl_33_257 v)
theorem zl_34_258 (v : Nat → Int32) : dp_len (dq_258 v) 34 = (Int32.toNatClampNeg (dq_h (v 2) (20 : Int32))) := sz_nL (dqn_257 v) (by decide) (zl_34_257 v)
theorem zl_35_258 (v : Nat → Int32) : dp_len (dq_258 v) 35 = (Int32.toNatClampNeg (dq_h (v 2) (20 : Int32))) := sz_nL (dqn_257 v) (by decide) (zl_35_257 v)
theorem zl_36_258 (v : Nat → Int32) : dp_len (dq_258 v) 36 = (Int32.toNatClampNeg ((dq_h (v 2) (20 : Int32)) * (dq_h (v 3) (8 : Int32)))) := sz_nL (dqn_257 v) (by decide) (zl_36_257 v)
theorem zi_259 (v : Nat → Int32) (k i : Nat) : dp_I (dq_259 v) k i = sF_13 v k i := zi_258 v k i
theorem zj_259 (v : Nat → Int32) (k i : Nat) : dp_J (dq_259 v) k i = 0 := zj_258 v k i
theorem zr_259 (v : Nat → Int32) (i : Nat) : dp_R (dq_259 v) 59 i = none := sz_rR (by decide) (zr_258 v) i
theorem zl_25_259 (v : Nat → Int32) : dp_len (dq_259 v) 25 = (Int32.toNatClampNeg (dq_h (v 0) (12 : Int32))) := zl_25_258 v
theorem zl_26_259 (v : Nat → Int32) : dp_len (dq_259 v) 26 = (Int32.toNatClampNeg (dq_h (v 0) (12 : Int32))) := zl_26_258 v
theorem zl_27_259 (v : Nat → Int32) : dp_len (dq_259 v) 27 = (Int32.toNatClampNeg ((dq_h (v 0) (12 : Int32)) * (16 : Int32))) := zl_27_258 v
theorem zl_33_259 (v : Nat → Int32) : dp_len (dq_259 v) 33 = (Int32.toNatClampNeg (dq_h (v 2) (20 : Int32))) := zl_33_258 v
theorem zl_34_259 (v : Nat → Int32) : dp_len (dq_259 v) 34 = (Int32.toNatClampNeg (dq_h (v 2) (20 : Int32))) := zl_34_258 v
theorem zl_35_259 (v : Nat → Int32) : dp_len (dq_259 v) 35 = (Int32.toNatClampNeg (dq_h (v 2) (20 : Int32))) := zl_35_258 v
theorem zl_36_259 (v : Nat → Int32) : dp_len (dq_259 v) 36 = (Int32.toNatClampNeg ((dq_h (v 2) (20 : Int32)) * (dq_h (v 3) (8 : Int32)))) := zl_36_258 v
theorem zi_260 (v : Nat → Int32) (k i : Nat) : dp_I (dq_260 v) k i = sF_13 v k i := sz_n (dqn_259 v) (zi_259 v) (fun _ => rfl) k i
theorem zj_260 (v : Nat → Int32) (k i : Nat) : dp_J (dq_260 v) k i = 0 := sz_nJ (zj_259 v) k i
theorem zr_260 (v : Nat → Int32) (i : Nat) : dp_R (dq_260 v) 59 i = none := sz_nR (zr_259 v) i
theorem zl_25_260 (v : Nat → Int32) : dp_len (dq_260 v) 25 = (Int32.toNatClampNeg (dq_h (v 0) (12 : Int32))) := sz_nL (dqn_259 v) (by decide) (zl_25_259 v)
theorem zl_26_260 (v : Nat → Int32) : dp_len (dq_260 v) 26 = (Int32.toNatClampNeg (dq_h (v 0) (12 : Int32))) := sz_nL (dqn_259 v) (by decide) (zl_26_259 v)
theorem zl_27_260 (v : Nat → Int32) : dp_len (dq_260 v) 27 = (Int32.toNatClampNeg ((dq_h (v 0) (12 : Int32)) * (16 : Int32))) := sz_nL (dqn_259 v) (by decide) (zl_27_259 v)
theorem zl_33_260 (v : Nat → Int32) : dp_len (dq_260 v) 33 = (Int32.toNatClampNeg (dq_h (v 2) (20 : Int32))) := sz_nL (dqn_259 v) (by decide) (zl_33_259 v)
theorem zl_34_260 (v : Nat → Int32) : dp_len (dq_260 v) 34 = (Int32.toNatClampNeg (dq_h (v 2) (20 : Int32))) := sz_nL (dqn_259 v) (by decide) (zl_34_259 v)
theorem zl_35_260 (v : Nat → Int32) : dp_len (dq_260 v) 35 = (Int32.toNatClampNeg (dq_h (v 2) (20 : Int32))) := sz_nL (dqn_259 v) (by decide) (zl_35_259 v)
theorem zl_36_260 (v : Nat → Int32) : dp_len (dq_260 v) 36 = (Int32.toNatClampNeg ((dq_h (v 2) (20 : Int32)) * (dq_h (v 3) (8 : Int32)))) := sz_nL (dqn_259 v) (by decide) (zl_36_259 v)
theorem zi_261 (v : Nat → Int32) (k i : Nat) : dp_I (dq_261 v) k i = sF_13 v k i := zi_260 v k i
theorem zj_261 (v : Nat → Int32) (k i : Nat) : dp_J (dq_261 v) k i = 0 := zj_260 v k i
theorem zr_261 (v : Nat → Int32) (i : Nat) : dp_R (dq_261 v) 59 i = none := sz_rR (by decide) (zr_260 v) i
theorem zl_25_261 (v : Nat → Int32) : dp_len (dq_261 v) 25 = (Int32.toNatClampNeg (dq_h (v 0) (12 : Int32))) := zl_25_260 v
theorem zl_26_261 (v : Nat → Int32) : dp_len (dq_261 v) 26 = (Int32.toNatClampNeg (dq_h (v 0) (12 : Int32))) := zl_26_260 v
theorem zl_27_261 (v : Nat → Int32) : dp_len (dq_261 v) 27 = (Int32.toNatClampNeg ((dq_h (v 0) (12 : Int32)) * (16 : Int32))) := zl_27_260 v
theorem zl_33_261 (v : Nat → Int32) : dp_len (dq_261 v) 33 = (Int32.toNatClampNeg (dq_h (v 2) (20 : Int32))) := zl_33_260 v
theorem zl_34_261 (v : Nat → Int32) : dp_len (dq_261 v) 34 = (Int32.toNatClampNeg (dq_h (v 2) (20 : Int32))) := zl_34_260 v
theorem zl_35_261 (v : Nat → Int32) : dp_len (dq_261 v) 35 = (Int32.toNatClampNeg (dq_h (v 2) (20 : Int32))) := zl_35_260 v
theorem zl_36_261 (v : Nat → Int32) : dp_len (dq_261 v) 36 = (Int32.toNatClampNeg ((dq_h (v 2) (20 : Int32)) * (dq_h (v 3) (8 : Int32)))) := zl_36_260 v
theorem zi_262 (v : Nat → Int32) (k i : Nat) : dp_I (dq_262 v) k i = sF_13 v k i := sz_n (dqn_261 v) (zi_261 v) (fun _ => rfl) k i
theorem zj_262 (v : Nat → Int32) (k i : Nat) : dp_J (dq_262 v) k i = 0 := sz_nJ (zj_261 v) k i
theorem zr_262 (v : Nat → Int32) (i : Nat) : dp_R (dq_262 v) 59 i = none := sz_nR (zr_261 v) i
theorem zl_25_262 (v : Nat → Int32) : dp_len (dq_262 v) 25 = (Int32.toNatClampNeg (dq_h (v 0) (12 : Int32))) := sz_nL (dqn_261 v) (by decide) (zl_25_261 v)
theorem zl_26_262 (v : Nat → Int32) : dp_len (dq_262 v) 26 = (Int32.toNatClampNeg (dq_h (v 0) (12 : Int32))) := sz_nL (dqn_261 v) (by decide) (zl_26_261 v)
theorem zl_27_262 (v : Nat → Int32) : dp_len (dq_262 v) 27 = (Int32.toNatClampNeg ((dq_h (v 0) (12 : Int32)) * (16 : Int32))) := sz_nL (dqn_261 v) (by decide) (zl_27_261 v)
theorem zl_33_262 (v : Nat → Int32) : dp_len (dq_262 v) 33 = (Int32.toNatClampNeg (dq_h (v 2) (20 : Int32))) := sz_nL (dqn_261 v) (by decide) (zl_33_261 v)
theorem zl_34_262 (v : Nat → Int32) : dp_len (dq_262 v) 34 = (Int32.toNatClampNeg (dq_h (v 2) (20 : Int32))) := sz_nL (dqn_261 v) (by decide) (zl_34_261 v)
theorem zl_35_262 (v : Nat → Int32) : dp_len (dq_262 v) 35 = (Int32.toNatClampNeg (dq_h (v 2) (20 : Int32))) := sz_nL (dqn_261 v) (by decide) (zl_35_261 v)
theorem zl_36_262 (v : Nat → Int32) : dp_len (dq_262 v) 36 = (Int32.toNatClampNeg ((dq_h (v 2) (20 : Int32)) * (dq_h (v 3) (8 : Int32)))) := sz_nL (dqn_261 v) (by decide) (zl_36_261 v)
theorem zi_263 (v : Nat → Int32) (k i : Nat) : dp_I (dq_263 v) k i = sF_13 v k i := zi_262 v k i
theorem zj_263 (v : Nat → Int32) (k i : Nat) : dp_J (dq_263 v) k i = 0 := zj_262 v k i
theorem zr_263 (v : Nat → Int32) (i : Nat) : dp_R (dq_263 v) 59 i = none := sz_rR (by decide) (zr_262 v) i
theorem zl_25_263 (v : Nat → Int32) : dp_len (dq_263 v) 25 = (Int32.toNatClampNeg (dq_h (v 0) (12 : Int32))) := zl_25_262 v
theorem zl_26_263 (v : Nat → Int32) : dp_len (dq_263 v) 26 = (Int32.toNatClampNeg (dq_h (v 0) (12 : Int32))) := zl_26_262 v
theorem zl_27_263 (v : Nat → Int32) : dp_len (dq_263 v) 27 = (Int32.toNatClampNeg ((dq_h (v 0) (12 : Int32)) * (16 : Int32))) := zl_27_262 v
theorem zl_33_263 (v : Nat → Int32) : dp_len (dq_263 v) 33 = (Int32.toNatClampNeg (dq_h (v 2) (20 : Int32))) := zl_33_262 v
theorem zl_34_263 (v : Nat → Int32) : dp_len (dq_263 v) 34 = (Int32.toNatClampNeg (dq_h (v 2) (20 : Int32))) := zl_34_262 v
theorem zl_35_263 (v : Nat → Int32) : dp_len (dq_263 v) 35 = (Int32.toNatClampNeg (dq_h (v 2) (20 : Int32))) := zl_35_262 v
theorem zl_36_263 (v : Nat → Int32) : dp_len (dq_263 v) 36 = (Int32.toNatClampNeg ((dq_h (v 2) (20 : Int32)) * (dq_h (v 3) (8 : Int32)))) := zl_36_262 v
theorem zi_264 (v : Nat → Int32) (k i : Nat) : dp_I (dq_264 v) k i = sF_13 v k i := sz_n (dqn_263 v) (zi_263 v) (fun _ => rfl) k i
theorem zj_264 (v : Nat → Int32) (k i : Nat) : dp_J (dq_264 v) k i = 0 := sz_nJ (zj_263 v) k i
theorem zr_264 (v : Nat → Int32) (i : Nat) : dp_R (dq_264 v) 59 i = none := sz_nR (zr_263 v) i
theorem zl_25_264 (v : Nat → Int32) : dp_len (dq_264 v) 25 = (Int32.toNatClampNeg (dq_h (v 0) (12 : Int32))) := sz_nL (dqn_263 v) (by decide) (zl_25_263 v)
theorem zl_26_264 (v : Nat → Int32) : dp_len (dq_264 v) 26 = (Int32.toNatClampNeg (dq_h (v 0) (12 : Int32))) := sz_nL (dqn_263 v) (by decide) (zl_26_263 v)
theorem zl_27_264 (v : Nat → Int32) : dp_len (dq_264 v) 27 = (Int32.toNatClampNeg ((dq_h (v 0) (12 : Int32)) * (16 : Int32))) := sz_nL (dqn_263 v) (by decide) (zl_27_263 v)
theorem zl_33_264 (v : Nat → Int32) : dp_len (dq_264 v) 33 = (Int32.toNatClampNeg (dq_h (v 2) (20 : Int32))) := sz_nL (dqn_263 v) (by decide) (zl_33_263 v)
theorem zl_34_264 (v : Nat → Int32) : dp_len (dq_264 v) 34 = (Int32.toNatClampNeg (dq_h (v 2) (20 : Int32))) := sz_nL (dqn_263 v) (by decide) (zl_34_263 v)
theorem zl_35_264 (v : Nat → Int32) : dp_len (dq_264 v) 35 = (Int32.toNatClampNeg (dq_h (v 2) (20 : Int32))) := sz_nL (dqn_263 v) (by decide) (zl_35_263 v)
theorem zl_36_264 (v : Nat → Int32) : dp_len (dq_264 v) 36 = (Int32.toNatClampNeg ((dq_h (v 2) (20 : Int32)) * (dq_h (v 3) (8 : Int32)))) := sz_nL (dqn_263 v) (by decide) (zl_36_263 v)
theorem zi_265 (v : Nat → Int32) (k i : Nat) : dp_I (dq_265 v) k i = sF_13 v k i := zi_264 v k i
theorem zj_265 (v : Nat → Int32) (k i : Nat) : dp_J (dq_265 v) k i = 0 := zj_264 v k i
theorem zr_265 (v : Nat → Int32) (i : Nat) : dp_R (dq_265 v) 59 i = none := sz_rR (by decide) (zr_264 v) i
theorem zl_25_265 (v : Nat → Int32) : dp_len (dq_265 v) 25 = (Int32.toNatClampNeg (dq_h (v 0) (12 : Int32))) := zl_25_264 v
theorem zl_26_265 (v : Nat → Int32) : dp_len (dq_265 v) 26 = (Int32.toNatClampNeg (dq_h (v 0) (12 : Int32))) := zl_26_264 v
theorem zl_27_265 (v : Nat → Int32) : dp_len (dq_265 v) 27 = (Int32.toNatClampNeg ((dq_h (v 0) (12 : Int32)) * (16 : Int32))) := zl_27_264 v
theorem zl_33_265 (v : Nat → Int32) : dp_len (dq_265 v) 33 = (Int32.toNatClampNeg (dq_h (v 2) (20 : Int32))) := zl_33_264 v
theorem zl_34_265 (v : Nat → Int32) : dp_len (dq_265 v) 34 = (Int32.toNatClampNeg (dq_h (v 2) (20 : Int32))) := zl_34_264 v
theorem zl_35_265 (v : Nat → Int32) : dp_len (dq_265 v) 35 = (Int32.toNatClampNeg (dq_h (v 2) (20 : Int32))) := zl_35_264 v
theorem zl_36_265 (v : Nat → Int32) : dp_len (dq_265 v) 36 = (Int32.toNatClampNeg ((dq_h (v 2) (20 : Int32)) * (dq_h (v 3) (8 : Int32)))) := zl_36_264 v
theorem zi_266 (v : Nat → Int32) (k i : Nat) : dp_I (dq_266 v) k i = sF_13 v k i := sz_n (dqn_265 v) (zi_265 v) (fun _ => rfl) k i
theorem zj_266 (v : Nat → Int32) (k i : Nat) : dp_J (dq_266 v) k i = 0 := sz_nJ (zj_265 v) k i
theorem zr_266 (v : Nat → Int32) (i : Nat) : dp_R (dq_266 v) 59 i = none := sz_nR (zr_265 v) i
theorem zl_25_266 (v : Nat → Int32) : dp_len (dq_266 v) 25 = (Int32.toNatClampNeg (dq_h (v 0) (12 : Int32))) := sz_nL (dqn_265 v) (by decide) (zl_25_265 v)
theorem zl_26_266 (v : Nat → Int32) : dp_len (dq_266 v) 26 = (Int32.toNatClampNeg (dq_h (v 0) (12 : Int32))) := sz_nL (dqn_265 v) (by decide) (zl_26_265 v)
theorem zl_27_266 (v : Nat → Int32) : dp_len (dq_266 v) 27 = (Int32.toNatClampNeg ((dq_h (v 0) (12 : Int32)) * (16 : Int32))) := sz_nL (dqn_265 v) (by decide) (zl_27_265 v)
theorem zl_33_266 (v : Nat → Int32) : dp_len (dq_266 v) 33 = (Int32.toNatClampNeg (dq_h (v 2) (20 : Int32))) := sz_nL (dqn_265 v) (by decide) (zl_33_265 v)
theorem zl_34_266 (v : Nat → Int32) : dp_len (dq_266 v) 34 = (Int32.toNatClampNeg (dq_h (v 2) (20 : Int32))) := sz_nL (dqn_265 v) (by decide) (zl_34_265 v)
theorem zl_35_266 (v : Nat → Int32) : dp_len (dq_266 v) 35 = (Int32.toNatClampNeg (dq_h (v 2) (20 : Int32))) := sz_nL (dqn_265 v) (by decide) (zl_35_265 v)
theorem zl_36_266 (v : Nat → Int32) : dp_len (dq_266 v) 36 = (Int32.toNatClampNeg ((dq_h (v 2) (20 : Int32)) * (dq_h (v 3) (8 : Int32)))) := sz_nL (dqn_265 v) (by decide) (zl_36_265 v)
theorem zi_267 (v : Nat → Int32) (k i : Nat) : dp_I (dq_267 v) k i = sF_13 v k i := zi_266 v k i
theorem zj_267 (v : Nat → Int32) (k i : Nat) : dp_J (dq_267 v) k i = 0 := zj_266 v k i
theorem zr_267 (v : Nat → Int32) (i : Nat) : dp_R (dq_267 v) 59 i = none := sz_rR (by decide) (zr_266 v) i
theorem zl_25_267 (v : Nat → Int32) : dp_len (dq_267 v) 25 = (Int32.toNatClampNeg (dq_h (v 0) (12 : Int32))) := zl_25_266 v
theorem zl_26_267 (v : Nat → Int32) : dp_len (dq_267 v) 26 = (Int32.toNatClampNeg (dq_h (v 0) (12 : Int32))) := zl_26_266 v
theorem zl_27_267 (v : Nat → Int32) : dp_len (dq_267 v) 27 = (Int32.toNatClampNeg ((dq_h (v 0) (12 : Int32)) * (16 : Int32))) := zl_27_266 v
theorem zl_33_267 (v : Nat → Int32) : dp_len (dq_267 v) 33 = (Int32.toNatClampNeg (dq_h (v 2) (20 : Int32))) := zl_33_266 v
theorem zl_34_267 (v : Nat → Int32) : dp_len (dq_267 v) 34 = (Int32.toNatClampNeg (dq_h (v 2) (20 : Int32))) := zl_34_266 v
theorem zl_35_267 (v : Nat → Int32) : dp_len (dq_267 v) 35 = (Int32.toNatClampNeg (dq_h (v 2) (20 : Int32))) := zl_35_266 v
theorem zl_36_267 (v : Nat → Int32) : dp_len (dq_267 v) 36 = (Int32.toNatClampNeg ((dq_h (v 2) (20 : Int32)) * (dq_h (v 3) (8 : Int32)))) := zl_36_266 v
theorem zi_268 (v : Nat → Int32) (k i : Nat) : dp_I (dq_268 v) k i = sF_13 v k i := sz_n (dqn_267 v) (zi_267 v) (fun _ => rfl) k i
theorem zj_268 (v : Nat → Int32) (k i : Nat) : dp_J (dq_268 v) k i = 0 := sz_nJ (zj_267 v) k i
theorem zr_268 (v : Nat → Int32) (i : Nat) : dp_R (dq_268 v) 59 i = none := sz_nR (zr_267 v) i
theorem zl_25_268 (v : Nat → Int32) : dp_len (dq_268 v) 25 = (Int32.toNatClampNeg (dq_h (v 0) (12 : Int32))) := sz_nL (dqn_267 v) (by decide) (zl_25_267 v)
theorem zl_26_268 (v : Nat → Int32) : dp_len (dq_268 v) 26 = (Int32.toNatClampNeg (dq_h (v 0) (12 : Int32))) := sz_nL (dqn_267 v) (by decide) (zl_26_267 v)
theorem zl_27_268 (v : Nat → Int32) : dp_len (dq_268 v) 27 = (Int32.toNatClampNeg ((dq_h (v 0) (12 : Int32)) * (16 : Int32))) := sz_nL (dqn_267 v) (by decide) (zl_27_267 v)
theorem zl_33_268 (v : Nat → Int32) : dp_len (dq_268 v) 33 = (Int32.toNatClampNeg (dq_h (v 2) (20 : Int32))) := sz_nL (dqn_267 v) (by decide) (zl_33_267 v)
theorem zl_34_268 (v : Nat → Int32) : dp_len (dq_268 v) 34 = (Int32.toNatClampNeg (dq_h (v 2) (20 : Int32))) := sz_nL (dqn_267 v) (by decide) (zl_34_267 v)
theorem zl_35_268 (v : Nat → Int32) : dp_len (dq_268 v) 35 = (Int32.toNatClampNeg (dq_h (v 2) (20 : Int32))) := sz_nL (dqn_267 v) (by decide) (zl_35_267 v)
theorem zl_36_268 (v : Nat → Int32) : dp_len (dq_268 v) 36 = (Int32.toNatClampNeg ((dq_h (v 2) (20 : Int32)) * (dq_h (v 3) (8 : Int32)))) := sz_nL (dqn_267 v) (by decide) (zl_36_267 v)
theorem zi_269 (v : Nat → Int32) (k i : Nat) : dp_I (dq_269 v) k i = sF_13 v k i := zi_268 v k i
theorem zj_269 (v : Nat → Int32) (k i : Nat) : dp_J (dq_269 v) k i = 0 := zj_268 v k i
theorem zr_269 (v : Nat → Int32) (i : Nat) : dp_R (dq_269 v) 59 i = none := sz_rR (by decide) (zr_268 v) i
theorem zl_25_269 (v : Nat → Int32) : dp_len (dq_269 v) 25 = (Int32.toNatClampNeg (dq_h (v 0) (12 : Int32))) := zl_25_268 v
theorem zl_26_269 (v : Nat → Int32) : dp_len (dq_269 v) 26 = (Int32.toNatClampNeg (dq_h (v 0) (12 : Int32))) := zl_26_268 v
theorem zl_27_269 (v : Nat → Int32) : dp_len (dq_269 v) 27 = (Int32.toNatClampNeg ((dq_h (v 0) (12 : Int32)) * (16 : Int32))) := zl_27_268 v
theorem zl_33_269 (v : Nat → Int32) : dp_len (dq_269 v) 33 = (Int32.toNatClampNeg (dq_h (v 2) (20 : Int32))) := zl_33_268 v
theorem zl_34_269 (v : Nat → Int32) : dp_len (dq_269 v) 34 = (Int32.toNatClampNeg (dq_h (v 2) (20 : Int32))) := zl_34_268 v
theorem zl_35_269 (v : Nat → Int32) : dp_len (dq_269 v) 35 = (Int32.toNatClampNeg (dq_h (v 2) (20 : Int32))) := zl_35_268 v
theorem zl_36_269 (v : Nat → Int32) : dp_len (dq_269 v) 36 = (Int32.toNatClampNeg ((dq_h (v 2) (20 : Int32)) * (dq_h (v 3) (8 : Int32)))) := zl_36_268 v
theorem zi_270 (v : Nat → Int32) (k i : Nat) : dp_I (dq_270 v) k i = sF_13 v k i := sz_n (dqn_269 v) (zi_269 v) (fun _ => rfl) k i
theorem zj_270 (v : Nat → Int32) (k i : Nat) : dp_J (dq_270 v) k i = 0 := sz_nJ (zj_269 v) k i
theorem zr_270 (v : Nat → Int32) (i : Nat) : dp_R (dq_270 v) 59 i = none := sz_nR (zr_269 v) i
theorem zl_25_270 (v : Nat → Int32) : dp_len (dq_270 v) 25 = (Int32.toNatClampNeg (dq_h (v 0) (12 : Int32))) := sz_nL (dqn_269 v) (by decide) (zl_25_269 v)
theorem zl_26_270 (v : Nat → Int32) : dp_len (dq_270 v) 26 = (Int32.toNatClampNeg (dq_h (v 0) (12 : Int32))) := sz_nL (dqn_269 v) (by decide) (zl_26_269 v)
theorem zl_27_270 (v : Nat → Int32) : dp_len (dq_270 v) 27 = (Int32.toNatClampNeg ((dq_h (v 0) (12 : Int32)) * (16 : Int32))) := sz_nL (dqn_269 v) (by decide) (zl_27_269 v)
theorem zl_33_270 (v : Nat → Int32) : dp_len (dq_270 v) 33 = (Int32.toNatClampNeg (dq_h (v 2) (20 : Int32))) := sz_nL (dqn_269 v) (by decide) (zl_33_269 v)
theorem zl_34_270 (v : Nat → Int32) : dp_len (dq_270 v) 34 = (Int32.toNatClampNeg (dq_h (v 2) (20 : Int32))) := sz_nL (dqn_269 v) (by decide) (zl_34_269 v)
theorem zl_35_270 (v : Nat → Int32) : dp_len (dq_270 v) 35 = (Int32.toNatClampNeg (dq_h (v 2) (20 : Int32))) := sz_nL (dqn_269 v) (by decide) (zl_35_269 v)
theorem zl_36_270 (v : Nat → Int32) : dp_len (dq_270 v) 36 = (Int32.toNatClampNeg ((dq_h (v 2) (20 : Int32)) * (dq_h (v 3) (8 : Int32)))) := sz_nL (dqn_269 v) (by decide) (zl_36_269 v)
theorem zi_271 (v : Nat → Int32) (k i : Nat) : dp_I (dq_271 v) k i = sF_13 v k i := zi_270 v k i
theorem zj_271 (v : Nat → Int32) (k i : Nat) : dp_J (dq_271 v) k i = 0 := zj_270 v k i
theorem zr_271 (v : Nat → Int32) (i : Nat) : dp_R (dq_271 v) 59 i = none := sz_rR (by decide) (zr_270 v) i
theorem zl_25_271 (v : Nat → Int32) : dp_len (dq_271 v) 25 = (Int32.toNatClampNeg (dq_h (v 0) (12 : Int32))) := zl_25_270 v
theorem zl_26_271 (v : Nat → Int32) : dp_len (dq_271 v) 26 = (Int32.toNatClampNeg (dq_h (v 0) (12 : Int32))) := zl_26_270 v
theorem zl_27_271 (v : Nat → Int32) : dp_len (dq_271 v) 27 = (Int32.toNatClampNeg ((dq_h (v 0) (12 : Int32)) * (16 : Int32))) := zl_27_270 v
theorem zl_33_271 (v : Nat → Int32) : dp_len (dq_271 v) 33 = (Int32.toNatClampNeg (dq_h (v 2) (20 : Int32))) := zl_33_270 v
theorem zl_34_271 (v : Nat → Int32) : dp_len (dq_271 v) 34 = (Int32.toNatClampNeg (dq_h (v 2) (20 : Int32))) := zl_34_270 v
theorem zl_35_271 (v : Nat → Int32) : dp_len (dq_271 v) 35 = (Int32.toNatClampNeg (dq_h (v 2) (20 : Int32))) := zl_35_270 v
theorem zl_36_271 (v : Nat → Int32) : dp_len (dq_271 v) 36 = (Int32.toNatClampNeg ((dq_h (v 2) (20 : Int32)) * (dq_h (v 3) (8 : Int32)))) := zl_36_270 v
theorem zi_272 (v : Nat → Int32) (k i : Nat) : dp_I (dq_272 v) k i = sF_13 v k i := sz_n (dqn_271 v) (zi_271 v) (fun _ => rfl) k i
theorem zj_272 (v : Nat → Int32) (k i : Nat) : dp_J (dq_272 v) k i = 0 := sz_nJ (zj_271 v) k i
theorem zr_272 (v : Nat → Int32) (i : Nat) : dp_R (dq_272 v) 59 i = none := sz_nR (zr_271 v) i
theorem zl_25_272 (v : Nat → Int32) : dp_len (dq_272 v) 25 = (Int32.toNatClampNeg (dq_h (v 0) (12 : Int32))) := sz_nL (dqn_271 v) (by decide) (zl_25_271 v)
theorem zl_26_272 (v : Nat → Int32) : dp_len (dq_272 v) 26 = (Int32.toNatClampNeg (dq_h (v 0) (12 : Int32))) := sz_nL (dqn_271 v) (by decide) (zl_26_271 v)
theorem zl_27_272 (v : Nat → Int32) : dp_len (dq_272 v) 27 = (Int32.toNatClampNeg ((dq_h (v 0) (12 : Int32)) * (16 : Int32))) := sz_nL (dqn_271 v) (by decide) (zl_27_271 v)
theorem zl_33_272 (v : Nat → Int32) : dp_len (dq_272 v) 33 = (Int32.toNatClampNeg (dq_h (v 2) (20 : Int32))) := sz_nL (dqn_271 v) (by decide) (zl_33_271 v)
theorem zl_34_272 (v : Nat → Int32) : dp_len (dq_272 v) 34 = (Int32.toNatClampNeg (dq_h (v 2) (20 : Int32))) := sz_nL (dqn_271 v) (by decide) (zl_34_271 v)
theorem zl_35_272 (v : Nat → Int32) : dp_len (dq_272 v) 35 = (Int32.toNatClampNeg (dq_h (v 2) (20 : Int32))) := sz_nL (dqn_271 v) (by decide) (zl_35_271 v)
theorem zl_36_272 (v : Nat → Int32) : dp_len (dq_272 v) 36 = (Int32.toNatClampNeg ((dq_h (v 2) (20 : Int32)) * (dq_h (v 3) (8 : Int32)))) := sz_nL (dqn_271 v) (by decide) (zl_36_271 v)
theorem zi_273 (v : Nat → Int32) (k i : Nat) : dp_I (dq_273 v) k i = sF_13 v k i := zi_272 v k i
theorem zj_273 (v : Nat → Int32) (k i : Nat) : dp_J (dq_273 v) k i = 0 := zj_272 v k i
theorem zr_273 (v : Nat → Int32) (i : Nat) : dp_R (dq_273 v) 59 i = none := sz_rR (by decide) (zr_272 v) i
theorem zl_25_273 (v : Nat → Int32) : dp_len (dq_273 v) 25 = (Int32.toNatClampNeg (dq_h (v 0) (12 : Int32))) := zl_25_272 v
theorem zl_26_273 (v : Nat → Int32) : dp_len (dq_273 v) 26 = (Int32.toNatClampNeg (dq_h (v 0) (12 : Int32))) := zl_26_272 v
theorem zl_27_273 (v : Nat → Int32) : dp_len (dq_273 v) 27 = (Int32.toNatClampNeg ((dq_h (v 0) (12 : Int32)) * (16 : Int32))) := zl_27_272 v
theorem zl_33_273 (v : Nat → Int32) : dp_len (dq_273 v) 33 = (Int32.toNatClampNeg (dq_h (v 2) (20 : Int32))) := zl_33_272 v
theorem zl_34_273 (v : Nat → Int32) : dp_len (dq_273 v) 34 = (Int32.toNatClampNeg (dq_h (v 2) (20 : Int32))) := zl_34_272 v
theorem zl_35_273 (v : Nat → Int32) : dp_len (dq_273 v) 35 = (Int32.toNatClampNeg (dq_h (v 2) (20 : Int32))) := zl_35_272 v
theorem zl_36_273 (v : Nat → Int32) : dp_len (dq_273 v) 36 = (Int32.toNatClampNeg ((dq_h (v 2) (20 : Int32)) * (dq_h (v 3) (8 : Int32)))) := zl_36_272 v
theorem zi_274 (v : Nat → Int32) (k i : Nat) : dp_I (dq_274 v) k i = sF_13 v k i := sz_n (dqn_273 v) (zi_273 v) (fun _ => rfl) k i
theorem zj_274 (v : Nat → Int32) (k i : Nat) : dp_J (dq_274 v) k i = 0 := sz_nJ (zj_273 v) k i
theorem zr_274 (v : Nat → Int32) (i : Nat) : dp_R (dq_274 v) 59 i = none := sz_nR (zr_273 v) i
theorem zl_25_274 (v : Nat → Int32) : dp_len (dq_274 v) 25 = (Int32.toNatClampNeg (dq_h (v 0) (12 : Int32))) := sz_nL (dqn_273 v) (by decide) (zl_25_273 v)
theorem zl_26_274 (v : Nat → Int32) : dp_len (dq_274 v) 26 = (Int32.toNatClampNeg (dq_h (v 0) (12 : Int32))) := sz_nL (dqn_273 v) (by decide) (zl_26_273 v)
theorem zl_27_274 (v : Nat → Int32) : dp_len (dq_274 v) 27 = (Int32.toNatClampNeg ((dq_h (v 0) (12 : Int32)) * (16 : Int32))) := sz_nL (dqn_273 v) (by decide) (zl_27_273 v)
theorem zl_33_274 (v : Nat → Int32) : dp_len (dq_274 v) 33 = (Int32.toNatClampNeg (dq_h (v 2) (20 : Int32))) := sz_nL (dqn_273 v) (by decide) (zl_33_273 v)
theorem zl_34_274 (v : Nat → Int32) : dp_len (dq_274 v) 34 = (Int32.toNatClampNeg (dq_h (v 2) (20 : Int32))) := sz_nL (dqn_273 v) (by decide) (zl_34_273 v)
theorem zl_35_274 (v : Nat → Int32) : dp_len (dq_274 v) 35 = (Int32.toNatClampNeg (dq_h (v 2) (20 : Int32))) := sz_nL (dqn_273 v) (by decide) (zl_35_273 v)
theorem zl_36_274 (v : Nat → Int32) : dp_len (dq_274 v) 36 = (Int32.toNatClampNeg ((dq_h (v 2) (20 : Int32)) * (dq_h (v 3) (8 : Int32)))) := sz_nL (dqn_273 v) (by decide) (zl_36_273 v)
theorem zi_275 (v : Nat → Int32) (k i : Nat) : dp_I (dq_275 v) k i = sF_13 v k i := zi_274 v k i
theorem zj_275 (v : Nat → Int32) (k i : Nat) : dp_J (dq_275 v) k i = 0 := zj_274 v k i
theorem zr_275 (v : Nat → Int32) (i : Nat) : dp_R (dq_275 v) 59 i = none := sz_rR (by decide) (zr_274 v) i
theorem zl_25_275 (v : Nat → Int32) : dp_len (dq_275 v) 25 = (Int32.toNatClampNeg (dq_h (v 0) (12 : Int32))) := zl_25_274 v
theorem zl_26_275 (v : Nat → Int32) : dp_len (dq_275 v) 26 = (Int32.toNatClampNeg (dq_h (v 0) (12 : Int32))) := zl_26_274 v
theorem zl_27_275 (v : Nat → Int32) : dp_len (dq_275 v) 27 = (Int32.toNatClampNeg ((dq_h (v 0) (12 : Int32)) * (16 : Int32))) := zl_27_274 v
theorem zl_33_275 (v : Nat → Int32) : dp_len (dq_275 v) 33 = (Int32.toNatClampNeg (dq_h (v 2) (20 : Int32))) := zl_33_274 v
theorem zl_34_275 (v : Nat → Int32) : dp_len (dq_275 v) 34 = (Int32.toNatClampNeg (dq_h (v 2) (20 : Int32))) := zl_34_274 v
theorem zl_35_275 (v : Nat → Int32) : dp_len (dq_275 v) 35 = (Int32.toNatClampNeg (dq_h (v 2) (20 : Int32))) := zl_35_274 v
theorem zl_36_275 (v : Nat → Int32) : dp_len (dq_275 v) 36 = (Int32.toNatClampNeg ((dq_h (v 2) (20 : Int32)) * (dq_h (v 3) (8 : Int32)))) := zl_36_274 v
theorem zi_276 (v : Nat → Int32) (k i : Nat) : dp_I (dq_276 v) k i = sF_13 v k i := sz_n (dqn_275 v) (zi_275 v) (fun _ => rfl) k i
theorem zj_276 (v : Nat → Int32) (k i : Nat) : dp_J (dq_276 v) k i = 0 := sz_nJ (zj_275 v) k i
theorem zr_276 (v : Nat → Int32) (i : Nat) : dp_R (dq_276 v) 59 i = none := sz_nR (zr_275 v) i
theorem zl_25_276 (v : Nat → Int32) : dp_len (dq_276 v) 25 = (Int32.toNatClampNeg (dq_h (v 0) (12 : Int32))) := sz_nL (dqn_275 v) (by decide) (zl_25_275 v)
theorem zl_26_276 (v : Nat → Int32) : dp_len (dq_276 v) 26 = (Int32.toNatClampNeg (dq_h (v 0) (12 : Int32))) := sz_nL (dqn_275 v) (by decide) (zl_26_275 v)
theorem zl_27_276 (v : Nat → Int32) : dp_len (dq_276 v) 27 = (Int32.toNatClampNeg ((dq_h (v 0) (12 : Int32)) * (16 : Int32))) := sz_nL (dqn_275 v) (by decide) (zl_27_275 v)
theorem zl_33_276 (v : Nat → Int32) : dp_len (dq_276 v) 33 = (Int32.toNatClampNeg (dq_h (v 2) (20 : Int32))) := sz_nL (dqn_275 v) (by decide) (zl_33_275 v)
theorem zl_34_276 (v : Nat → Int32) : dp_len (dq_276 v) 34 = (Int32.toNatClampNeg (dq_h (v 2) (20 : Int32))) := sz_nL (dqn_275 v) (by decide) (zl_34_275 v)
theorem zl_35_276 (v : Nat → Int32) : dp_len (dq_276 v) 35 = (Int32.toNatClampNeg (dq_h (v 2) (20 : Int32))) := sz_nL (dqn_275 v) (by decide) (zl_35_275 v)
theorem zl_36_276 (v : Nat → Int32) : dp_len (dq_276 v) 36 = (Int32.toNatClampNeg ((dq_h (v 2) (20 : Int32)) * (dq_h (v 3) (8 : Int32)))) := sz_nL (dqn_275 v) (by decide) (zl_36_275 v)
theorem zi_277 (v : Nat → Int32) (k i : Nat) : dp_I (dq_277 v) k i = sF_13 v k i := zi_276 v k i
theorem zj_277 (v : Nat → Int32) (k i : Nat) : dp_J (dq_277 v) k i = 0 := zj_276 v k i
theorem zr_277 (v : Nat → Int32) (i : Nat) : dp_R (dq_277 v) 59 i = none := sz_rR (by decide) (zr_276 v) i
theorem zl_25_277 (v : Nat → Int32) : dp_len (dq_277 v) 25 = (Int32.toNatClampNeg (dq_h (v 0) (12 : Int32))) := zl_25_276 v
theorem zl_26_277 (v : Nat → Int32) : dp_len (dq_277 v) 26 = (Int32.toNatClampNeg (dq_h (v 0) (12 : Int32))) := zl_26_276 v
theorem zl_27_277 (v : Nat → Int32) : dp_len (dq_277 v) 27 = (Int32.toNatClampNeg ((dq_h (v 0) (12 : Int32)) * (16 : Int32))) := zl_27_276 v
theorem zl_33_277 (v : Nat → Int32) : dp_len (dq_277 v) 33 = (Int32.toNatClampNeg (dq_h (v 2) (20 : Int32))) := zl_33_276 v
theorem zl_34_277 (v : Nat → Int32) : dp_len (dq_277 v) 34 = (Int32.toNatClampNeg (dq_h (v 2) (20 : Int32))) := zl_34_276 v
theorem zl_35_277 (v : Nat → Int32) : dp_len (dq_277 v) 35 = (Int32.toNatClampNeg (dq_h (v 2) (20 : Int32))) := zl_35_276 v
theorem zl_36_277 (v : Nat → Int32) : dp_len (dq_277 v) 36 = (Int32.toNatClampNeg ((dq_h (v 2) (20 : Int32)) * (dq_h (v 3) (8 : Int32)))) := zl_36_276 v
theorem zi_278 (v : Nat → Int32) (k i : Nat) : dp_I (dq_278 v) k i = sF_13 v k i := sz_n (dqn_277 v) (zi_277 v) (fun _ => rfl) k i
theorem zj_278 (v : Nat → Int32) (k i : Nat) : dp_J (dq_278 v) k i = 0 := sz_nJ (zj_277 v) k i
theorem zr_278 (v : Nat → Int32) (i : Nat) : dp_R (dq_278 v) 59 i = none := sz_nR (zr_277 v) i
theorem zl_25_278 (v : Nat → Int32) : dp_len (dq_278 v) 25 = (Int32.toNatClampNeg (dq_h (v 0) (12 : Int32))) := sz_nL (dqn_277 v) (by decide) (zl_25_277 v)
theorem zl_26_278 (v : Nat → Int32) : dp_len (dq_278 v) 26 = (Int32.toNatClampNeg (dq_h (v 0) (12 : Int32))) := sz_nL (dqn_277 v) (by decide) (zl_26_277 v)
theorem zl_27_278 (v : Nat → Int32) : dp_len (dq_278 v) 27 = (Int32.toNatClampNeg ((dq_h (v 0) (12 : Int32)) * (16 : Int32))) := sz_nL (dqn_277 v) (by decide) (zl_27_277 v)
theorem zl_33_278 (v : Nat → Int32) : dp_len (dq_278 v) 33 = (Int32.toNatClampNeg (dq_h (v 2) (20 : Int32))) := sz_nL (dqn_277 v) (by decide) (zl_33_277 v)
theorem zl_34_278 (v : Nat → Int32) : dp_len (dq_278 v) 34 = (Int32.toNatClampNeg (dq_h (v 2) (20 : Int32))) := sz_nL (dqn_277 v) (by decide) (zl_34_277 v)
theorem zl_35_278 (v : Nat → Int32) : dp_len (dq_278 v) 35 = (Int32.toNatClampNeg (dq_h (v 2) (20 : Int32))) := sz_nL (dqn_277 v) (by decide) (zl_35_277 v)
theorem zl_36_278 (v : Nat → Int32) : dp_len (dq_278 v) 36 = (Int32.toNatClampNeg ((dq_h (v 2) (20 : Int32)) * (dq_h (v 3) (8 : Int32)))) := sz_nL (dqn_277 v) (by decide) (zl_36_277 v)
theorem zi_279 (v : Nat → Int32) (k i : Nat) : dp_I (dq_279 v) k i = sF_13 v k i := zi_278 v k i
theorem zj_279 (v : Nat → Int32) (k i : Nat) : dp_J (dq_279 v) k i = 0 := zj_278 v k i
theorem zr_279 (v : Nat → Int32) (i : Nat) : dp_R (dq_279 v) 59 i = none := sz_rR (by decide) (zr_278 v) i
theorem zl_25_279 (v : Nat → Int32) : dp_len (dq_279 v) 25 = (Int32.toNatClampNeg (dq_h (v 0) (12 : Int32))) := zl_25_278 v
theorem zl_26_279 (v : Nat → Int32) : dp_len (dq_279 v) 26 = (Int32.toNatClampNeg (dq_h (v 0) (12 : Int32))) := zl_26_278 v
theorem zl_27_279 (v : Nat → Int32) : dp_len (dq_279 v) 27 = (Int32.toNatClampNeg ((dq_h (v 0) (12 : Int32)) * (16 : Int32))) := zl_27_278 v
theorem zl_33_279 (v : Nat → Int32) : dp_len (dq_279 v) 33 = (Int32.toNatClampNeg (dq_h (v 2) (20 : Int32))) := zl_33_278 v
theorem zl_34_279 (v : Nat → Int32) : dp_len (dq_279 v) 34 = (Int32.toNatClampNeg (dq_h (v 2) (20 : Int32))) := zl_34_278 v
theorem zl_35_279 (v : Nat → Int32) : dp_len (dq_279 v) 35 = (Int32.toNatClampNeg (dq_h (v 2) (20 : Int32))) := zl_35_278 v
theorem zl_36_279 (v : Nat → Int32) : dp_len (dq_279 v) 36 = (Int32.toNatClampNeg ((dq_h (v 2) (20 : Int32)) * (dq_h (v 3) (8 : Int32)))) := zl_36_278 v
theorem zi_280 (v : Nat → Int32) (k i : Nat) : dp_I (dq_280 v) k i = sF_13 v k i := sz_n (dqn_279 v) (zi_279 v) (fun _ => rfl) k i
theorem zj_280 (v : Nat → Int32) (k i : Nat) : dp_J (dq_280 v) k i = 0 := sz_nJ (zj_279 v) k i
theorem zr_280 (v : Nat → Int32) (i : Nat) : dp_R (dq_280 v) 59 i = none := sz_nR (zr_279 v) i
theorem zl_25_280 (v : Nat → Int32) : dp_len (dq_280 v) 25 = (Int32.toNatClampNeg (dq_h (v 0) (12 : Int32))) := sz_nL (dqn_279 v) (by decide) (zl_25_279 v)
theorem zl_26_280 (v : Nat → Int32) : dp_len (dq_280 v) 26 = (Int32.toNatClampNeg (dq_h (v 0) (12 : Int32))) := sz_nL (dqn_279 v) (by decide) (zl_26_279 v)
theorem zl_27_280 (v : Nat → Int32) : dp_len (dq_280 v) 27 = (Int32.toNatClampNeg ((dq_h (v 0) (12 : Int32)) * (16 : Int32))) := sz_nL (dqn_279 v) (by decide) (zl_27_279 v)
theorem zl_33_280 (v : Nat → Int32) : dp_len (dq_280 v) 33 = (Int32.toNatClampNeg (dq_h (v 2) (20 : Int32))) := sz_nL (dqn_279 v) (by decide) (zl_33_279 v)
theorem zl_34_280 (v : Nat → Int32) : dp_len (dq_280 v) 34 = (Int32.toNatClampNeg (dq_h (v 2) (20 : Int32))) := sz_nL (dqn_279 v) (by decide) (zl_34_279 v)
theorem zl_35_280 (v : Nat → Int32) : dp_len (dq_280 v) 35 = (Int32.toNatClampNeg (dq_h (v 2) (20 : Int32))) := sz_nL (dqn_279 v) (by decide) (zl_35_279 v)
theorem zl_36_280 (v : Nat → Int32) : dp_len (dq_280 v) 36 = (Int32.toNatClampNeg ((dq_h (v 2) (20 : Int32)) * (dq_h (v 3) (8 : Int32)))) := sz_nL (dqn_279 v) (by decide) (zl_36_279 v)
theorem zi_281 (v : Nat → Int32) (k i : Nat) : dp_I (dq_281 v) k i = sF_13 v k i := zi_280 v k i
theorem zj_281 (v : Nat → Int32) (k i : Nat) : dp_J (dq_281 v) k i = 0 := zj_280 v k i
theorem zr_281 (v : Nat → Int32) (i : Nat) : dp_R (dq_281 v) 59 i = none := sz_rR (by decide) (zr_280 v) i
theorem zl_25_281 (v : Nat → Int32) : dp_len (dq_281 v) 25 = (Int32.toNatClampNeg (dq_h (v 0) (12 : Int32))) := zl_25_280 v
theorem zl_26_281 (v : Nat → Int32) : dp_len (dq_281 v) 26 = (Int32.toNatClampNeg (dq_h (v 0) (12 : Int32))) := zl_26_280 v
theorem zl_27_281 (v : Nat → Int32) : dp_len (dq_281 v) 27 = (Int32.toNatClampNeg ((dq_h (v 0) (12 : Int32)) * (16 : Int32))) := zl_27_280 v
theorem zl_33_281 (v : Nat → Int32) : dp_len (dq_281 v) 33 = (Int32.toNatClampNeg (dq_h (v 2) (20 : Int32))) := zl_33_280 v
theorem zl_34_281 (v : Nat → Int32) : dp_len (dq_281 v) 34 = (Int32.toNatClampNeg (dq_h (v 2) (20 : Int32))) := zl_34_280 v
theorem zl_35_281 (v : Nat → Int32) : dp_len (dq_281 v) 35 = (Int32.toNatClampNeg (dq_h (v 2) (20 : Int32))) := zl_35_280 v
theorem zl_36_281 (v : Nat → Int32) : dp_len (dq_281 v) 36 = (Int32.toNatClampNeg ((dq_h (v 2) (20 : Int32)) * (dq_h (v 3) (8 : Int32)))) := zl_36_280 v
theorem zi_282 (v : Nat → Int32) (k i : Nat) : dp_I (dq_282 v) k i = sF_13 v k i := sz_n (dqn_281 v) (zi_281 v) (fun _ => rfl) k i
theorem zj_282 (v : Nat → Int32) (k i : Nat) : dp_J (dq_282 v) k i = 0 := sz_nJ (zj_281 v) k i
theorem zr_282 (v : Nat → Int32) (i : Nat) : dp_R (dq_282 v) 59 i = none := sz_nR (zr_281 v) i
theorem zl_25_282 (v : Nat → Int32) : dp_len (dq_282 v) 25 = (Int32.toNatClampNeg (dq_h (v 0) (12 : Int32))) := sz_nL (dqn_281 v) (by decide) (zl_25_281 v)
theorem zl_26_282 (v : Nat → Int32) : dp_len (dq_282 v) 26 = (Int32.toNatClampNeg (dq_h (v 0) (12 : Int32))) := sz_nL (dqn_281 v) (by decide) (zl_26_281 v)
theorem zl_27_282 (v : Nat → Int32) : dp_len (dq_282 v) 27 = (Int32.toNatClampNeg ((dq_h (v 0) (12 : Int32)) * (16 : Int32))) := sz_nL (dqn_281 v) (by decide) (zl_27_281 v)
theorem zl_33_282 (v : Nat → Int32) : dp_len (dq_282 v) 33 = (Int32.toNatClampNeg (dq_h (v 2) (20 : Int32))) := sz_nL (dqn_281 v) (by decide) (zl_33_281 v)
theorem zl_34_282 (v : Nat → Int32) : dp_len (dq_282 v) 34 = (Int32.toNatClampNeg (dq_h (v 2) (20 : Int32))) := sz_nL (dqn_281 v) (by decide) (zl_34_281 v)
theorem zl_35_282 (v : Nat → Int32) : dp_len (dq_282 v) 35 = (Int32.toNatClampNeg (dq_h (v 2) (20 : Int32))) := sz_nL (dqn_281 v) (by decide) (zl_35_281 v)
theorem zl_36_282 (v : Nat → Int32) : dp_len (dq_282 v) 36 = (Int32.toNatClampNeg ((dq_h (v 2) (20 : Int32)) * (dq_h (v 3) (8 : Int32)))) := sz_nL (dqn_281 v) (by decide) (zl_36_281 v)
theorem zi_283 (v : Nat → Int32) (k i : Nat) : dp_I (dq_283 v) k i = sF_13 v k i := zi_282 v k i
theorem zj_283 (v : Nat → Int32) (k i : Nat) : dp_J (dq_283 v) k i = 0 := zj_282 v k i
theorem zr_283 (v : Nat → Int32) (i : Nat) : dp_R (dq_283 v) 59 i = none := sz_rR (by decide) (zr_282 v) i
theorem zl_25_283 (v : Nat → Int32) : dp_len (dq_283 v) 25 = (Int32.toNatClampNeg (dq_h (v 0) (12 : Int32))) := zl_25_282 v
theorem zl_26_283 (v : Nat → Int32) : dp_len (dq_283 v) 26 = (Int32.toNatClampNeg (dq_h (v 0) (12 : Int32))) := zl_26_282 v
theorem zl_27_283 (v : Nat → Int32) : dp_len (dq_283 v) 27 = (Int32.toNatClampNeg ((dq_h (v 0) (12 : Int32)) * (16 : Int32))) := zl_27_282 v
theorem zl_33_283 (v : Nat → Int32) : dp_len (dq_283 v) 33 = (Int32.toNatClampNeg (dq_h (v 2) (20 : Int32))) := zl_33_282 v
theorem zl_34_283 (v : Nat → Int32) : dp_len (dq_283 v) 34 = (Int32.toNatClampNeg (dq_h (v 2) (20 : Int32))) := zl_34_282 v
theorem zl_35_283 (v : Nat → Int32) : dp_len (dq_283 v) 35 = (Int32.toNatClampNeg (dq_h (v 2) (20 : Int32))) := zl_35_282 v
theorem zl_36_283 (v : Nat → Int32) : dp_len (dq_283 v) 36 = (Int32.toNatClampNeg ((dq_h (v 2) (20 : Int32)) * (dq_h (v 3) (8 : Int32)))) := zl_36_282 v
theorem zi_284 (v : Nat → Int32) (k i : Nat) : dp_I (dq_284 v) k i = sF_13 v k i := sz_n (dqn_283 v) (zi_283 v) (fun _ => rfl) k i
theorem zj_284 (v : Nat → Int32) (k i : Nat) : dp_J (dq_284 v) k i = 0 := sz_nJ (zj_283 v) k i
theorem zr_284 (v : Nat → Int32) (i : Nat) : dp_R (dq_284 v) 59 i = none := sz_nR (zr_283 v) i
theorem zl_25_284 (v : Nat → Int32) : dp_len (dq_284 v) 25 = (Int32.toNatClampNeg (dq_h (v 0) (12 : Int32))) := sz_nL (dqn_283 v) (by decide) (zl_25_283 v)
theorem zl_26_284 (v : Nat → Int32) : dp_len (dq_284 v) 26 = (Int32.toNatClampNeg (dq_h (v 0) (12 : Int32))) := sz_nL (dqn_283 v) (by decide) (zl_26_283 v)
theorem zl_27_284 (v : Nat → Int32) : dp_len (dq_284 v) 27 = (Int32.toNatClampNeg ((dq_h (v 0) (12 : Int32)) * (16 : Int32))) := sz_nL (dqn_283 v) (by decide) (zl_27_283 v)
theorem zl_33_284 (v : Nat → Int32) : dp_len (dq_284 v) 33 = (Int32.toNatClampNeg (dq_h (v 2) (20 : Int32))) := sz_nL (dqn_283 v) (by decide) (zl_33_283 v)
theorem zl_34_284 (v : Nat → Int32) : dp_len (dq_284 v) 34 = (Int32.toNatClampNeg (dq_h (v 2) (20 : Int32))) := sz_nL (dqn_283 v) (by decide) (zl_34_283 v)
theorem zl_35_284 (v : Nat → Int32) : dp_len (dq_284 v) 35 = (Int32.toNatClampNeg (dq_h (v 2) (20 : Int32))) := sz_nL (dqn_283 v) (by decide) (zl_35_283 v)
theorem zl_36_284 (v : Nat → Int32) : dp_len (dq_284 v) 36 = (Int32.toNatClampNeg ((dq_h (v 2) (20 : Int32)) * (dq_h (v 3) (8 : Int32)))) := sz_nL (dqn_283 v) (by decide) (zl_36_283 v)
theorem zi_285 (v : Nat → Int32) (k i : Nat) : dp_I (dq_285 v) k i = sF_13 v k i := zi_284 v k i
theorem zj_285 (v : Nat → Int32) (k i : Nat) : dp_J (dq_285 v) k i = 0 := zj_284 v k i
theorem zr_285 (v : Nat → Int32) (i : Nat) : dp_R (dq_285 v) 59 i = none := sz_rR (by decide) (zr_284 v) i
theorem zl_25_285 (v : Nat → Int32) : dp_len (dq_285 v) 25 = (Int32.toNatClampNeg (dq_h (v 0) (12 : Int32))) := zl_25_284 v
theorem zl_26_285 (v : Nat → Int32) : dp_len (dq_285 v) 26 = (Int32.toNatClampNeg (dq_h (v 0) (12 : Int32))) := zl_26_284 v
theorem zl_27_285 (v : Nat → Int32) : dp_len (dq_285 v) 27 = (Int32.toNatClampNeg ((dq_h (v 0) (12 : Int32)) * (16 : Int32))) := zl_27_284 v
theorem zl_33_285 (v : Nat → Int32) : dp_len (dq_285 v) 33 = (Int32.toNatClampNeg (dq_h (v 2) (20 : Int32))) := zl_33_284 v
theorem zl_34_285 (v : Nat → Int32) : dp_len (dq_285 v) 34 = (Int32.toNatClampNeg (dq_h (v 2) (20 : Int32))) := zl_34_284 v
theorem zl_35_285 (v : Nat → Int32) : dp_len (dq_285 v) 35 = (Int32.toNatClampNeg (dq_h (v 2) (20 : Int32))) := zl_35_284 v
theorem zl_36_285 (v : Nat → Int32) : dp_len (dq_285 v) 36 = (Int32.toNatClampNeg ((dq_h (v 2) (20 : Int32)) * (dq_h (v 3) (8 : Int32)))) := zl_36_284 v
theorem zi_286 (v : Nat → Int32) (k i : Nat) : dp_I (dq_286 v) k i = sF_13 v k i := sz_n (dqn_285 v) (zi_285 v) (fun _ => rfl) k i
theorem zj_286 (v : Nat → Int32) (k i : Nat) : dp_J (dq_286 v) k i = 0 := sz_nJ (zj_285 v) k i
theorem zr_286 (v : Nat → Int32) (i : Nat) : dp_R (dq_286 v) 59 i = none := sz_nR (zr_285 v) i
theorem zl_25_286 (v : Nat → Int32) : dp_len (dq_286 v) 25 = (Int32.toNatClampNeg (dq_h (v 0) (12 : Int32))) := sz_nL (dqn_285 v) (by decide) (zl_25_285 v)
theorem zl_26_286 (v : Nat → Int32) : dp_len (dq_286 v) 26 = (Int32.toNatClampNeg (dq_h (v 0) (12 : Int32))) := sz_nL (dqn_285 v) (by decide) (zl_26_285 v)
theorem zl_27_286 (v : Nat → Int32) : dp_len (dq_286 v) 27 = (Int32.toNatClampNeg ((dq_h (v 0) (12 : Int32)) * (16 : Int32))) := sz_nL (dqn_285 v) (by decide) (zl_27_285 v)
theorem zl_33_286 (v : Nat → Int32) : dp_len (dq_286 v) 33 = (Int32.toNatClampNeg (dq_h (v 2) (20 : Int32))) := sz_nL (dqn_285 v) (by decide) (zl_33_285 v)
theorem zl_34_286 (v : Nat → Int32) : dp_len (dq_286 v) 34 = (Int32.toNatClampNeg (dq_h (v 2) (20 : Int32))) := sz_nL (dqn_285 v) (by decide) (zl_34_285 v)
theorem zl_35_286 (v : Nat → Int32) : dp_len (dq_286 v) 35 = (Int32.toNatClampNeg (dq_h (v 2) (20 : Int32))) := sz_nL (dqn_285 v) (by decide) (zl_35_285 v)
theorem zl_36_286 (v : Nat → Int32) : dp_len (dq_286 v) 36 = (Int32.toNatClampNeg ((dq_h (v 2) (20 : Int32)) * (dq_h (v 3) (8 : Int32)))) := sz_nL (dqn_285 v) (by decide) (zl_36_285 v)
theorem zi_287 (v : Nat → Int32) (k i : Nat) : dp_I (dq_287 v) k i = sF_13 v k i := zi_286 v k i
theorem zj_287 (v : Nat → Int32) (k i : Nat) : dp_J (dq_287 v) k i = 0 := zj_286 v k i
theorem zr_287 (v : Nat → Int32) (i : Nat) : dp_R (dq_287 v) 59 i = none := sz_rR (by decide) (zr_286 v) i
theorem zl_25_287 (v : Nat → Int32) : dp_len (dq_287 v) 25 = (Int32.toNatClampNeg (dq_h (v 0) (12 : Int32))) := zl_25_286 v
theorem zl_26_287 (v : Nat → Int32) : dp_len (dq_287 v) 26 = (Int32.toNatClampNeg (dq_h (v 0) (12 : Int32))) := zl_26_286 v
theorem zl_27_287 (v : Nat → Int32) : dp_len (dq_287 v) 27 = (Int32.toNatClampNeg ((dq_h (v 0) (12 : Int32)) * (16 : Int32))) := zl_27_286 v
theorem zl_33_287 (v : Nat → Int32) : dp_len (dq_287 v) 33 = (Int32.toNatClampNeg (dq_h (v 2) (20 : Int32))) := zl_33_286 v
theorem zl_34_287 (v : Nat → Int32) : dp_len (dq_287 v) 34 = (Int32.toNatClampNeg (dq_h (v 2) (20 : Int32))) := zl_34_286 v
theorem zl_35_287 (v : Nat → Int32) : dp_len (dq_287 v) 35 = (Int32.toNatClampNeg (dq_h (v 2) (20 : Int32))) := zl_35_286 v
theorem zl_36_287 (v : Nat → Int32) : dp_len (dq_287 v) 36 = (Int32.toNatClampNeg ((dq_h (v 2) (20 : Int32)) * (dq_h (v 3) (8 : Int32)))) := zl_36_286 v
theorem zi_288 (v : Nat → Int32) (k i : Nat) : dp_I (dq_288 v) k i = sF_13 v k i := sz_n (dqn_287 v) (zi_287 v) (fun _ => rfl) k i
theorem zj_288 (v : Nat → Int32) (k i : Nat) : dp_J (dq_288 v) k i = 0 := sz_nJ (zj_287 v) k i
theorem zr_288 (v : Nat → Int32) (i : Nat) : dp_R (dq_288 v) 59 i = none := sz_nR (zr_287 v) i
theorem zl_25_288 (v : Nat → Int32) : dp_len (dq_288 v) 25 = (Int32.toNatClampNeg (dq_h (v 0) (12 : Int32))) := sz_nL (dqn_287 v) (by decide) (zl_25_287 v)
theorem zl_26_288 (v : Nat → Int32) : dp_len (dq_288 v) 26 = (Int32.toNatClampNeg (dq_h (v 0) (12 : Int32))) := sz_nL (dqn_287 v) (by decide) (zl_26_287 v)
theorem zl_27_288 (v : Nat → Int32) : dp_len (dq_288 v) 27 = (Int32.toNatClampNeg ((dq_h (v 0) (12 : Int32)) * (16 : Int32))) := sz_nL (dqn_287 v) (by decide) (zl_27_287 v)
theorem zl_33_288 (v : Nat → Int32) : dp_len (dq_288 v) 33 = (Int32.toNatClampNeg (dq_h (v 2) (20 : Int32))) := sz_nL (dqn_287 v) (by decide) (zl_33_287 v)
theorem zl_34_288 (v : Nat → Int32) : dp_len (dq_288 v) 34 = (Int32.toNatClampNeg (dq_h (v 2) (20 : Int32))) := sz_nL (dqn_287 v) (by decide) (zl_34_287 v)
theorem zl_35_288 (v : Nat → Int32) : dp_len (dq_288 v) 35 = (Int32.toNatClampNeg (dq_h (v 2) (20 : Int32))) := sz_nL (dqn_287 v) (by decide) (zl_35_287 v)
theorem zl_36_288 (v : Nat → Int32) : dp_len (dq_288 v) 36 = (Int32.toNatClampNeg ((dq_h (v 2) (20 : Int32)) * (dq_h (v 3) (8 : Int32)))) := sz_nL (dqn_287 v) (by decide) (zl_36_287 v)
theorem zi_289 (v : Nat → Int32) (k i : Nat) : dp_I (dq_289 v) k i = sF_13 v k i := zi_288 v k i
theorem zj_289 (v : Nat → Int32) (k i : Nat) : dp_J (dq_289 v) k i = 0 := zj_288 v k i
theorem zr_289 (v : Nat → Int32) (i : Nat) : dp_R (dq_289 v) 59 i = none := sz_rR (by decide) (zr_288 v) i
theorem zl_25_289 (v : Nat → Int32) : dp_len (dq_289 v) 25 = (Int32.toNatClampNeg (dq_h (v 0) (12 : Int32))) := zl_25_288 v
theorem zl_26_289 (v : Nat → Int32) : dp_len (dq_289 v) 26 = (Int32.toNatClampNeg (dq_h (v 0) (12 : Int32))) := zl_26_288 v
theorem zl_27_289 (v : Nat → Int32) : dp_len (dq_289 v) 27 = (Int32.toNatClampNeg ((dq_h (v 0) (12 : Int32)) * (16 : Int32))) := zl_27_288 v
theorem zl_33_289 (v : Nat → Int32) : dp_len (dq_289 v) 33 = (Int32.toNatClampNeg (dq_h (v 2) (20 : Int32))) := zl_33_288 v
theorem zl_34_289 (v : Nat → Int32) : dp_len (dq_289 v) 34 = (Int32.toNatClampNeg (dq_h (v 2) (20 : Int32))) := zl_34_288 v
theorem zl_35_289 (v : Nat → Int32) : dp_len (dq_289 v) 35 = (Int32.toNatClampNeg (dq_h (v 2) (20 : Int32))) := zl_35_288 v
theorem zl_36_289 (v : Nat → Int32) : dp_len (dq_289 v) 36 = (Int32.toNatClampNeg ((dq_h (v 2) (20 : Int32)) * (dq_h (v 3) (8 : Int32)))) := zl_36_288 v
theorem zi_290 (v : Nat → Int32) (k i : Nat) : dp_I (dq_290 v) k i = sF_13 v k i := sz_n (dqn_289 v) (zi_289 v) (fun _ => rfl) k i
theorem zj_290 (v : Nat → Int32) (k i : Nat) : dp_J (dq_290 v) k i = 0 := sz_nJ (zj_289 v) k i
theorem zr_290 (v : Nat → Int32) (i : Nat) : dp_R (dq_290 v) 59 i = none := sz_nR (zr_289 v) i
theorem zl_25_290 (v : Nat → Int32) : dp_len (dq_290 v) 25 = (Int32.toNatClampNeg (dq_h (v 0) (12 : Int32))) := sz_nL (dqn_289 v) (by decide) (zl_25_289 v)
theorem zl_26_290 (v : Nat → Int32) : dp_len (dq_290 v) 26 = (Int32.toNatClampNeg (dq_h (v 0) (12 : Int32))) := sz_nL (dqn_289 v) (by decide) (zl_26_289 v)
theorem zl_27_290 (v : Nat → Int32) : dp_len (dq_290 v) 27 = (Int32.toNatClampNeg ((dq_h (v 0) (12 : Int32)) * (16 : Int32))) := sz_nL (dqn_289 v) (by decide) (zl_27_289 v)
theorem zl_33_290 (v : Nat → Int32) : dp_len (dq_290 v) 33 = (Int32.toNatClampNeg (dq_h (v 2) (20 : Int32))) := sz_nL (dqn_289 v) (by decide) (zl_33_289 v)
theorem zl_34_290 (v : Nat → Int32) : dp_len (dq_290 v) 34 = (Int32.toNatClampNeg (dq_h (v 2) (20 : Int32))) := sz_nL (dqn_289 v) (by decide) (zl_34_289 v)
theorem zl_35_290 (v : Nat → Int32) : dp_len (dq_290 v) 35 = (Int32.toNatClampNeg (dq_h (v 2) (20 : Int32))) := sz_nL (dqn_289 v) (by decide) (zl_35_289 v)
theorem zl_36_290 (v : Nat → Int32) : dp_len (dq_290 v) 36 = (Int32.toNatClampNeg ((dq_h (v 2) (20 : Int32)) * (dq_h (v 3) (8 : Int32)))) := sz_nL (dqn_289 v) (by decide) (zl_36_289 v)
theorem zi_291 (v : Nat → Int32) (k i : Nat) : dp_I (dq_291 v) k i = sF_13 v k i := zi_290 v k i
theorem zj_291 (v : Nat → Int32) (k i : Nat) : dp_J (dq_291 v) k i = 0 := zj_290 v k i
theorem zr_291 (v : Nat → Int32) (i : Nat) : dp_R (dq_291 v) 59 i = none := sz_rR (by decide) (zr_290 v) i
theorem zl_25_291 (v : Nat → Int32) : dp_len (dq_291 v) 25 = (Int32.toNatClampNeg (dq_h (v 0) (12 : Int32))) := zl_25_290 v
theorem zl_26_291 (v : Nat → Int32) : dp_len (dq_291 v) 26 = (Int32.toNatClampNeg (dq_h (v 0) (12 : Int32))) := zl_26_290 v
theorem zl_27_291 (v : Nat → Int32) : dp_len (dq_291 v) 27 = (Int32.toNatClampNeg ((dq_h (v 0) (12 : Int32)) * (16 : Int32))) := zl_27_290 v
theorem zl_33_291 (v : Nat → Int32) : dp_len (dq_291 v) 33 = (Int32.toNatClampNeg (dq_h (v 2) (20 : Int32))) := zl_33_290 v
theorem zl_34_291 (v : Nat → Int32) : dp_len (dq_291 v) 34 = (Int32.toNatClampNeg (dq_h (v 2) (20 : Int32))) := zl_34_290 v
theorem zl_35_291 (v : Nat → Int32) : dp_len (dq_291 v) 35 = (Int32.toNatClampNeg (dq_h (v 2) (20 : Int32))) := zl_35_290 v
theorem zl_36_291 (v : Nat → Int32) : dp_len (dq_291 v) 36 = (Int32.toNatClampNeg ((dq_h (v 2) (20 : Int32)) * (dq_h (v 3) (8 : Int32)))) := zl_36_290 v
theorem zi_292 (v : Nat → Int32) (k i : Nat) : dp_I (dq_292 v) k i = sF_13 v k i := sz_n (dqn_291 v) (zi_291 v) (fun _ => rfl) k i
theorem zj_292 (v : Nat → Int32) (k i : Nat) : dp_J (dq_292 v) k i = 0 := sz_nJ (zj_291 v) k i
theorem zr_292 (v : Nat → Int32) (i : Nat) : dp_R (dq_292 v) 59 i = none := sz_nR (zr_291 v) i
theorem zl_25_292 (v : Nat → Int32) : dp_len (dq_292 v) 25 = (Int32.toNatClampNeg (dq_h (v 0) (12 : Int32))) := sz_nL (dqn_291 v) (by decide) (zl_25_291 v)
theorem zl_26_292 (v : Nat → Int32) : dp_len (dq_292 v) 26 = (Int32.toNatClampNeg (dq_h (v 0) (12 : Int32))) := sz_nL (dqn_291 v) (by decide) (zl_26_291 v)
theorem zl_27_292 (v : Nat → Int32) : dp_len (dq_292 v) 27 = (Int32.toNatClampNeg ((dq_h (v 0) (12 : Int32)) * (16 : Int32))) := sz_nL (dqn_291 v) (by decide) (zl_27_291 v)
theorem zl_33_292 (v : Nat → Int32) : dp_len (dq_292 v) 33 = (Int32.toNatClampNeg (dq_h (v 2) (20 : Int32))) := sz_nL (dqn_291 v) (by decide) (zl_33_291 v)
theorem zl_34_292 (v : Nat → Int32) : dp_len (dq_292 v) 34 = (Int32.toNatClampNeg (dq_h (v 2) (20 : Int32))) := sz_nL (dqn_291 v) (by decide) (zl_34_291 v)
theorem zl_35_292 (v : Nat → Int32) : dp_len (dq_292 v) 35 = (Int32.toNatClampNeg (dq_h (v 2) (20 : Int32))) := sz_nL (dqn_291 v) (by decide) (zl_35_291 v)
theorem zl_36_292 (v : Nat → Int32) : dp_len (dq_292 v) 36 = (Int32.toNatClampNeg ((dq_h (v 2) (20 : Int32)) * (dq_h (v 3) (8 : Int32)))) := sz_nL (dqn_291 v) (by decide) (zl_36_291 v)
theorem zi_293 (v : Nat → Int32) (k i : Nat) : dp_I (dq_293 v) k i = sF_13 v k i := zi_292 v k i
theorem zj_293 (v : Nat → Int32) (k i : Nat) : dp_J (dq_293 v) k i = 0 := zj_292 v k i
theorem zr_293 (v : Nat → Int32) (i : Nat) : dp_R (dq_293 v) 59 i = none := sz_rR (by decide) (zr_292 v) i
theorem zl_25_293 (v : Nat → Int32) : dp_len (dq_293 v) 25 = (Int32.toNatClampNeg (dq_h (v 0) (12 : Int32))) := zl_25_292 v
theorem zl_26_293 (v : Nat → Int32) : dp_len (dq_293 v) 26 = (Int32.toNatClampNeg (dq_h (v 0) (12 : Int32))) := zl_26_292 v
theorem zl_27_293 (v : Nat → Int32) : dp_len (dq_293 v) 27 = (Int32.toNatClampNeg ((dq_h (v 0) (12 : Int32)) * (16 : Int32))) := zl_27_292 v
theorem zl_33_293 (v : Nat → Int32) : dp_len (dq_293 v) 33 = (Int32.toNatClampNeg (dq_h (v 2) (20 : Int32))) := zl_33_292 v
theorem zl_34_293 (v : Nat → Int32) : dp_len (dq_293 v) 34 = (Int32.toNatClampNeg (dq_h (v 2) (20 : Int32))) := zl_34_292 v
theorem zl_35_293 (v : Nat → Int32) : dp_len (dq_293 v) 35 = (Int32.toNatClampNeg (dq_h (v 2) (20 : Int32))) := zl_35_292 v
theorem zl_36_293 (v : Nat → Int32) : dp_len (dq_293 v) 36 = (Int32.toNatClampNeg ((dq_h (v 2) (20 : Int32)) * (dq_h (v 3) (8 : Int32)))) := zl_36_292 v
theorem zi_294 (v : Nat → Int32) (k i : Nat) : dp_I (dq_294 v) k i = sF_13 v k i := sz_n (dqn_293 v) (zi_293 v) (fun _ => rfl) k i
theorem zj_294 (v : Nat → Int32) (k i : Nat) : dp_J (dq_294 v) k i = 0 := sz_nJ (zj_293 v) k i
theorem zr_294 (v : Nat → Int32) (i : Nat) : dp_R (dq_294 v) 59 i = none := sz_nR (zr_293 v) i
theorem zl_25_294 (v : Nat → Int32) : dp_len (dq_294 v) 25 = (Int32.toNatClampNeg (dq_h (v 0) (12 : Int32))) := sz_nL (dqn_293 v) (by decide) (zl_25_293 v)
theorem zl_26_294 (v : Nat → Int32) : dp_len (dq_294 v) 26 = (Int32.toNatClampNeg (dq_h (v 0) (12 : Int32))) := sz_nL (dqn_293 v) (by decide) (zl_26_293 v)
theorem zl_27_294 (v : Nat → Int32) : dp_len (dq_294 v) 27 = (Int32.toNatClampNeg ((dq_h (v 0) (12 : Int32)) * (16 : Int32))) := sz_nL (dqn_293 v) (by decide) (zl_27_293 v)
theorem zl_33_294 (v : Nat → Int32) : dp_len (dq_294 v) 33 = (Int32.toNatClampNeg (dq_h (v 2) (20 : Int32))) := sz_nL (dqn_293 v) (by decide) (zl_33_293 v)
theorem zl_34_294 (v : Nat → Int32) : dp_len (dq_294 v) 34 = (Int32.toNatClampNeg (dq_h (v 2) (20 : Int32))) := sz_nL (dqn_293 v) (by decide) (zl_34_293 v)
theorem zl_35_294 (v : Nat → Int32) : dp_len (dq_294 v) 35 = (Int32.toNatClampNeg (dq_h (v 2) (20 : Int32))) := sz_nL (dqn_293 v) (by decide) (zl_35_293 v)
theorem zl_36_294 (v : Nat → Int32) : dp_len (dq_294 v) 36 = (Int32.toNatClampNeg ((dq_h (v 2) (20 : Int32)) * (dq_h (v 3) (8 : Int32)))) := sz_nL (dqn_293 v) (by decide) (zl_36_293 v)
theorem zi_295 (v : Nat → Int32) (k i : Nat) : dp_I (dq_295 v) k i = sF_13 v k i := zi_294 v k i
theorem zj_295 (v : Nat → Int32) (k i : Nat) : dp_J (dq_295 v) k i = 0 := zj_294 v k i
theorem zr_295 (v : Nat → Int32) (i : Nat) : dp_R (dq_295 v) 59 i = none := sz_rR (by decide) (zr_294 v) i
theorem zl_25_295 (v : Nat → Int32) : dp_len (dq_295 v) 25 = (Int32.toNatClampNeg (dq_h (v 0) (12 : Int32))) := zl_25_294 v
theorem zl_26_295 (v : Nat → Int32) : dp_len (dq_295 v) 26 = (Int32.toNatClampNeg (dq_h (v 0) (12 : Int32))) := zl_26_294 v
theorem zl_27_295 (v : Nat → Int32) : dp_len (dq_295 v) 27 = (Int32.toNatClampNeg ((dq_h (v 0) (12 : Int32)) * (16 : Int32))) := zl_27_294 v
theorem zl_33_295 (v : Nat → Int32) : dp_len (dq_295 v) 33 = (Int32.toNatClampNeg (dq_h (v 2) (20 : Int32))) := zl_33_294 v
theorem zl_34_295 (v : Nat → Int32) : dp_len (dq_295 v) 34 = (Int32.toNatClampNeg (dq_h (v 2) (20 : Int32))) := zl_34_294 v
theorem zl_35_295 (v : Nat → Int32) : dp_len (dq_295 v) 35 = (Int32.toNatClampNeg (dq_h (v 2) (20 : Int32))) := zl_35_294 v
theorem zl_36_295 (v : Nat → Int32) : dp_len (dq_295 v) 36 = (Int32.toNatClampNeg ((dq_h (v 2) (20 : Int32)) * (dq_h (v 3) (8 : Int32)))) := zl_36_294 v
theorem zi_296 (v : Nat → Int32) (k i : Nat) : dp_I (dq_296 v) k i = sF_13 v k i := sz_n (dqn_295 v) (zi_295 v) (fun _ => rfl) k i
theorem zj_296 (v : Nat → Int32) (k i : Nat) : dp_J (dq_296 v) k i = 0 := sz_nJ (zj_295 v) k i
theorem zr_296 (v : Nat → Int32) (i : Nat) : dp_R (dq_296 v) 59 i = none := sz_nR (zr_295 v) i
theorem zl_25_296 (v : Nat → Int32) : dp_len (dq_296 v) 25 = (Int32.toNatClampNeg (dq_h (v 0) (12 : Int32))) := sz_nL (dqn_295 v) (by decide) (zl_25_295 v)
theorem zl_26_296 (v : Nat → Int32) : dp_len (dq_296 v) 26 = (Int32.toNatClampNeg (dq_h (v 0) (12 : Int32))) := sz_nL (dqn_295 v) (by decide) (zl_26_295 v)
theorem zl_27_296 (v : Nat → Int32) : dp_len (dq_296 v) 27 = (Int32.toNatClampNeg ((dq_h (v 0) (12 : Int32)) * (16 : Int32))) := sz_nL (dqn_295 v) (by decide) (zl_27_295 v)
theorem zl_33_296 (v : Nat → Int32) : dp_len (dq_296 v) 33 = (Int32.toNatClampNeg (dq_h (v 2) (20 : Int32))) := sz_nL (dqn_295 v) (by decide) (zl_33_295 v)
theorem zl_34_296 (v : Nat → Int32) : dp_len (dq_296 v) 34 = (Int32.toNatClampNeg (dq_h (v 2) (20 : Int32))) := sz_nL (dqn_295 v) (by decide) (zl_34_295 v)
theorem zl_35_296 (v : Nat → Int32) : dp_len (dq_296 v) 35 = (Int32.toNatClampNeg (dq_h (v 2) (20 : Int32))) := sz_nL (dqn_295 v) (by decide) (zl_35_295 v)
theorem zl_36_296 (v : Nat → Int32) : dp_len (dq_296 v) 36 = (Int32.toNatClampNeg ((dq_h (v 2) (20 : Int32)) * (dq_h (v 3) (8 : Int32)))) := sz_nL (dqn_295 v) (by decide) (zl_36_295 v)
theorem zi_297 (v : Nat → Int32) (k i : Nat) : dp_I (dq_297 v) k i = sF_13 v k i := zi_296 v k i
theorem zj_297 (v : Nat → Int32) (k i : Nat) : dp_J (dq_297 v) k i = 0 := zj_296 v k i
theorem zr_297 (v : Nat → Int32) (i : Nat) : dp_R (dq_297 v) 59 i = none := sz_rR (by decide) (zr_296 v) i
theorem zl_25_297 (v : Nat → Int32) : dp_len (dq_297 v) 25 = (Int32.toNatClampNeg (dq_h (v 0) (12 : Int32))) := zl_25_296 v
theorem zl_26_297 (v : Nat → Int32) : dp_len (dq_297 v) 26 = (Int32.toNatClampNeg (dq_h (v 0) (12 : Int32))) := zl_26_296 v
theorem zl_27_297 (v : Nat → Int32) : dp_len (dq_297 v) 27 = (Int32.toNatClampNeg ((dq_h (v 0) (12 : Int32)) * (16 : Int32))) := zl_27_296 v
theorem zl_33_297 (v : Nat → Int32) : dp_len (dq_297 v) 33 = (Int32.toNatClampNeg (dq_h (v 2) (20 : Int32))) := zl_33_296 v
theorem zl_34_297 (v : Nat → Int32) : dp_len (dq_297 v) 34 = (Int32.toNatClampNeg (dq_h (v 2) (20 : Int32))) := zl_34_296 v
theorem zl_35_297 (v : Nat → Int32) : dp_len (dq_297 v) 35 = (Int32.toNatClampNeg (dq_h (v 2) (20 : Int32))) := zl_35_296 v
theorem zl_36_297 (v : Nat → Int32) : dp_len (dq_297 v) 36 = (Int32.toNatClampNeg ((dq_h (v 2) (20 : Int32)) * (dq_h (v 3) (8 : Int32)))) := zl_36_296 v
theorem zi_298 (v : Nat → Int32) (k i : Nat) : dp_I (dq_298 v) k i = sF_13 v k i := sz_n (dqn_297 v) (zi_297 v) (fun _ => rfl) k i
theorem zj_298 (v : Nat → Int32) (k i : Nat) : dp_J (dq_298 v) k i = 0 := sz_nJ (zj_297 v) k i
theorem zr_298 (v : Nat → Int32) (i : Nat) : dp_R (dq_298 v) 59 i = none := sz_nR (zr_297 v) i
theorem zl_25_298 (v : Nat → Int32) : dp_len (dq_298 v) 25 = (Int32.toNatClampNeg (dq_h (v 0) (12 : Int32))) := sz_nL (dqn_297 v) (by decide) (zl_25_297 v)
theorem zl_26_298 (v : Nat → Int32) : dp_len (dq_298 v) 26 = (Int32.toNatClampNeg (dq_h (v 0) (12 : Int32))) := sz_nL (dqn_297 v) (by decide) (zl_26_297 v)
theorem zl_27_298 (v : Nat → Int32) : dp_len (dq_298 v) 27 = (Int32.toNatClampNeg ((dq_h (v 0) (12 : Int32)) * (16 : Int32))) := sz_nL (dqn_297 v) (by decide) (zl_27_297 v)
theorem zl_33_298 (v : Nat → Int32) : dp_len (dq_298 v) 33 = (Int32.toNatClampNeg (dq_h (v 2) (20 : Int32))) := sz_nL (dqn_297 v) (by decide) (zl_33_297 v)
theorem zl_34_298 (v : Nat → Int32) : dp_len (dq_298 v) 34 = (Int32.toNatClampNeg (dq_h (v 2) (20 : Int32))) := sz_nL (dqn_297 v) (by decide) (zl_34_297 v)
theorem zl_35_298 (v : Nat → Int32) : dp_len (dq_298 v) 35 = (Int32.toNatClampNeg (dq_h (v 2) (20 : Int32))) := sz_nL (dqn_297 v) (by decide) (zl_35_297 v)
theorem zl_36_298 (v : Nat → Int32) : dp_len (dq_298 v) 36 = (Int32.toNatClampNeg ((dq_h (v 2) (20 : Int32)) * (dq_h (v 3) (8 : Int32)))) := sz_nL (dqn_297 v) (by decide) (zl_36_297 v)
theorem zi_299 (v : Nat → Int32) (k i : Nat) : dp_I (dq_299 v) k i = sF_13 v k i := zi_298 v k i
theorem zj_299 (v : Nat → Int32) (k i : Nat) : dp_J (dq_299 v) k i = 0 := zj_298 v k i
theorem zr_299 (v : Nat → Int32) (i : Nat) : dp_R (dq_299 v) 59 i = none := sz_rR (by decide) (zr_298 v) i
theorem zl_25_299 (v : Nat → Int32) : dp_len (dq_299 v) 25 = (Int32.toNatClampNeg (dq_h (v 0) (12 : Int32))) := zl_25_298 v
theorem zl_26_299 (v : Nat → Int32) : dp_len (dq_299 v) 26 = (Int32.toNatClampNeg (dq_h (v 0) (12 : Int32))) := zl_26_298 v
theorem zl_27_299 (v : Nat → Int32) : dp_len (dq_299 v) 27 = (Int32.toNatClampNeg ((dq_h (v 0) (12 : Int32)) * (16 : Int32))) := zl_27_298 v
theorem zl_33_299 (v : Nat → Int32) : dp_len (dq_299 v) 33 = (Int32.toNatClampNeg (dq_h (v 2) (20 : Int32))) := zl_33_298 v
theorem zl_34_299 (v : Nat → Int32) : dp_len (dq_299 v) 34 = (Int32.toNatClampNeg (dq_h (v 2) (20 : Int32))) := zl_34_298 v
theorem zl_35_299 (v : Nat → Int32) : dp_len (dq_299 v) 35 = (Int32.toNatClampNeg (dq_h (v 2) (20 : Int32))) := zl_35_298 v
theorem zl_36_299 (v : Nat → Int32) : dp_len (dq_299 v) 36 = (Int32.toNatClampNeg ((dq_h (v 2) (20 : Int32)) * (dq_h (v 3) (8 : Int32)))) := zl_36_298 v
theorem zi_300 (v : Nat → Int32) (k i : Nat) : dp_I (dq_300 v) k i = sF_13 v k i := sz_n (dqn_299 v) (zi_299 v) (fun _ => rfl) k i
theorem zj_300 (v : Nat → Int32) (k i : Nat) : dp_J (dq_300 v) k i = 0 := sz_nJ (zj_299 v) k i
theorem zr_300 (v : Nat → Int32) (i : Nat) : dp_R (dq_300 v) 59 i = none := sz_nR (zr_299 v) i
theorem zl_25_300 (v : Nat → Int32) : dp_len (dq_300 v) 25 = (Int32.toNatClampNeg (dq_h (v 0) (12 : Int32))) := sz_nL (dqn_299 v) (by decide) (zl_25_299 v)
theorem zl_26_300 (v : Nat → Int32) : dp_len (dq_300 v) 26 = (Int32.toNatClampNeg (dq_h (v 0) (12 : Int32))) := sz_nL (dqn_299 v) (by decide) (zl_26_299 v)
theorem zl_27_300 (v : Nat → Int32) : dp_len (dq_300 v) 27 = (Int32.toNatClampNeg ((dq_h (v 0) (12 : Int32)) * (16 : Int32))) := sz_nL (dqn_299 v) (by decide) (zl_27_299 v)
theorem zl_33_300 (v : Nat → Int32) : dp_len (dq_300 v) 33 = (Int32.toNatClampNeg (dq_h (v 2) (20 : Int32))) := sz_nL (dqn_299 v) (by decide) (zl_33_299 v)
theorem zl_34_300 (v : Nat → Int32) : dp_len (dq_300 v) 34 = (Int32.toNatClampNeg (dq_h (v 2) (20 : Int32))) := sz_nL (dqn_299 v) (by decide) (zl_34_299 v)
theorem zl_35_300 (v : Nat → Int32) : dp_len (dq_300 v) 35 = (Int32.toNatClampNeg (dq_h (v 2) (20 : Int32))) := sz_nL (dqn_299 v) (by decide) (zl_35_299 v)
theorem zl_36_300 (v : Nat → Int32) : dp_len (dq_300 v) 36 = (Int32.toNatClampNeg ((dq_h (v 2) (20 : Int32)) * (dq_h (v 3) (8 : Int32)))) := sz_nL (dqn_299 v) (by decide) (zl_36_299 v)
theorem zi_301 (v : Nat → Int32) (k i : Nat) : dp_I (dq_301 v) k i = sF_13 v k i := zi_300 v k i
theorem zj_301 (v : Nat → Int32) (k i : Nat) : dp_J (dq_301 v) k i = 0 := zj_300 v k i
theorem zr_301 (v : Nat → Int32) (i : Nat) : dp_R (dq_301 v) 59 i = none := sz_rR (by decide) (zr_300 v) i
theorem zl_25_301 (v : Nat → Int32) : dp_len (dq_301 v) 25 = (Int32.toNatClampNeg (dq_h (v 0) (12 : Int32))) := zl_25_300 v
theorem zl_26_301 (v : Nat → Int32) : dp_len (dq_301 v) 26 = (Int32.toNatClampNeg (dq_h (v 0) (12 : Int32))) := zl_26_300 v
theorem zl_27_301 (v : Nat → Int32) : dp_len (dq_301 v) 27 = (Int32.toNatClampNeg ((dq_h (v 0) (12 : Int32)) * (16 : Int32))) := zl_27_300 v
theorem zl_33_301 (v : Nat → Int32) : dp_len (dq_301 v) 33 = (Int32.toNatClampNeg (dq_h (v 2) (20 : Int32))) := zl_33_300 v
theorem zl_34_301 (v : Nat → Int32) : dp_len (dq_301 v) 34 = (Int32.toNatClampNeg (dq_h (v 2) (20 : Int32))) := zl_34_300 v
theorem zl_35_301 (v : Nat → Int32) : dp_len (dq_301 v) 35 = (Int32.toNatClampNeg (dq_h (v 2) (20 : Int32))) := zl_35_300 v
theorem zl_36_301 (v : Nat → Int32) : dp_len (dq_301 v) 36 = (Int32.toNatClampNeg ((dq_h (v 2) (20 : Int32)) * (dq_h (v 3) (8 : Int32)))) := zl_36_300 v
theorem zi_302 (v : Nat → Int32) (k i : Nat) : dp_I (dq_302 v) k i = sF_13 v k i := sz_n (dqn_301 v) (zi_301 v) (fun _ => rfl) k i
theorem zj_302 (v : Nat → Int32) (k i : Nat) : dp_J (dq_302 v) k i = 0 := sz_nJ (zj_301 v) k i
theorem zr_302 (v : Nat → Int32) (i : Nat) : dp_R (dq_302 v) 59 i = none := sz_nR (zr_301 v) i
theorem zl_25_302 (v : Nat → Int32) : dp_len (dq_302 v) 25 = (Int32.toNatClampNeg (dq_h (v 0) (12 : Int32))) := sz_nL (dqn_301 v) (by decide) (zl_25_301 v)
theorem zl_26_302 (v : Nat → Int32) : dp_len (dq_302 v) 26 = (Int32.toNatClampNeg (dq_h (v 0) (12 : Int32))) := sz_nL (dqn_301 v) (by decide) (zl_26_301 v)
theorem zl_27_302 (v : Nat → Int32) : dp_len (dq_302 v) 27 = (Int32.toNatClampNeg ((dq_h (v 0) (12 : Int32)) * (16 : Int32))) := sz_nL (dqn_301 v) (by decide) (zl_27_301 v)
theorem zl_33_302 (v : Nat → Int32) : dp_len (dq_302 v) 33 = (Int32.toNatClampNeg (dq_h (v 2) (20 : Int32))) := sz_nL (dqn_301 v) (by decide) (zl_33_301 v)
theorem zl_34_302 (v : Nat → Int32) : dp_len (dq_302 v) 34 = (Int32.toNatClampNeg (dq_h (v 2) (20 : Int32))) := sz_nL (dqn_301 v) (by decide) (zl_34_301 v)
theorem zl_35_302 (v : Nat → Int32) : dp_len (dq_302 v) 35 = (Int32.toNatClampNeg (dq_h (v 2) (20 : Int32))) := sz_nL (dqn_301 v) (by decide) (zl_35_301 v)
theorem zl_36_302 (v : Nat → Int32) : dp_len (dq_302 v) 36 = (Int32.toNatClampNeg ((dq_h (v 2) (20 : Int32)) * (dq_h (v 3) (8 : Int32)))) := sz_nL (dqn_301 v) (by decide) (zl_36_301 v)
theorem zi_303 (v : Nat → Int32) (k i : Nat) : dp_I (dq_303 v) k i = sF_13 v k i := zi_302 v k i
theorem zj_303 (v : Nat → Int32) (k i : Nat) : dp_J (dq_303 v) k i = 0 := zj_302 v k i
theorem zr_303 (v : Nat → Int32) (i : Nat) : dp_R (dq_303 v) 59 i = none := sz_rR (by decide) (zr_302 v) i
theorem zl_25_303 (v : Nat → Int32) : dp_len (dq_303 v) 25 = (Int32.toNatClampNeg (dq_h (v 0) (12 : Int32))) := zl_25_302 v
theorem zl_26_303 (v : Nat → Int32) : dp_len (dq_303 v) 26 = (Int32.toNatClampNeg (dq_h (v 0) (12 : Int32))) := zl_26_302 v
theorem zl_27_303 (v : Nat → Int32) : dp_len (dq_303 v) 27 = (Int32.toNatClampNeg ((dq_h (v 0) (12 : Int32)) * (16 : Int32))) := zl_27_302 v
theorem zl_33_303 (v : Nat → Int32) : dp_len (dq_303 v) 33 = (Int32.toNatClampNeg (dq_h (v 2) (20 : Int32))) := zl_33_302 v
theorem zl_34_303 (v : Nat → Int32) : dp_len (dq_303 v) 34 = (Int32.toNatClampNeg (dq_h (v 2) (20 : Int32))) := zl_34_302 v
theorem zl_35_303 (v : Nat → Int32) : dp_len (dq_303 v) 35 = (Int32.toNatClampNeg (dq_h (v 2) (20 : Int32))) := zl_35_302 v
theorem zl_36_303 (v : Nat → Int32) : dp_len (dq_303 v) 36 = (Int32.toNatClampNeg ((dq_h (v 2) (20 : Int32)) * (dq_h (v 3) (8 : Int32)))) := zl_36_302 v
theorem zi_304 (v : Nat → Int32) (k i : Nat) : dp_I (dq_304 v) k i = sF_13 v k i := sz_n (dqn_303 v) (zi_303 v) (fun _ => rfl) k i
theorem zj_304 (v : Nat → Int32) (k i : Nat) : dp_J (dq_304 v) k i = 0 := sz_nJ (zj_303 v) k i
theorem zr_304 (v : Nat → Int32) (i : Nat) : dp_R (dq_304 v) 59 i = none := sz_nR (zr_303 v) i
theorem zl_25_304 (v : Nat → Int32) : dp_len (dq_304 v) 25 = (Int32.toNatClampNeg (dq_h (v 0) (12 : Int32))) := sz_nL (dqn_303 v) (by decide) (zl_25_303 v)
theorem zl_26_304 (v : Nat → Int32) : dp_len (dq_304 v) 26 = (Int32.toNatClampNeg (dq_h (v 0) (12 : Int32))) := sz_nL (dqn_303 v) (by decide) (zl_26_303 v)
theorem zl_27_304 (v : Nat → Int32) : dp_len (dq_304 v) 27 = (Int32.toNatClampNeg ((dq_h (v 0) (12 : Int32)) * (16 : Int32))) := sz_nL (dqn_303 v) (by decide) (zl_27_303 v)
theorem zl_33_304 (v : Nat → Int32) : dp_len (dq_304 v) 33 = (Int32.toNatClampNeg (dq_h (v 2) (20 : Int32))) := sz_nL (dqn_303 v) (by decide) (zl_33_303 v)
theorem zl_34_304 (v : Nat → Int32) : dp_len (dq_304 v) 34 = (Int32.toNatClampNeg (dq_h (v 2) (20 : Int32))) := sz_nL (dqn_303 v) (by decide) (zl_34_303 v)
theorem zl_35_304 (v : Nat → Int32) : dp_len (dq_304 v) 35 = (Int32.toNatClampNeg (dq_h (v 2) (20 : Int32))) := sz_nL (dqn_303 v) (by decide) (zl_35_303 v)
theorem zl_36_304 (v : Nat → Int32) : dp_len (dq_304 v) 36 = (Int32.toNatClampNeg ((dq_h (v 2) (20 : Int32)) * (dq_h (v 3) (8 : Int32)))) := sz_nL (dqn_303 v) (by decide) (zl_36_303 v)
theorem zi_305 (v : Nat → Int32) (k i : Nat) : dp_I (dq_305 v) k i = sF_13 v k i := zi_304 v k i
theorem zj_305 (v : Nat → Int32) (k i : Nat) : dp_J (dq_305 v) k i = 0 := zj_304 v k i
theorem zr_305 (v : Nat → Int32) (i : Nat) : dp_R (dq_305 v) 59 i = none := sz_rR (by decide) (zr_304 v) i
theorem zl_25_305 (v : Nat → Int32) : dp_len (dq_305 v) 25 = (Int32.toNatClampNeg (dq_h (v 0) (12 : Int32))) := zl_25_304 v
theorem zl_26_305 (v : Nat → Int32) : dp_len (dq_305 v) 26 = (Int32.toNatClampNeg (dq_h (v 0) (12 : Int32))) := zl_26_304 v
theorem zl_27_305 (v : Nat → Int32) : dp_len (dq_305 v) 27 = (Int32.toNatClampNeg ((dq_h (v 0) (12 : Int32)) * (16 : Int32))) := zl_27_304 v
theorem zl_33_305 (v : Nat → Int32) : dp_len (dq_305 v) 33 = (Int32.toNatClampNeg (dq_h (v 2) (20 : Int32))) := zl_33_304 v
theorem zl_34_305 (v : Nat → Int32) : dp_len (dq_305 v) 34 = (Int32.toNatClampNeg (dq_h (v 2) (20 : Int32))) := zl_34_304 v
theorem zl_35_305 (v : Nat → Int32) : dp_len (dq_305 v) 35 = (Int32.toNatClampNeg (dq_h (v 2) (20 : Int32))) := zl_35_304 v
theorem zl_36_305 (v : Nat → Int32) : dp_len (dq_305 v) 36 = (Int32.toNatClampNeg ((dq_h (v 2) (20 : Int32)) * (dq_h (v 3) (8 : Int32)))) := zl_36_304 v
theorem zi_306 (v : Nat → Int32) (k i : Nat) : dp_I (dq_306 v) k i = sF_13 v k i := sz_n (dqn_305 v) (zi_305 v) (fun _ => rfl) k i
theorem zj_306 (v : Nat → Int32) (k i : Nat) : dp_J (dq_306 v) k i = 0 := sz_nJ (zj_305 v) k i
theorem zr_306 (v : Nat → Int32) (i : Nat) : dp_R (dq_306 v) 59 i = none := sz_nR (zr_305 v) i
theorem zl_25_306 (v : Nat → Int32) : dp_len (dq_306 v) 25 = (Int32.toNatClampNeg (dq_h (v 0) (12 : Int32))) := sz_nL (dqn_305 v) (by decide) (zl_25_305 v)
theorem zl_26_306 (v : Nat → Int32) : dp_len (dq_306 v) 26 = (Int32.toNatClampNeg (dq_h (v 0) (12 : Int32))) := sz_nL (dqn_305 v) (by decide) (zl_26_305 v)
theorem zl_27_306 (v : Nat → Int32) : dp_len (dq_306 v) 27 = (Int32.toNatClampNeg ((dq_h (v 0) (12 : Int32)) * (16 : Int32))) := sz_nL (dqn_305 v) (by decide) (zl_27_305 v)
theorem zl_33_306 (v : Nat → Int32) : dp_len (dq_306 v) 33 = (Int32.toNatClampNeg (dq_h (v 2) (20 : Int32))) := sz_nL (dqn_305 v) (by decide) (zl_33_305 v)
theorem zl_34_306 (v : Nat → Int32) : dp_len (dq_306 v) 34 = (Int32.toNatClampNeg (dq_h (v 2) (20 : Int32))) := sz_nL (dqn_305 v) (by decide) (zl_34_305 v)
theorem zl_35_306 (v : Nat → Int32) : dp_len (dq_306 v) 35 = (Int32.toNatClampNeg (dq_h (v 2) (20 : Int32))) := sz_nL (dqn_305 v) (by decide) (zl_35_305 v)
theorem zl_36_306 (v : Nat → Int32) : dp_len (dq_306 v) 36 = (Int32.toNatClampNeg ((dq_h (v 2) (20 : Int32)) * (dq_h (v 3) (8 : Int32)))) := sz_nL (dqn_305 v) (by decide) (zl_36_305 v)
theorem zi_307 (v : Nat → Int32) (k i : Nat) : dp_I (dq_307 v) k i = sF_13 v k i := zi_306 v k i
theorem zj_307 (v : Nat → Int32) (k i : Nat) : dp_J (dq_307 v) k i = 0 := zj_306 v k i
theorem zr_307 (v : Nat → Int32) (i : Nat) : dp_R (dq_307 v) 59 i = none := sz_rR (by decide) (zr_306 v) i
theorem zl_25_307 (v : Nat → Int32) : dp_len (dq_307 v) 25 = (Int32.toNatClampNeg (dq_h (v 0) (12 : Int32))) := zl_25_306 v
theorem zl_26_307 (v : Nat → Int32) : dp_len (dq_307 v) 26 = (Int32.toNatClampNeg (dq_h (v 0) (12 : Int32))) := zl_26_306 v
theorem zl_27_307 (v : Nat → Int32) : dp_len (dq_307 v) 27 = (Int32.toNatClampNeg ((dq_h (v 0) (12 : Int32)) * (16 : Int32))) := zl_27_306 v
theorem zl_33_307 (v : Nat → Int32) : dp_len (dq_307 v) 33 = (Int32.toNatClampNeg (dq_h (v 2) (20 : Int32))) := zl_33_306 v
theorem zl_34_307 (v : Nat → Int32) : dp_len (dq_307 v) 34 = (Int32.toNatClampNeg (dq_h (v 2) (20 : Int32))) := zl_34_306 v
theorem zl_35_307 (v : Nat → Int32) : dp_len (dq_307 v) 35 = (Int32.toNatClampNeg (dq_h (v 2) (20 : Int32))) := zl_35_306 v
theorem zl_36_307 (v : Nat → Int32) : dp_len (dq_307 v) 36 = (Int32.toNatClampNeg ((dq_h (v 2) (20 : Int32)) * (dq_h (v 3) (8 : Int32)))) := zl_36_306 v
theorem zi_308 (v : Nat → Int32) (k i : Nat) : dp_I (dq_308 v) k i = sF_13 v k i := sz_n (dqn_307 v) (zi_307 v) (fun _ => rfl) k i
theorem zj_308 (v : Nat → Int32) (k i : Nat) : dp_J (dq_308 v) k i = 0 := sz_nJ (zj_307 v) k i
theorem zr_308 (v : Nat → Int32) (i : Nat) : dp_R (dq_308 v) 59 i = none := sz_nR (zr_307 v) i
theorem zl_25_308 (v : Nat → Int32) : dp_len (dq_308 v) 25 = (Int32.toNatClampNeg (dq_h (v 0) (12 : Int32))) := sz_nL (dqn_307 v) (by decide) (zl_25_307 v)
theorem zl_26_308 (v : Nat → Int32) : dp_len (dq_308 v) 26 = (Int32.toNatClampNeg (dq_h (v 0) (12 : Int32))) := sz_nL (dqn_307 v) (by decide) (zl_26_307 v)
theorem zl_27_308 (v : Nat → Int32) : dp_len (dq_308 v) 27 = (Int32.toNatClampNeg ((dq_h (v 0) (12 : Int32)) * (16 : Int32))) := sz_nL (dqn_307 v) (by decide) (zl_27_307 v)
theorem zl_33_308 (v : Nat → Int32) : dp_len (dq_308 v) 33 = (Int32.toNatClampNeg (dq_h (v 2) (20 : Int32))) := sz_nL (dqn_307 v) (by decide) (zl_33_307 v)
theorem zl_34_308 (v : Nat → Int32) : dp_len (dq_308 v) 34 = (Int32.toNatClampNeg (dq_h (v 2) (20 : Int32))) := sz_nL (dqn_307 v) (by decide) (zl_34_307 v)
theorem zl_35_308 (v : Nat → Int32) : dp_len (dq_308 v) 35 = (Int32.toNatClampNeg (dq_h (v 2) (20 : Int32))) := sz_nL (dqn_307 v) (by decide) (zl_35_307 v)
theorem zl_36_308 (v : Nat → Int32) : dp_len (dq_308 v) 36 = (Int32.toNatClampNeg ((dq_h (v 2) (20 : Int32)) * (dq_h (v 3) (8 : Int32)))) := sz_nL (dqn_307 v) (by decide) (zl_36_307 v)
theorem zi_309 (v : Nat → Int32) (k i : Nat) : dp_I (dq_309 v) k i = sF_13 v k i := zi_308 v k i
theorem zj_309 (v : Nat → Int32) (k i : Nat) : dp_J (dq_309 v) k i = 0 := zj_308 v k i
theorem zr_309 (v : Nat → Int32) (i : Nat) : dp_R (dq_309 v) 59 i = none := sz_rR (by decide) (zr_308 v) i
theorem zl_25_309 (v : Nat → Int32) : dp_len (dq_309 v) 25 = (Int32.toNatClampNeg (dq_h (v 0) (12 : Int32))) := zl_25_308 v
theorem zl_26_309 (v : Nat → Int32) : dp_len (dq_309 v) 26 = (Int32.toNatClampNeg (dq_h (v 0) (12 : Int32))) := zl_26_308 v
theorem zl_27_309 (v : Nat → Int32) : dp_len (dq_309 v) 27 = (Int32.toNatClampNeg ((dq_h (v 0) (12 : Int32)) * (16 : Int32))) := zl_27_308 v
theorem zl_33_309 (v : Nat → Int32) : dp_len (dq_309 v) 33 = (Int32.toNatClampNeg (dq_h (v 2) (20 : Int32))) := zl_33_308 v
theorem zl_34_309 (v : Nat → Int32) : dp_len (dq_309 v) 34 = (Int32.toNatClampNeg (dq_h (v 2) (20 : Int32))) := zl_34_308 v
theorem zl_35_309 (v : Nat → Int32) : dp_len (dq_309 v) 35 = (Int32.toNatClampNeg (dq_h (v 2) (20 : Int32))) := zl_35_308 v
theorem zl_36_309 (v : Nat → Int32) : dp_len (dq_309 v) 36 = (Int32.toNatClampNeg ((dq_h (v 2) (20 : Int32)) * (dq_h (v 3) (8 : Int32)))) := zl_36_308 v
theorem zi_310 (v : Nat → Int32) (k i : Nat) : dp_I (dq_310 v) k i = sF_13 v k i := sz_n (dqn_309 v) (zi_309 v) (fun _ => rfl) k i
theorem zj_310 (v : Nat → Int32) (k i : Nat) : dp_J (dq_310 v) k i = 0 := sz_nJ (zj_309 v) k i
theorem zr_310 (v : Nat → Int32) (i : Nat) : dp_R (dq_310 v) 59 i = none := sz_nR (zr_309 v) i
theorem zl_25_310 (v : Nat → Int32) : dp_len (dq_310 v) 25 = (Int32.toNatClampNeg (dq_h (v 0) (12 : Int32))) := sz_nL (dqn_309 v) (by decide) (zl_25_309 v)
theorem zl_26_310 (v : Nat → Int32) : dp_len (dq_310 v) 26 = (Int32.toNatClampNeg (dq_h (v 0) (12 : Int32))) := sz_nL (dqn_309 v) (by decide) (zl_26_309 v)
theorem zl_27_310 (v : Nat → Int32) : dp_len (dq_310 v) 27 = (Int32.toNatClampNeg ((dq_h (v 0) (12 : Int32)) * (16 : Int32))) := sz_nL (dqn_309 v) (by decide) (zl_27_309 v)
theorem zl_33_310 (v : Nat → Int32) : dp_len (dq_310 v) 33 = (Int32.toNatClampNeg (dq_h (v 2) (20 : Int32))) := sz_nL (dqn_309 v) (by decide) (zl_33_309 v)
theorem zl_34_310 (v : Nat → Int32) : dp_len (dq_310 v) 34 = (Int32.toNatClampNeg (dq_h (v 2) (20 : Int32))) := sz_nL (dqn_309 v) (by decide) (zl_34_309 v)
theorem zl_35_310 (v : Nat → Int32) : dp_len (dq_310 v) 35 = (Int32.toNatClampNeg (dq_h (v 2) (20 : Int32))) := sz_nL (dqn_309 v) (by decide) (zl_35_309 v)
theorem zl_36_310 (v : Nat → Int32) : dp_len (dq_310 v) 36 = (Int32.toNatClampNeg ((dq_h (v 2) (20 : Int32)) * (dq_h (v 3) (8 : Int32)))) := sz_nL (dqn_309 v) (by decide) (zl_36_309 v)
theorem zi_311 (v : Nat → Int32) (k i : Nat) : dp_I (dq_311 v) k i = sF_13 v k i := zi_310 v k i
theorem zj_311 (v : Nat → Int32) (k i : Nat) : dp_J (dq_311 v) k i = 0 := zj_310 v k i
theorem zr_311 (v : Nat → Int32) (i : Nat) : dp_R (dq_311 v) 59 i = none := sz_rR (by decide) (zr_310 v) i
theorem zl_25_311 (v : Nat → Int32) : dp_len (dq_311 v) 25 = (Int32.toNatClampNeg (dq_h (v 0) (12 : Int32))) := zl_25_310 v
theorem zl_26_311 (v : Nat → Int32) : dp_len (dq_311 v) 26 = (Int32.toNatClampNeg (dq_h (v 0) (12 : Int32))) := zl_26_310 v
theorem zl_27_311 (v : Nat → Int32) : dp_len (dq_311 v) 27 = (Int32.toNatClampNeg ((dq_h (v 0) (12 : Int32)) * (16 : Int32))) := zl_27_310 v
theorem zl_33_311 (v : Nat → Int32) : dp_len (dq_311 v) 33 = (Int32.toNatClampNeg (dq_h (v 2) (20 : Int32))) := zl_33_310 v
theorem zl_34_311 (v : Nat → Int32) : dp_len (dq_311 v) 34 = (Int32.toNatClampNeg (dq_h (v 2) (20 : Int32))) := zl_34_310 v
theorem zl_35_311 (v : Nat → Int32) : dp_len (dq_311 v) 35 = (Int32.toNatClampNeg (dq_h (v 2) (20 : Int32))) := zl_35_310 v
theorem zl_36_311 (v : Nat → Int32) : dp_len (dq_311 v) 36 = (Int32.toNatClampNeg ((dq_h (v 2) (20 : Int32)) * (dq_h (v 3) (8 : Int32)))) := zl_36_310 v
theorem zi_312 (v : Nat → Int32) (k i : Nat) : dp_I (dq_312 v) k i = sF_13 v k i := sz_n (dqn_311 v) (zi_311 v) (fun _ => rfl) k i
theorem zj_312 (v : Nat → Int32) (k i : Nat) : dp_J (dq_312 v) k i = 0 := sz_nJ (zj_311 v) k i
theorem zr_312 (v : Nat → Int32) (i : Nat) : dp_R (dq_312 v) 59 i = none := sz_nR (zr_311 v) i
theorem zl_25_312 (v : Nat → Int32) : dp_len (dq_312 v) 25 = (Int32.toNatClampNeg (dq_h (v 0) (12 : Int32))) := sz_nL (dqn_311 v) (by decide) (zl_25_311 v)
theorem zl_26_312 (v : Nat → Int32) : dp_len (dq_312 v) 26 = (Int32.toNatClampNeg (dq_h (v 0) (12 : Int32))) := sz_nL (dqn_311 v) (by decide) (zl_26_311 v)
theorem zl_27_312 (v : Nat → Int32) : dp_len (dq_312 v) 27 = (Int32.toNatClampNeg ((dq_h (v 0) (12 : Int32)) * (16 : Int32))) := sz_nL (dqn_311 v) (by decide) (zl_27_311 v)
theorem zl_33_312 (v : Nat → Int32) : dp_len (dq_312 v) 33 = (Int32.toNatClampNeg (dq_h (v 2) (20 : Int32))) := sz_nL (dqn_311 v) (by decide) (zl_33_311 v)
theorem zl_34_312 (v : Nat → Int32) : dp_len (dq_312 v) 34 = (Int32.toNatClampNeg (dq_h (v 2) (20 : Int32))) := sz_nL (dqn_311 v) (by decide) (zl_34_311 v)
theorem zl_35_312 (v : Nat → Int32) : dp_len (dq_312 v) 35 = (Int32.toNatClampNeg (dq_h (v 2) (20 : Int32))) := sz_nL (dqn_311 v) (by decide) (zl_35_311 v)
theorem zl_36_312 (v : Nat → Int32) : dp_len (dq_312 v) 36 = (Int32.toNatClampNeg ((dq_h (v 2) (20 : Int32)) * (dq_h (v 3) (8 : Int32)))) := sz_nL (dqn_311 v) (by decide) (zl_36_311 v)
theorem zi_313 (v : Nat → Int32) (k i : Nat) : dp_I (dq_313 v) k i = sF_13 v k i := zi_312 v k i
theorem zj_313 (v : Nat → Int32) (k i : Nat) : dp_J (dq_313 v) k i = 0 := zj_312 v k i
theorem zr_313 (v : Nat → Int32) (i : Nat) : dp_R (dq_313 v) 59 i = none := sz_rR (by decide) (zr_312 v) i
theorem zl_25_313 (v : Nat → Int32) : dp_len (dq_313 v) 25 = (Int32.toNatClampNeg (dq_h (v 0) (12 : Int32))) := zl_25_312 v
theorem zl_26_313 (v : Nat → Int32) : dp_len (dq_313 v) 26 = (Int32.toNatClampNeg (dq_h (v 0) (12 : Int32))) := zl_26_312 v
theorem zl_27_313 (v : Nat → Int32) : dp_len (dq_313 v) 27 = (Int32.toNatClampNeg ((dq_h (v 0) (12 : Int32)) * (16 : Int32))) := zl_27_312 v
theorem zl_33_313 (v : Nat → Int32) : dp_len (dq_313 v) 33 = (Int32.toNatClampNeg (dq_h (v 2) (20 : Int32))) := zl_33_312 v
theorem zl_34_313 (v : Nat → Int32) : dp_len (dq_313 v) 34 = (Int32.toNatClampNeg (dq_h (v 2) (20 : Int32))) := zl_34_312 v
theorem zl_35_313 (v : Nat → Int32) : dp_len (dq_313 v) 35 = (Int32.toNatClampNeg (dq_h (v 2) (20 : Int32))) := zl_35_312 v
theorem zl_36_313 (v : Nat → Int32) : dp_len (dq_313 v) 36 = (Int32.toNatClampNeg ((dq_h (v 2) (20 : Int32)) * (dq_h (v 3) (8 : Int32)))) := zl_36_312 v
theorem zi_314 (v : Nat → Int32) (k i : Nat) : dp_I (dq_314 v) k i = sF_13 v k i := sz_n (dqn_313 v) (zi_313 v) (fun _ => rfl) k i
theorem zj_314 (v : Nat → Int32) (k i : Nat) : dp_J (dq_314 v) k i = 0 := sz_nJ (zj_313 v) k i
theorem zr_314 (v : Nat → Int32) (i : Nat) : dp_R (dq_314 v) 59 i = none := sz_nR (zr_313 v) i
theorem zl_25_314 (v : Nat → Int32) : dp_len (dq_314 v) 25 = (Int32.toNatClampNeg (dq_h (v 0) (12 : Int32))) := sz_nL (dqn_313 v) (by decide) (zl_25_313 v)
theorem zl_26_314 (v : Nat → Int32) : dp_len (dq_314 v) 26 = (Int32.toNatClampNeg (dq_h (v 0) (12 : Int32))) := sz_nL (dqn_313 v) (by decide) (zl_26_313 v)
theorem zl_27_314 (v : Nat → Int32) : dp_len (dq_314 v) 27 = (Int32.toNatClampNeg ((dq_h (v 0) (12 : Int32)) * (16 : Int32))) := sz_nL (dqn_313 v) (by decide) (zl_27_313 v)
theorem zl_33_314 (v : Nat → Int32) : dp_len (dq_314 v) 33 = (Int32.toNatClampNeg (dq_h (v 2) (20 : Int32))) := sz_nL (dqn_313 v) (by decide) (zl_33_313 v)
theorem zl_34_314 (v : Nat → Int32) : dp_len (dq_314 v) 34 = (Int32.toNatClampNeg (dq_h (v 2) (20 : Int32))) := sz_nL (dqn_313 v) (by decide) (zl_34_313 v)
theorem zl_35_314 (v : Nat → Int32) : dp_len (dq_314 v) 35 = (Int32.toNatClampNeg (dq_h (v 2) (20 : Int32))) := sz_nL (dqn_313 v) (by decide) (zl_35_313 v)
theorem zl_36_314 (v : Nat → Int32) : dp_len (dq_314 v) 36 = (Int32.toNatClampNeg ((dq_h (v 2) (20 : Int32)) * (dq_h (v 3) (8 : Int32)))) := sz_nL (dqn_313 v) (by decide) (zl_36_313 v)
theorem zi_315 (v : Nat → Int32) (k i : Nat) : dp_I (dq_315 v) k i = sF_13 v k i := zi_314 v k i
theorem zj_315 (v : Nat → Int32) (k i : Nat) : dp_J (dq_315 v) k i = 0 := zj_314 v k i
theorem zr_315 (v : Nat → Int32) (i : Nat) : dp_R (dq_315 v) 59 i = none := sz_rR (by decide) (zr_314 v) i
theorem zl_25_315 (v : Nat → Int32) : dp_len (dq_315 v) 25 = (Int32.toNatClampNeg (dq_h (v 0) (12 : Int32))) := zl_25_314 v
theorem zl_26_315 (v : Nat → Int32) : dp_len (dq_315 v) 26 = (Int32.toNatClampNeg (dq_h (v 0) (12 : Int32))) := zl_26_314 v
theorem zl_27_315 (v : Nat → Int32) : dp_len (dq_315 v) 27 = (Int32.toNatClampNeg ((dq_h (v 0) (12 : Int32)) * (16 : Int32))) := zl_27_314 v
theorem zl_33_315 (v : Nat → Int32) : dp_len (dq_315 v) 33 = (Int32.toNatClampNeg (dq_h (v 2) (20 : Int32))) := zl_33_314 v
theorem zl_34_315 (v : Nat → Int32) : dp_len (dq_315 v) 34 = (Int32.toNatClampNeg (dq_h (v 2) (20 : Int32))) := zl_34_314 v
theorem zl_35_315 (v : Nat → Int32) : dp_len (dq_315 v) 35 = (Int32.toNatClampNeg (dq_h (v 2) (20 : Int32))) := zl_35_314 v
theorem zl_36_315 (v : Nat → Int32) : dp_len (dq_315 v) 36 = (Int32.toNatClampNeg ((dq_h (v 2) (20 : Int32)) * (dq_h (v 3) (8 : Int32)))) := zl_36_314 v
theorem zi_316 (v : Nat → Int32) (k i : Nat) : dp_I (dq_316 v) k i = sF_13 v k i := sz_n (dqn_315 v) (zi_315 v) (fun _ => rfl) k i
theorem zj_316 (v : Nat → Int32) (k i : Nat) : dp_J (dq_316 v) k i = 0 := sz_nJ (zj_315 v) k i
theorem zr_316 (v : Nat → Int32) (i : Nat) : dp_R (dq_316 v) 59 i = none := sz_nR (zr_315 v) i
theorem zl_25_316 (v : Nat → Int32) : dp_len (dq_316 v) 25 = (Int32.toNatClampNeg (dq_h (v 0) (12 : Int32))) := sz_nL (dqn_315 v) (by decide) (zl_25_315 v)
theorem zl_26_316 (v : Nat → Int32) : dp_len (dq_316 v) 26 = (Int32.toNatClampNeg (dq_h (v 0) (12 : Int32))) := sz_nL (dqn_315 v) (by decide) (zl_26_315 v)
theorem zl_27_316 (v : Nat → Int32) : dp_len (dq_316 v) 27 = (Int32.toNatClampNeg ((dq_h (v 0) (12 : Int32)) * (16 : Int32))) := sz_nL (dqn_315 v) (by decide) (zl_27_315 v)
theorem zl_33_316 (v : Nat → Int32) : dp_len (dq_316 v) 33 = (Int32.toNatClampNeg (dq_h (v 2) (20 : Int32))) := sz_nL (dqn_315 v) (by decide) (zl_33_315 v)
theorem zl_34_316 (v : Nat → Int32) : dp_len (dq_316 v) 34 = (Int32.toNatClampNeg (dq_h (v 2) (20 : Int32))) := sz_nL (dqn_315 v) (by decide) (zl_34_315 v)
theorem zl_35_316 (v : Nat → Int32) : dp_len (dq_316 v) 35 = (Int32.toNatClampNeg (dq_h (v 2) (20 : Int32))) := sz_nL (dqn_315 v) (by decide) (zl_35_315 v)
theorem zl_36_316 (v : Nat → Int32) : dp_len (dq_316 v) 36 = (Int32.toNatClampNeg ((dq_h (v 2) (20 : Int32)) * (dq_h (v 3) (8 : Int32)))) := sz_nL (dqn_315 v) (by decide) (zl_36_315 v)
theorem zi_317 (v : Nat → Int32) (k i : Nat) : dp_I (dq_317 v) k i = sF_13 v k i := zi_316 v k i
theorem zj_317 (v : Nat → Int32) (k i : Nat) : dp_J (dq_317 v) k i = 0 := zj_316 v k i
theorem zr_317 (v : Nat → Int32) (i : Nat) : dp_R (dq_317 v) 59 i = none := sz_rR (by decide) (zr_316 v) i
theorem zl_25_317 (v : Nat → Int32) : dp_len (dq_317 v) 25 = (Int32.toNatClampNeg (dq_h (v 0) (12 : Int32))) := zl_25_316 v
theorem zl_26_317 (v : Nat → Int32) : dp_len (dq_317 v) 26 = (Int32.toNatClampNeg (dq_h (v 0) (12 : Int32))) := zl_26_316 v
theorem zl_27_317 (v : Nat → Int32) : dp_len (dq_317 v) 27 = (Int32.toNatClampNeg ((dq_h (v 0) (12 : Int32)) * (16 : Int32))) := zl_27_316 v
theorem zl_33_317 (v : Nat → Int32) : dp_len (dq_317 v) 33 = (Int32.toNatClampNeg (dq_h (v 2) (20 : Int32))) := zl_33_316 v
theorem zl_34_317 (v : Nat → Int32) : dp_len (dq_317 v) 34 = (Int32.toNatClampNeg (dq_h (v 2) (20 : Int32))) := zl_34_316 v
theorem zl_35_317 (v : Nat → Int32) : dp_len (dq_317 v) 35 = (Int32.toNatClampNeg (dq_h (v 2) (20 : Int32))) := zl_35_316 v
theorem zl_36_317 (v : Nat → Int32) : dp_len (dq_317 v) 36 = (Int32.toNatClampNeg ((dq_h (v 2) (20 : Int32)) * (dq_h (v 3) (8 : Int32)))) := zl_36_316 v
theorem zi_318 (v : Nat → Int32) (k i : Nat) : dp_I (dq_318 v) k i = sF_13 v k i := sz_n (dqn_317 v) (zi_317 v) (fun _ => rfl) k i
theorem zj_318 (v : Nat → Int32) (k i : Nat) : dp_J (dq_318 v) k i = 0 := sz_nJ (zj_317 v) k i
theorem zr_318 (v : Nat → Int32) (i : Nat) : dp_R (dq_318 v) 59 i = none := sz_nR (zr_317 v) i
theorem zl_25_318 (v : Nat → Int32) : dp_len (dq_318 v) 25 = (Int32.toNatClampNeg (dq_h (v 0) (12 : Int32))) := sz_nL (dqn_317 v) (by decide) (zl_25_317 v)
theorem zl_26_318 (v : Nat → Int32) : dp_len (dq_318 v) 26 = (Int32.toNatClampNeg (dq_h (v 0) (12 : Int32))) := sz_nL (dqn_317 v) (by decide) (zl_26_317 v)
theorem zl_27_318 (v : Nat → Int32) : dp_len (dq_318 v) 27 = (Int32.toNatClampNeg ((dq_h (v 0) (12 : Int32)) * (16 : Int32))) := sz_nL (dqn_317 v) (by decide) (zl_27_317 v)
theorem zl_33_318 (v : Nat → Int32) : dp_len (dq_318 v) 33 = (Int32.toNatClampNeg (dq_h (v 2) (20 : Int32))) := sz_nL (dqn_317 v) (by decide) (zl_33_317 v)
theorem zl_34_318 (v : Nat → Int32) : dp_len (dq_318 v) 34 = (Int32.toNatClampNeg (dq_h (v 2) (20 : Int32))) := sz_nL (dqn_317 v) (by decide) (zl_34_317 v)
theorem zl_35_318 (v : Nat → Int32) : dp_len (dq_318 v) 35 = (Int32.toNatClampNeg (dq_h (v 2) (20 : Int32))) := sz_nL (dqn_317 v) (by decide) (zl_35_317 v)
theorem zl_36_318 (v : Nat → Int32) : dp_len (dq_318 v) 36 = (Int32.toNatClampNeg ((dq_h (v 2) (20 : Int32)) * (dq_h (v 3) (8 : Int32)))) := sz_nL (dqn_317 v) (by decide) (zl_36_317 v)
theorem zi_319 (v : Nat → Int32) (k i : Nat) : dp_I (dq_319 v) k i = sF_13 v k i := zi_318 v k i
theorem zj_319 (v : Nat → Int32) (k i : Nat) : dp_J (dq_319 v) k i = 0 := zj_318 v k i
theorem zr_319 (v : Nat → Int32) (i : Nat) : dp_R (dq_319 v) 59 i = none := sz_rR (by decide) (zr_318 v) i
theorem zl_25_319 (v : Nat → Int32) : dp_len (dq_319 v) 25 = (Int32.toNatClampNeg (dq_h (v 0) (12 : Int32))) := zl_25_318 v
theorem zl_26_319 (v : Nat → Int32) : dp_len (dq_319 v) 26 = (Int32.toNatClampNeg (dq_h (v 0) (12 : Int32))) := zl_26_318 v
theorem zl_27_319 (v : Nat → Int32) : dp_len (dq_319 v) 27 = (Int32.toNatClampNeg ((dq_h (v 0) (12 : Int32)) * (16 : Int32))) := zl_27_318 v
theorem zl_33_319 (v : Nat → Int32) : dp_len (dq_319 v) 33 = (Int32.toNatClampNeg (dq_h (v 2) (20 : Int32))) := zl_33_318 v
theorem zl_34_319 (v : Nat → Int32) : dp_len (dq_319 v) 34 = (Int32.toNatClampNeg (dq_h (v 2) (20 : Int32))) := zl_34_318 v
theorem zl_35_319 (v : Nat → Int32) : dp_len (dq_319 v) 35 = (Int32.toNatClampNeg (dq_h (v 2) (20 : Int32))) := zl_35_318 v
theorem zl_36_319 (v : Nat → Int32) : dp_len (dq_319 v) 36 = (Int32.toNatClampNeg ((dq_h (v 2) (20 : Int32)) * (dq_h (v 3) (8 : Int32)))) := zl_36_318 v
theorem zi_320 (v : Nat → Int32) (k i : Nat) : dp_I (dq_320 v) k i = sF_13 v k i := sz_n (dqn_319 v) (zi_319 v) (fun _ => rfl) k i
theorem zj_320 (v : Nat → Int32) (k i : Nat) : dp_J (dq_320 v) k i = 0 := sz_nJ (zj_319 v) k i
theorem zr_320 (v : Nat → Int32) (i : Nat) : dp_R (dq_320 v) 59 i = none := sz_nR (zr_319 v) i
theorem zl_25_320 (v : Nat → Int32) : dp_len (dq_320 v) 25 = (Int32.toNatClampNeg (dq_h (v 0) (12 : Int32))) := sz_nL (dqn_319 v) (by decide) (zl_25_319 v)
theorem zl_26_320 (v : Nat → Int32) : dp_len (dq_320 v) 26 = (Int32.toNatClampNeg (dq_h (v 0) (12 : Int32))) := sz_nL (dqn_319 v) (by decide) (zl_26_319 v)
theorem zl_27_320 (v : Nat → Int32) : dp_len (dq_320 v) 27 = (Int32.toNatClampNeg ((dq_h (v 0) (12 : Int32)) * (16 : Int32))) := sz_nL (dqn_319 v) (by decide) (zl_27_319 v)
theorem zl_33_320 (v : Nat → Int32) : dp_len (dq_320 v) 33 = (Int32.toNatClampNeg (dq_h (v 2) (20 : Int32))) := sz_nL (dqn_319 v) (by decide) (zl_33_319 v)
theorem zl_34_320 (v : Nat → Int32) : dp_len (dq_320 v) 34 = (Int32.toNatClampNeg (dq_h (v 2) (20 : Int32))) := sz_nL (dqn_319 v) (by decide) (zl_34_319 v)
theorem zl_35_320 (v : Nat → Int32) : dp_len (dq_320 v) 35 = (Int32.toNatClampNeg (dq_h (v 2) (20 : Int32))) := sz_nL (dqn_319 v) (by decide) (zl_35_319 v)
theorem zl_36_320 (v : Nat → Int32) : dp_len (dq_320 v) 36 = (Int32.toNatClampNeg ((dq_h (v 2) (20 : Int32)) * (dq_h (v 3) (8 : Int32)))) := sz_nL (dqn_319 v) (by decide) (zl_36_319 v)
theorem zi_321 (v : Nat → Int32) (k i : Nat) : dp_I (dq_321 v) k i = sF_13 v k i := zi_320 v k i
theorem zj_321 (v : Nat → Int32) (k i : Nat) : dp_J (dq_321 v) k i = 0 := zj_320 v k i
theorem zr_321 (v : Nat → Int32) (i : Nat) : dp_R (dq_321 v) 59 i = none := sz_rR (by decide) (zr_320 v) i
theorem zl_25_321 (v : Nat → Int32) : dp_len (dq_321 v) 25 = (Int32.toNatClampNeg (dq_h (v 0) (12 : Int32))) := zl_25_320 v
theorem zl_26_321 (v : Nat → Int32) : dp_len (dq_321 v) 26 = (Int32.toNatClampNeg (dq_h (v 0) (12 : Int32))) := zl_26_320 v
theorem zl_27_321 (v : Nat → Int32) : dp_len (dq_321 v) 27 = (Int32.toNatClampNeg ((dq_h (v 0) (12 : Int32)) * (16 : Int32))) := zl_27_320 v
theorem zl_33_321 (v : Nat → Int32) : dp_len (dq_321 v) 33 = (Int32.toNatClampNeg (dq_h (v 2) (20 : Int32))) := zl_33_320 v
theorem zl_34_321 (v : Nat → Int32) : dp_len (dq_321 v) 34 = (Int32.toNatClampNeg (dq_h (v 2) (20 : Int32))) := zl_34_320 v
theorem zl_35_321 (v : Nat → Int32) : dp_len (dq_321 v) 35 = (Int32.toNatClampNeg (dq_h (v 2) (20 : Int32))) := zl_35_320 v
theorem zl_36_321 (v : Nat → Int32) : dp_len (dq_321 v) 36 = (Int32.toNatClampNeg ((dq_h (v 2) (20 : Int32)) * (dq_h (v 3) (8 : Int32)))) := zl_36_320 v
theorem zi_322 (v : Nat → Int32) (k i : Nat) : dp_I (dq_322 v) k i = sF_13 v k i := sz_n (dqn_321 v) (zi_321 v) (fun _ => rfl) k i
theorem zj_322 (v : Nat → Int32) (k i : Nat) : dp_J (dq_322 v) k i = 0 := sz_nJ (zj_321 v) k i
theorem zr_322 (v : Nat → Int32) (i : Nat) : dp_R (dq_322 v) 59 i = none := sz_nR (zr_321 v) i
theorem zl_25_322 (v : Nat → Int32) : dp_len (dq_322 v) 25 = (Int32.toNatClampNeg (dq_h (v 0) (12 : Int32))) := sz_nL (dqn_321 v) (by decide) (zl_25_321 v)
theorem zl_26_322 (v : Nat → Int32) : dp_len (dq_322 v) 26 = (Int32.toNatClampNeg (dq_h (v 0) (12 : Int32))) := sz_nL (dqn_321 v) (by decide) (zl_26_321 v)
theorem zl_27_322 (v : Nat → Int32) : dp_len (dq_322 v) 27 = (Int32.toNatClampNeg ((dq_h (v 0) (12 : Int32)) * (16 : Int32))) := sz_nL (dqn_321 v) (by decide) (zl_27_321 v)
theorem zl_33_322 (v : Nat → Int32) : dp_len (dq_322 v) 33 = (Int32.toNatClampNeg (dq_h (v 2) (20 : Int32))) := sz_nL (dqn_321 v) (by decide) (zl_33_321 v)
theorem zl_34_322 (v : Nat → Int32) : dp_len (dq_322 v) 34 = (Int32.toNatClampNeg (dq_h (v 2) (20 : Int32))) := sz_nL (dqn_321 v) (by decide) (zl_34_321 v)
theorem zl_35_322 (v : Nat → Int32) : dp_len (dq_322 v) 35 = (Int32.toNatClampNeg (dq_h (v 2) (20 : Int32))) := sz_nL (dqn_321 v) (by decide) (zl_35_321 v)
theorem zl_36_322 (v : Nat → Int32) : dp_len (dq_322 v) 36 = (Int32.toNatClampNeg ((dq_h (v 2) (20 : Int32)) * (dq_h (v 3) (8 : Int32)))) := sz_nL (dqn_321 v) (by decide) (zl_36_321 v)
theorem zi_323 (v : Nat → Int32) (k i : Nat) : dp_I (dq_323 v) k i = sF_13 v k i := zi_322 v k i
theorem zj_323 (v : Nat → Int32) (k i : Nat) : dp_J (dq_323 v) k i = 0 := zj_322 v k i
theorem zr_323 (v : Nat → Int32) (i : Nat) : dp_R (dq_323 v) 59 i = none := sz_rR (by decide) (zr_322 v) i
theorem zl_25_323 (v : Nat → Int32) : dp_len (dq_323 v) 25 = (Int32.toNatClampNeg (dq_h (v 0) (12 : Int32))) := zl_25_322 v
theorem zl_26_323 (v : Nat → Int32) : dp_len (dq_323 v) 26 = (Int32.toNatClampNeg (dq_h (v 0) (12 : Int32))) := zl_26_322 v
theorem zl_27_323 (v : Nat → Int32) : dp_len (dq_323 v) 27 = (Int32.toNatClampNeg ((dq_h (v 0) (12 : Int32)) * (16 : Int32))) := zl_27_322 v
theorem zl_33_323 (v : Nat → Int32) : dp_len (dq_323 v) 33 = (Int32.toNatClampNeg (dq_h (v 2) (20 : Int32))) := zl_33_322 v
theorem zl_34_323 (v : Nat → Int32) : dp_len (dq_323 v) 34 = (Int32.toNatClampNeg (dq_h (v 2) (20 : Int32))) := zl_34_322 v
theorem zl_35_323 (v : Nat → Int32) : dp_len (dq_323 v) 35 = (Int32.toNatClampNeg (dq_h (v 2) (20 : Int32))) := zl_35_322 v
theorem zl_36_323 (v : Nat → Int32) : dp_len (dq_323 v) 36 = (Int32.toNatClampNeg ((dq_h (v 2) (20 : Int32)) * (dq_h (v 3) (8 : Int32)))) := zl_36_322 v
theorem zi_324 (v : Nat → Int32) (k i : Nat) : dp_I (dq_324 v) k i = sF_13 v k i := sz_n (dqn_323 v) (zi_323 v) (fun _ => rfl) k i
theorem zj_324 (v : Nat → Int32) (k i : Nat) : dp_J (dq_324 v) k i = 0 := sz_nJ (zj_323 v) k i
theorem zr_324 (v : Nat → Int32) (i : Nat) : dp_R (dq_324 v) 59 i = none := sz_nR (zr_323 v) i
theorem zl_25_324 (v : Nat → Int32) : dp_len (dq_324 v) 25 = (Int32.toNatClampNeg (dq_h (v 0) (12 : Int32))) := sz_nL (dqn_323 v) (by decide) (zl_25_323 v)
theorem zl_26_324 (v : Nat → Int32) : dp_len (dq_324 v) 26 = (Int32.toNatClampNeg (dq_h (v 0) (12 : Int32))) := sz_nL (dqn_323 v) (by decide) (zl_26_323 v)
theorem zl_27_324 (v : Nat → Int32) : dp_len (dq_324 v) 27 = (Int32.toNatClampNeg ((dq_h (v 0) (12 : Int32)) * (16 : Int32))) := sz_nL (dqn_323 v) (by decide) (zl_27_323 v)
theorem zl_33_324 (v : Nat → Int32) : dp_len (dq_324 v) 33 = (Int32.toNatClampNeg (dq_h (v 2) (20 : Int32))) := sz_nL (dqn_323 v) (by decide) (zl_33_323 v)
theorem zl_34_324 (v : Nat → Int32) : dp_len (dq_324 v) 34 = (Int32.toNatClampNeg (dq_h (v 2) (20 : Int32))) := sz_nL (dqn_323 v) (by decide) (zl_34_323 v)
theorem zl_35_324 (v : Nat → Int32) : dp_len (dq_324 v) 35 = (Int32.toNatClampNeg (dq_h (v 2) (20 : Int32))) := sz_nL (dqn_323 v) (by decide) (zl_35_323 v)
theorem zl_36_324 (v : Nat → Int32) : dp_len (dq_324 v) 36 = (Int32.toNatClampNeg ((dq_h (v 2) (20 : Int32)) * (dq_h (v 3) (8 : Int32)))) := sz_nL (dqn_323 v) (by decide) (zl_36_323 v)
theorem zi_325 (v : Nat → Int32) (k i : Nat) : dp_I (dq_325 v) k i = sF_13 v k i := zi_324 v k i
theorem zj_325 (v : Nat → Int32) (k i : Nat) : dp_J (dq_325 v) k i = 0 := zj_324 v k i
theorem zr_325 (v : Nat → Int32) (i : Nat) : dp_R (dq_325 v) 59 i = none := sz_rR (by decide) (zr_324 v) i
theorem zl_25_325 (v : Nat → Int32) : dp_len (dq_325 v) 25 = (Int32.toNatClampNeg (dq_h (v 0) (12 : Int32))) := zl_25_324 v
theorem zl_26_325 (v : Nat → Int32) : dp_len (dq_325 v) 26 = (Int32.toNatClampNeg (dq_h (v 0) (12 : Int32))) := zl_26_324 v
theorem zl_27_325 (v : Nat → Int32) : dp_len (dq_325 v) 27 = (Int32.toNatClampNeg ((dq_h (v 0) (12 : Int32)) * (16 : Int32))) := zl_27_324 v
theorem zl_33_325 (v : Nat → Int32) : dp_len (dq_325 v) 33 = (Int32.toNatClampNeg (dq_h (v 2) (20 : Int32))) := zl_33_324 v
theorem zl_34_325 (v : Nat → Int32) : dp_len (dq_325 v) 34 = (Int32.toNatClampNeg (dq_h (v 2) (20 : Int32))) := zl_34_324 v
theorem zl_35_325 (v : Nat → Int32) : dp_len (dq_325 v) 35 = (Int32.toNatClampNeg (dq_h (v 2) (20 : Int32))) := zl_35_324 v
theorem zl_36_325 (v : Nat → Int32) : dp_len (dq_325 v) 36 = (Int32.toNatClampNeg ((dq_h (v 2) (20 : Int32)) * (dq_h (v 3) (8 : Int32)))) := zl_36_324 v
theorem zi_326 (v : Nat → Int32) (k i : Nat) : dp_I (dq_326 v) k i = sF_13 v k i := sz_n (dqn_325 v) (zi_325 v) (fun _ => rfl) k i
theorem zj_326 (v : Nat → Int32) (k i : Nat) : dp_J (dq_326 v) k i = 0 := sz_nJ (zj_325 v) k i
theorem zr_326 (v : Nat → Int32) (i : Nat) : dp_R (dq_326 v) 59 i = none := sz_nR (zr_325 v) i
theorem zl_25_326 (v : Nat → Int32) : dp_len (dq_326 v) 25 = (Int32.toNatClampNeg (dq_h (v 0) (12 : Int32))) := sz_nL (dqn_325 v) (by decide) (zl_25_325 v)
theorem zl_26_326 (v : Nat → Int32) : dp_len (dq_326 v) 26 = (Int32.toNatClampNeg (dq_h (v 0) (12 : Int32))) := sz_nL (dqn_325 v) (by decide) (zl_26_325 v)
theorem zl_27_326 (v : Nat → Int32) : dp_len (dq_326 v) 27 = (Int32.toNatClampNeg ((dq_h (v 0) (12 : Int32)) * (16 : Int32))) := sz_nL (dqn_325 v) (by decide) (zl_27_325 v)
theorem zl_33_326 (v : Nat → Int32) : dp_len (dq_326 v) 33 = (Int32.toNatClampNeg (dq_h (v 2) (20 : Int32))) := sz_nL (dqn_325 v) (by decide) (zl_33_325 v)
theorem zl_34_326 (v : Nat → Int32) : dp_len (dq_326 v) 34 = (Int32.toNatClampNeg (dq_h (v 2) (20 : Int32))) := sz_nL (dqn_325 v) (by decide) (zl_34_325 v)
theorem zl_35_326 (v : Nat → Int32) : dp_len (dq_326 v) 35 = (Int32.toNatClampNeg (dq_h (v 2) (20 : Int32))) := sz_nL (dqn_325 v) (by decide) (zl_35_325 v)
theorem zl_36_326 (v : Nat → Int32) : dp_len (dq_326 v) 36 = (Int32.toNatClampNeg ((dq_h (v 2) (20 : Int32)) * (dq_h (v 3) (8 : Int32)))) := sz_nL (dqn_325 v) (by decide) (zl_36_325 v)
theorem zi_327 (v : Nat → Int32) (k i : Nat) : dp_I (dq_327 v) k i = sF_13 v k i := zi_326 v k i
theorem zj_327 (v : Nat → Int32) (k i : Nat) : dp_J (dq_327 v) k i = 0 := zj_326 v k i
theorem zr_327 (v : Nat → Int32) (i : Nat) : dp_R (dq_327 v) 59 i = none := sz_rR (by decide) (zr_326 v) i
theorem zl_25_327 (v : Nat → Int32) : dp_len (dq_327 v) 25 = (Int32.toNatClampNeg (dq_h (v 0) (12 : Int32))) := zl_25_326 v
theorem zl_26_327 (v : Nat → Int32) : dp_len (dq_327 v) 26 = (Int32.toNatClampNeg (dq_h (v 0) (12 : Int32))) := zl_26_326 v
theorem zl_27_327 (v : Nat → Int32) : dp_len (dq_327 v) 27 = (Int32.toNatClampNeg ((dq_h (v 0) (12 : Int32)) * (16 : Int32))) := zl_27_326 v
theorem zl_33_327 (v : Nat → Int32) : dp_len (dq_327 v) 33 = (Int32.toNatClampNeg (dq_h (v 2) (20 : Int32))) := zl_33_326 v
theorem zl_34_327 (v : Nat → Int32) : dp_len (dq_327 v) 34 = (Int32.toNatClampNeg (dq_h (v 2) (20 : Int32))) := zl_34_326 v
theorem zl_35_327 (v : Nat → Int32) : dp_len (dq_327 v) 35 = (Int32.toNatClampNeg (dq_h (v 2) (20 : Int32))) := zl_35_326 v
theorem zl_36_327 (v : Nat → Int32) : dp_len (dq_327 v) 36 = (Int32.toNatClampNeg ((dq_h (v 2) (20 : Int32)) * (dq_h (v 3) (8 : Int32)))) := zl_36_326 v
theorem zi_328 (v : Nat → Int32) (k i : Nat) : dp_I (dq_328 v) k i = sF_13 v k i := sz_n (dqn_327 v) (zi_327 v) (fun _ => rfl) k i
theorem zj_328 (v : Nat → Int32) (k i : Nat) : dp_J (dq_328 v) k i = 0 := sz_nJ (zj_327 v) k i
theorem zr_328 (v : Nat → Int32) (i : Nat) : dp_R (dq_328 v) 59 i = none := sz_nR (zr_327 v) i
theorem zl_25_328 (v : Nat → Int32) : dp_len (dq_328 v) 25 = (Int32.toNatClampNeg (dq_h (v 0) (12 : Int32))) := sz_nL (dqn_327 v) (by decide) (zl_25_327 v)
theorem zl_26_328 (v : Nat → Int32) : dp_len (dq_328 v) 26 = (Int32.toNatClampNeg (dq_h (v 0) (12 : Int32))) := sz_nL (dqn_327 v) (by decide) (zl_26_327 v)
theorem zl_27_328 (v : Nat → Int32) : dp_len (dq_328 v) 27 = (Int32.toNatClampNeg ((dq_h (v 0) (12 : Int32)) * (16 : Int32))) := sz_nL (dqn_327 v) (by decide) (zl_27_327 v)
theorem zl_33_328 (v : Nat → Int32) : dp_len (dq_328 v) 33 = (Int32.toNatClampNeg (dq_h (v 2) (20 : Int32))) := sz_nL (dqn_327 v) (by decide) (zl_33_327 v)
theorem zl_34_328 (v : Nat → Int32) : dp_len (dq_328 v) 34 = (Int32.toNatClampNeg (dq_h (v 2) (20 : Int32))) := sz_nL (dqn_327 v) (by decide) (zl_34_327 v)
theorem zl_35_328 (v : Nat → Int32) : dp_len (dq_328 v) 35 = (Int32.toNatClampNeg (dq_h (v 2) (20 : Int32))) := sz_nL (dqn_327 v) (by decide) (zl_35_327 v)
theorem zl_36_328 (v : Nat → Int32) : dp_len (dq_328 v) 36 = (Int32.toNatClampNeg ((dq_h (v 2) (20 : Int32)) * (dq_h (v 3) (8 : Int32)))) := sz_nL (dqn_327 v) (by decide) (zl_36_327 v)
theorem zi_329 (v : Nat → Int32) (k i : Nat) : dp_I (dq_329 v) k i = sF_13 v k i := zi_328 v k i
theorem zj_329 (v : Nat → Int32) (k i : Nat) : dp_J (dq_329 v) k i = 0 := zj_328 v k i
theorem zr_329 (v : Nat → Int32) (i : Nat) : dp_R (dq_329 v) 59 i = none := sz_rR (by decide) (zr_328 v) i
theorem zl_25_329 (v : Nat → Int32) : dp_len (dq_329 v) 25 = (Int32.toNatClampNeg (dq_h (v 0) (12 : Int32))) := zl_25_328 v
theorem zl_26_329 (v : Nat → Int32) : dp_len (dq_329 v) 26 = (Int32.toNatClampNeg (dq_h (v 0) (12 : Int32))) := zl_26_328 v
theorem zl_27_329 (v : Nat → Int32) : dp_len (dq_329 v) 27 = (Int32.toNatClampNeg ((dq_h (v 0) (12 : Int32)) * (16 : Int32))) := zl_27_328 v
theorem zl_33_329 (v : Nat → Int32) : dp_len (dq_329 v) 33 = (Int32.toNatClampNeg (dq_h (v 2) (20 : Int32))) := zl_33_328 v
theorem zl_34_329 (v : Nat → Int32) : dp_len (dq_329 v) 34 = (Int32.toNatClampNeg (dq_h (v 2) (20 : Int32))) := zl_34_328 v
theorem zl_35_329 (v : Nat → Int32) : dp_len (dq_329 v) 35 = (Int32.toNatClampNeg (dq_h (v 2) (20 : Int32))) := zl_35_328 v
theorem zl_36_329 (v : Nat → Int32) : dp_len (dq_329 v) 36 = (Int32.toNatClampNeg ((dq_h (v 2) (20 : Int32)) * (dq_h (v 3) (8 : Int32)))) := zl_36_328 v
theorem zi_330 (v : Nat → Int32) (k i : Nat) : dp_I (dq_330 v) k i = sF_13 v k i := sz_n (dqn_329 v) (zi_329 v) (fun _ => rfl) k i
theorem zj_330 (v : Nat → Int32) (k i : Nat) : dp_J (dq_330 v) k i = 0 := sz_nJ (zj_329 v) k i
theorem zr_330 (v : Nat → Int32) (i : Nat) : dp_R (dq_330 v) 59 i = none := sz_nR (zr_329 v) i
theorem zl_25_330 (v : Nat → Int32) : dp_len (dq_330 v) 25 = (Int32.toNatClampNeg (dq_h (v 0) (12 : Int32))) := sz_nL (dqn_329 v) (by decide) (zl_25_329 v)
theorem zl_26_330 (v : Nat → Int32) : dp_len (dq_330 v) 26 = (Int32.toNatClampNeg (dq_h (v 0) (12 : Int32))) := sz_nL (dqn_329 v) (by decide) (zl_26_329 v)
theorem zl_27_330 (v : Nat → Int32) : dp_len (dq_330 v) 27 = (Int32.toNatClampNeg ((dq_h (v 0) (12 : Int32)) * (16 : Int32))) := sz_nL (dqn_329 v) (by decide) (zl_27_329 v)
theorem zl_33_330 (v : Nat → Int32) : dp_len (dq_330 v) 33 = (Int32.toNatClampNeg (dq_h (v 2) (20 : Int32))) := sz_nL (dqn_329 v) (by decide) (zl_33_329 v)
theorem zl_34_330 (v : Nat → Int32) : dp_len (dq_330 v) 34 = (Int32.toNatClampNeg (dq_h (v 2) (20 : Int32))) := sz_nL (dqn_329 v) (by decide) (zl_34_329 v)
theorem zl_35_330 (v : Nat → Int32) : dp_len (dq_330 v) 35 = (Int32.toNatClampNeg (dq_h (v 2) (20 : Int32))) := sz_nL (dqn_329 v) (by decide) (zl_35_329 v)
theorem zl_36_330 (v : Nat → Int32) : dp_len (dq_330 v) 36 = (Int32.toNatClampNeg ((dq_h (v 2) (20 : Int32)) * (dq_h (v 3) (8 : Int32)))) := sz_nL (dqn_329 v) (by decide) (zl_36_329 v)
theorem zi_331 (v : Nat → Int32) (k i : Nat) : dp_I (dq_331 v) k i = sF_13 v k i := zi_330 v k i
theorem zj_331 (v : Nat → Int32) (k i : Nat) : dp_J (dq_331 v) k i = 0 := zj_330 v k i
theorem zr_331 (v : Nat → Int32) (i : Nat) : dp_R (dq_331 v) 59 i = none := sz_rR (by decide) (zr_330 v) i
theorem zl_25_331 (v : Nat → Int32) : dp_len (dq_331 v) 25 = (Int32.toNatClampNeg (dq_h (v 0) (12 : Int32))) := zl_25_330 v
theorem zl_26_331 (v : Nat → Int32) : dp_len (dq_331 v) 26 = (Int32.toNatClampNeg (dq_h (v 0) (12 : Int32))) := zl_26_330 v
theorem zl_27_331 (v : Nat → Int32) : dp_len (dq_331 v) 27 = (Int32.toNatClampNeg ((dq_h (v 0) (12 : Int32)) * (16 : Int32))) := zl_27_330 v
theorem zl_33_331 (v : Nat → Int32) : dp_len (dq_331 v) 33 = (Int32.toNatClampNeg (dq_h (v 2) (20 : Int32))) := zl_33_330 v
theorem zl_34_331 (v : Nat → Int32) : dp_len (dq_331 v) 34 = (Int32.toNatClampNeg (dq_h (v 2) (20 : Int32))) := zl_34_330 v
theorem zl_35_331 (v : Nat → Int32) : dp_len (dq_331 v) 35 = (Int32.toNatClampNeg (dq_h (v 2) (20 : Int32))) := zl_35_330 v
theorem zl_36_331 (v : Nat → Int32) : dp_len (dq_331 v) 36 = (Int32.toNatClampNeg ((dq_h (v 2) (20 : Int32)) * (dq_h (v 3) (8 : Int32)))) := zl_36_330 v
theorem zi_332 (v : Nat → Int32) (k i : Nat) : dp_I (dq_332 v) k i = sF_13 v k i := sz_n (dqn_331 v) (zi_331 v) (fun _ => rfl) k i
theorem zj_332 (v : Nat → Int32) (k i : Nat) : dp_J (dq_332 v) k i = 0 := sz_nJ (zj_331 v) k i
theorem zr_332 (v : Nat → Int32) (i : Nat) : dp_R (dq_332 v) 59 i = none := sz_nR (zr_331 v) i
theorem zl_25_332 (v : Nat → Int32) : dp_len (dq_332 v) 25 = (Int32.toNatClampNeg (dq_h (v 0) (12 : Int32))) := sz_nL (dqn_331 v) (by decide) (zl_25_331 v)
theorem zl_26_332 (v : Nat → Int32) : dp_len (dq_332 v) 26 = (Int32.toNatClampNeg (dq_h (v 0) (12 : Int32))) := sz_nL (dqn_331 v) (by decide) (zl_26_331 v)
theorem zl_27_332 (v : Nat → Int32) : dp_len (dq_332 v) 27 = (Int32.toNatClampNeg ((dq_h (v 0) (12 : Int32)) * (16 : Int32))) := sz_nL (dqn_331 v) (by decide) (zl_27_331 v)
theorem zl_33_332 (v : Nat → Int32) : dp_len (dq_332 v) 33 = (Int32.toNatClampNeg (dq_h (v 2) (20 : Int32))) := sz_nL (dqn_331 v) (by decide) (zl_33_331 v)
theorem zl_34_332 (v : Nat → Int32) : dp_len (dq_332 v) 34 = (Int32.toNatClampNeg (dq_h (v 2) (20 : Int32))) := sz_nL (dqn_331 v) (by decide) (zl_34_331 v)
theorem zl_35_332 (v : Nat → Int32) : dp_len (dq_332 v) 35 = (Int32.toNatClampNeg (dq_h (v 2) (20 : Int32))) := sz_nL (dqn_331 v) (by decide) (zl_35_331 v)
theorem zl_36_332 (v : Nat → Int32) : dp_len (dq_332 v) 36 = (Int32.toNatClampNeg ((dq_h (v 2) (20 : Int32)) * (dq_h (v 3) (8 : Int32)))) := sz_nL (dqn_331 v) (by decide) (zl_36_331 v)
theorem zi_333 (v : Nat → Int32) (k i : Nat) : dp_I (dq_333 v) k i = sF_13 v k i := zi_332 v k i
theorem zj_333 (v : Nat → Int32) (k i : Nat) : dp_J (dq_333 v) k i = 0 := zj_332 v k i
theorem zr_333 (v : Nat → Int32) (i : Nat) : dp_R (dq_333 v) 59 i = none := sz_rR (by decide) (zr_332 v) i
theorem zl_25_333 (v : Nat → Int32) : dp_len (dq_333 v) 25 = (Int32.toNatClampNeg (dq_h (v 0) (12 : Int32))) := zl_25_332 v
theorem zl_26_333 (v : Nat → Int32) : dp_len (dq_333 v) 26 = (Int32.toNatClampNeg (dq_h (v 0) (12 : Int32))) := zl_26_332 v
theorem zl_27_333 (v : Nat → Int32) : dp_len (dq_333 v) 27 = (Int32.toNatClampNeg ((dq_h (v 0) (12 : Int32)) * (16 : Int32))) := zl_27_332 v
theorem zl_33_333 (v : Nat → Int32) : dp_len (dq_333 v) 33 = (Int32.toNatClampNeg (dq_h (v 2) (20 : Int32))) := zl_33_332 v
theorem zl_34_333 (v : Nat → Int32) : dp_len (dq_333 v) 34 = (Int32.toNatClampNeg (dq_h (v 2) (20 : Int32))) := zl_34_332 v
theorem zl_35_333 (v : Nat → Int32) : dp_len (dq_333 v) 35 = (Int32.toNatClampNeg (dq_h (v 2) (20 : Int32))) := zl_35_332 v
theorem zl_36_333 (v : Nat → Int32) : dp_len (dq_333 v) 36 = (Int32.toNatClampNeg ((dq_h (v 2) (20 : Int32)) * (dq_h (v 3) (8 : Int32)))) := zl_36_332 v
theorem zi_334 (v : Nat → Int32) (k i : Nat) : dp_I (dq_334 v) k i = sF_13 v k i := sz_n (dqn_333 v) (zi_333 v) (fun _ => rfl) k i
theorem zj_334 (v : Nat → Int32) (k i : Nat) : dp_J (dq_334 v) k i = 0 := sz_nJ (zj_333 v) k i
theorem zr_334 (v : Nat → Int32) (i : Nat) : dp_R (dq_334 v) 59 i = none := sz_nR (zr_333 v) i
theorem zl_25_334 (v : Nat → Int32) : dp_len (dq_334 v) 25 = (Int32.toNatClampNeg (dq_h (v 0) (12 : Int32))) := sz_nL (dqn_333 v) (by decide) (zl_25_333 v)
theorem zl_26_334 (v : Nat → Int32) : dp_len (dq_334 v) 26 = (Int32.toNatClampNeg (dq_h (v 0) (12 : Int32))) := sz_nL (dqn_333 v) (by decide) (zl_26_333 v)
theorem zl_27_334 (v : Nat → Int32) : dp_len (dq_334 v) 27 = (Int32.toNatClampNeg ((dq_h (v 0) (12 : Int32)) * (16 : Int32))) := sz_nL (dqn_333 v) (by decide) (zl_27_333 v)
theorem zl_33_334 (v : Nat → Int32) : dp_len (dq_334 v) 33 = (Int32.toNatClampNeg (dq_h (v 2) (20 : Int32))) := sz_nL (dqn_333 v) (by decide) (zl_33_333 v)
theorem zl_34_334 (v : Nat → Int32) : dp_len (dq_334 v) 34 = (Int32.toNatClampNeg (dq_h (v 2) (20 : Int32))) := sz_nL (dqn_333 v) (by decide) (zl_34_333 v)
theorem zl_35_334 (v : Nat → Int32) : dp_len (dq_334 v) 35 = (Int32.toNatClampNeg (dq_h (v 2) (20 : Int32))) := sz_nL (dqn_333 v) (by decide) (zl_35_333 v)
theorem zl_36_334 (v : Nat → Int32) : dp_len (dq_334 v) 36 = (Int32.toNatClampNeg ((dq_h (v 2) (20 : Int32)) * (dq_h (v 3) (8 : Int32)))) := sz_nL (dqn_333 v) (by decide) (zl_36_333 v)
theorem zi_335 (v : Nat → Int32) (k i : Nat) : dp_I (dq_335 v) k i = sF_13 v k i := zi_334 v k i
theorem zj_335 (v : Nat → Int32) (k i : Nat) : dp_J (dq_335 v) k i = 0 := zj_334 v k i
theorem zr_335 (v : Nat → Int32) (i : Nat) : dp_R (dq_335 v) 59 i = none := sz_rR (by decide) (zr_334 v) i
theorem zl_25_335 (v : Nat → Int32) : dp_len (dq_335 v) 25 = (Int32.toNatClampNeg (dq_h (v 0) (12 : Int32))) := zl_25_334 v
theorem zl_26_335 (v : Nat → Int32) : dp_len (dq_335 v) 26 = (Int32.toNatClampNeg (dq_h (v 0) (12 : Int32))) := zl_26_334 v
theorem zl_27_335 (v : Nat → Int32) : dp_len (dq_335 v) 27 = (Int32.toNatClampNeg ((dq_h (v 0) (12 : Int32)) * (16 : Int32))) := zl_27_334 v
theorem zl_33_335 (v : Nat → Int32) : dp_len (dq_335 v) 33 = (Int32.toNatClampNeg (dq_h (v 2) (20 : Int32))) := zl_33_334 v
theorem zl_34_335 (v : Nat → Int32) : dp_len (dq_335 v) 34 = (Int32.toNatClampNeg (dq_h (v 2) (20 : Int32))) := zl_34_334 v
theorem zl_35_335 (v : Nat → Int32) : dp_len (dq_335 v) 35 = (Int32.toNatClampNeg (dq_h (v 2) (20 : Int32))) := zl_35_334 v
theorem zl_36_335 (v : Nat → Int32) : dp_len (dq_335 v) 36 = (Int32.toNatClampNeg ((dq_h (v 2) (20 : Int32)) * (dq_h (v 3) (8 : Int32)))) := zl_36_334 v
theorem zi_336 (v : Nat → Int32) (k i : Nat) : dp_I (dq_336 v) k i = sF_13 v k i := sz_n (dqn_335 v) (zi_335 v) (fun _ => rfl) k i
theorem zj_336 (v : Nat → Int32) (k i : Nat) : dp_J (dq_336 v) k i = 0 := sz_nJ (zj_335 v) k i
theorem zr_336 (v : Nat → Int32) (i : Nat) : dp_R (dq_336 v) 59 i = none := sz_nR (zr_335 v) i
theorem zl_25_336 (v : Nat → Int32) : dp_len (dq_336 v) 25 = (Int32.toNatClampNeg (dq_h (v 0) (12 : Int32))) := sz_nL (dqn_335 v) (by decide) (zl_25_335 v)
theorem zl_26_336 (v : Nat → Int32) : dp_len (dq_336 v) 26 = (Int32.toNatClampNeg (dq_h (v 0) (12 : Int32))) := sz_nL (dqn_335 v) (by decide) (zl_26_335 v)
theorem zl_27_336 (v : Nat → Int32) : dp_len (dq_336 v) 27 = (Int32.toNatClampNeg ((dq_h (v 0) (12 : Int32)) * (16 : Int32))) := sz_nL (dqn_335 v) (by decide) (zl_27_335 v)
theorem zl_33_336 (v : Nat → Int32) : dp_len (dq_336 v) 33 = (Int32.toNatClampNeg (dq_h (v 2) (20 : Int32))) := sz_nL (dqn_335 v) (by decide) (zl_33_335 v)
theorem zl_34_336 (v : Nat → Int32) : dp_len (dq_336 v) 34 = (Int32.toNatClampNeg (dq_h (v 2) (20 : Int32))) := sz_nL (dqn_335 v) (by decide) (zl_34_335 v)
theorem zl_35_336 (v : Nat → Int32) : dp_len (dq_336 v) 35 = (Int32.toNatClampNeg (dq_h (v 2) (20 : Int32))) := sz_nL (dqn_335 v) (by decide) (zl_35_335 v)
theorem zl_36_336 (v : Nat → Int32) : dp_len (dq_336 v) 36 = (Int32.toNatClampNeg ((dq_h (v 2) (20 : Int32)) * (dq_h (v 3) (8 : Int32)))) := sz_nL (dqn_335 v) (by decide) (zl_36_335 v)
theorem zi_337 (v : Nat → Int32) (k i : Nat) : dp_I (dq_337 v) k i = sF_13 v k i := zi_336 v k i
theorem zj_337 (v : Nat → Int32) (k i : Nat) : dp_J (dq_337 v) k i = 0 := zj_336 v k i
theorem zr_337 (v : Nat → Int32) (i : Nat) : dp_R (dq_337 v) 59 i = none := sz_rR (by decide) (zr_336 v) i
theorem zl_25_337 (v : Nat → Int32) : dp_len (dq_337 v) 25 = (Int32.toNatClampNeg (dq_h (v 0) (12 : Int32))) := zl_25_336 v
theorem zl_26_337 (v : Nat → Int32) : dp_len (dq_337 v) 26 = (Int32.toNatClampNeg (dq_h (v 0) (12 : Int32))) := zl_26_336 v
theorem zl_27_337 (v : Nat → Int32) : dp_len (dq_337 v) 27 = (Int32.toNatClampNeg ((dq_h (v 0) (12 : Int32)) * (16 : Int32))) := zl_27_336 v
theorem zl_33_337 (v : Nat → Int32) : dp_len (dq_337 v) 33 = (Int32.toNatClampNeg (dq_h (v 2) (20 : Int32))) := zl_33_336 v
theorem zl_34_337 (v : Nat → Int32) : dp_len (dq_337 v) 34 = (Int32.toNatClampNeg (dq_h (v 2) (20 : Int32))) := zl_34_336 v
theorem zl_35_337 (v : Nat → Int32) : dp_len (dq_337 v) 35 = (Int32.toNatClampNeg (dq_h (v 2) (20 : Int32))) := zl_35_336 v
theorem zl_36_337 (v : Nat → Int32) : dp_len (dq_337 v) 36 = (Int32.toNatClampNeg ((dq_h (v 2) (20 : Int32)) * (dq_h (v 3) (8 : Int32)))) := zl_36_336 v
theorem zi_338 (v : Nat → Int32) (k i : Nat) : dp_I (dq_338 v) k i = sF_13 v k i := sz_n (dqn_337 v) (zi_337 v) (fun _ => rfl) k i
theorem zj_338 (v : Nat → Int32) (k i : Nat) : dp_J (dq_338 v) k i = 0 := sz_nJ (zj_337 v) k i
theorem zr_338 (v : Nat → Int32) (i : Nat) : dp_R (dq_338 v) 59 i = none := sz_nR (zr_337 v) i
theorem zl_25_338 (v : Nat → Int32) : dp_len (dq_338 v) 25 = (Int32.toNatClampNeg (dq_h (v 0) (12 : Int32))) := sz_nL (dqn_337 v) (by decide) (zl_25_337 v)
theorem zl_26_338 (v : Nat → Int32) : dp_len (dq_338 v) 26 = (Int32.toNatClampNeg (dq_h (v 0) (12 : Int32))) := sz_nL (dqn_337 v) (by decide) (zl_26_337 v)
theorem zl_27_338 (v : Nat → Int32) : dp_len (dq_338 v) 27 = (Int32.toNatClampNeg ((dq_h (v 0) (12 : Int32)) * (16 : Int32))) := sz_nL (dqn_337 v) (by decide) (zl_27_337 v)
theorem zl_33_338 (v : Nat → Int32) : dp_len (dq_338 v) 33 = (Int32.toNatClampNeg (dq_h (v 2) (20 : Int32))) := sz_nL (dqn_337 v) (by decide) (zl_33_337 v)
theorem zl_34_338 (v : Nat → Int32) : dp_len (dq_338 v) 34 = (Int32.toNatClampNeg (dq_h (v 2) (20 : Int32))) := sz_nL (dqn_337 v) (by decide) (zl_34_337 v)
theorem zl_35_338 (v : Nat → Int32) : dp_len (dq_338 v) 35 = (Int32.toNatClampNeg (dq_h (v 2) (20 : Int32))) := sz_nL (dqn_337 v) (by decide) (zl_35_337 v)
theorem zl_36_338 (v : Nat → Int32) : dp_len (dq_338 v) 36 = (Int32.toNatClampNeg ((dq_h (v 2) (20 : Int32)) * (dq_h (v 3) (8 : Int32)))) := sz_nL (dqn_337 v) (by decide) (zl_36_337 v)
theorem zi_339 (v : Nat → Int32) (k i : Nat) : dp_I (dq_339 v) k i = sF_13 v k i := zi_338 v k i
theorem zj_339 (v : Nat → Int32) (k i : Nat) : dp_J (dq_339 v) k i = 0 := zj_338 v k i
theorem zr_339 (v : Nat → Int32) (i : Nat) : dp_R (dq_339 v) 59 i = none := sz_rR (by decide) (zr_338 v) i
theorem zl_25_339 (v : Nat → Int32) : dp_len (dq_339 v) 25 = (Int32.toNatClampNeg (dq_h (v 0) (12 : Int32))) := zl_25_338 v
theorem zl_26_339 (v : Nat → Int32) : dp_len (dq_339 v) 26 = (Int32.toNatClampNeg (dq_h (v 0) (12 : Int32))) := zl_26_338 v
theorem zl_27_339 (v : Nat → Int32) : dp_len (dq_339 v) 27 = (Int32.toNatClampNeg ((dq_h (v 0) (12 : Int32)) * (16 : Int32))) := zl_27_338 v
theorem zl_33_339 (v : Nat → Int32) : dp_len (dq_339 v) 33 = (Int32.toNatClampNeg (dq_h (v 2) (20 : Int32))) := zl_33_338 v
theorem zl_34_339 (v : Nat → Int32) : dp_len (dq_339 v) 34 = (Int32.toNatClampNeg (dq_h (v 2) (20 : Int32))) := zl_34_338 v
theorem zl_35_339 (v : Nat → Int32) : dp_len (dq_339 v) 35 = (Int32.toNatClampNeg (dq_h (v 2) (20 : Int32))) := zl_35_338 v
theorem zl_36_339 (v : Nat → Int32) : dp_len (dq_339 v) 36 = (Int32.toNatClampNeg ((dq_h (v 2) (20 : Int32)) * (dq_h (v 3) (8 : Int32)))) := zl_36_338 v
theorem zi_340 (v : Nat → Int32) (k i : Nat) : dp_I (dq_340 v) k i = sF_13 v k i := sz_n (dqn_339 v) (zi_339 v) (fun _ => rfl) k i
theorem zj_340 (v : Nat → Int32) (k i : Nat) : dp_J (dq_340 v) k i = 0 := sz_nJ (zj_339 v) k i
theorem zr_340 (v : Nat → Int32) (i : Nat) : dp_R (dq_340 v) 59 i = none := sz_nR (zr_339 v) i
theorem zl_25_340 (v : Nat → Int32) : dp_len (dq_340 v) 25 = (Int32.toNatClampNeg (dq_h (v 0) (12 : Int32))) := sz_nL (dqn_339 v) (by decide) (zl_25_339 v)
theorem zl_26_340 (v : Nat → Int32) : dp_len (dq_340 v) 26 = (Int32.toNatClampNeg (dq_h (v 0) (12 : Int32))) := sz_nL (dqn_339 v) (by decide) (zl_26_339 v)
theorem zl_27_340 (v : Nat → Int32) : dp_len (dq_340 v) 27 = (Int32.toNatClampNeg ((dq_h (v 0) (12 : Int32)) * (16 : Int32))) := sz_nL (dqn_339 v) (by decide) (zl_27_339 v)
theorem zl_33_340 (v : Nat → Int32) : dp_len (dq_340 v) 33 = (Int32.toNatClampNeg (dq_h (v 2) (20 : Int32))) := sz_nL (dqn_339 v) (by decide) (zl_33_339 v)
theorem zl_34_340 (v : Nat → Int32) : dp_len (dq_340 v) 34 = (Int32.toNatClampNeg (dq_h (v 2) (20 : Int32))) := sz_nL (dqn_339 v) (by decide) (zl_34_339 v)
theorem zl_35_340 (v : Nat → Int32) : dp_len (dq_340 v) 35 = (Int32.toNatClampNeg (dq_h (v 2) (20 : Int32))) := sz_nL (dqn_339 v) (by decide) (zl_35_339 v)
theorem zl_36_340 (v : Nat → Int32) : dp_len (dq_340 v) 36 = (Int32.toNatClampNeg ((dq_h (v 2) (20 : Int32)) * (dq_h (v 3) (8 : Int32)))) := sz_nL (dqn_339 v) (by decide) (zl_36_339 v)
theorem zi_341 (v : Nat → Int32) (k i : Nat) : dp_I (dq_341 v) k i = sF_13 v k i := zi_340 v k i
theorem zj_341 (v : Nat → Int32) (k i : Nat) : dp_J (dq_341 v) k i = 0 := zj_340 v k i
theorem zr_341 (v : Nat → Int32) (i : Nat) : dp_R (dq_341 v) 59 i = none := sz_rR (by decide) (zr_340 v) i
theorem zl_25_341 (v : Nat → Int32) : dp_len (dq_341 v) 25 = (Int32.toNatClampNeg (dq_h (v 0) (12 : Int32))) := zl_25_340 v
theorem zl_26_341 (v : Nat → Int32) : dp_len (dq_341 v) 26 = (Int32.toNatClampNeg (dq_h (v 0) (12 : Int32))) := zl_26_340 v
theorem zl_27_341 (v : Nat → Int32) : dp_len (dq_341 v) 27 = (Int32.toNatClampNeg ((dq_h (v 0) (12 : Int32)) * (16 : Int32))) := zl_27_340 v
theorem zl_33_341 (v : Nat → Int32) : dp_len (dq_341 v) 33 = (Int32.toNatClampNeg (dq_h (v 2) (20 : Int32))) := zl_33_340 v
theorem zl_34_341 (v : Nat → Int32) : dp_len (dq_341 v) 34 = (Int32.toNatClampNeg (dq_h (v 2) (20 : Int32))) := zl_34_340 v
theorem zl_35_341 (v : Nat → Int32) : dp_len (dq_341 v) 35 = (Int32.toNatClampNeg (dq_h (v 2) (20 : Int32))) := zl_35_340 v
theorem zl_36_341 (v : Nat → Int32) : dp_len (dq_341 v) 36 = (Int32.toNatClampNeg ((dq_h (v 2) (20 : Int32)) * (dq_h (v 3) (8 : Int32)))) := zl_36_340 v
theorem zi_342 (v : Nat → Int32) (k i : Nat) : dp_I (dq_342 v) k i = sF_13 v k i := sz_n (dqn_341 v) (zi_341 v) (fun _ => rfl) k i
theorem zj_342 (v : Nat → Int32) (k i : Nat) : dp_J (dq_342 v) k i = 0 := sz_nJ (zj_341 v) k i
theorem zr_342 (v : Nat → Int32) (i : Nat) : dp_R (dq_342 v) 59 i = none := sz_nR (zr_341 v) i
theorem zl_25_342 (v : Nat → Int32) : dp_len (dq_342 v) 25 = (Int32.toNatClampNeg (dq_h (v 0) (12 : Int32))) := sz_nL (dqn_341 v) (by decide) (zl_25_341 v)
theorem zl_26_342 (v : Nat → Int32) : dp_len (dq_342 v) 26 = (Int32.toNatClampNeg (dq_h (v 0) (12 : Int32))) := sz_nL (dqn_341 v) (by decide) (zl_26_341 v)
theorem zl_27_342 (v : Nat → Int32) : dp_len (dq_342 v) 27 = (Int32.toNatClampNeg ((dq_h (v 0) (12 : Int32)) * (16 : Int32))) := sz_nL (dqn_341 v) (by decide) (zl_27_341 v)
theorem zl_33_342 (v : Nat → Int32) : dp_len (dq_342 v) 33 = (Int32.toNatClampNeg (dq_h (v 2) (20 : Int32))) := sz_nL (dqn_341 v) (by decide) (zl_33_341 v)
theorem zl_34_342 (v : Nat → Int32) : dp_len (dq_342 v) 34 = (Int32.toNatClampNeg (dq_h (v 2) (20 : Int32))) := sz_nL (dqn_341 v) (by decide) (zl_34_341 v)
theorem zl_35_342 (v : Nat → Int32) : dp_len (dq_342 v) 35 = (Int32.toNatClampNeg (dq_h (v 2) (20 : Int32))) := sz_nL (dqn_341 v) (by decide) (zl_35_341 v)
theorem zl_36_342 (v : Nat → Int32) : dp_len (dq_342 v) 36 = (Int32.toNatClampNeg ((dq_h (v 2) (20 : Int32)) * (dq_h (v 3) (8 : Int32)))) := sz_nL (dqn_341 v) (by decide) (zl_36_341 v)
theorem zi_343 (v : Nat → Int32) (k i : Nat) : dp_I (dq_343 v) k i = sF_13 v k i := zi_342 v k i
theorem zj_343 (v : Nat → Int32) (k i : Nat) : dp_J (dq_343 v) k i = 0 := zj_342 v k i
theorem zr_343 (v : Nat → Int32) (i : Nat) : dp_R (dq_343 v) 59 i = none := sz_rR (by decide) (zr_342 v) i
theorem zl_25_343 (v : Nat → Int32) : dp_len (dq_343 v) 25 = (Int32.toNatClampNeg (dq_h (v 0) (12 : Int32))) := zl_25_342 v
theorem zl_26_343 (v : Nat → Int32) : dp_len (dq_343 v) 26 = (Int32.toNatClampNeg (dq_h (v 0) (12 : Int32))) := zl_26_342 v
theorem zl_27_343 (v : Nat → Int32) : dp_len (dq_343 v) 27 = (Int32.toNatClampNeg ((dq_h (v 0) (12 : Int32)) * (16 : Int32))) := zl_27_342 v
theorem zl_33_343 (v : Nat → Int32) : dp_len (dq_343 v) 33 = (Int32.toNatClampNeg (dq_h (v 2) (20 : Int32))) := zl_33_342 v
theorem zl_34_343 (v : Nat → Int32) : dp_len (dq_343 v) 34 = (Int32.toNatClampNeg (dq_h (v 2) (20 : Int32))) := zl_34_342 v
theorem zl_35_343 (v : Nat → Int32) : dp_len (dq_343 v) 35 = (Int32.toNatClampNeg (dq_h (v 2) (20 : Int32))) := zl_35_342 v
theorem zl_36_343 (v : Nat → Int32) : dp_len (dq_343 v) 36 = (Int32.toNatClampNeg ((dq_h (v 2) (20 : Int32)) * (dq_h (v 3) (8 : Int32)))) := zl_36_342 v
theorem zi_344 (v : Nat → Int32) (k i : Nat) : dp_I (dq_344 v) k i = sF_13 v k i := sz_n (dqn_343 v) (zi_343 v) (fun _ => rfl) k i
theorem zj_344 (v : Nat → Int32) (k i : Nat) : dp_J (dq_344 v) k i = 0 := sz_nJ (zj_343 v) k i
theorem zr_344 (v : Nat → Int32) (i : Nat) : dp_R (dq_344 v) 59 i = none := sz_nR (zr_343 v) i
theorem zl_25_344 (v : Nat → Int32) : dp_len (dq_344 v) 25 = (Int32.toNatClampNeg (dq_h (v 0) (12 : Int32))) := sz_nL (dqn_343 v) (by decide) (zl_25_343 v)
theorem zl_26_344 (v : Nat → Int32) : dp_len (dq_344 v) 26 = (Int32.toNatClampNeg (dq_h (v 0) (12 : Int32))) := sz_nL (dqn_343 v) (by decide) (zl_26_343 v)
theorem zl_27_344 (v : Nat → Int32) : dp_len (dq_344 v) 27 = (Int32.toNatClampNeg ((dq_h (v 0) (12 : Int32)) * (16 : Int32))) := sz_nL (dqn_343 v) (by decide) (zl_27_343 v)
theorem zl_33_344 (v : Nat → Int32) : dp_len (dq_344 v) 33 = (Int32.toNatClampNeg (dq_h (v 2) (20 : Int32))) := sz_nL (dqn_343 v) (by decide) (zl_33_343 v)
theorem zl_34_344 (v : Nat → Int32) : dp_len (dq_344 v) 34 = (Int32.toNatClampNeg (dq_h (v 2) (20 : Int32))) := sz_nL (dqn_343 v) (by decide) (zl_34_343 v)
theorem zl_35_344 (v : Nat → Int32) : dp_len (dq_344 v) 35 = (Int32.toNatClampNeg (dq_h (v 2) (20 : Int32))) := sz_nL (dqn_343 v) (by decide) (zl_35_343 v)
theorem zl_36_344 (v : Nat → Int32) : dp_len (dq_344 v) 36 = (Int32.toNatClampNeg ((dq_h (v 2) (20 : Int32)) * (dq_h (v 3) (8 : Int32)))) := sz_nL (dqn_343 v) (by decide) (zl_36_343 v)
theorem zi_345 (v : Nat → Int32) (k i : Nat) : dp_I (dq_345 v) k i = sF_13 v k i := zi_344 v k i
theorem zj_345 (v : Nat → Int32) (k i : Nat) : dp_J (dq_345 v) k i = 0 := zj_344 v k i
theorem zr_345 (v : Nat → Int32) (i : Nat) : dp_R (dq_345 v) 59 i = none := sz_rR (by decide) (zr_344 v) i
theorem zl_25_345 (v : Nat → Int32) : dp_len (dq_345 v) 25 = (Int32.toNatClampNeg (dq_h (v 0) (12 : Int32))) := zl_25_344 v
theorem zl_26_345 (v : Nat → Int32) : dp_len (dq_345 v) 26 = (Int32.toNatClampNeg (dq_h (v 0) (12 : Int32))) := zl_26_344 v
theorem zl_27_345 (v : Nat → Int32) : dp_len (dq_345 v) 27 = (Int32.toNatClampNeg ((dq_h (v 0) (12 : Int32)) * (16 : Int32))) := zl_27_344 v
theorem zl_33_345 (v : Nat → Int32) : dp_len (dq_345 v) 33 = (Int32.toNatClampNeg (dq_h (v 2) (20 : Int32))) := zl_33_344 v
theorem zl_34_345 (v : Nat → Int32) : dp_len (dq_345 v) 34 = (Int32.toNatClampNeg (dq_h (v 2) (20 : Int32))) := zl_34_344 v
theorem zl_35_345 (v : Nat → Int32) : dp_len (dq_345 v) 35 = (Int32.toNatClampNeg (dq_h (v 2) (20 : Int32))) := zl_35_344 v
theorem zl_36_345 (v : Nat → Int32) : dp_len (dq_345 v) 36 = (Int32.toNatClampNeg ((dq_h (v 2) (20 : Int32)) * (dq_h (v 3) (8 : Int32)))) := zl_36_344 v
theorem zi_346 (v : Nat → Int32) (k i : Nat) : dp_I (dq_346 v) k i = sF_13 v k i := sz_n (dqn_345 v) (zi_345 v) (fun _ => rfl) k i
theorem zj_346 (v : Nat → Int32) (k i : Nat) : dp_J (dq_346 v) k i = 0 := sz_nJ (zj_345 v) k i
theorem zr_346 (v : Nat → Int32) (i : Nat) : dp_R (dq_346 v) 59 i = none := sz_nR (zr_345 v) i
theorem zl_25_346 (v : Nat → Int32) : dp_len (dq_346 v) 25 = (Int32.toNatClampNeg (dq_h (v 0) (12 : Int32))) := sz_nL (dqn_345 v) (by decide) (zl_25_345 v)
theorem zl_26_346 (v : Nat → Int32) : dp_len (dq_346 v) 26 = (Int32.toNatClampNeg (dq_h (v 0) (12 : Int32))) := sz_nL (dqn_345 v) (by decide) (zl_26_345 v)
theorem zl_27_346 (v : Nat → Int32) : dp_len (dq_346 v) 27 = (Int32.toNatClampNeg ((dq_h (v 0) (12 : Int32)) * (16 : Int32))) := sz_nL (dqn_345 v) (by decide) (zl_27_345 v)
theorem zl_33_346 (v : Nat → Int32) : dp_len (dq_346 v) 33 = (Int32.toNatClampNeg (dq_h (v 2) (20 : Int32))) := sz_nL (dqn_345 v) (by decide) (zl_33_345 v)
theorem zl_34_346 (v : Nat → Int32) : dp_len (dq_346 v) 34 = (Int32.toNatClampNeg (dq_h (v 2) (20 : Int32))) := sz_nL (dqn_345 v) (by decide) (zl_34_345 v)
theorem zl_35_346 (v : Nat → Int32) : dp_len (dq_346 v) 35 = (Int32.toNatClampNeg (dq_h (v 2) (20 : Int32))) := sz_nL (dqn_345 v) (by decide) (zl_35_345 v)
theorem zl_36_346 (v : Nat → Int32) : dp_len (dq_346 v) 36 = (Int32.toNatClampNeg ((dq_h (v 2) (20 : Int32)) * (dq_h (v 3) (8 : Int32)))) := sz_nL (dqn_345 v) (by decide) (zl_36_345 v)
theorem zi_347 (v : Nat → Int32) (k i : Nat) : dp_I (dq_347 v) k i = sF_13 v k i := zi_346 v k i
theorem zj_347 (v : Nat → Int32) (k i : Nat) : dp_J (dq_347 v) k i = 0 := zj_346 v k i
theorem zr_347 (v : Nat → Int32) (i : Nat) : dp_R (dq_347 v) 59 i = none := sz_rR (by decide) (zr_346 v) i
theorem zl_25_347 (v : Nat → Int32) : dp_len (dq_347 v) 25 = (Int32.toNatClampNeg (dq_h (v 0) (12 : Int32))) := zl_25_346 v
theorem zl_26_347 (v : Nat → Int32) : dp_len (dq_347 v) 26 = (Int32.toNatClampNeg (dq_h (v 0) (12 : Int32))) := zl_26_346 v
theorem zl_27_347 (v : Nat → Int32) : dp_len (dq_347 v) 27 = (Int32.toNatClampNeg ((dq_h (v 0) (12 : Int32)) * (16 : Int32))) := zl_27_346 v
theorem zl_33_347 (v : Nat → Int32) : dp_len (dq_347 v) 33 = (Int32.toNatClampNeg (dq_h (v 2) (20 : Int32))) := zl_33_346 v
theorem zl_34_347 (v : Nat → Int32) : dp_len (dq_347 v) 34 = (Int32.toNatClampNeg (dq_h (v 2) (20 : Int32))) := zl_34_346 v
theorem zl_35_347 (v : Nat → Int32) : dp_len (dq_347 v) 35 = (Int32.toNatClampNeg (dq_h (v 2) (20 : Int32))) := zl_35_346 v
theorem zl_36_347 (v : Nat → Int32) : dp_len (dq_347 v) 36 = (Int32.toNatClampNeg ((dq_h (v 2) (20 : Int32)) * (dq_h (v 3) (8 : Int32)))) := zl_36_346 v
theorem zi_348 (v : Nat → Int32) (k i : Nat) : dp_I (dq_348 v) k i = sF_13 v k i := sz_n (dqn_347 v) (zi_347 v) (fun _ => rfl) k i
theorem zj_348 (v : Nat → Int32) (k i : Nat) : dp_J (dq_348 v) k i = 0 := sz_nJ (zj_347 v) k i
theorem zr_348 (v : Nat → Int32) (i : Nat) : dp_R (dq_348 v) 59 i = none := sz_nR (zr_347 v) i
theorem zl_25_348 (v : Nat → Int32) : dp_len (dq_348 v) 25 = (Int32.toNatClampNeg (dq_h (v 0) (12 : Int32))) := sz_nL (dqn_347 v) (by decide) (zl_25_347 v)
theorem zl_26_348 (v : Nat → Int32) : dp_len (dq_348 v) 26 = (Int32.toNatClampNeg (dq_h (v 0) (12 : Int32))) := sz_nL (dqn_347 v) (by decide) (zl_26_347 v)
theorem zl_27_348 (v : Nat → Int32) : dp_len (dq_348 v) 27 = (Int32.toNatClampNeg ((dq_h (v 0) (12 : Int32)) * (16 : Int32))) := sz_nL (dqn_347 v) (by decide) (zl_27_347 v)
theorem zl_33_348 (v : Nat → Int32) : dp_len (dq_348 v) 33 = (Int32.toNatClampNeg (dq_h (v 2) (20 : Int32))) := sz_nL (dqn_347 v) (by decide) (zl_33_347 v)
theorem zl_34_348 (v : Nat → Int32) : dp_len (dq_348 v) 34 = (Int32.toNatClampNeg (dq_h (v 2) (20 : Int32))) := sz_nL (dqn_347 v) (by decide) (zl_34_347 v)
theorem zl_35_348 (v : Nat → Int32) : dp_len (dq_348 v) 35 = (Int32.toNatClampNeg (dq_h (v 2) (20 : Int32))) := sz_nL (dqn_347 v) (by decide) (zl_35_347 v)
theorem zl_36_348 (v : Nat → Int32) : dp_len (dq_348 v) 36 = (Int32.toNatClampNeg ((dq_h (v 2) (20 : Int32)) * (dq_h (v 3) (8 : Int32)))) := sz_nL (dqn_347 v) (by decide) (zl_36_347 v)
theorem zi_349 (v : Nat → Int32) (k i : Nat) : dp_I (dq_349 v) k i = sF_13 v k i := zi_348 v k i
theorem zj_349 (v : Nat → Int32) (k i : Nat) : dp_J (dq_349 v) k i = 0 := zj_348 v k i
theorem zr_349 (v : Nat → Int32) (i : Nat) : dp_R (dq_349 v) 59 i = none := sz_rR (by decide) (zr_348 v) i
theorem zl_25_349 (v : Nat → Int32) : dp_len (dq_349 v) 25 = (Int32.toNatClampNeg (dq_h (v 0) (12 : Int32))) := zl_25_348 v
theorem zl_26_349 (v : Nat → Int32) : dp_len (dq_349 v) 26 = (Int32.toNatClampNeg (dq_h (v 0) (12 : Int32))) := zl_26_348 v
theorem zl_27_349 (v : Nat → Int32) : dp_len (dq_349 v) 27 = (Int32.toNatClampNeg ((dq_h (v 0) (12 : Int32)) * (16 : Int32))) := zl_27_348 v
theorem zl_33_349 (v : Nat → Int32) : dp_len (dq_349 v) 33 = (Int32.toNatClampNeg (dq_h (v 2) (20 : Int32))) := zl_33_348 v
theorem zl_34_349 (v : Nat → Int32) : dp_len (dq_349 v) 34 = (Int32.toNatClampNeg (dq_h (v 2) (20 : Int32))) := zl_34_348 v
theorem zl_35_349 (v : Nat → Int32) : dp_len (dq_349 v) 35 = (Int32.toNatClampNeg (dq_h (v 2) (20 : Int32))) := zl_35_348 v
theorem zl_36_349 (v : Nat → Int32) : dp_len (dq_349 v) 36 = (Int32.toNatClampNeg ((dq_h (v 2) (20 : Int32)) * (dq_h (v 3) (8 : Int32)))) := zl_36_348 v
theorem zi_350 (v : Nat → Int32) (k i : Nat) : dp_I (dq_350 v) k i = sF_13 v k i := sz_n (dqn_349 v) (zi_349 v) (fun _ => rfl) k i
theorem zj_350 (v : Nat → Int32) (k i : Nat) : dp_J (dq_350 v) k i = 0 := sz_nJ (zj_349 v) k i
theorem zr_350 (v : Nat → Int32) (i : Nat) : dp_R (dq_350 v) 59 i = none := sz_nR (zr_349 v) i
theorem zl_25_350 (v : Nat → Int32) : dp_len (dq_350 v) 25 = (Int32.toNatClampNeg (dq_h (v 0) (12 : Int32))) := sz_nL (dqn_349 v) (by decide) (zl_25_349 v)
theorem zl_26_350 (v : Nat → Int32) : dp_len (dq_350 v) 26 = (Int32.toNatClampNeg (dq_h (v 0) (12 : Int32))) := sz_nL (dqn_349 v) (by decide) (zl_26_349 v)
theorem zl_27_350 (v : Nat → Int32) : dp_len (dq_350 v) 27 = (Int32.toNatClampNeg ((dq_h (v 0) (12 : Int32)) * (16 : Int32))) := sz_nL (dqn_349 v) (by decide) (zl_27_349 v)
theorem zl_33_350 (v : Nat → Int32) : dp_len (dq_350 v) 33 = (Int32.toNatClampNeg (dq_h (v 2) (20 : Int32))) := sz_nL (dqn_349 v) (by decide) (zl_33_349 v)
theorem zl_34_350 (v : Nat → Int32) : dp_len (dq_350 v) 34 = (Int32.toNatClampNeg (dq_h (v 2) (20 : Int32))) := sz_nL (dqn_349 v) (by decide) (zl_34_349 v)
theorem zl_35_350 (v : Nat → Int32) : dp_len (dq_350 v) 35 = (Int32.toNatClampNeg (dq_h (v 2) (20 : Int32))) := sz_nL (dqn_349 v) (by decide) (zl_35_349 v)
theorem zl_36_350 (v : Nat → Int32) : dp_len (dq_350 v) 36 = (Int32.toNatClampNeg ((dq_h (v 2) (20 : Int32)) * (dq_h (v 3) (8 : Int32)))) := sz_nL (dqn_349 v) (by decide) (zl_36_349 v)
theorem zi_351 (v : Nat → Int32) (k i : Nat) : dp_I (dq_351 v) k i = sF_13 v k i := zi_350 v k i
theorem zj_351 (v : Nat → Int32) (k i : Nat) : dp_J (dq_351 v) k i = 0 := zj_350 v k i
theorem zr_351 (v : Nat → Int32) (i : Nat) : dp_R (dq_351 v) 59 i = none := sz_rR (by decide) (zr_350 v) i
theorem zl_25_351 (v : Nat → Int32) : dp_len (dq_351 v) 25 = (Int32.toNatClampNeg (dq_h (v 0) (12 : Int32))) := zl_25_350 v
theorem zl_26_351 (v : Nat → Int32) : dp_len (dq_351 v) 26 = (Int32.toNatClampNeg (dq_h (v 0) (12 : Int32))) := zl_26_350 v
theorem zl_27_351 (v : Nat → Int32) : dp_len (dq_351 v) 27 = (Int32.toNatClampNeg ((dq_h (v 0) (12 : Int32)) * (16 : Int32))) := zl_27_350 v
theorem zl_33_351 (v : Nat → Int32) : dp_len (dq_351 v) 33 = (Int32.toNatClampNeg (dq_h (v 2) (20 : Int32))) := zl_33_350 v
theorem zl_34_351 (v : Nat → Int32) : dp_len (dq_351 v) 34 = (Int32.toNatClampNeg (dq_h (v 2) (20 : Int32))) := zl_34_350 v
theorem zl_35_351 (v : Nat → Int32) : dp_len (dq_351 v) 35 = (Int32.toNatClampNeg (dq_h (v 2) (20 : Int32))) := zl_35_350 v
theorem zl_36_351 (v : Nat → Int32) : dp_len (dq_351 v) 36 = (Int32.toNatClampNeg ((dq_h (v 2) (20 : Int32)) * (dq_h (v 3) (8 : Int32)))) := zl_36_350 v
theorem zi_352 (v : Nat → Int32) (k i : Nat) : dp_I (dq_352 v) k i = sF_13 v k i := sz_n (dqn_351 v) (zi_351 v) (fun _ => rfl) k i
theorem zj_352 (v : Nat → Int32) (k i : Nat) : dp_J (dq_352 v) k i = 0 := sz_nJ (zj_351 v) k i
theorem zr_352 (v : Nat → Int32) (i : Nat) : dp_R (dq_352 v) 59 i = none := sz_nR (zr_351 v) i
theorem zl_25_352 (v : Nat → Int32) : dp_len (dq_352 v) 25 = (Int32.toNatClampNeg (dq_h (v 0) (12 : Int32))) := sz_nL (dqn_351 v) (by decide) (zl_25_351 v)
theorem zl_26_352 (v : Nat → Int32) : dp_len (dq_352 v) 26 = (Int32.toNatClampNeg (dq_h (v 0) (12 : Int32))) := sz_nL (dqn_351 v) (by decide) (zl_26_351 v)
theorem zl_27_352 (v : Nat → Int32) : dp_len (dq_352 v) 27 = (Int32.toNatClampNeg ((dq_h (v 0) (12 : Int32)) * (16 : Int32))) := sz_nL (dqn_351 v) (by decide) (zl_27_351 v)
theorem zl_33_352 (v : Nat → Int32) : dp_len (dq_352 v) 33 = (Int32.toNatClampNeg (dq_h (v 2) (20 : Int32))) := sz_nL (dqn_351 v) (by decide) (zl_33_351 v)
theorem zl_34_352 (v : Nat → Int32) : dp_len (dq_352 v) 34 = (Int32.toNatClampNeg (dq_h (v 2) (20 : Int32))) := sz_nL (dqn_351 v) (by decide) (zl_34_351 v)
theorem zl_35_352 (v : Nat → Int32) : dp_len (dq_352 v) 35 = (Int32.toNatClampNeg (dq_h (v 2) (20 : Int32))) := sz_nL (dqn_351 v) (by decide) (zl_35_351 v)
theorem zl_36_352 (v : Nat → Int32) : dp_len (dq_352 v) 36 = (Int32.toNatClampNeg ((dq_h (v 2) (20 : Int32)) * (dq_h (v 3) (8 : Int32)))) := sz_nL (dqn_351 v) (by decide) (zl_36_351 v)
theorem zi_353 (v : Nat → Int32) (k i : Nat) : dp_I (dq_353 v) k i = sF_13 v k i := zi_352 v k i
theorem zj_353 (v : Nat → Int32) (k i : Nat) : dp_J (dq_353 v) k i = 0 := zj_352 v k i
theorem zr_353 (v : Nat → Int32) (i : Nat) : dp_R (dq_353 v) 59 i = none := sz_rR (by decide) (zr_352 v) i
theorem zl_25_353 (v : Nat → Int32) : dp_len (dq_353 v) 25 = (Int32.toNatClampNeg (dq_h (v 0) (12 : Int32))) := zl_25_352 v
theorem zl_26_353 (v : Nat → Int32) : dp_len (dq_353 v) 26 = (Int32.toNatClampNeg (dq_h (v 0) (12 : Int32))) := zl_26_352 v
theorem zl_27_353 (v : Nat → Int32) : dp_len (dq_353 v) 27 = (Int32.toNatClampNeg ((dq_h (v 0) (12 : Int32)) * (16 : Int32))) := zl_27_352 v
theorem zl_33_353 (v : Nat → Int32) : dp_len (dq_353 v) 33 = (Int32.toNatClampNeg (dq_h (v 2) (20 : Int32))) := zl_33_352 v
theorem zl_34_353 (v : Nat → Int32) : dp_len (dq_353 v) 34 = (Int32.toNatClampNeg (dq_h (v 2) (20 : Int32))) := zl_34_352 v
theorem zl_35_353 (v : Nat → Int32) : dp_len (dq_353 v) 35 = (Int32.toNatClampNeg (dq_h (v 2) (20 : Int32))) := zl_35_352 v
theorem zl_36_353 (v : Nat → Int32) : dp_len (dq_353 v) 36 = (Int32.toNatClampNeg ((dq_h (v 2) (20 : Int32)) * (dq_h (v 3) (8 : Int32)))) := zl_36_352 v
theorem zi_354 (v : Nat → Int32) (k i : Nat) : dp_I (dq_354 v) k i = sF_13 v k i := sz_n (dqn_353 v) (zi_353 v) (fun _ => rfl) k i
theorem zj_354 (v : Nat → Int32) (k i : Nat) : dp_J (dq_354 v) k i = 0 := sz_nJ (zj_353 v) k i
theorem zr_354 (v : Nat → Int32) (i : Nat) : dp_R (dq_354 v) 59 i = none := sz_nR (zr_353 v) i
theorem zl_25_354 (v : Nat → Int32) : dp_len (dq_354 v) 25 = (Int32.toNatClampNeg (dq_h (v 0) (12 : Int32))) := sz_nL (dqn_353 v) (by decide) (zl_25_353 v)
theorem zl_26_354 (v : Nat → Int32) : dp_len (dq_354 v) 26 = (Int32.toNatClampNeg (dq_h (v 0) (12 : Int32))) := sz_nL (dqn_353 v) (by decide) (zl_26_353 v)
theorem zl_27_354 (v : Nat → Int32) : dp_len (dq_354 v) 27 = (Int32.toNatClampNeg ((dq_h (v 0) (12 : Int32)) * (16 : Int32))) := sz_nL (dqn_353 v) (by decide) (zl_27_353 v)
theorem zl_33_354 (v : Nat → Int32) : dp_len (dq_354 v) 33 = (Int32.toNatClampNeg (dq_h (v 2) (20 : Int32))) := sz_nL (dqn_353 v) (by decide) (zl_33_353 v)
theorem zl_34_354 (v : Nat → Int32) : dp_len (dq_354 v) 34 = (Int32.toNatClampNeg (dq_h (v 2) (20 : Int32))) := sz_nL (dqn_353 v) (by decide) (zl_34_353 v)
theorem zl_35_354 (v : Nat → Int32) : dp_len (dq_354 v) 35 = (Int32.toNatClampNeg (dq_h (v 2) (20 : Int32))) := sz_nL (dqn_353 v) (by decide) (zl_35_353 v)
theorem zl_36_354 (v : Nat → Int32) : dp_len (dq_354 v) 36 = (Int32.toNatClampNeg ((dq_h (v 2) (20 : Int32)) * (dq_h (v 3) (8 : Int32)))) := sz_nL (dqn_353 v) (by decide) (zl_36_353 v)
theorem zi_355 (v : Nat → Int32) (k i : Nat) : dp_I (dq_355 v) k i = sF_13 v k i := zi_354 v k i
theorem zj_355 (v : Nat → Int32) (k i : Nat) : dp_J (dq_355 v) k i = 0 := zj_354 v k i
theorem zr_355 (v : Nat → Int32) (i : Nat) : dp_R (dq_355 v) 59 i = none := sz_rR (by decide) (zr_354 v) i
theorem zl_25_355 (v : Nat → Int32) : dp_len (dq_355 v) 25 = (Int32.toNatClampNeg (dq_h (v 0) (12 : Int32))) := zl_25_354 v
theorem zl_26_355 (v : Nat → Int32) : dp_len (dq_355 v) 26 = (Int32.toNatClampNeg (dq_h (v 0) (12 : Int32))) := zl_26_354 v
theorem zl_27_355 (v : Nat → Int32) : dp_len (dq_355 v) 27 = (Int32.toNatClampNeg ((dq_h (v 0) (12 : Int32)) * (16 : Int32))) := zl_27_354 v
theorem zl_33_355 (v : Nat → Int32) : dp_len (dq_355 v) 33 = (Int32.toNatClampNeg (dq_h (v 2) (20 : Int32))) := zl_33_354 v
theorem zl_34_355 (v : Nat → Int32) : dp_len (dq_355 v) 34 = (Int32.toNatClampNeg (dq_h (v 2) (20 : Int32))) := zl_34_354 v
theorem zl_35_355 (v : Nat → Int32) : dp_len (dq_355 v) 35 = (Int32.toNatClampNeg (dq_h (v 2) (20 : Int32))) := zl_35_354 v
theorem zl_36_355 (v : Nat → Int32) : dp_len (dq_355 v) 36 = (Int32.toNatClampNeg ((dq_h (v 2) (20 : Int32)) * (dq_h (v 3) (8 : Int32)))) := zl_36_354 v
theorem zi_356 (v : Nat → Int32) (k i : Nat) : dp_I (dq_356 v) k i = sF_13 v k i := sz_n (dqn_355 v) (zi_355 v) (fun _ => rfl) k i
theorem zj_356 (v : Nat → Int32) (k i : Nat) : dp_J (dq_356 v) k i = 0 := sz_nJ (zj_355 v) k i
theorem zr_356 (v : Nat → Int32) (i : Nat) : dp_R (dq_356 v) 59 i = none := sz_nR (zr_355 v) i
theorem zl_25_356 (v : Nat → Int32) : dp_len (dq_356 v) 25 = (Int32.toNatClampNeg (dq_h (v 0) (12 : Int32))) := sz_nL (dqn_355 v) (by decide) (zl_25_355 v)
theorem zl_26_356 (v : Nat → Int32) : dp_len (dq_356 v) 26 = (Int32.toNatClampNeg (dq_h (v 0) (12 : Int32))) := sz_nL (dqn_355 v) (by decide) (zl_26_355 v)
theorem zl_27_356 (v : Nat → Int32) : dp_len (dq_356 v) 27 = (Int32.toNatClampNeg ((dq_h (v 0) (12 : Int32)) * (16 : Int32))) := sz_nL (dqn_355 v) (by decide) (zl_27_355 v)
theorem zl_33_356 (v : Nat → Int32) : dp_len (dq_356 v) 33 = (Int32.toNatClampNeg (dq_h (v 2) (20 : Int32))) := sz_nL (dqn_355 v) (by decide) (zl_33_355 v)
theorem zl_34_356 (v : Nat → Int32) : dp_len (dq_356 v) 34 = (Int32.toNatClampNeg (dq_h (v 2) (20 : Int32))) := sz_nL (dqn_355 v) (by decide) (zl_34_355 v)
theorem zl_35_356 (v : Nat → Int32) : dp_len (dq_356 v) 35 = (Int32.toNatClampNeg (dq_h (v 2) (20 : Int32))) := sz_nL (dqn_355 v) (by decide) (zl_35_355 v)
theorem zl_36_356 (v : Nat → Int32) : dp_len (dq_356 v) 36 = (Int32.toNatClampNeg ((dq_h (v 2) (20 : Int32)) * (dq_h (v 3) (8 : Int32)))) := sz_nL (dqn_355 v) (by decide) (zl_36_355 v)
theorem zi_357 (v : Nat → Int32) (k i : Nat) : dp_I (dq_357 v) k i = sF_13 v k i := zi_356 v k i
theorem zj_357 (v : Nat → Int32) (k i : Nat) : dp_J (dq_357 v) k i = 0 := zj_356 v k i
theorem zr_357 (v : Nat → Int32) (i : Nat) : dp_R (dq_357 v) 59 i = none := sz_rR (by decide) (zr_356 v) i
theorem zl_25_357 (v : Nat → Int32) : dp_len (dq_357 v) 25 = (Int32.toNatClampNeg (dq_h (v 0) (12 : Int32))) := zl_25_356 v
theorem zl_26_357 (v : Nat → Int32) : dp_len (dq_357 v) 26 = (Int32.toNatClampNeg (dq_h (v 0) (12 : Int32))) := zl_26_356 v
theorem zl_27_357 (v : Nat → Int32) : dp_len (dq_357 v) 27 = (Int32.toNatClampNeg ((dq_h (v 0) (12 : Int32)) * (16 : Int32))) := zl_27_356 v
theorem zl_33_357 (v : Nat → Int32) : dp_len (dq_357 v) 33 = (Int32.toNatClampNeg (dq_h (v 2) (20 : Int32))) := zl_33_356 v
theorem zl_34_357 (v : Nat → Int32) : dp_len (dq_357 v) 34 = (Int32.toNatClampNeg (dq_h (v 2) (20 : Int32))) := zl_34_356 v
theorem zl_35_357 (v : Nat → Int32) : dp_len (dq_357 v) 35 = (Int32.toNatClampNeg (dq_h (v 2) (20 : Int32))) := zl_35_356 v
theorem zl_36_357 (v : Nat → Int32) : dp_len (dq_357 v) 36 = (Int32.toNatClampNeg ((dq_h (v 2) (20 : Int32)) * (dq_h (v 3) (8 : Int32)))) := zl_36_356 v
theorem zi_358 (v : Nat → Int32) (k i : Nat) : dp_I (dq_358 v) k i = sF_13 v k i := sz_n (dqn_357 v) (zi_357 v) (fun _ => rfl) k i
theorem zj_358 (v : Nat → Int32) (k i : Nat) : dp_J (dq_358 v) k i = 0 := sz_nJ (zj_357 v) k i
theorem zr_358 (v : Nat → Int32) (i : Nat) : dp_R (dq_358 v) 59 i = none := sz_nR (zr_357 v) i
theorem zl_25_358 (v : Nat → Int32) : dp_len (dq_358 v) 25 = (Int32.toNatClampNeg (dq_h (v 0) (12 : Int32))) := sz_nL (dqn_357 v) (by decide) (zl_25_357 v)
theorem zl_26_358 (v : Nat → Int32) : dp_len (dq_358 v) 26 = (Int32.toNatClampNeg (dq_h (v 0) (12 : Int32))) := sz_nL (dqn_357 v) (by decide) (zl_26_357 v)
theorem zl_27_358 (v : Nat → Int32) : dp_len (dq_358 v) 27 = (Int32.toNatClampNeg ((dq_h (v 0) (12 : Int32)) * (16 : Int32))) := sz_nL (dqn_357 v) (by decide) (zl_27_357 v)
theorem zl_33_358 (v : Nat → Int32) : dp_len (dq_358 v) 33 = (Int32.toNatClampNeg (dq_h (v 2) (20 : Int32))) := sz_nL (dqn_357 v) (by decide) (zl_33_357 v)
theorem zl_34_358 (v : Nat → Int32) : dp_len (dq_358 v) 34 = (Int32.toNatClampNeg (dq_h (v 2) (20 : Int32))) := sz_nL (dqn_357 v) (by decide) (zl_34_357 v)
theorem zl_35_358 (v : Nat → Int32) : dp_len (dq_358 v) 35 = (Int32.toNatClampNeg (dq_h (v 2) (20 : Int32))) := sz_nL (dqn_357 v) (by decide) (zl_35_357 v)
theorem zl_36_358 (v : Nat → Int32) : dp_len (dq_358 v) 36 = (Int32.toNatClampNeg ((dq_h (v 2) (20 : Int32)) * (dq_h (v 3) (8 : Int32)))) := sz_nL (dqn_357 v) (by decide) (zl_36_357 v)
theorem zi_359 (v : Nat → Int32) (k i : Nat) : dp_I (dq_359 v) k i = sF_13 v k i := zi_358 v k i
theorem zj_359 (v : Nat → Int32) (k i : Nat) : dp_J (dq_359 v) k i = 0 := zj_358 v k i
theorem zr_359 (v : Nat → Int32) (i : Nat) : dp_R (dq_359 v) 59 i = none := sz_rR (by decide) (zr_358 v) i
theorem zl_25_359 (v : Nat → Int32) : dp_len (dq_359 v) 25 = (Int32.toNatClampNeg (dq_h (v 0) (12 : Int32))) := zl_25_358 v
theorem zl_26_359 (v : Nat → Int32) : dp_len (dq_359 v) 26 = (Int32.toNatClampNeg (dq_h (v 0) (12 : Int32))) := zl_26_358 v
theorem zl_27_359 (v : Nat → Int32) : dp_len (dq_359 v) 27 = (Int32.toNatClampNeg ((dq_h (v 0) (12 : Int32)) * (16 : Int32))) := zl_27_358 v
theorem zl_33_359 (v : Nat → Int32) : dp_len (dq_359 v) 33 = (Int32.toNatClampNeg (dq_h (v 2) (20 : Int32))) := zl_33_358 v
theorem zl_34_359 (v : Nat → Int32) : dp_len (dq_359 v) 34 = (Int32.toNatClampNeg (dq_h (v 2) (20 : Int32))) := zl_34_358 v
theorem zl_35_359 (v : Nat → Int32) : dp_len (dq_359 v) 35 = (Int32.toNatClampNeg (dq_h (v 2) (20 : Int32))) := zl_35_358 v
theorem zl_36_359 (v : Nat → Int32) : dp_len (dq_359 v) 36 = (Int32.toNatClampNeg ((dq_h (v 2) (20 : Int32)) * (dq_h (v 3) (8 : Int32)))) := zl_36_358 v
theorem zi_360 (v : Nat → Int32) (k i : Nat) : dp_I (dq_360 v) k i = sF_13 v k i := sz_n (dqn_359 v) (zi_359 v) (fun _ => rfl) k i
theorem zj_360 (v : Nat → Int32) (k i : Nat) : dp_J (dq_360 v) k i = 0 := sz_nJ (zj_359 v) k i
theorem zr_360 (v : Nat → Int32) (i : Nat) : dp_R (dq_360 v) 59 i = none := sz_nR (zr_359 v) i
theorem zl_25_360 (v : Nat → Int32) : dp_len (dq_360 v) 25 = (Int32.toNatClampNeg (dq_h (v 0) (12 : Int32))) := sz_nL (dqn_359 v) (by decide) (zl_25_359 v)
theorem zl_26_360 (v : Nat → Int32) : dp_len (dq_360 v) 26 = (Int32.toNatClampNeg (dq_h (v 0) (12 : Int32))) := sz_nL (dqn_359 v) (by decide) (zl_26_359 v)
theorem zl_27_360 (v : Nat → Int32) : dp_len (dq_360 v) 27 = (Int32.toNatClampNeg ((dq_h (v 0) (12 : Int32)) * (16 : Int32))) := sz_nL (dqn_359 v) (by decide) (zl_27_359 v)
theorem zl_33_360 (v : Nat → Int32) : dp_len (dq_360 v) 33 = (Int32.toNatClampNeg (dq_h (v 2) (20 : Int32))) := sz_nL (dqn_359 v) (by decide) (zl_33_359 v)
theorem zl_34_360 (v : Nat → Int32) : dp_len (dq_360 v) 34 = (Int32.toNatClampNeg (dq_h (v 2) (20 : Int32))) := sz_nL (dqn_359 v) (by decide) (zl_34_359 v)
theorem zl_35_360 (v : Nat → Int32) : dp_len (dq_360 v) 35 = (Int32.toNatClampNeg (dq_h (v 2) (20 : Int32))) := sz_nL (dqn_359 v) (by decide) (zl_35_359 v)
theorem zl_36_360 (v : Nat → Int32) : dp_len (dq_360 v) 36 = (Int32.toNatClampNeg ((dq_h (v 2) (20 : Int32)) * (dq_h (v 3) (8 : Int32)))) := sz_nL (dqn_359 v) (by decide) (zl_36_359 v)
theorem zi_361 (v : Nat → Int32) (k i : Nat) : dp_I (dq_361 v) k i = sF_13 v k i := zi_360 v k i
theorem zj_361 (v : Nat → Int32) (k i : Nat) : dp_J (dq_361 v) k i = 0 := zj_360 v k i
theorem zr_361 (v : Nat → Int32) (i : Nat) : dp_R (dq_361 v) 59 i = none := sz_rR (by decide) (zr_360 v) i
theorem zl_25_361 (v : Nat → Int32) : dp_len (dq_361 v) 25 = (Int32.toNatClampNeg (dq_h (v 0) (12 : Int32))) := zl_25_360 v
theorem zl_26_361 (v : Nat → Int32) : dp_len (dq_361 v) 26 = (Int32.toNatClampNeg (dq_h (v 0) (12 : Int32))) := zl_26_360 v
theorem zl_27_361 (v : Nat → Int32) : dp_len (dq_361 v) 27 = (Int32.toNatClampNeg ((dq_h (v 0) (12 : Int32)) * (16 : Int32))) := zl_27_360 v
theorem zl_33_361 (v : Nat → Int32) : dp_len (dq_361 v) 33 = (Int32.toNatClampNeg (dq_h (v 2) (20 : Int32))) := zl_33_360 v
theorem zl_34_361 (v : Nat → Int32) : dp_len (dq_361 v) 34 = (Int32.toNatClampNeg (dq_h (v 2) (20 : Int32))) := zl_34_360 v
theorem zl_35_361 (v : Nat → Int32) : dp_len (dq_361 v) 35 = (Int32.toNatClampNeg (dq_h (v 2) (20 : Int32))) := zl_35_360 v
theorem zl_36_361 (v : Nat → Int32) : dp_len (dq_361 v) 36 = (Int32.toNatClampNeg ((dq_h (v 2) (20 : Int32)) * (dq_h (v 3) (8 : Int32)))) := zl_36_360 v
theorem zi_362 (v : Nat → Int32) (k i : Nat) : dp_I (dq_362 v) k i = sF_13 v k i := sz_n (dqn_361 v) (zi_361 v) (fun _ => rfl) k i
theorem zj_362 (v : Nat → Int32) (k i : Nat) : dp_J (dq_362 v) k i = 0 := sz_nJ (zj_361 v) k i
theorem zr_362 (v : Nat → Int32) (i : Nat) : dp_R (dq_362 v) 59 i = none := sz_nR (zr_361 v) i
theorem zl_25_362 (v : Nat → Int32) : dp_len (dq_362 v) 25 = (Int32.toNatClampNeg (dq_h (v 0) (12 : Int32))) := sz_nL (dqn_361 v) (by decide) (zl_25_361 v)
theorem zl_26_362 (v : Nat → Int32) : dp_len (dq_362 v) 26 = (Int32.toNatClampNeg (dq_h (v 0) (12 : Int32))) := sz_nL (dqn_361 v) (by decide) (zl_26_361 v)
theorem zl_27_362 (v : Nat → Int32) : dp_len (dq_362 v) 27 = (Int32.toNatClampNeg ((dq_h (v 0) (12 : Int32)) * (16 : Int32))) := sz_nL (dqn_361 v) (by decide) (zl_27_361 v)
theorem zl_33_362 (v : Nat → Int32) : dp_len (dq_362 v) 33 = (Int32.toNatClampNeg (dq_h (v 2) (20 : Int32))) := sz_nL (dqn_361 v) (by decide) (zl_33_361 v)
theorem zl_34_362 (v : Nat → Int32) : dp_len (dq_362 v) 34 = (Int32.toNatClampNeg (dq_h (v 2) (20 : Int32))) := sz_nL (dqn_361 v) (by decide) (zl_34_361 v)
theorem zl_35_362 (v : Nat → Int32) : dp_len (dq_362 v) 35 = (Int32.toNatClampNeg (dq_h (v 2) (20 : Int32))) := sz_nL (dqn_361 v) (by decide) (zl_35_361 v)
theorem zl_36_362 (v : Nat → Int32) : dp_len (dq_362 v) 36 = (Int32.toNatClampNeg ((dq_h (v 2) (20 : Int32)) * (dq_h (v 3) (8 : Int32)))) := sz_nL (dqn_361 v) (by decide) (zl_36_361 v)
theorem zi_363 (v : Nat → Int32) (k i : Nat) : dp_I (dq_363 v) k i = sF_13 v k i := zi_362 v k i
theorem zj_363 (v : Nat → Int32) (k i : Nat) : dp_J (dq_363 v) k i = 0 := zj_362 v k i
theorem zr_363 (v : Nat → Int32) (i : Nat) : dp_R (dq_363 v) 59 i = none := sz_rR (by decide) (zr_362 v) i
theorem zl_25_363 (v : Nat → Int32) : dp_len (dq_363 v) 25 = (Int32.toNatClampNeg (dq_h (v 0) (12 : Int32))) := zl_25_362 v
theorem zl_26_363 (v : Nat → Int32) : dp_len (dq_363 v) 26 = (Int32.toNatClampNeg (dq_h (v 0) (12 : Int32))) := zl_26_362 v
theorem zl_27_363 (v : Nat → Int32) : dp_len (dq_363 v) 27 = (Int32.toNatClampNeg ((dq_h (v 0) (12 : Int32)) * (16 : Int32))) := zl_27_362 v
theorem zl_33_363 (v : Nat → Int32) : dp_len (dq_363 v) 33 = (Int32.toNatClampNeg (dq_h (v 2) (20 : Int32))) := zl_33_362 v
theorem zl_34_363 (v : Nat → Int32) : dp_len (dq_363 v) 34 = (Int32.toNatClampNeg (dq_h (v 2) (20 : Int32))) := zl_34_362 v
theorem zl_35_363 (v : Nat → Int32) : dp_len (dq_363 v) 35 = (Int32.toNatClampNeg (dq_h (v 2) (20 : Int32))) := zl_35_362 v
theorem zl_36_363 (v : Nat → Int32) : dp_len (dq_363 v) 36 = (Int32.toNatClampNeg ((dq_h (v 2) (20 : Int32)) * (dq_h (v 3) (8 : Int32)))) := zl_36_362 v
theorem zi_364 (v : Nat → Int32) (k i : Nat) : dp_I (dq_364 v) k i = sF_13 v k i := sz_n (dqn_363 v) (zi_363 v) (fun _ => rfl) k i
theorem zj_364 (v : Nat → Int32) (k i : Nat) : dp_J (dq_364 v) k i = 0 := sz_nJ (zj_363 v) k i
theorem zr_364 (v : Nat → Int32) (i : Nat) : dp_R (dq_364 v) 59 i = none := sz_nR (zr_363 v) i
theorem zl_25_364 (v : Nat → Int32) : dp_len (dq_364 v) 25 = (Int32.toNatClampNeg (dq_h (v 0) (12 : Int32))) := sz_nL (dqn_363 v) (by decide) (zl_25_363 v)
theorem zl_26_364 (v : Nat → Int32) : dp_len (dq_364 v) 26 = (Int32.toNatClampNeg (dq_h (v 0) (12 : Int32))) := sz_nL (dqn_363 v) (by decide) (zl_26_363 v)
theorem zl_27_364 (v : Nat → Int32) : dp_len (dq_364 v) 27 = (Int32.toNatClampNeg ((dq_h (v 0) (12 : Int32)) * (16 : Int32))) := sz_nL (dqn_363 v) (by decide) (zl_27_363 v)
theorem zl_33_364 (v : Nat → Int32) : dp_len (dq_364 v) 33 = (Int32.toNatClampNeg (dq_h (v 2) (20 : Int32))) := sz_nL (dqn_363 v) (by decide) (zl_33_363 v)
theorem zl_34_364 (v : Nat → Int32) : dp_len (dq_364 v) 34 = (Int32.toNatClampNeg (dq_h (v 2) (20 : Int32))) := sz_nL (dqn_363 v) (by decide) (zl_34_363 v)
theorem zl_35_364 (v : Nat → Int32) : dp_len (dq_364 v) 35 = (Int32.toNatClampNeg (dq_h (v 2) (20 : Int32))) := sz_nL (dqn_363 v) (by decide) (zl_35_363 v)
theorem zl_36_364 (v : Nat → Int32) : dp_len (dq_364 v) 36 = (Int32.toNatClampNeg ((dq_h (v 2) (20 : Int32)) * (dq_h (v 3) (8 : Int32)))) := sz_nL (dqn_363 v) (by decide) (zl_36_363 v)
theorem zi_365 (v : Nat → Int32) (k i : Nat) : dp_I (dq_365 v) k i = sF_13 v k i := zi_364 v k i
theorem zj_365 (v : Nat → Int32) (k i : Nat) : dp_J (dq_365 v) k i = 0 := zj_364 v k i
theorem zr_365 (v : Nat → Int32) (i : Nat) : dp_R (dq_365 v) 59 i = none := sz_rR (by decide) (zr_364 v) i
theorem zl_25_365 (v : Nat → Int32) : dp_len (dq_365 v) 25 = (Int32.toNatClampNeg (dq_h (v 0) (12 : Int32))) := zl_25_364 v
theorem zl_26_365 (v : Nat → Int32) : dp_len (dq_365 v) 26 = (Int32.toNatClampNeg (dq_h (v 0) (12 : Int32))) := zl_26_364 v
theorem zl_27_365 (v : Nat → Int32) : dp_len (dq_365 v) 27 = (Int32.toNatClampNeg ((dq_h (v 0) (12 : Int32)) * (16 : Int32))) := zl_27_364 v
theorem zl_33_365 (v : Nat → Int32) : dp_len (dq_365 v) 33 = (Int32.toNatClampNeg (dq_h (v 2) (20 : Int32))) := zl_33_364 v
theorem zl_34_365 (v : Nat → Int32) : dp_len (dq_365 v) 34 = (Int32.toNatClampNeg (dq_h (v 2) (20 : Int32))) := zl_34_364 v
theorem zl_35_365 (v : Nat → Int32) : dp_len (dq_365 v) 35 = (Int32.toNatClampNeg (dq_h (v 2) (20 : Int32))) := zl_35_364 v
theorem zl_36_365 (v : Nat → Int32) : dp_len (dq_365 v) 36 = (Int32.toNatClampNeg ((dq_h (v 2) (20 : Int32)) * (dq_h (v 3) (8 : Int32)))) := zl_36_364 v
theorem zi_366 (v : Nat → Int32) (k i : Nat) : dp_I (dq_366 v) k i = sF_13 v k i := sz_n (dqn_365 v) (zi_365 v) (fun _ => rfl) k i
theorem zj_366 (v : Nat → Int32) (k i : Nat) : dp_J (dq_366 v) k i = 0 := sz_nJ (zj_365 v) k i
theorem zr_366 (v : Nat → Int32) (i : Nat) : dp_R (dq_366 v) 59 i = none := sz_nR (zr_365 v) i
theorem zl_25_366 (v : Nat → Int32) : dp_len (dq_366 v) 25 = (Int32.toNatClampNeg (dq_h (v 0) (12 : Int32))) := sz_nL (dqn_365 v) (by decide) (zl_25_365 v)
theorem zl_26_366 (v : Nat → Int32) : dp_len (dq_366 v) 26 = (Int32.toNatClampNeg (dq_h (v 0) (12 : Int32))) := sz_nL (dqn_365 v) (by decide) (zl_26_365 v)
theorem zl_27_366 (v : Nat → Int32) : dp_len (dq_366 v) 27 = (Int32.toNatClampNeg ((dq_h (v 0) (12 : Int32)) * (16 : Int32))) := sz_nL (dqn_365 v) (by decide) (zl_27_365 v)
theorem zl_33_366 (v : Nat → Int32) : dp_len (dq_366 v) 33 = (Int32.toNatClampNeg (dq_h (v 2) (20 : Int32))) := sz_nL (dqn_365 v) (by decide) (zl_33_365 v)
theorem zl_34_366 (v : Nat → Int32) : dp_len (dq_366 v) 34 = (Int32.toNatClampNeg (dq_h (v 2) (20 : Int32))) := sz_nL (dqn_365 v) (by decide) (zl_34_365 v)
theorem zl_35_366 (v : Nat → Int32) : dp_len (dq_366 v) 35 = (Int32.toNatClampNeg (dq_h (v 2) (20 : Int32))) := sz_nL (dqn_365 v) (by decide) (zl_35_365 v)
theorem zl_36_366 (v : Nat → Int32) : dp_len (dq_366 v) 36 = (Int32.toNatClampNeg ((dq_h (v 2) (20 : Int32)) * (dq_h (v 3) (8 : Int32)))) := sz_nL (dqn_365 v) (by decide) (zl_36_365 v)
theorem zi_367 (v : Nat → Int32) (k i : Nat) : dp_I (dq_367 v) k i = sF_13 v k i := zi_366 v k i
theorem zj_367 (v : Nat → Int32) (k i : Nat) : dp_J (dq_367 v) k i = 0 := zj_366 v k i
theorem zr_367 (v : Nat → Int32) (i : Nat) : dp_R (dq_367 v) 59 i = none := sz_rR (by decide) (zr_366 v) i
theorem zl_25_367 (v : Nat → Int32) : dp_len (dq_367 v) 25 = (Int32.toNatClampNeg (dq_h (v 0) (12 : Int32))) := zl_25_366 v
theorem zl_26_367 (v : Nat → Int32) : dp_len (dq_367 v) 26 = (Int32.toNatClampNeg (dq_h (v 0) (12 : Int32))) := zl_26_366 v
theorem zl_27_367 (v : Nat → Int32) : dp_len (dq_367 v) 27 = (Int32.toNatClampNeg ((dq_h (v 0) (12 : Int32)) * (16 : Int32))) := zl_27_366 v
theorem zl_33_367 (v : Nat → Int32) : dp_len (dq_367 v) 33 = (Int32.toNatClampNeg (dq_h (v 2) (20 : Int32))) := zl_33_366 v
theorem zl_34_367 (v : Nat → Int32) : dp_len (dq_367 v) 34 = (Int32.toNatClampNeg (dq_h (v 2) (20 : Int32))) := zl_34_366 v
theorem zl_35_367 (v : Nat → Int32) : dp_len (dq_367 v) 35 = (Int32.toNatClampNeg (dq_h (v 2) (20 : Int32))) := zl_35_366 v
theorem zl_36_367 (v : Nat → Int32) : dp_len (dq_367 v) 36 = (Int32.toNatClampNeg ((dq_h (v 2) (20 : Int32)) * (dq_h (v 3) (8 : Int32)))) := zl_36_366 v
theorem zi_368 (v : Nat → Int32) (k i : Nat) : dp_I (dq_368 v) k i = sF_13 v k i := sz_n (dqn_367 v) (zi_367 v) (fun _ => rfl) k i
theorem zj_368 (v : Nat → Int32) (k i : Nat) : dp_J (dq_368 v) k i = 0 := sz_nJ (zj_367 v) k i
theorem zr_368 (v : Nat → Int32) (i : Nat) : dp_R (dq_368 v) 59 i = none := sz_nR (zr_367 v) i
theorem zl_25_368 (v : Nat → Int32) : dp_len (dq_368 v) 25 = (Int32.toNatClampNeg (dq_h (v 0) (12 : Int32))) := sz_nL (dqn_367 v) (by decide) (zl_25_367 v)
theorem zl_26_368 (v : Nat → Int32) : dp_len (dq_368 v) 26 = (Int32.toNatClampNeg (dq_h (v 0) (12 : Int32))) := sz_nL (dqn_367 v) (by decide) (zl_26_367 v)
theorem zl_27_368 (v : Nat → Int32) : dp_len (dq_368 v) 27 = (Int32.toNatClampNeg ((dq_h (v 0) (12 : Int32)) * (16 : Int32))) := sz_nL (dqn_367 v) (by decide) (zl_27_367 v)
theorem zl_33_368 (v : Nat → Int32) : dp_len (dq_368 v) 33 = (Int32.toNatClampNeg (dq_h (v 2) (20 : Int32))) := sz_nL (dqn_367 v) (by decide) (zl_33_367 v)
theorem zl_34_368 (v : Nat → Int32) : dp_len (dq_368 v) 34 = (Int32.toNatClampNeg (dq_h (v 2) (20 : Int32))) := sz_nL (dqn_367 v) (by decide) (zl_34_367 v)
theorem zl_35_368 (v : Nat → Int32) : dp_len (dq_368 v) 35 = (Int32.toNatClampNeg (dq_h (v 2) (20 : Int32))) := sz_nL (dqn_367 v) (by decide) (zl_35_367 v)
theorem zl_36_368 (v : Nat → Int32) : dp_len (dq_368 v) 36 = (Int32.toNatClampNeg ((dq_h (v 2) (20 : Int32)) * (dq_h (v 3) (8 : Int32)))) := sz_nL (dqn_367 v) (by decide) (zl_36_367 v)
theorem zi_369 (v : Nat → Int32) (k i : Nat) : dp_I (dq_369 v) k i = sF_13 v k i := zi_368 v k i
theorem zj_369 (v : Nat → Int32) (k i : Nat) : dp_J (dq_369 v) k i = 0 := zj_368 v k i
theorem zr_369 (v : Nat → Int32) (i : Nat) : dp_R (dq_369 v) 59 i = none := sz_rR (by decide) (zr_368 v) i
theorem zl_25_369 (v : Nat → Int32) : dp_len (dq_369 v) 25 = (Int32.toNatClampNeg (dq_h (v 0) (12 : Int32))) := zl_25_368 v
theorem zl_26_369 (v : Nat → Int32) : dp_len (dq_369 v) 26 = (Int32.toNatClampNeg (dq_h (v 0) (12 : Int32))) := zl_26_368 v
theorem zl_27_369 (v : Nat → Int32) : dp_len (dq_369 v) 27 = (Int32.toNatClampNeg ((dq_h (v 0) (12 : Int32)) * (16 : Int32))) := zl_27_368 v
theorem zl_33_369 (v : Nat → Int32) : dp_len (dq_369 v) 33 = (Int32.toNatClampNeg (dq_h (v 2) (20 : Int32))) := zl_33_368 v
theorem zl_34_369 (v : Nat → Int32) : dp_len (dq_369 v) 34 = (Int32.toNatClampNeg (dq_h (v 2) (20 : Int32))) := zl_34_368 v
theorem zl_35_369 (v : Nat → Int32) : dp_len (dq_369 v) 35 = (Int32.toNatClampNeg (dq_h (v 2) (20 : Int32))) := zl_35_368 v
theorem zl_36_369 (v : Nat → Int32) : dp_len (dq_369 v) 36 = (Int32.toNatClampNeg ((dq_h (v 2) (20 : Int32)) * (dq_h (v 3) (8 : Int32)))) := zl_36_368 v
theorem zi_370 (v : Nat → Int32) (k i : Nat) : dp_I (dq_370 v) k i = sF_13 v k i := sz_n (dqn_369 v) (zi_369 v) (fun _ => rfl) k i
theorem zj_370 (v : Nat → Int32) (k i : Nat) : dp_J (dq_370 v) k i = 0 := sz_nJ (zj_369 v) k i
theorem zr_370 (v : Nat → Int32) (i : Nat) : dp_R (dq_370 v) 59 i = none := sz_nR (zr_369 v) i
theorem zl_25_370 (v : Nat → Int32) : dp_len (dq_370 v) 25 = (Int32.toNatClampNeg (dq_h (v 0) (12 : Int32))) := sz_nL (dqn_369 v) (by decide) (zl_25_369 v)
theorem zl_26_370 (v : Nat → Int32) : dp_len (dq_370 v) 26 = (Int32.toNatClampNeg (dq_h (v 0) (12 : Int32))) := sz_nL (dqn_369 v) (by decide) (zl_26_369 v)
theorem zl_27_370 (v : Nat → Int32) : dp_len (dq_370 v) 27 = (Int32.toNatClampNeg ((dq_h (v 0) (12 : Int32)) * (16 : Int32))) := sz_nL (dqn_369 v) (by decide) (zl_27_369 v)
theorem zl_33_370 (v : Nat → Int32) : dp_len (dq_370 v) 33 = (Int32.toNatClampNeg (dq_h (v 2) (20 : Int32))) := sz_nL (dqn_369 v) (by decide) (zl_33_369 v)
theorem zl_34_370 (v : Nat → Int32) : dp_len (dq_370 v) 34 = (Int32.toNatClampNeg (dq_h (v 2) (20 : Int32))) := sz_nL (dqn_369 v) (by decide) (zl_34_369 v)
theorem zl_35_370 (v : Nat → Int32) : dp_len (dq_370 v) 35 = (Int32.toNatClampNeg (dq_h (v 2) (20 : Int32))) := sz_nL (dqn_369 v) (by decide) (zl_35_369 v)
theorem zl_36_370 (v : Nat → Int32) : dp_len (dq_370 v) 36 = (Int32.toNatClampNeg ((dq_h (v 2) (20 : Int32)) * (dq_h (v 3) (8 : Int32)))) := sz_nL (dqn_369 v) (by decide) (zl_36_369 v)
theorem zi_371 (v : Nat → Int32) (k i : Nat) : dp_I (dq_371 v) k i = sF_13 v k i := zi_370 v k i
theorem zj_371 (v : Nat → Int32) (k i : Nat) : dp_J (dq_371 v) k i = 0 := zj_370 v k i
theorem zr_371 (v : Nat → Int32) (i : Nat) : dp_R (dq_371 v) 59 i = none := sz_rR (by decide) (zr_370 v) i
theorem zl_25_371 (v : Nat → Int32) : dp_len (dq_371 v) 25 = (Int32.toNatClampNeg (dq_h (v 0) (12 : Int32))) := zl_25_370 v
theorem zl_26_371 (v : Nat → Int32) : dp_len (dq_371 v) 26 = (Int32.toNatClampNeg (dq_h (v 0) (12 : Int32))) := zl_26_370 v
theorem zl_27_371 (v : Nat → Int32) : dp_len (dq_371 v) 27 = (Int32.toNatClampNeg ((dq_h (v 0) (12 : Int32)) * (16 : Int32))) := zl_27_370 v
theorem zl_33_371 (v : Nat → Int32) : dp_len (dq_371 v) 33 = (Int32.toNatClampNeg (dq_h (v 2) (20 : Int32))) := zl_33_370 v
theorem zl_34_371 (v : Nat → Int32) : dp_len (dq_371 v) 34 = (Int32.toNatClampNeg (dq_h (v 2) (20 : Int32))) := zl_34_370 v
theorem zl_35_371 (v : Nat → Int32) : dp_len (dq_371 v) 35 = (Int32.toNatClampNeg (dq_h (v 2) (20 : Int32))) := zl_35_370 v
theorem zl_36_371 (v : Nat → Int32) : dp_len (dq_371 v) 36 = (Int32.toNatClampNeg ((dq_h (v 2) (20 : Int32)) * (dq_h (v 3) (8 : Int32)))) := zl_36_370 v
theorem zi_372 (v : Nat → Int32) (k i : Nat) : dp_I (dq_372 v) k i = sF_13 v k i := sz_n (dqn_371 v) (zi_371 v) (fun _ => rfl) k i
theorem zj_372 (v : Nat → Int32) (k i : Nat) : dp_J (dq_372 v) k i = 0 := sz_nJ (zj_371 v) k i
theorem zr_372 (v : Nat → Int32) (i : Nat) : dp_R (dq_372 v) 59 i = none := sz_nR (zr_371 v) i
theorem zl_25_372 (v : Nat → Int32) : dp_len (dq_372 v) 25 = (Int32.toNatClampNeg (dq_h (v 0) (12 : Int32))) := sz_nL (dqn_371 v) (by decide) (zl_25_371 v)
theorem zl_26_372 (v : Nat → Int32) : dp_len (dq_372 v) 26 = (Int32.toNatClampNeg (dq_h (v 0) (12 : Int32))) := sz_nL (dqn_371 v) (by decide) (zl_26_371 v)
theorem zl_27_372 (v : Nat → Int32) : dp_len (dq_372 v) 27 = (Int32.toNatClampNeg ((dq_h (v 0) (12 : Int32)) * (16 : Int32))) := sz_nL (dqn_371 v) (by decide) (zl_27_371 v)
theorem zl_33_372 (v : Nat → Int32) : dp_len (dq_372 v) 33 = (Int32.toNatClampNeg (dq_h (v 2) (20 : Int32))) := sz_nL (dqn_371 v) (by decide) (zl_33_371 v)
theorem zl_34_372 (v : Nat → Int32) : dp_len (dq_372 v) 34 = (Int32.toNatClampNeg (dq_h (v 2) (20 : Int32))) := sz_nL (dqn_371 v) (by decide) (zl_34_371 v)
theorem zl_35_372 (v : Nat → Int32) : dp_len (dq_372 v) 35 = (Int32.toNatClampNeg (dq_h (v 2) (20 : Int32))) := sz_nL (dqn_371 v) (by decide) (zl_35_371 v)
theorem zl_36_372 (v : Nat → Int32) : dp_len (dq_372 v) 36 = (Int32.toNatClampNeg ((dq_h (v 2) (20 : Int32)) * (dq_h (v 3) (8 : Int32)))) := sz_nL (dqn_371 v) (by decide) (zl_36_371 v)
theorem zi_373 (v : Nat → Int32) (k i : Nat) : dp_I (dq_373 v) k i = sF_13 v k i := zi_372 v k i
theorem zj_373 (v : Nat → Int32) (k i : Nat) : dp_J (dq_373 v) k i = 0 := zj_372 v k i
theorem zr_373 (v : Nat → Int32) (i : Nat) : dp_R (dq_373 v) 59 i = none := sz_rR (by decide) (zr_372 v) i
theorem zl_25_373 (v : Nat → Int32) : dp_len (dq_373 v) 25 = (Int32.toNatClampNeg (dq_h (v 0) (12 : Int32))) := zl_25_372 v
theorem zl_26_373 (v : Nat → Int32) : dp_len (dq_373 v) 26 = (Int32.toNatClampNeg (dq_h (v 0) (12 : Int32))) := zl_26_372 v
theorem zl_27_373 (v : Nat → Int32) : dp_len (dq_373 v) 27 = (Int32.toNatClampNeg ((dq_h (v 0) (12 : Int32)) * (16 : Int32))) := zl_27_372 v
theorem zl_33_373 (v : Nat → Int32) : dp_len (dq_373 v) 33 = (Int32.toNatClampNeg (dq_h (v 2) (20 : Int32))) := zl_33_372 v
theorem zl_34_373 (v : Nat → Int32) : dp_len (dq_373 v) 34 = (Int32.toNatClampNeg (dq_h (v 2) (20 : Int32))) := zl_34_372 v
theorem zl_35_373 (v : Nat → Int32) : dp_len (dq_373 v) 35 = (Int32.toNatClampNeg (dq_h (v 2) (20 : Int32))) := zl_35_372 v
theorem zl_36_373 (v : Nat → Int32) : dp_len (dq_373 v) 36 = (Int32.toNatClampNeg ((dq_h (v 2) (20 : Int32)) * (dq_h (v 3) (8 : Int32)))) := zl_36_372 v
theorem zi_374 (v : Nat → Int32) (k i : Nat) : dp_I (dq_374 v) k i = sF_13 v k i := sz_n (dqn_373 v) (zi_373 v) (fun _ => rfl) k i
theorem zj_374 (v : Nat → Int32) (k i : Nat) : dp_J (dq_374 v) k i = 0 := sz_nJ (zj_373 v) k i
theorem zr_374 (v : Nat → Int32) (i : Nat) : dp_R (dq_374 v) 59 i = none := sz_nR (zr_373 v) i
theorem zl_25_374 (v : Nat → Int32) : dp_len (dq_374 v) 25 = (Int32.toNatClampNeg (dq_h (v 0) (12 : Int32))) := sz_nL (dqn_373 v) (by decide) (zl_25_373 v)
theorem zl_26_374 (v : Nat → Int32) : dp_len (dq_374 v) 26 = (Int32.toNatClampNeg (dq_h (v 0) (12 : Int32))) := sz_nL (dqn_373 v) (by decide) (zl_26_373 v)
theorem zl_27_374 (v : Nat → Int32) : dp_len (dq_374 v) 27 = (Int32.toNatClampNeg ((dq_h (v 0) (12 : Int32)) * (16 : Int32))) := sz_nL (dqn_373 v) (by decide) (zl_27_373 v)
theorem zl_33_374 (v : Nat → Int32) : dp_len (dq_374 v) 33 = (Int32.toNatClampNeg (dq_h (v 2) (20 : Int32))) := sz_nL (dqn_373 v) (by decide) (zl_33_373 v)
theorem zl_34_374 (v : Nat → Int32) : dp_len (dq_374 v) 34 = (Int32.toNatClampNeg (dq_h (v 2) (20 : Int32))) := sz_nL (dqn_373 v) (by decide) (zl_34_373 v)
theorem zl_35_374 (v : Nat → Int32) : dp_len (dq_374 v) 35 = (Int32.toNatClampNeg (dq_h (v 2) (20 : Int32))) := sz_nL (dqn_373 v) (by decide) (zl_35_373 v)
theorem zl_36_374 (v : Nat → Int32) : dp_len (dq_374 v) 36 = (Int32.toNatClampNeg ((dq_h (v 2) (20 : Int32)) * (dq_h (v 3) (8 : Int32)))) := sz_nL (dqn_373 v) (by decide) (zl_36_373 v)
theorem zi_375 (v : Nat → Int32) (k i : Nat) : dp_I (dq_375 v) k i = sF_13 v k i := zi_374 v k i
theorem zj_375 (v : Nat → Int32) (k i : Nat) : dp_J (dq_375 v) k i = 0 := zj_374 v k i
theorem zr_375 (v : Nat → Int32) (i : Nat) : dp_R (dq_375 v) 59 i = none := sz_rR (by decide) (zr_374 v) i
theorem zl_25_375 (v : Nat → Int32) : dp_len (dq_375 v) 25 = (Int32.toNatClampNeg (dq_h (v 0) (12 : Int32))) := zl_25_374 v
theorem zl_26_375 (v : Nat → Int32) : dp_len (dq_375 v) 26 = (Int32.toNatClampNeg (dq_h (v 0) (12 : Int32))) := zl_26_374 v
theorem zl_27_375 (v : Nat → Int32) : dp_len (dq_375 v) 27 = (Int32.toNatClampNeg ((dq_h (v 0) (12 : Int32)) * (16 : Int32))) := zl_27_374 v
theorem zl_33_375 (v : Nat → Int32) : dp_len (dq_375 v) 33 = (Int32.toNatClampNeg (dq_h (v 2) (20 : Int32))) := zl_33_374 v
theorem zl_34_375 (v : Nat → Int32) : dp_len (dq_375 v) 34 = (Int32.toNatClampNeg (dq_h (v 2) (20 : Int32))) := zl_34_374 v
theorem zl_35_375 (v : Nat → Int32) : dp_len (dq_375 v) 35 = (Int32.toNatClampNeg (dq_h (v 2) (20 : Int32))) := zl_35_374 v
theorem zl_36_375 (v : Nat → Int32) : dp_len (dq_375 v) 36 = (Int32.toNatClampNeg ((dq_h (v 2) (20 : Int32)) * (dq_h (v 3) (8 : Int32)))) := zl_36_374 v
theorem zi_376 (v : Nat → Int32) (k i : Nat) : dp_I (dq_376 v) k i = sF_13 v k i := sz_n (dqn_375 v) (zi_375 v) (fun _ => rfl) k i
theorem zj_376 (v : Nat → Int32) (k i : Nat) : dp_J (dq_376 v) k i = 0 := sz_nJ (zj_375 v) k i
theorem zr_376 (v : Nat → Int32) (i : Nat) : dp_R (dq_376 v) 59 i = none := sz_nR (zr_375 v) i
theorem zl_25_376 (v : Nat → Int32) : dp_len (dq_376 v) 25 = (Int32.toNatClampNeg (dq_h (v 0) (12 : Int32))) := sz_nL (dqn_375 v) (by decide) (zl_25_375 v)
theorem zl_26_376 (v : Nat → Int32) : dp_len (dq_376 v) 26 = (Int32.toNatClampNeg (dq_h (v 0) (12 : Int32))) := sz_nL (dqn_375 v) (by decide) (zl_26_375 v)
theorem zl_27_376 (v : Nat → Int32) : dp_len (dq_376 v) 27 = (Int32.toNatClampNeg ((dq_h (v 0) (12 : Int32)) * (16 : Int32))) := sz_nL (dqn_375 v) (by decide) (zl_27_375 v)
theorem zl_33_376 (v : Nat → Int32) : dp_len (dq_376 v) 33 = (Int32.toNatClampNeg (dq_h (v 2) (20 : Int32))) := sz_nL (dqn_375 v) (by decide) (zl_33_375 v)
theorem zl_34_376 (v : Nat → Int32) : dp_len (dq_376 v) 34 = (Int32.toNatClampNeg (dq_h (v 2) (20 : Int32))) := sz_nL (dqn_375 v) (by decide) (zl_34_375 v)
theorem zl_35_376 (v : Nat → Int32) : dp_len (dq_376 v) 35 = (Int32.toNatClampNeg (dq_h (v 2) (20 : Int32))) := sz_nL (dqn_375 v) (by decide) (zl_35_375 v)
theorem zl_36_376 (v : Nat → Int32) : dp_len (dq_376 v) 36 = (Int32.toNatClampNeg ((dq_h (v 2) (20 : Int32)) * (dq_h (v 3) (8 : Int32)))) := sz_nL (dqn_375 v) (by decide) (zl_36_375 v)
theorem zi_377 (v : Nat → Int32) (k i : Nat) : dp_I (dq_377 v) k i = sF_13 v k i := zi_376 v k i
theorem zj_377 (v : Nat → Int32) (k i : Nat) : dp_J (dq_377 v) k i = 0 := zj_376 v k i
theorem zr_377 (v : Nat → Int32) (i : Nat) : dp_R (dq_377 v) 59 i = none := sz_rR (by decide) (zr_376 v) i
theorem zl_25_377 (v : Nat → Int32) : dp_len (dq_377 v) 25 = (Int32.toNatClampNeg (dq_h (v 0) (12 : Int32))) := zl_25_376 v
theorem zl_26_377 (v : Nat → Int32) : dp_len (dq_377 v) 26 = (Int32.toNatClampNeg (dq_h (v 0) (12 : Int32))) := zl_26_376 v
theorem zl_27_377 (v : Nat → Int32) : dp_len (dq_377 v) 27 = (Int32.toNatClampNeg ((dq_h (v 0) (12 : Int32)) * (16 : Int32))) := zl_27_376 v
theorem zl_33_377 (v : Nat → Int32) : dp_len (dq_377 v) 33 = (Int32.toNatClampNeg (dq_h (v 2) (20 : Int32))) := zl_33_376 v
theorem zl_34_377 (v : Nat → Int32) : dp_len (dq_377 v) 34 = (Int32.toNatClampNeg (dq_h (v 2) (20 : Int32))) := zl_34_376 v
theorem zl_35_377 (v : Nat → Int32) : dp_len (dq_377 v) 35 = (Int32.toNatClampNeg (dq_h (v 2) (20 : Int32))) := zl_35_376 v
theorem zl_36_377 (v : Nat → Int32) : dp_len (dq_377 v) 36 = (Int32.toNatClampNeg ((dq_h (v 2) (20 : Int32)) * (dq_h (v 3) (8 : Int32)))) := zl_36_376 v
theorem zi_378 (v : Nat → Int32) (k i : Nat) : dp_I (dq_378 v) k i = sF_13 v k i := sz_n (dqn_377 v) (zi_377 v) (fun _ => rfl) k i
theorem zj_378 (v : Nat → Int32) (k i : Nat) : dp_J (dq_378 v) k i = 0 := sz_nJ (zj_377 v) k i
theorem zr_378 (v : Nat → Int32) (i : Nat) : dp_R (dq_378 v) 59 i = none := sz_nR (zr_377 v) i
theorem zl_25_378 (v : Nat → Int32) : dp_len (dq_378 v) 25 = (Int32.toNatClampNeg (dq_h (v 0) (12 : Int32))) := sz_nL (dqn_377 v) (by decide) (zl_25_377 v)
theorem zl_26_378 (v : Nat → Int32) : dp_len (dq_378 v) 26 = (Int32.toNatClampNeg (dq_h (v 0) (12 : Int32))) := sz_nL (dqn_377 v) (by decide) (zl_26_377 v)
theorem zl_27_378 (v : Nat → Int32) : dp_len (dq_378 v) 27 = (Int32.toNatClampNeg ((dq_h (v 0) (12 : Int32)) * (16 : Int32))) := sz_nL (dqn_377 v) (by decide) (zl_27_377 v)
theorem zl_33_378 (v : Nat → Int32) : dp_len (dq_378 v) 33 = (Int32.toNatClampNeg (dq_h (v 2) (20 : Int32))) := sz_nL (dqn_377 v) (by decide) (zl_33_377 v)
theorem zl_34_378 (v : Nat → Int32) : dp_len (dq_378 v) 34 = (Int32.toNatClampNeg (dq_h (v 2) (20 : Int32))) := sz_nL (dqn_377 v) (by decide) (zl_34_377 v)
theorem zl_35_378 (v : Nat → Int32) : dp_len (dq_378 v) 35 = (Int32.toNatClampNeg (dq_h (v 2) (20 : Int32))) := sz_nL (dqn_377 v) (by decide) (zl_35_377 v)
theorem zl_36_378 (v : Nat → Int32) : dp_len (dq_378 v) 36 = (Int32.toNatClampNeg ((dq_h (v 2) (20 : Int32)) * (dq_h (v 3) (8 : Int32)))) := sz_nL (dqn_377 v) (by decide) (zl_36_377 v)
theorem zi_379 (v : Nat → Int32) (k i : Nat) : dp_I (dq_379 v) k i = sF_13 v k i := zi_378 v k i
theorem zj_379 (v : Nat → Int32) (k i : Nat) : dp_J (dq_379 v) k i = 0 := zj_378 v k i
theorem zr_379 (v : Nat → Int32) (i : Nat) : dp_R (dq_379 v) 59 i = none := sz_rR (by decide) (zr_378 v) i
theorem zl_25_379 (v : Nat → Int32) : dp_len (dq_379 v) 25 = (Int32.toNatClampNeg (dq_h (v 0) (12 : Int32))) := zl_25_378 v
theorem zl_26_379 (v : Nat → Int32) : dp_len (dq_379 v) 26 = (Int32.toNatClampNeg (dq_h (v 0) (12 : Int32))) := zl_26_378 v
theorem zl_27_379 (v : Nat → Int32) : dp_len (dq_379 v) 27 = (Int32.toNatClampNeg ((dq_h (v 0) (12 : Int32)) * (16 : Int32))) := zl_27_378 v
theorem zl_33_379 (v : Nat → Int32) : dp_len (dq_379 v) 33 = (Int32.toNatClampNeg (dq_h (v 2) (20 : Int32))) := zl_33_378 v
theorem zl_34_379 (v : Nat → Int32) : dp_len (dq_379 v) 34 = (Int32.toNatClampNeg (dq_h (v 2) (20 : Int32))) := zl_34_378 v
theorem zl_35_379 (v : Nat → Int32) : dp_len (dq_379 v) 35 = (Int32.toNatClampNeg (dq_h (v 2) (20 : Int32))) := zl_35_378 v
theorem zl_36_379 (v : Nat → Int32) : dp_len (dq_379 v) 36 = (Int32.toNatClampNeg ((dq_h (v 2) (20 : Int32)) * (dq_h (v 3) (8 : Int32)))) := zl_36_378 v
theorem zi_380 (v : Nat → Int32) (k i : Nat) : dp_I (dq_380 v) k i = sF_13 v k i := sz_n (dqn_379 v) (zi_379 v) (fun _ => rfl) k i
theorem zj_380 (v : Nat → Int32) (k i : Nat) : dp_J (dq_380 v) k i = 0 := sz_nJ (zj_379 v) k i
theorem zr_380 (v : Nat → Int32) (i : Nat) : dp_R (dq_380 v) 59 i = none := sz_nR (zr_379 v) i
theorem zl_25_380 (v : Nat → Int32) : dp_len (dq_380 v) 25 = (Int32.toNatClampNeg (dq_h (v 0) (12 : Int32))) := sz_nL (dqn_379 v) (by decide) (zl_25_379 v)
theorem zl_26_380 (v : Nat → Int32) : dp_len (dq_380 v) 26 = (Int32.toNatClampNeg (dq_h (v 0) (12 : Int32))) := sz_nL (dqn_379 v) (by decide) (zl_26_379 v)
theorem zl_27_380 (v : Nat → Int32) : dp_len (dq_380 v) 27 = (Int32.toNatClampNeg ((dq_h (v 0) (12 : Int32)) * (16 : Int32))) := sz_nL (dqn_379 v) (by decide) (zl_27_379 v)
theorem zl_33_380 (v : Nat → Int32) : dp_len (dq_380 v) 33 = (Int32.toNatClampNeg (dq_h (v 2) (20 : Int32))) := sz_nL (dqn_379 v) (by decide) (zl_33_379 v)
theorem zl_34_380 (v : Nat → Int32) : dp_len (dq_380 v) 34 = (Int32.toNatClampNeg (dq_h (v 2) (20 : Int32))) := sz_nL (dqn_379 v) (by decide) (zl_34_379 v)
theorem zl_35_380 (v : Nat → Int32) : dp_len (dq_380 v) 35 = (Int32.toNatClampNeg (dq_h (v 2) (20 : Int32))) := sz_nL (dqn_379 v) (by decide) (zl_35_379 v)
theorem zl_36_380 (v : Nat → Int32) : dp_len (dq_380 v) 36 = (Int32.toNatClampNeg ((dq_h (v 2) (20 : Int32)) * (dq_h (v 3) (8 : Int32)))) := sz_nL (dqn_379 v) (by decide) (zl_36_379 v)
theorem zi_381 (v : Nat → Int32) (k i : Nat) : dp_I (dq_381 v) k i = sF_13 v k i := zi_380 v k i
theorem zj_381 (v : Nat → Int32) (k i : Nat) : dp_J (dq_381 v) k i = 0 := zj_380 v k i
theorem zr_381 (v : Nat → Int32) (i : Nat) : dp_R (dq_381 v) 59 i = none := sz_rR (by decide) (zr_380 v) i
theorem zl_25_381 (v : Nat → Int32) : dp_len (dq_381 v) 25 = (Int32.toNatClampNeg (dq_h (v 0) (12 : Int32))) := zl_25_380 v
theorem zl_26_381 (v : Nat → Int32) : dp_len (dq_381 v) 26 = (Int32.toNatClampNeg (dq_h (v 0) (12 : Int32))) := zl_26_380 v
theorem zl_27_381 (v : Nat → Int32) : dp_len (dq_381 v) 27 = (Int32.toNatClampNeg ((dq_h (v 0) (12 : Int32)) * (16 : Int32))) := zl_27_380 v
theorem zl_33_381 (v : Nat → Int32) : dp_len (dq_381 v) 33 = (Int32.toNatClampNeg (dq_h (v 2) (20 : Int32))) := zl_33_380 v
theorem zl_34_381 (v : Nat → Int32) : dp_len (dq_381 v) 34 = (Int32.toNatClampNeg (dq_h (v 2) (20 : Int32))) := zl_34_380 v
theorem zl_35_381 (v : Nat → Int32) : dp_len (dq_381 v) 35 = (Int32.toNatClampNeg (dq_h (v 2) (20 : Int32))) := zl_35_380 v
theorem zl_36_381 (v : Nat → Int32) : dp_len (dq_381 v) 36 = (Int32.toNatClampNeg ((dq_h (v 2) (20 : Int32)) * (dq_h (v 3) (8 : Int32)))) := zl_36_380 v
theorem zi_382 (v : Nat → Int32) (k i : Nat) : dp_I (dq_382 v) k i = sF_13 v k i := sz_n (dqn_381 v) (zi_381 v) (fun _ => rfl) k i
theorem zj_382 (v : Nat → Int32) (k i : Nat) : dp_J (dq_382 v) k i = 0 := sz_nJ (zj_381 v) k i
theorem zr_382 (v : Nat → Int32) (i : Nat) : dp_R (dq_382 v) 59 i = none := sz_nR (zr_381 v) i
theorem zl_25_382 (v : Nat → Int32) : dp_len (dq_382 v) 25 = (Int32.toNatClampNeg (dq_h (v 0) (12 : Int32))) := sz_nL (dqn_381 v) (by decide) (zl_25_381 v)
theorem zl_26_382 (v : Nat → Int32) : dp_len (dq_382 v) 26 = (Int32.toNatClampNeg (dq_h (v 0) (12 : Int32))) := sz_nL (dqn_381 v) (by decide) (zl_26_381 v)
theorem zl_27_382 (v : Nat → Int32) : dp_len (dq_382 v) 27 = (Int32.toNatClampNeg ((dq_h (v 0) (12 : Int32)) * (16 : Int32))) := sz_nL (dqn_381 v) (by decide) (zl_27_381 v)
theorem zl_33_382 (v : Nat → Int32) : dp_len (dq_382 v) 33 = (Int32.toNatClampNeg (dq_h (v 2) (20 : Int32))) := sz_nL (dqn_381 v) (by decide) (zl_33_381 v)
theorem zl_34_382 (v : Nat → Int32) : dp_len (dq_382 v) 34 = (Int32.toNatClampNeg (dq_h (v 2) (20 : Int32))) := sz_nL (dqn_381 v) (by decide) (zl_34_381 v)
theorem zl_35_382 (v : Nat → Int32) : dp_len (dq_382 v) 35 = (Int32.toNatClampNeg (dq_h (v 2) (20 : Int32))) := sz_nL (dqn_381 v) (by decide) (zl_35_381 v)
theorem zl_36_382 (v : Nat → Int32) : dp_len (dq_382 v) 36 = (Int32.toNatClampNeg ((dq_h (v 2) (20 : Int32)) * (dq_h (v 3) (8 : Int32)))) := sz_nL (dqn_381 v) (by decide) (zl_36_381 v)
theorem zi_383 (v : Nat → Int32) (k i : Nat) : dp_I (dq_383 v) k i = sF_13 v k i := zi_382 v k i
theorem zj_383 (v : Nat → Int32) (k i : Nat) : dp_J (dq_383 v) k i = 0 := zj_382 v k i
theorem zr_383 (v : Nat → Int32) (i : Nat) : dp_R (dq_383 v) 59 i = none := sz_rR (by decide) (zr_382 v) i
theorem zl_25_383 (v : Nat → Int32) : dp_len (dq_383 v) 25 = (Int32.toNatClampNeg (dq_h (v 0) (12 : Int32))) := zl_25_382 v
theorem zl_26_383 (v : Nat → Int32) : dp_len (dq_383 v) 26 = (Int32.toNatClampNeg (dq_h (v 0) (12 : Int32))) := zl_26_382 v
theorem zl_27_383 (v : Nat → Int32) : dp_len (dq_383 v) 27 = (Int32.toNatClampNeg ((dq_h (v 0) (12 : Int32)) * (16 : Int32))) := zl_27_382 v
theorem zl_33_383 (v : Nat → Int32) : dp_len (dq_383 v) 33 = (Int32.toNatClampNeg (dq_h (v 2) (20 : Int32))) := zl_33_382 v
theorem zl_34_383 (v : Nat → Int32) : dp_len (dq_383 v) 34 = (Int32.toNatClampNeg (dq_h (v 2) (20 : Int32))) := zl_34_382 v
theorem zl_35_383 (v : Nat → Int32) : dp_len (dq_383 v) 35 = (Int32.toNatClampNeg (dq_h (v 2) (20 : Int32))) := zl_35_382 v
theorem zl_36_383 (v : Nat → Int32) : dp_len (dq_383 v) 36 = (Int32.toNatClampNeg ((dq_h (v 2) (20 : Int32)) * (dq_h (v 3) (8 : Int32)))) := zl_36_382 v
theorem zi_384 (v : Nat → Int32) (k i : Nat) : dp_I (dq_384 v) k i = sF_13 v k i := sz_n (dqn_383 v) (zi_383 v) (fun _ => rfl) k i
theorem zj_384 (v : Nat → Int32) (k i : Nat) : dp_J (dq_384 v) k i = 0 := sz_nJ (zj_383 v) k i
theorem zr_384 (v : Nat → Int32) (i : Nat) : dp_R (dq_384 v) 59 i = none := sz_nR (zr_383 v) i
theorem zl_25_384 (v : Nat → Int32) : dp_len (dq_384 v) 25 = (Int32.toNatClampNeg (dq_h (v 0) (12 : Int32))) := sz_nL (dqn_383 v) (by decide) (zl_25_383 v)
theorem zl_26_384 (v : Nat → Int32) : dp_len (dq_384 v) 26 = (Int32.toNatClampNeg (dq_h (v 0) (12 : Int32))) := sz_nL (dqn_383 v) (by decide) (zl_26_383 v)
theorem zl_27_384 (v : Nat → Int32) : dp_len (dq_384 v) 27 = (Int32.toNatClampNeg ((dq_h (v 0) (12 : Int32)) * (16 : Int32))) := sz_nL (dqn_383 v) (by decide) (zl_27_383 v)
theorem zl_33_384 (v : Nat → Int32) : dp_len (dq_384 v) 33 = (Int32.toNatClampNeg (dq_h (v 2) (20 : Int32))) := sz_nL (dqn_383 v) (by decide) (zl_33_383 v)
theorem zl_34_384 (v : Nat → Int32) : dp_len (dq_384 v) 34 = (Int32.toNatClampNeg (dq_h (v 2) (20 : Int32))) := sz_nL (dqn_383 v) (by decide) (zl_34_383 v)
theorem zl_35_384 (v : Nat → Int32) : dp_len (dq_384 v) 35 = (Int32.toNatClampNeg (dq_h (v 2) (20 : Int32))) := sz_nL (dqn_383 v) (by decide) (zl_35_383 v)
theorem zl_36_384 (v : Nat → Int32) : dp_len (dq_384 v) 36 = (Int32.toNatClampNeg ((dq_h (v 2) (20 : Int32)) * (dq_h (v 3) (8 : Int32)))) := sz_nL (dqn_383 v) (by decide) (zl_36_383 v)
theorem zi_385 (v : Nat → Int32) (k i : Nat) : dp_I (dq_385 v) k i = sF_13 v k i := zi_384 v k i
theorem zj_385 (v : Nat → Int32) (k i : Nat) : dp_J (dq_385 v) k i = 0 := zj_384 v k i
theorem zr_385 (v : Nat → Int32) (i : Nat) : dp_R (dq_385 v) 59 i = none := sz_rR (by decide) (zr_384 v) i
theorem zl_25_385 (v : Nat → Int32) : dp_len (dq_385 v) 25 = (Int32.toNatClampNeg (dq_h (v 0) (12 : Int32))) := zl_25_384 v
theorem zl_26_385 (v : Nat → Int32) : dp_len (dq_385 v) 26 = (Int32.toNatClampNeg (dq_h (v 0) (12 : Int32))) := zl_26_384 v
theorem zl_27_385 (v : Nat → Int32) : dp_len (dq_385 v) 27 = (Int32.toNatClampNeg ((dq_h (v 0) (12 : Int32)) * (16 : Int32))) := zl_27_384 v
theorem zl_33_385 (v : Nat → Int32) : dp_len (dq_385 v) 33 = (Int32.toNatClampNeg (dq_h (v 2) (20 : Int32))) := zl_33_384 v
theorem zl_34_385 (v : Nat → Int32) : dp_len (dq_385 v) 34 = (Int32.toNatClampNeg (dq_h (v 2) (20 : Int32))) := zl_34_384 v
theorem zl_35_385 (v : Nat → Int32) : dp_len (dq_385 v) 35 = (Int32.toNatClampNeg (dq_h (v 2) (20 : Int32))) := zl_35_384 v
theorem zl_36_385 (v : Nat → Int32) : dp_len (dq_385 v) 36 = (Int32.toNatClampNeg ((dq_h (v 2) (20 : Int32)) * (dq_h (v 3) (8 : Int32)))) := zl_36_384 v
theorem zi_386 (v : Nat → Int32) (k i : Nat) : dp_I (dq_386 v) k i = sF_13 v k i := sz_n (dqn_385 v) (zi_385 v) (fun _ => rfl) k i
theorem zj_386 (v : Nat → Int32) (k i : Nat) : dp_J (dq_386 v) k i = 0 := sz_nJ (zj_385 v) k i
theorem zr_386 (v : Nat → Int32) (i : Nat) : dp_R (dq_386 v) 59 i = none := sz_nR (zr_385 v) i
theorem zl_25_386 (v : Nat → Int32) : dp_len (dq_386 v) 25 = (Int32.toNatClampNeg (dq_h (v 0) (12 : Int32))) := sz_nL (dqn_385 v) (by decide) (zl_25_385 v)
theorem zl_26_386 (v : Nat → Int32) : dp_len (dq_386 v) 26 = (Int32.toNatClampNeg (dq_h (v 0) (12 : Int32))) := sz_nL (dqn_385 v) (by decide) (zl_26_385 v)
theorem zl_27_386 (v : Nat → Int32) : dp_len (dq_386 v) 27 = (Int32.toNatClampNeg ((dq_h (v 0) (12 : Int32)) * (16 : Int32))) := sz_nL (dqn_385 v) (by decide) (zl_27_385 v)
theorem zl_33_386 (v : Nat → Int32) : dp_len (dq_386 v) 33 = (Int32.toNatClampNeg (dq_h (v 2) (20 : Int32))) := sz_nL (dqn_385 v) (by decide) (zl_33_385 v)
theorem zl_34_386 (v : Nat → Int32) : dp_len (dq_386 v) 34 = (Int32.toNatClampNeg (dq_h (v 2) (20 : Int32))) := sz_nL (dqn_385 v) (by decide) (zl_34_385 v)
theorem zl_35_386 (v : Nat → Int32) : dp_len (dq_386 v) 35 = (Int32.toNatClampNeg (dq_h (v 2) (20 : Int32))) := sz_nL (dqn_385 v) (by decide) (zl_35_385 v)
theorem zl_36_386 (v : Nat → Int32) : dp_len (dq_386 v) 36 = (Int32.toNatClampNeg ((dq_h (v 2) (20 : Int32)) * (dq_h (v 3) (8 : Int32)))) := sz_nL (dqn_385 v) (by decide) (zl_36_385 v)
theorem zi_387 (v : Nat → Int32) (k i : Nat) : dp_I (dq_387 v) k i = sF_13 v k i := zi_386 v k i
theorem zj_387 (v : Nat → Int32) (k i : Nat) : dp_J (dq_387 v) k i = 0 := zj_386 v k i
theorem zr_387 (v : Nat → Int32) (i : Nat) : dp_R (dq_387 v) 59 i = none := sz_rR (by decide) (zr_386 v) i
theorem zl_25_387 (v : Nat → Int32) : dp_len (dq_387 v) 25 = (Int32.toNatClampNeg (dq_h (v 0) (12 : Int32))) := zl_25_386 v
theorem zl_26_387 (v : Nat → Int32) : dp_len (dq_387 v) 26 = (Int32.toNatClampNeg (dq_h (v 0) (12 : Int32))) := zl_26_386 v
theorem zl_27_387 (v : Nat → Int32) : dp_len (dq_387 v) 27 = (Int32.toNatClampNeg ((dq_h (v 0) (12 : Int32)) * (16 : Int32))) := zl_27_386 v
theorem zl_33_387 (v : Nat → Int32) : dp_len (dq_387 v) 33 = (Int32.toNatClampNeg (dq_h (v 2) (20 : Int32))) := zl_33_386 v
theorem zl_34_387 (v : Nat → Int32) : dp_len (dq_387 v) 34 = (Int32.toNatClampNeg (dq_h (v 2) (20 : Int32))) := zl_34_386 v
theorem zl_35_387 (v : Nat → Int32) : dp_len (dq_387 v) 35 = (Int32.toNatClampNeg (dq_h (v 2) (20 : Int32))) := zl_35_386 v
theorem zl_36_387 (v : Nat → Int32) : dp_len (dq_387 v) 36 = (Int32.toNatClampNeg ((dq_h (v 2) (20 : Int32)) * (dq_h (v 3) (8 : Int32)))) := zl_36_386 v
theorem zi_388 (v : Nat → Int32) (k i : Nat) : dp_I (dq_388 v) k i = sF_13 v k i := sz_n (dqn_387 v) (zi_387 v) (fun _ => rfl) k i
theorem zj_388 (v : Nat → Int32) (k i : Nat) : dp_J (dq_388 v) k i = 0 := sz_nJ (zj_387 v) k i
theorem zr_388 (v : Nat → Int32) (i : Nat) : dp_R (dq_388 v) 59 i = none := sz_nR (zr_387 v) i
theorem zl_25_388 (v : Nat → Int32) : dp_len (dq_388 v) 25 = (Int32.toNatClampNeg (dq_h (v 0) (12 : Int32))) := sz_nL (dqn_387 v) (by decide) (zl_25_387 v)
theorem zl_26_388 (v : Nat → Int32) : dp_len (dq_388 v) 26 = (Int32.toNatClampNeg (dq_h (v 0) (12 : Int32))) := sz_nL (dqn_387 v) (by decide) (zl_26_387 v)
theorem zl_27_388 (v : Nat → Int32) : dp_len (dq_388 v) 27 = (Int32.toNatClampNeg ((dq_h (v 0) (12 : Int32)) * (16 : Int32))) := sz_nL (dqn_387 v) (by decide) (zl_27_387 v)
theorem zl_33_388 (v : Nat → Int32) : dp_len (dq_388 v) 33 = (Int32.toNatClampNeg (dq_h (v 2) (20 : Int32))) := sz_nL (dqn_387 v) (by decide) (zl_33_387 v)
theorem zl_34_388 (v : Nat → Int32) : dp_len (dq_388 v) 34 = (Int32.toNatClampNeg (dq_h (v 2) (20 : Int32))) := sz_nL (dqn_387 v) (by decide) (zl_34_387 v)
theorem zl_35_388 (v : Nat → Int32) : dp_len (dq_388 v) 35 = (Int32.toNatClampNeg (dq_h (v 2) (20 : Int32))) := sz_nL (dqn_387 v) (by decide) (zl_35_387 v)
theorem zl_36_388 (v : Nat → Int32) : dp_len (dq_388 v) 36 = (Int32.toNatClampNeg ((dq_h (v 2) (20 : Int32)) * (dq_h (v 3) (8 : Int32)))) := sz_nL (dqn_387 v) (by decide) (zl_36_387 v)
theorem zi_389 (v : Nat → Int32) (k i : Nat) : dp_I (dq_389 v) k i = sF_13 v k i := zi_388 v k i
theorem zj_389 (v : Nat → Int32) (k i : Nat) : dp_J (dq_389 v) k i = 0 := zj_388 v k i
theorem zr_389 (v : Nat → Int32) (i : Nat) : dp_R (dq_389 v) 59 i = none := sz_rR (by decide) (zr_388 v) i
theorem zl_25_389 (v : Nat → Int32) : dp_len (dq_389 v) 25 = (Int32.toNatClampNeg (dq_h (v 0) (12 : Int32))) := zl_25_388 v
theorem zl_26_389 (v : Nat → Int32) : dp_len (dq_389 v) 26 = (Int32.toNatClampNeg (dq_h (v 0) (12 : Int32))) := zl_26_388 v
theorem zl_27_389 (v : Nat → Int32) : dp_len (dq_389 v) 27 = (Int32.toNatClampNeg ((dq_h (v 0) (12 : Int32)) * (16 : Int32))) := zl_27_388 v
theorem zl_33_389 (v : Nat → Int32) : dp_len (dq_389 v) 33 = (Int32.toNatClampNeg (dq_h (v 2) (20 : Int32))) := zl_33_388 v
theorem zl_34_389 (v : Nat → Int32) : dp_len (dq_389 v) 34 = (Int32.toNatClampNeg (dq_h (v 2) (20 : Int32))) := zl_34_388 v
theorem zl_35_389 (v : Nat → Int32) : dp_len (dq_389 v) 35 = (Int32.toNatClampNeg (dq_h (v 2) (20 : Int32))) := zl_35_388 v
theorem zl_36_389 (v : Nat → Int32) : dp_len (dq_389 v) 36 = (Int32.toNatClampNeg ((dq_h (v 2) (20 : Int32)) * (dq_h (v 3) (8 : Int32)))) := zl_36_388 v
theorem zi_390 (v : Nat → Int32) (k i : Nat) : dp_I (dq_390 v) k i = sF_13 v k i := sz_n (dqn_389 v) (zi_389 v) (fun _ => rfl) k i
theorem zj_390 (v : Nat → Int32) (k i : Nat) : dp_J (dq_390 v) k i = 0 := sz_nJ (zj_389 v) k i
theorem zr_390 (v : Nat → Int32) (i : Nat) : dp_R (dq_390 v) 59 i = none := sz_nR (zr_389 v) i
theorem zl_25_390 (v : Nat → Int32) : dp_len (dq_390 v) 25 = (Int32.toNatClampNeg (dq_h (v 0) (12 : Int32))) := sz_nL (dqn_389 v) (by decide) (zl_25_389 v)
theorem zl_26_390 (v : Nat → Int32) : dp_len (dq_390 v) 26 = (Int32.toNatClampNeg (dq_h (v 0) (12 : Int32))) := sz_nL (dqn_389 v) (by decide) (zl_26_389 v)
theorem zl_27_390 (v : Nat → Int32) : dp_len (dq_390 v) 27 = (Int32.toNatClampNeg ((dq_h (v 0) (12 : Int32)) * (16 : Int32))) := sz_nL (dqn_389 v) (by decide) (zl_27_389 v)
theorem zl_33_390 (v : Nat → Int32) : dp_len (dq_390 v) 33 = (Int32.toNatClampNeg (dq_h (v 2) (20 : Int32))) := sz_nL (dqn_389 v) (by decide) (zl_33_389 v)
theorem zl_34_390 (v : Nat → Int32) : dp_len (dq_390 v) 34 = (Int32.toNatClampNeg (dq_h (v 2) (20 : Int32))) := sz_nL (dqn_389 v) (by decide) (zl_34_389 v)
theorem zl_35_390 (v : Nat → Int32) : dp_len (dq_390 v) 35 = (Int32.toNatClampNeg (dq_h (v 2) (20 : Int32))) := sz_nL (dqn_389 v) (by decide) (zl_35_389 v)
theorem zl_36_390 (v : Nat → Int32) : dp_len (dq_390 v) 36 = (Int32.toNatClampNeg ((dq_h (v 2) (20 : Int32)) * (dq_h (v 3) (8 : Int32)))) := sz_nL (dqn_389 v) (by decide) (zl_36_389 v)
theorem zi_391 (v : Nat → Int32) (k i : Nat) : dp_I (dq_391 v) k i = sF_13 v k i := zi_390 v k i
theorem zj_391 (v : Nat → Int32) (k i : Nat) : dp_J (dq_391 v) k i = 0 := zj_390 v k i
theorem zr_391 (v : Nat → Int32) (i : Nat) : dp_R (dq_391 v) 59 i = none := sz_rR (by decide) (zr_390 v) i
theorem zl_25_391 (v : Nat → Int32) : dp_len (dq_391 v) 25 = (Int32.toNatClampNeg (dq_h (v 0) (12 : Int32))) := zl_25_390 v
theorem zl_26_391 (v : Nat → Int32) : dp_len (dq_391 v) 26 = (Int32.toNatClampNeg (dq_h (v 0) (12 : Int32))) := zl_26_390 v
theorem zl_27_391 (v : Nat → Int32) : dp_len (dq_391 v) 27 = (Int32.toNatClampNeg ((dq_h (v 0) (12 : Int32)) * (16 : Int32))) := zl_27_390 v
theorem zl_33_391 (v : Nat → Int32) : dp_len (dq_391 v) 33 = (Int32.toNatClampNeg (dq_h (v 2) (20 : Int32))) := zl_33_390 v
theorem zl_34_391 (v : Nat → Int32) : dp_len (dq_391 v) 34 = (Int32.toNatClampNeg (dq_h (v 2) (20 : Int32))) := zl_34_390 v
theorem zl_35_391 (v : Nat → Int32) : dp_len (dq_391 v) 35 = (Int32.toNatClampNeg (dq_h (v 2) (20 : Int32))) := zl_35_390 v
theorem zl_36_391 (v : Nat → Int32) : dp_len (dq_391 v) 36 = (Int32.toNatClampNeg ((dq_h (v 2) (20 : Int32)) * (dq_h (v 3) (8 : Int32)))) := zl_36_390 v
theorem zi_392 (v : Nat → Int32) (k i : Nat) : dp_I (dq_392 v) k i = sF_13 v k i := sz_n (dqn_391 v) (zi_391 v) (fun _ => rfl) k i
theorem zj_392 (v : Nat → Int32) (k i : Nat) : dp_J (dq_392 v) k i = 0 := sz_nJ (zj_391 v) k i
theorem zr_392 (v : Nat → Int32) (i : Nat) : dp_R (dq_392 v) 59 i = none := sz_nR (zr_391 v) i
theorem zl_25_392 (v : Nat → Int32) : dp_len (dq_392 v) 25 = (Int32.toNatClampNeg (dq_h (v 0) (12 : Int32))) := sz_nL (dqn_391 v) (by decide) (zl_25_391 v)
theorem zl_26_392 (v : Nat → Int32) : dp_len (dq_392 v) 26 = (Int32.toNatClampNeg (dq_h (v 0) (12 : Int32))) := sz_nL (dqn_391 v) (by decide) (zl_26_391 v)
theorem zl_27_392 (v : Nat → Int32) : dp_len (dq_392 v) 27 = (Int32.toNatClampNeg ((dq_h (v 0) (12 : Int32)) * (16 : Int32))) := sz_nL (dqn_391 v) (by decide) (zl_27_391 v)
theorem zl_33_392 (v : Nat → Int32) : dp_len (dq_392 v) 33 = (Int32.toNatClampNeg (dq_h (v 2) (20 : Int32))) := sz_nL (dqn_391 v) (by decide) (zl_33_391 v)
theorem zl_34_392 (v : Nat → Int32) : dp_len (dq_392 v) 34 = (Int32.toNatClampNeg (dq_h (v 2) (20 : Int32))) := sz_nL (dqn_391 v) (by decide) (zl_34_391 v)
theorem zl_35_392 (v : Nat → Int32) : dp_len (dq_392 v) 35 = (Int32.toNatClampNeg (dq_h (v 2) (20 : Int32))) := sz_nL (dqn_391 v) (by decide) (zl_35_391 v)
theorem zl_36_392 (v : Nat → Int32) : dp_len (dq_392 v) 36 = (Int32.toNatClampNeg ((dq_h (v 2) (20 : Int32)) * (dq_h (v 3) (8 : Int32)))) := sz_nL (dqn_391 v) (by decide) (zl_36_391 v)
theorem zi_393 (v : Nat → Int32) (k i : Nat) : dp_I (dq_393 v) k i = sF_13 v k i := zi_392 v k i
theorem zj_393 (v : Nat → Int32) (k i : Nat) : dp_J (dq_393 v) k i = 0 := zj_392 v k i
theorem zr_393 (v : Nat → Int32) (i : Nat) : dp_R (dq_393 v) 59 i = none := sz_rR (by decide) (zr_392 v) i
theorem zl_25_393 (v : Nat → Int32) : dp_len (dq_393 v) 25 = (Int32.toNatClampNeg (dq_h (v 0) (12 : Int32))) := zl_25_392 v
theorem zl_26_393 (v : Nat → Int32) : dp_len (dq_393 v) 26 = (Int32.toNatClampNeg (dq_h (v 0) (12 : Int32))) := zl_26_392 v
theorem zl_27_393 (v : Nat → Int32) : dp_len (dq_393 v) 27 = (Int32.toNatClampNeg ((dq_h (v 0) (12 : Int32)) * (16 : Int32))) := zl_27_392 v
theorem zl_33_393 (v : Nat → Int32) : dp_len (dq_393 v) 33 = (Int32.toNatClampNeg (dq_h (v 2) (20 : Int32))) := zl_33_392 v
theorem zl_34_393 (v : Nat → Int32) : dp_len (dq_393 v) 34 = (Int32.toNatClampNeg (dq_h (v 2) (20 : Int32))) := zl_34_392 v
theorem zl_35_393 (v : Nat → Int32) : dp_len (dq_393 v) 35 = (Int32.toNatClampNeg (dq_h (v 2) (20 : Int32))) := zl_35_392 v
theorem zl_36_393 (v : Nat → Int32) : dp_len (dq_393 v) 36 = (Int32.toNatClampNeg ((dq_h (v 2) (20 : Int32)) * (dq_h (v 3) (8 : Int32)))) := zl_36_392 v
theorem zi_394 (v : Nat → Int32) (k i : Nat) : dp_I (dq_394 v) k i = sF_13 v k i := sz_n (dqn_393 v) (zi_393 v) (fun _ => rfl) k i
theorem zj_394 (v : Nat → Int32) (k i : Nat) : dp_J (dq_394 v) k i = 0 := sz_nJ (zj_393 v) k i
theorem zr_394 (v : Nat → Int32) (i : Nat) : dp_R (dq_394 v) 59 i = none := sz_nR (zr_393 v) i
theorem zl_25_394 (v : Nat → Int32) : dp_len (dq_394 v) 25 = (Int32.toNatClampNeg (dq_h (v 0) (12 : Int32))) := sz_nL (dqn_393 v) (by decide) (zl_25_393 v)
theorem zl_26_394 (v : Nat → Int32) : dp_len (dq_394 v) 26 = (Int32.toNatClampNeg (dq_h (v 0) (12 : Int32))) := sz_nL (dqn_393 v) (by decide) (zl_26_393 v)
theorem zl_27_394 (v : Nat → Int32) : dp_len (dq_394 v) 27 = (Int32.toNatClampNeg ((dq_h (v 0) (12 : Int32)) * (16 : Int32))) := sz_nL (dqn_393 v) (by decide) (zl_27_393 v)
theorem zl_33_394 (v : Nat → Int32) : dp_len (dq_394 v) 33 = (Int32.toNatClampNeg (dq_h (v 2) (20 : Int32))) := sz_nL (dqn_393 v) (by decide) (zl_33_393 v)
theorem zl_34_394 (v : Nat → Int32) : dp_len (dq_394 v) 34 = (Int32.toNatClampNeg (dq_h (v 2) (20 : Int32))) := sz_nL (dqn_393 v) (by decide) (zl_34_393 v)
theorem zl_35_394 (v : Nat → Int32) : dp_len (dq_394 v) 35 = (Int32.toNatClampNeg (dq_h (v 2) (20 : Int32))) := sz_nL (dqn_393 v) (by decide) (zl_35_393 v)
theorem zl_36_394 (v : Nat → Int32) : dp_len (dq_394 v) 36 = (Int32.toNatClampNeg ((dq_h (v 2) (20 : Int32)) * (dq_h (v 3) (8 : Int32)))) := sz_nL (dqn_393 v) (by decide) (zl_36_393 v)
theorem zi_395 (v : Nat → Int32) (k i : Nat) : dp_I (dq_395 v) k i = sF_13 v k i := zi_394 v k i
theorem zj_395 (v : Nat → Int32) (k i : Nat) : dp_J (dq_395 v) k i = 0 := zj_394 v k i
theorem zr_395 (v : Nat → Int32) (i : Nat) : dp_R (dq_395 v) 59 i = none := sz_rR (by decide) (zr_394 v) i
theorem zl_25_395 (v : Nat → Int32) : dp_len (dq_395 v) 25 = (Int32.toNatClampNeg (dq_h (v 0) (12 : Int32))) := zl_25_394 v
theorem zl_26_395 (v : Nat → Int32) : dp_len (dq_395 v) 26 = (Int32.toNatClampNeg (dq_h (v 0) (12 : Int32))) := zl_26_394 v
theorem zl_27_395 (v : Nat → Int32) : dp_len (dq_395 v) 27 = (Int32.toNatClampNeg ((dq_h (v 0) (12 : Int32)) * (16 : Int32))) := zl_27_394 v
theorem zl_33_395 (v : Nat → Int32) : dp_len (dq_395 v) 33 = (Int32.toNatClampNeg (dq_h (v 2) (20 : Int32))) := zl_33_394 v
theorem zl_34_395 (v : Nat → Int32) : dp_len (dq_395 v) 34 = (Int32.toNatClampNeg (dq_h (v 2) (20 : Int32))) := zl_34_394 v
theorem zl_35_395 (v : Nat → Int32) : dp_len (dq_395 v) 35 = (Int32.toNatClampNeg (dq_h (v 2) (20 : Int32))) := zl_35_394 v
theorem zl_36_395 (v : Nat → Int32) : dp_len (dq_395 v) 36 = (Int32.toNatClampNeg ((dq_h (v 2) (20 : Int32)) * (dq_h (v 3) (8 : Int32)))) := zl_36_394 v
theorem zi_396 (v : Nat → Int32) (k i : Nat) : dp_I (dq_396 v) k i = sF_13 v k i := sz_n (dqn_395 v) (zi_395 v) (fun _ => rfl) k i
theorem zj_396 (v : Nat → Int32) (k i : Nat) : dp_J (dq_396 v) k i = 0 := sz_nJ (zj_395 v) k i
theorem zr_396 (v : Nat → Int32) (i : Nat) : dp_R (dq_396 v) 59 i = none := sz_nR (zr_395 v) i
theorem zl_25_396 (v : Nat → Int32) : dp_len (dq_396 v) 25 = (Int32.toNatClampNeg (dq_h (v 0) (12 : Int32))) := sz_nL (dqn_395 v) (by decide) (zl_25_395 v)
theorem zl_26_396 (v : Nat → Int32) : dp_len (dq_396 v) 26 = (Int32.toNatClampNeg (dq_h (v 0) (12 : Int32))) := sz_nL (dqn_395 v) (by decide) (zl_26_395 v)
theorem zl_27_396 (v : Nat → Int32) : dp_len (dq_396 v) 27 = (Int32.toNatClampNeg ((dq_h (v 0) (12 : Int32)) * (16 : Int32))) := sz_nL (dqn_395 v) (by decide) (zl_27_395 v)
theorem zl_33_396 (v : Nat → Int32) : dp_len (dq_396 v) 33 = (Int32.toNatClampNeg (dq_h (v 2) (20 : Int32))) := sz_nL (dqn_395 v) (by decide) (zl_33_395 v)
theorem zl_34_396 (v : Nat → Int32) : dp_len (dq_396 v) 34 = (Int32.toNatClampNeg (dq_h (v 2) (20 : Int32))) := sz_nL (dqn_395 v) (by decide) (zl_34_395 v)
theorem zl_35_396 (v : Nat → Int32) : dp_len (dq_396 v) 35 = (Int32.toNatClampNeg (dq_h (v 2) (20 : Int32))) := sz_nL (dqn_395 v) (by decide) (zl_35_395 v)
theorem zl_36_396 (v : Nat → Int32) : dp_len (dq_396 v) 36 = (Int32.toNatClampNeg ((dq_h (v 2) (20 : Int32)) * (dq_h (v 3) (8 : Int32)))) := sz_nL (dqn_395 v) (by decide) (zl_36_395 v)
theorem zi_397 (v : Nat → Int32) (k i : Nat) : dp_I (dq_397 v) k i = sF_13 v k i := zi_396 v k i
theorem zj_397 (v : Nat → Int32) (k i : Nat) : dp_J (dq_397 v) k i = 0 := zj_396 v k i
theorem zr_397 (v : Nat → Int32) (i : Nat) : dp_R (dq_397 v) 59 i = none := sz_rR (by decide) (zr_396 v) i
theorem zl_25_397 (v : Nat → Int32) : dp_len (dq_397 v) 25 = (Int32.toNatClampNeg (dq_h (v 0) (12 : Int32))) := zl_25_396 v
theorem zl_26_397 (v : Nat → Int32) : dp_len (dq_397 v) 26 = (Int32.toNatClampNeg (dq_h (v 0) (12 : Int32))) := zl_26_396 v
theorem zl_27_397 (v : Nat → Int32) : dp_len (dq_397 v) 27 = (Int32.toNatClampNeg ((dq_h (v 0) (12 : Int32)) * (16 : Int32))) := zl_27_396 v
theorem zl_33_397 (v : Nat → Int32) : dp_len (dq_397 v) 33 = (Int32.toNatClampNeg (dq_h (v 2) (20 : Int32))) := zl_33_396 v
theorem zl_34_397 (v : Nat → Int32) : dp_len (dq_397 v) 34 = (Int32.toNatClampNeg (dq_h (v 2) (20 : Int32))) := zl_34_396 v
theorem zl_35_397 (v : Nat → Int32) : dp_len (dq_397 v) 35 = (Int32.toNatClampNeg (dq_h (v 2) (20 : Int32))) := zl_35_396 v
theorem zl_36_397 (v : Nat → Int32) : dp_len (dq_397 v) 36 = (Int32.toNatClampNeg ((dq_h (v 2) (20 : Int32)) * (dq_h (v 3) (8 : Int32)))) := zl_36_396 v
theorem zi_398 (v : Nat → Int32) (k i : Nat) : dp_I (dq_398 v) k i = sF_13 v k i := sz_n (dqn_397 v) (zi_397 v) (fun _ => rfl) k i
theorem zj_398 (v : Nat → Int32) (k i : Nat) : dp_J (dq_398 v) k i = 0 := sz_nJ (zj_397 v) k i
theorem zr_398 (v : Nat → Int32) (i : Nat) : dp_R (dq_398 v) 59 i = none := sz_nR (zr_397 v) i
theorem zl_25_398 (v : Nat → Int32) : dp_len (dq_398 v) 25 = (Int32.toNatClampNeg (dq_h (v 0) (12 : Int32))) := sz_nL (dqn_397 v) (by decide) (zl_25_397 v)
theorem zl_26_398 (v : Nat → Int32) : dp_len (dq_398 v) 26 = (Int32.toNatClampNeg (dq_h (v 0) (12 : Int32))) := sz_nL (dqn_397 v) (by decide) (zl_26_397 v)
theorem zl_27_398 (v : Nat → Int32) : dp_len (dq_398 v) 27 = (Int32.toNatClampNeg ((dq_h (v 0) (12 : Int32)) * (16 : Int32))) := sz_nL (dqn_397 v) (by decide) (zl_27_397 v)
theorem zl_33_398 (v : Nat → Int32) : dp_len (dq_398 v) 33 = (Int32.toNatClampNeg (dq_h (v 2) (20 : Int32))) := sz_nL (dqn_397 v) (by decide) (zl_33_397 v)
theorem zl_34_398 (v : Nat → Int32) : dp_len (dq_398 v) 34 = (Int32.toNatClampNeg (dq_h (v 2) (20 : Int32))) := sz_nL (dqn_397 v) (by decide) (zl_34_397 v)
theorem zl_35_398 (v : Nat → Int32) : dp_len (dq_398 v) 35 = (Int32.toNatClampNeg (dq_h (v 2) (20 : Int32))) := sz_nL (dqn_397 v) (by decide) (zl_35_397 v)
theorem zl_36_398 (v : Nat → Int32) : dp_len (dq_398 v) 36 = (Int32.toNatClampNeg ((dq_h (v 2) (20 : Int32)) * (dq_h (v 3) (8 : Int32)))) := sz_nL (dqn_397 v) (by decide) (zl_36_397 v)
theorem zi_399 (v : Nat → Int32) (k i : Nat) : dp_I (dq_399 v) k i = sF_13 v k i := zi_398 v k i
theorem zj_399 (v : Nat → Int32) (k i : Nat) : dp_J (dq_399 v) k i = 0 := zj_398 v k i
theorem zr_399 (v : Nat → Int32) (i : Nat) : dp_R (dq_399 v) 59 i = none := sz_rR (by decide) (zr_398 v) i
theorem zl_25_399 (v : Nat → Int32) : dp_len (dq_399 v) 25 = (Int32.toNatClampNeg (dq_h (v 0) (12 : Int32))) := zl_25_398 v
theorem zl_26_399 (v : Nat → Int32) : dp_len (dq_399 v) 26 = (Int32.toNatClampNeg (dq_h (v 0) (12 : Int32))) := zl_26_398 v
theorem zl_27_399 (v : Nat → Int32) : dp_len (dq_399 v) 27 = (Int32.toNatClampNeg ((dq_h (v 0) (12 : Int32)) * (16 : Int32))) := zl_27_398 v
theorem zl_33_399 (v : Nat → Int32) : dp_len (dq_399 v) 33 = (Int32.toNatClampNeg (dq_h (v 2) (20 : Int32))) := zl_33_398 v
theorem zl_34_399 (v : Nat → Int32) : dp_len (dq_399 v) 34 = (Int32.toNatClampNeg (dq_h (v 2) (20 : Int32))) := zl_34_398 v
theorem zl_35_399 (v : Nat → Int32) : dp_len (dq_399 v) 35 = (Int32.toNatClampNeg (dq_h (v 2) (20 : Int32))) := zl_35_398 v
theorem zl_36_399 (v : Nat → Int32) : dp_len (dq_399 v) 36 = (Int32.toNatClampNeg ((dq_h (v 2) (20 : Int32)) * (dq_h (v 3) (8 : Int32)))) := zl_36_398 v
theorem zi_400 (v : Nat → Int32) (k i : Nat) : dp_I (dq_400 v) k i = sF_13 v k i := sz_n (dqn_399 v) (zi_399 v) (fun _ => rfl) k i
theorem zj_400 (v : Nat → Int32) (k i : Nat) : dp_J (dq_400 v) k i = 0 := sz_nJ (zj_399 v) k i
theorem zr_400 (v : Nat → Int32) (i : Nat) : dp_R (dq_400 v) 59 i = none := sz_nR (zr_399 v) i
theorem zl_25_400 (v : Nat → Int32) : dp_len (dq_400 v) 25 = (Int32.toNatClampNeg (dq_h (v 0) (12 : Int32))) := sz_nL (dqn_399 v) (by decide) (zl_25_399 v)
theorem zl_26_400 (v : Nat → Int32) : dp_len (dq_400 v) 26 = (Int32.toNatClampNeg (dq_h (v 0) (12 : Int32))) := sz_nL (dqn_399 v) (by decide) (zl_26_399 v)
theorem zl_27_400 (v : Nat → Int32) : dp_len (dq_400 v) 27 = (Int32.toNatClampNeg ((dq_h (v 0) (12 : Int32)) * (16 : Int32))) := sz_nL (dqn_399 v) (by decide) (zl_27_399 v)
theorem zl_33_400 (v : Nat → Int32) : dp_len (dq_400 v) 33 = (Int32.toNatClampNeg (dq_h (v 2) (20 : Int32))) := sz_nL (dqn_399 v) (by decide) (zl_33_399 v)
theorem zl_34_400 (v : Nat → Int32) : dp_len (dq_400 v) 34 = (Int32.toNatClampNeg (dq_h (v 2) (20 : Int32))) := sz_nL (dqn_399 v) (by decide) (zl_34_399 v)
theorem zl_35_400 (v : Nat → Int32) : dp_len (dq_400 v) 35 = (Int32.toNatClampNeg (dq_h (v 2) (20 : Int32))) := sz_nL (dqn_399 v) (by decide) (zl_35_399 v)
theorem zl_36_400 (v : Nat → Int32) : dp_len (dq_400 v) 36 = (Int32.toNatClampNeg ((dq_h (v 2) (20 : Int32)) * (dq_h (v 3) (8 : Int32)))) := sz_nL (dqn_399 v) (by decide) (zl_36_399 v)
theorem zi_401 (v : Nat → Int32) (k i : Nat) : dp_I (dq_401 v) k i = sF_13 v k i := zi_400 v k i
theorem zj_401 (v : Nat → Int32) (k i : Nat) : dp_J (dq_401 v) k i = 0 := zj_400 v k i
theorem zr_401 (v : Nat → Int32) (i : Nat) : dp_R (dq_401 v) 59 i = none := sz_rR (by decide) (zr_400 v) i
theorem zl_25_401 (v : Nat → Int32) : dp_len (dq_401 v) 25 = (Int32.toNatClampNeg (dq_h (v 0) (12 : Int32))) := zl_25_400 v
theorem zl_26_401 (v : Nat → Int32) : dp_len (dq_401 v) 26 = (Int32.toNatClampNeg (dq_h (v 0) (12 : Int32))) := zl_26_400 v
theorem zl_27_401 (v : Nat → Int32) : dp_len (dq_401 v) 27 = (Int32.toNatClampNeg ((dq_h (v 0) (12 : Int32)) * (16 : Int32))) := zl_27_400 v
theorem zl_33_401 (v : Nat → Int32) : dp_len (dq_401 v) 33 = (Int32.toNatClampNeg (dq_h (v 2) (20 : Int32))) := zl_33_400 v
theorem zl_34_401 (v : Nat → Int32) : dp_len (dq_401 v) 34 = (Int32.toNatClampNeg (dq_h (v 2) (20 : Int32))) := zl_34_400 v
theorem zl_35_401 (v : Nat → Int32) : dp_len (dq_401 v) 35 = (Int32.toNatClampNeg (dq_h (v 2) (20 : Int32))) := zl_35_400 v
theorem zl_36_401 (v : Nat → Int32) : dp_len (dq_401 v) 36 = (Int32.toNatClampNeg ((dq_h (v 2) (20 : Int32)) * (dq_h (v 3) (8 : Int32)))) := zl_36_400 v
theorem zi_402 (v : Nat → Int32) (k i : Nat) : dp_I (dq_402 v) k i = sF_13 v k i := sz_n (dqn_401 v) (zi_401 v) (fun _ => rfl) k i
theorem zj_402 (v : Nat → Int32) (k i : Nat) : dp_J (dq_402 v) k i = 0 := sz_nJ (zj_401 v) k i
theorem zr_402 (v : Nat → Int32) (i : Nat) : dp_R (dq_402 v) 59 i = none := sz_nR (zr_401 v) i
theorem zl_25_402 (v : Nat → Int32) : dp_len (dq_402 v) 25 = (Int32.toNatClampNeg (dq_h (v 0) (12 : Int32))) := sz_nL (dqn_401 v) (by decide) (zl_25_401 v)
theorem zl_26_402 (v : Nat → Int32) : dp_len (dq_402 v) 26 = (Int32.toNatClampNeg (dq_h (v 0) (12 : Int32))) := sz_nL (dqn_401 v) (by decide) (zl_26_401 v)
theorem zl_27_402 (v : Nat → Int32) : dp_len (dq_402 v) 27 = (Int32.toNatClampNeg ((dq_h (v 0) (12 : Int32)) * (16 : Int32))) := sz_nL (dqn_401 v) (by decide) (zl_27_401 v)
theorem zl_33_402 (v : Nat → Int32) : dp_len (dq_402 v) 33 = (Int32.toNatClampNeg (dq_h (v 2) (20 : Int32))) := sz_nL (dqn_401 v) (by decide) (zl_33_401 v)
theorem zl_34_402 (v : Nat → Int32) : dp_len (dq_402 v) 34 = (Int32.toNatClampNeg (dq_h (v 2) (20 : Int32))) := sz_nL (dqn_401 v) (by decide) (zl_34_401 v)
theorem zl_35_402 (v : Nat → Int32) : dp_len (dq_402 v) 35 = (Int32.toNatClampNeg (dq_h (v 2) (20 : Int32))) := sz_nL (dqn_401 v) (by decide) (zl_35_401 v)
theorem zl_36_402 (v : Nat → Int32) : dp_len (dq_402 v) 36 = (Int32.toNatClampNeg ((dq_h (v 2) (20 : Int32)) * (dq_h (v 3) (8 : Int32)))) := sz_nL (dqn_401 v) (by decide) (zl_36_401 v)
theorem zi_403 (v : Nat → Int32) (k i : Nat) : dp_I (dq_403 v) k i = sF_13 v k i := zi_402 v k i
theorem zj_403 (v : Nat → Int32) (k i : Nat) : dp_J (dq_403 v) k i = 0 := zj_402 v k i
theorem zr_403 (v : Nat → Int32) (i : Nat) : dp_R (dq_403 v) 59 i = none := sz_rR (by decide) (zr_402 v) i
theorem zl_25_403 (v : Nat → Int32) : dp_len (dq_403 v) 25 = (Int32.toNatClampNeg (dq_h (v 0) (12 : Int32))) := zl_25_402 v
theorem zl_26_403 (v : Nat → Int32) : dp_len (dq_403 v) 26 = (Int32.toNatClampNeg (dq_h (v 0) (12 : Int32))) := zl_26_402 v
theorem zl_27_403 (v : Nat → Int32) : dp_len (dq_403 v) 27 = (Int32.toNatClampNeg ((dq_h (v 0) (12 : Int32)) * (16 : Int32))) := zl_27_402 v
theorem zl_33_403 (v : Nat → Int32) : dp_len (dq_403 v) 33 = (Int32.toNatClampNeg (dq_h (v 2) (20 : Int32))) := zl_33_402 v
theorem zl_34_403 (v : Nat → Int32) : dp_len (dq_403 v) 34 = (Int32.toNatClampNeg (dq_h (v 2) (20 : Int32))) := zl_34_402 v
theorem zl_35_403 (v : Nat → Int32) : dp_len (dq_403 v) 35 = (Int32.toNatClampNeg (dq_h (v 2) (20 : Int32))) := zl_35_402 v
theorem zl_36_403 (v : Nat → Int32) : dp_len (dq_403 v) 36 = (Int32.toNatClampNeg ((dq_h (v 2) (20 : Int32)) * (dq_h (v 3) (8 : Int32)))) := zl_36_402 v
theorem zi_404 (v : Nat → Int32) (k i : Nat) : dp_I (dq_404 v) k i = sF_13 v k i := sz_n (dqn_403 v) (zi_403 v) (fun _ => rfl) k i
theorem zj_404 (v : Nat → Int32) (k i : Nat) : dp_J (dq_404 v) k i = 0 := sz_nJ (zj_403 v) k i
theorem zr_404 (v : Nat → Int32) (i : Nat) : dp_R (dq_404 v) 59 i = none := sz_nR (zr_403 v) i
theorem zl_25_404 (v : Nat → Int32) : dp_len (dq_404 v) 25 = (Int32.toNatClampNeg (dq_h (v 0) (12 : Int32))) := sz_nL (dqn_403 v) (by decide) (zl_25_403 v)
theorem zl_26_404 (v : Nat → Int32) : dp_len (dq_404 v) 26 = (Int32.toNatClampNeg (dq_h (v 0) (12 : Int32))) := sz_nL (dqn_403 v) (by decide) (zl_26_403 v)
theorem zl_27_404 (v : Nat → Int32) : dp_len (dq_404 v) 27 = (Int32.toNatClampNeg ((dq_h (v 0) (12 : Int32)) * (16 : Int32))) := sz_nL (dqn_403 v) (by decide) (zl_27_403 v)
theorem zl_33_404 (v : Nat → Int32) : dp_len (dq_404 v) 33 = (Int32.toNatClampNeg (dq_h (v 2) (20 : Int32))) := sz_nL (dqn_403 v) (by decide) (zl_33_403 v)
theorem zl_34_404 (v : Nat → Int32) : dp_len (dq_404 v) 34 = (Int32.toNatClampNeg (dq_h (v 2) (20 : Int32))) := sz_nL (dqn_403 v) (by decide) (zl_34_403 v)
theorem zl_35_404 (v : Nat → Int32) : dp_len (dq_404 v) 35 = (Int32.toNatClampNeg (dq_h (v 2) (20 : Int32))) := sz_nL (dqn_403 v) (by decide) (zl_35_403 v)
theorem zl_36_404 (v : Nat → Int32) : dp_len (dq_404 v) 36 = (Int32.toNatClampNeg ((dq_h (v 2) (20 : Int32)) * (dq_h (v 3) (8 : Int32)))) := sz_nL (dqn_403 v) (by decide) (zl_36_403 v)
theorem zi_405 (v : Nat → Int32) (k i : Nat) : dp_I (dq_405 v) k i = sF_13 v k i := zi_404 v k i
theorem zj_405 (v : Nat → Int32) (k i : Nat) : dp_J (dq_405 v) k i = 0 := zj_404 v k i
theorem zr_405 (v : Nat → Int32) (i : Nat) : dp_R (dq_405 v) 59 i = none := sz_rR (by decide) (zr_404 v) i
theorem zl_25_405 (v : Nat → Int32) : dp_len (dq_405 v) 25 = (Int32.toNatClampNeg (dq_h (v 0) (12 : Int32))) := zl_25_404 v
theorem zl_26_405 (v : Nat → Int32) : dp_len (dq_405 v) 26 = (Int32.toNatClampNeg (dq_h (v 0) (12 : Int32))) := zl_26_404 v
theorem zl_27_405 (v : Nat → Int32) : dp_len (dq_405 v) 27 = (Int32.toNatClampNeg ((dq_h (v 0) (12 : Int32)) * (16 : Int32))) := zl_27_404 v
theorem zl_33_405 (v : Nat → Int32) : dp_len (dq_405 v) 33 = (Int32.toNatClampNeg (dq_h (v 2) (20 : Int32))) := zl_33_404 v
theorem zl_34_405 (v : Nat → Int32) : dp_len (dq_405 v) 34 = (Int32.toNatClampNeg (dq_h (v 2) (20 : Int32))) := zl_34_404 v
theorem zl_35_405 (v : Nat → Int32) : dp_len (dq_405 v) 35 = (Int32.toNatClampNeg (dq_h (v 2) (20 : Int32))) := zl_35_404 v
theorem zl_36_405 (v : Nat → Int32) : dp_len (dq_405 v) 36 = (Int32.toNatClampNeg ((dq_h (v 2) (20 : Int32)) * (dq_h (v 3) (8 : Int32)))) := zl_36_404 v
theorem zi_406 (v : Nat → Int32) (k i : Nat) : dp_I (dq_406 v) k i = sF_13 v k i := sz_n (dqn_405 v) (zi_405 v) (fun _ => rfl) k i
theorem zj_406 (v : Nat → Int32) (k i : Nat) : dp_J (dq_406 v) k i = 0 := sz_nJ (zj_405 v) k i
theorem zr_406 (v : Nat → Int32) (i : Nat) : dp_R (dq_406 v) 59 i = none := sz_nR (zr_405 v) i
theorem zl_25_406 (v : Nat → Int32) : dp_len (dq_406 v) 25 = (Int32.toNatClampNeg (dq_h (v 0) (12 : Int32))) := sz_nL (dqn_405 v) (by decide) (zl_25_405 v)
theorem zl_26_406 (v : Nat → Int32) : dp_len (dq_406 v) 26 = (Int32.toNatClampNeg (dq_h (v 0) (12 : Int32))) := sz_nL (dqn_405 v) (by decide) (zl_26_405 v)
theorem zl_27_406 (v : Nat → Int32) : dp_len (dq_406 v) 27 = (Int32.toNatClampNeg ((dq_h (v 0) (12 : Int32)) * (16 : Int32))) := sz_nL (dqn_405 v) (by decide) (zl_27_405 v)
theorem zl_33_406 (v : Nat → Int32) : dp_len (dq_406 v) 33 = (Int32.toNatClampNeg (dq_h (v 2) (20 : Int32))) := sz_nL (dqn_405 v) (by decide) (zl_33_405 v)
theorem zl_34_406 (v : Nat → Int32) : dp_len (dq_406 v) 34 = (Int32.toNatClampNeg (dq_h (v 2) (20 : Int32))) := sz_nL (dqn_405 v) (by decide) (zl_34_405 v)
theorem zl_35_406 (v : Nat → Int32) : dp_len (dq_406 v) 35 = (Int32.toNatClampNeg (dq_h (v 2) (20 : Int32))) := sz_nL (dqn_405 v) (by decide) (zl_35_405 v)
theorem zl_36_406 (v : Nat → Int32) : dp_len (dq_406 v) 36 = (Int32.toNatClampNeg ((dq_h (v 2) (20 : Int32)) * (dq_h (v 3) (8 : Int32)))) := sz_nL (dqn_405 v) (by decide) (zl_36_405 v)
theorem zi_407 (v : Nat → Int32) (k i : Nat) : dp_I (dq_407 v) k i = sF_13 v k i := zi_406 v k i
theorem zj_407 (v : Nat → Int32) (k i : Nat) : dp_J (dq_407 v) k i = 0 := zj_406 v k i
theorem zr_407 (v : Nat → Int32) (i : Nat) : dp_R (dq_407 v) 59 i = none := sz_rR (by decide) (zr_406 v) i
theorem zl_25_407 (v : Nat → Int32) : dp_len (dq_407 v) 25 = (Int32.toNatClampNeg (dq_h (v 0) (12 : Int32))) := zl_25_406 v
theorem zl_26_407 (v : Nat → Int32) : dp_len (dq_407 v) 26 = (Int32.toNatClampNeg (dq_h (v 0) (12 : Int32))) := zl_26_406 v
theorem zl_27_407 (v : Nat → Int32) : dp_len (dq_407 v) 27 = (Int32.toNatClampNeg ((dq_h (v 0) (12 : Int32)) * (16 : Int32))) := zl_27_406 v
theorem zl_33_407 (v : Nat → Int32) : dp_len (dq_407 v) 33 = (Int32.toNatClampNeg (dq_h (v 2) (20 : Int32))) := zl_33_406 v
theorem zl_34_407 (v : Nat → Int32) : dp_len (dq_407 v) 34 = (Int32.toNatClampNeg (dq_h (v 2) (20 : Int32))) := zl_34_406 v
theorem zl_35_407 (v : Nat → Int32) : dp_len (dq_407 v) 35 = (Int32.toNatClampNeg (dq_h (v 2) (20 : Int32))) := zl_35_406 v
theorem zl_36_407 (v : Nat → Int32) : dp_len (dq_407 v) 36 = (Int32.toNatClampNeg ((dq_h (v 2) (20 : Int32)) * (dq_h (v 3) (8 : Int32)))) := zl_36_406 v
theorem zi_408 (v : Nat → Int32) (k i : Nat) : dp_I (dq_408 v) k i = sF_13 v k i := sz_n (dqn_407 v) (zi_407 v) (fun _ => rfl) k i
theorem zj_408 (v : Nat → Int32) (k i : Nat) : dp_J (dq_408 v) k i = 0 := sz_nJ (zj_407 v) k i
theorem zr_408 (v : Nat → Int32) (i : Nat) : dp_R (dq_408 v) 59 i = none := sz_nR (zr_407 v) i
theorem zl_25_408 (v : Nat → Int32) : dp_len (dq_408 v) 25 = (Int32.toNatClampNeg (dq_h (v 0) (12 : Int32))) := sz_nL (dqn_407 v) (by decide) (zl_25_407 v)
theorem zl_26_408 (v : Nat → Int32) : dp_len (dq_408 v) 26 = (Int32.toNatClampNeg (dq_h (v 0) (12 : Int32))) := sz_nL (dqn_407 v) (by decide) (zl_26_407 v)
theorem zl_27_408 (v : Nat → Int32) : dp_len (dq_408 v) 27 = (Int32.toNatClampNeg ((dq_h (v 0) (12 : Int32)) * (16 : Int32))) := sz_nL (dqn_407 v) (by decide) (zl_27_407 v)
theorem zl_33_408 (v : Nat → Int32) : dp_len (dq_408 v) 33 = (Int32.toNatClampNeg (dq_h (v 2) (20 : Int32))) := sz_nL (dqn_407 v) (by decide) (zl_33_407 v)
theorem zl_34_408 (v : Nat → Int32) : dp_len (dq_408 v) 34 = (Int32.toNatClampNeg (dq_h (v 2) (20 : Int32))) := sz_nL (dqn_407 v) (by decide) (zl_34_407 v)
theorem zl_35_408 (v : Nat → Int32) : dp_len (dq_408 v) 35 = (Int32.toNatClampNeg (dq_h (v 2) (20 : Int32))) := sz_nL (dqn_407 v) (by decide) (zl_35_407 v)
theorem zl_36_408 (v : Nat → Int32) : dp_len (dq_408 v) 36 = (Int32.toNatClampNeg ((dq_h (v 2) (20 : Int32)) * (dq_h (v 3) (8 : Int32)))) := sz_nL (dqn_407 v) (by decide) (zl_36_407 v)
theorem zi_409 (v : Nat → Int32) (k i : Nat) : dp_I (dq_409 v) k i = sF_13 v k i := zi_408 v k i
theorem zj_409 (v : Nat → Int32) (k i : Nat) : dp_J (dq_409 v) k i = 0 := zj_408 v k i
theorem zr_409 (v : Nat → Int32) (i : Nat) : dp_R (dq_409 v) 59 i = none := sz_rR (by decide) (zr_408 v) i
theorem zl_25_409 (v : Nat → Int32) : dp_len (dq_409 v) 25 = (Int32.toNatClampNeg (dq_h (v 0) (12 : Int32))) := zl_25_408 v
theorem zl_26_409 (v : Nat → Int32) : dp_len (dq_409 v) 26 = (Int32.toNatClampNeg (dq_h (v 0) (12 : Int32))) := zl_26_408 v
theorem zl_27_409 (v : Nat → Int32) : dp_len (dq_409 v) 27 = (Int32.toNatClampNeg ((dq_h (v 0) (12 : Int32)) * (16 : Int32))) := zl_27_408 v
theorem zl_33_409 (v : Nat → Int32) : dp_len (dq_409 v) 33 = (Int32.toNatClampNeg (dq_h (v 2) (20 : Int32))) := zl_33_408 v
theorem zl_34_409 (v : Nat → Int32) : dp_len (dq_409 v) 34 = (Int32.toNatClampNeg (dq_h (v 2) (20 : Int32))) := zl_34_408 v
theorem zl_35_409 (v : Nat → Int32) : dp_len (dq_409 v) 35 = (Int32.toNatClampNeg (dq_h (v 2) (20 : Int32))) := zl_35_408 v
theorem zl_36_409 (v : Nat → Int32) : dp_len (dq_409 v) 36 = (Int32.toNatClampNeg ((dq_h (v 2) (20 : Int32)) * (dq_h (v 3) (8 : Int32)))) := zl_36_408 v
theorem zi_410 (v : Nat → Int32) (k i : Nat) : dp_I (dq_410 v) k i = sF_13 v k i := sz_n (dqn_409 v) (zi_409 v) (fun _ => rfl) k i
theorem zj_410 (v : Nat → Int32) (k i : Nat) : dp_J (dq_410 v) k i = 0 := sz_nJ (zj_409 v) k i
theorem zr_410 (v : Nat → Int32) (i : Nat) : dp_R (dq_410 v) 59 i = none := sz_nR (zr_409 v) i
theorem zl_25_410 (v : Nat → Int32) : dp_len (dq_410 v) 25 = (Int32.toNatClampNeg (dq_h (v 0) (12 : Int32))) := sz_nL (dqn_409 v) (by decide) (zl_25_409 v)
theorem zl_26_410 (v : Nat → Int32) : dp_len (dq_410 v) 26 = (Int32.toNatClampNeg (dq_h (v 0) (12 : Int32))) := sz_nL (dqn_409 v) (by decide) (zl_26_409 v)
theorem zl_27_410 (v : Nat → Int32) : dp_len (dq_410 v) 27 = (Int32.toNatClampNeg ((dq_h (v 0) (12 : Int32)) * (16 : Int32))) := sz_nL (dqn_409 v) (by decide) (zl_27_409 v)
theorem zl_33_410 (v : Nat → Int32) : dp_len (dq_410 v) 33 = (Int32.toNatClampNeg (dq_h (v 2) (20 : Int32))) := sz_nL (dqn_409 v) (by decide) (zl_33_409 v)
theorem zl_34_410 (v : Nat → Int32) : dp_len (dq_410 v) 34 = (Int32.toNatClampNeg (dq_h (v 2) (20 : Int32))) := sz_nL (dqn_409 v) (by decide) (zl_34_409 v)
theorem zl_35_410 (v : Nat → Int32) : dp_len (dq_410 v) 35 = (Int32.toNatClampNeg (dq_h (v 2) (20 : Int32))) := sz_nL (dqn_409 v) (by decide) (zl_35_409 v)
theorem zl_36_410 (v : Nat → Int32) : dp_len (dq_410 v) 36 = (Int32.toNatClampNeg ((dq_h (v 2) (20 : Int32)) * (dq_h (v 3) (8 : Int32)))) := sz_nL (dqn_409 v) (by decide) (zl_36_409 v)
theorem zi_411 (v : Nat → Int32) (k i : Nat) : dp_I (dq_411 v) k i = sF_13 v k i := zi_410 v k i
theorem zj_411 (v : Nat → Int32) (k i : Nat) : dp_J (dq_411 v) k i = 0 := zj_410 v k i
theorem zr_411 (v : Nat → Int32) (i : Nat) : dp_R (dq_411 v) 59 i = none := sz_rR (by decide) (zr_410 v) i
theorem zl_25_411 (v : Nat → Int32) : dp_len (dq_411 v) 25 = (Int32.toNatClampNeg (dq_h (v 0) (12 : Int32))) := zl_25_410 v
theorem zl_26_411 (v : Nat → Int32) : dp_len (dq_411 v) 26 = (Int32.toNatClampNeg (dq_h (v 0) (12 : Int32))) := zl_26_410 v
theorem zl_27_411 (v : Nat → Int32) : dp_len (dq_411 v) 27 = (Int32.toNatClampNeg ((dq_h (v 0) (12 : Int32)) * (16 : Int32))) := zl_27_410 v
theorem zl_33_411 (v : Nat → Int32) : dp_len (dq_411 v) 33 = (Int32.toNatClampNeg (dq_h (v 2) (20 : Int32))) := zl_33_410 v
theorem zl_34_411 (v : Nat → Int32) : dp_len (dq_411 v) 34 = (Int32.toNatClampNeg (dq_h (v 2) (20 : Int32))) := zl_34_410 v
theorem zl_35_411 (v : Nat → Int32) : dp_len (dq_411 v) 35 = (Int32.toNatClampNeg (dq_h (v 2) (20 : Int32))) := zl_35_410 v
theorem zl_36_411 (v : Nat → Int32) : dp_len (dq_411 v) 36 = (Int32.toNatClampNeg ((dq_h (v 2) (20 : Int32)) * (dq_h (v 3) (8 : Int32)))) := zl_36_410 v
theorem zi_412 (v : Nat → Int32) (k i : Nat) : dp_I (dq_412 v) k i = sF_13 v k i := sz_n (dqn_411 v) (zi_411 v) (fun _ => rfl) k i
theorem zj_412 (v : Nat → Int32) (k i : Nat) : dp_J (dq_412 v) k i = 0 := sz_nJ (zj_411 v) k i
theorem zr_412 (v : Nat → Int32) (i : Nat) : dp_R (dq_412 v) 59 i = none := sz_nR (zr_411 v) i
theorem zl_25_412 (v : Nat → Int32) : dp_len (dq_412 v) 25 = (Int32.toNatClampNeg (dq_h (v 0) (12 : Int32))) := sz_nL (dqn_411 v) (by decide) (zl_25_411 v)
theorem zl_26_412 (v : Nat → Int32) : dp_len (dq_412 v) 26 = (Int32.toNatClampNeg (dq_h (v 0) (12 : Int32))) := sz_nL (dqn_411 v) (by decide) (zl_26_411 v)
theorem zl_27_412 (v : Nat → Int32) : dp_len (dq_412 v) 27 = (Int32.toNatClampNeg ((dq_h (v 0) (12 : Int32)) * (16 : Int32))) := sz_nL (dqn_411 v) (by decide) (zl_27_411 v)
theorem zl_33_412 (v : Nat → Int32) : dp_len (dq_412 v) 33 = (Int32.toNatClampNeg (dq_h (v 2) (20 : Int32))) := sz_nL (dqn_411 v) (by decide) (zl_33_411 v)
theorem zl_34_412 (v : Nat → Int32) : dp_len (dq_412 v) 34 = (Int32.toNatClampNeg (dq_h (v 2) (20 : Int32))) := sz_nL (dqn_411 v) (by decide) (zl_34_411 v)
theorem zl_35_412 (v : Nat → Int32) : dp_len (dq_412 v) 35 = (Int32.toNatClampNeg (dq_h (v 2) (20 : Int32))) := sz_nL (dqn_411 v) (by decide) (zl_35_411 v)
theorem zl_36_412 (v : Nat → Int32) : dp_len (dq_412 v) 36 = (Int32.toNatClampNeg ((dq_h (v 2) (20 : Int32)) * (dq_h (v 3) (8 : Int32)))) := sz_nL (dqn_411 v) (by decide) (zl_36_411 v)
theorem zi_413 (v : Nat → Int32) (k i : Nat) : dp_I (dq_413 v) k i = sF_13 v k i := zi_412 v k i
theorem zj_413 (v : Nat → Int32) (k i : Nat) : dp_J (dq_413 v) k i = 0 := zj_412 v k i
theorem zr_413 (v : Nat → Int32) (i : Nat) : dp_R (dq_413 v) 59 i = none := sz_rR (by decide) (zr_412 v) i
theorem zl_25_413 (v : Nat → Int32) : dp_len (dq_413 v) 25 = (Int32.toNatClampNeg (dq_h (v 0) (12 : Int32))) := zl_25_412 v
theorem zl_26_413 (v : Nat → Int32) : dp_len (dq_413 v) 26 = (Int32.toNatClampNeg (dq_h (v 0) (12 : Int32))) := zl_26_412 v
theorem zl_27_413 (v : Nat → Int32) : dp_len (dq_413 v) 27 = (Int32.toNatClampNeg ((dq_h (v 0) (12 : Int32)) * (16 : Int32))) := zl_27_412 v
theorem zl_33_413 (v : Nat → Int32) : dp_len (dq_413 v) 33 = (Int32.toNatClampNeg (dq_h (v 2) (20 : Int32))) := zl_33_412 v
theorem zl_34_413 (v : Nat → Int32) : dp_len (dq_413 v) 34 = (Int32.toNatClampNeg (dq_h (v 2) (20 : Int32))) := zl_34_412 v
theorem zl_35_413 (v : Nat → Int32) : dp_len (dq_413 v) 35 = (Int32.toNatClampNeg (dq_h (v 2) (20 : Int32))) := zl_35_412 v
theorem zl_36_413 (v : Nat → Int32) : dp_len (dq_413 v) 36 = (Int32.toNatClampNeg ((dq_h (v 2) (20 : Int32)) * (dq_h (v 3) (8 : Int32)))) := zl_36_412 v
theorem zi_414 (v : Nat → Int32) (k i : Nat) : dp_I (dq_414 v) k i = sF_13 v k i := sz_n (dqn_413 v) (zi_413 v) (fun _ => rfl) k i
theorem zj_414 (v : Nat → Int32) (k i : Nat) : dp_J (dq_414 v) k i = 0 := sz_nJ (zj_413 v) k i
theorem zr_414 (v : Nat → Int32) (i : Nat) : dp_R (dq_414 v) 59 i = none := sz_nR (zr_413 v) i
theorem zl_25_414 (v : Nat → Int32) : dp_len (dq_414 v) 25 = (Int32.toNatClampNeg (dq_h (v 0) (12 : Int32))) := sz_nL (dqn_413 v) (by decide) (zl_25_413 v)
theorem zl_26_414 (v : Nat → Int32) : dp_len (dq_414 v) 26 = (Int32.toNatClampNeg (dq_h (v 0) (12 : Int32))) := sz_nL (dqn_413 v) (by decide) (zl_26_413 v)
theorem zl_27_414 (v : Nat → Int32) : dp_len (dq_414 v) 27 = (Int32.toNatClampNeg ((dq_h (v 0) (12 : Int32)) * (16 : Int32))) := sz_nL (dqn_413 v) (by decide) (zl_27_413 v)
theorem zl_33_414 (v : Nat → Int32) : dp_len (dq_414 v) 33 = (Int32.toNatClampNeg (dq_h (v 2) (20 : Int32))) := sz_nL (dqn_413 v) (by decide) (zl_33_413 v)
theorem zl_34_414 (v : Nat → Int32) : dp_len (dq_414 v) 34 = (Int32.toNatClampNeg (dq_h (v 2) (20 : Int32))) := sz_nL (dqn_413 v) (by decide) (zl_34_413 v)
theorem zl_35_414 (v : Nat → Int32) : dp_len (dq_414 v) 35 = (Int32.toNatClampNeg (dq_h (v 2) (20 : Int32))) := sz_nL (dqn_413 v) (by decide) (zl_35_413 v)
theorem zl_36_414 (v : Nat → Int32) : dp_len (dq_414 v) 36 = (Int32.toNatClampNeg ((dq_h (v 2) (20 : Int32)) * (dq_h (v 3) (8 : Int32)))) := sz_nL (dqn_413 v) (by decide) (zl_36_413 v)
theorem zi_415 (v : Nat → Int32) (k i : Nat) : dp_I (dq_415 v) k i = sF_13 v k i := zi_414 v k i
theorem zj_415 (v : Nat → Int32) (k i : Nat) : dp_J (dq_415 v) k i = 0 := zj_414 v k i
theorem zr_415 (v : Nat → Int32) (i : Nat) : dp_R (dq_415 v) 59 i = none := sz_rR (by decide) (zr_414 v) i
theorem zl_25_415 (v : Nat → Int32) : dp_len (dq_415 v) 25 = (Int32.toNatClampNeg (dq_h (v 0) (12 : Int32))) := zl_25_414 v
theorem zl_26_415 (v : Nat → Int32) : dp_len (dq_415 v) 26 = (Int32.toNatClampNeg (dq_h (v 0) (12 : Int32))) := zl_26_414 v
theorem zl_27_415 (v : Nat → Int32) : dp_len (dq_415 v) 27 = (Int32.toNatClampNeg ((dq_h (v 0) (12 : Int32)) * (16 : Int32))) := zl_27_414 v
theorem zl_33_415 (v : Nat → Int32) : dp_len (dq_415 v) 33 = (Int32.toNatClampNeg (dq_h (v 2) (20 : Int32))) := zl_33_414 v
theorem zl_34_415 (v : Nat → Int32) : dp_len (dq_415 v) 34 = (Int32.toNatClampNeg (dq_h (v 2) (20 : Int32))) := zl_34_414 v
theorem zl_35_415 (v : Nat → Int32) : dp_len (dq_415 v) 35 = (Int32.toNatClampNeg (dq_h (v 2) (20 : Int32))) := zl_35_414 v
theorem zl_36_415 (v : Nat → Int32) : dp_len (dq_415 v) 36 = (Int32.toNatClampNeg ((dq_h (v 2) (20 : Int32)) * (dq_h (v 3) (8 : Int32)))) := zl_36_414 v
theorem zi_416 (v : Nat → Int32) (k i : Nat) : dp_I (dq_416 v) k i = sF_13 v k i := sz_n (dqn_415 v) (zi_415 v) (fun _ => rfl) k i
theorem zj_416 (v : Nat → Int32) (k i : Nat) : dp_J (dq_416 v) k i = 0 := sz_nJ (zj_415 v) k i
theorem zr_416 (v : Nat → Int32) (i : Nat) : dp_R (dq_416 v) 59 i = none := sz_nR (zr_415 v) i
theorem zl_25_416 (v : Nat → Int32) : dp_len (dq_416 v) 25 = (Int32.toNatClampNeg (dq_h (v 0) (12 : Int32))) := sz_nL (dqn_415 v) (by decide) (zl_25_415 v)
theorem zl_26_416 (v : Nat → Int32) : dp_len (dq_416 v) 26 = (Int32.toNatClampNeg (dq_h (v 0) (12 : Int32))) := sz_nL (dqn_415 v) (by decide) (zl_26_415 v)
theorem zl_27_416 (v : Nat → Int32) : dp_len (dq_416 v) 27 = (Int32.toNatClampNeg ((dq_h (v 0) (12 : Int32)) * (16 : Int32))) := sz_nL (dqn_415 v) (by decide) (zl_27_415 v)
theorem zl_33_416 (v : Nat → Int32) : dp_len (dq_416 v) 33 = (Int32.toNatClampNeg (dq_h (v 2) (20 : Int32))) := sz_nL (dqn_415 v) (by decide) (zl_33_415 v)
theorem zl_34_416 (v : Nat → Int32) : dp_len (dq_416 v) 34 = (Int32.toNatClampNeg (dq_h (v 2) (20 : Int32))) := sz_nL (dqn_415 v) (by decide) (zl_34_415 v)
theorem zl_35_416 (v : Nat → Int32) : dp_len (dq_416 v) 35 = (Int32.toNatClampNeg (dq_h (v 2) (20 : Int32))) := sz_nL (dqn_415 v) (by decide) (zl_35_415 v)
theorem zl_36_416 (v : Nat → Int32) : dp_len (dq_416 v) 36 = (Int32.toNatClampNeg ((dq_h (v 2) (20 : Int32)) * (dq_h (v 3) (8 : Int32)))) := sz_nL (dqn_415 v) (by decide) (zl_36_415 v)
theorem zi_417 (v : Nat → Int32) (k i : Nat) : dp_I (dq_417 v) k i = sF_13 v k i := zi_416 v k i
theorem zj_417 (v : Nat → Int32) (k i : Nat) : dp_J (dq_417 v) k i = 0 := zj_416 v k i
theorem zr_417 (v : Nat → Int32) (i : Nat) : dp_R (dq_417 v) 59 i = none := sz_rR (by decide) (zr_416 v) i
theorem zl_25_417 (v : Nat → Int32) : dp_len (dq_417 v) 25 = (Int32.toNatClampNeg (dq_h (v 0) (12 : Int32))) := zl_25_416 v
theorem zl_26_417 (v : Nat → Int32) : dp_len (dq_417 v) 26 = (Int32.toNatClampNeg (dq_h (v 0) (12 : Int32))) := zl_26_416 v
theorem zl_27_417 (v : Nat → Int32) : dp_len (dq_417 v) 27 = (Int32.toNatClampNeg ((dq_h (v 0) (12 : Int32)) * (16 : Int32))) := zl_27_416 v
theorem zl_33_417 (v : Nat → Int32) : dp_len (dq_417 v) 33 = (Int32.toNatClampNeg (dq_h (v 2) (20 : Int32))) := zl_33_416 v
theorem zl_34_417 (v : Nat → Int32) : dp_len (dq_417 v) 34 = (Int32.toNatClampNeg (dq_h (v 2) (20 : Int32))) := zl_34_416 v
theorem zl_35_417 (v : Nat → Int32) : dp_len (dq_417 v) 35 = (Int32.toNatClampNeg (dq_h (v 2) (20 : Int32))) := zl_35_416 v
theorem zl_36_417 (v : Nat → Int32) : dp_len (dq_417 v) 36 = (Int32.toNatClampNeg ((dq_h (v 2) (20 : Int32)) * (dq_h (v 3) (8 : Int32)))) := zl_36_416 v
theorem zi_418 (v : Nat → Int32) (k i : Nat) : dp_I (dq_418 v) k i = sF_13 v k i := sz_n (dqn_417 v) (zi_417 v) (fun _ => rfl) k i
theorem zj_418 (v : Nat → Int32) (k i : Nat) : dp_J (dq_418 v) k i = 0 := sz_nJ (zj_417 v) k i
theorem zr_418 (v : Nat → Int32) (i : Nat) : dp_R (dq_418 v) 59 i = none := sz_nR (zr_417 v) i
theorem zl_25_418 (v : Nat → Int32) : dp_len (dq_418 v) 25 = (Int32.toNatClampNeg (dq_h (v 0) (12 : Int32))) := sz_nL (dqn_417 v) (by decide) (zl_25_417 v)
theorem zl_26_418 (v : Nat → Int32) : dp_len (dq_418 v) 26 = (Int32.toNatClampNeg (dq_h (v 0) (12 : Int32))) := sz_nL (dqn_417 v) (by decide) (zl_26_417 v)
theorem zl_27_418 (v : Nat → Int32) : dp_len (dq_418 v) 27 = (Int32.toNatClampNeg ((dq_h (v 0) (12 : Int32)) * (16 : Int32))) := sz_nL (dqn_417 v) (by decide) (zl_27_417 v)
theorem zl_33_418 (v : Nat → Int32) : dp_len (dq_418 v) 33 = (Int32.toNatClampNeg (dq_h (v 2) (20 : Int32))) := sz_nL (dqn_417 v) (by decide) (zl_33_417 v)
theorem zl_34_418 (v : Nat → Int32) : dp_len (dq_418 v) 34 = (Int32.toNatClampNeg (dq_h (v 2) (20 : Int32))) := sz_nL (dqn_417 v) (by decide) (zl_34_417 v)
theorem zl_35_418 (v : Nat → Int32) : dp_len (dq_418 v) 35 = (Int32.toNatClampNeg (dq_h (v 2) (20 : Int32))) := sz_nL (dqn_417 v) (by decide) (zl_35_417 v)
theorem zl_36_418 (v : Nat → Int32) : dp_len (dq_418 v) 36 = (Int32.toNatClampNeg ((dq_h (v 2) (20 : Int32)) * (dq_h (v 3) (8 : Int32)))) := sz_nL (dqn_417 v) (by decide) (zl_36_417 v)
theorem zi_419 (v : Nat → Int32) (k i : Nat) : dp_I (dq_419 v) k i = sF_13 v k i := zi_418 v k i
theorem zj_419 (v : Nat → Int32) (k i : Nat) : dp_J (dq_419 v) k i = 0 := zj_418 v k i
theorem zr_419 (v : Nat → Int32) (i : Nat) : dp_R (dq_419 v) 59 i = none := sz_rR (by decide) (zr_418 v) i
theorem zl_25_419 (v : Nat → Int32) : dp_len (dq_419 v) 25 = (Int32.toNatClampNeg (dq_h (v 0) (12 : Int32))) := zl_25_418 v
theorem zl_26_419 (v : Nat → Int32) : dp_len (dq_419 v) 26 = (Int32.toNatClampNeg (dq_h (v 0) (12 : Int32))) := zl_26_418 v
theorem zl_27_419 (v : Nat → Int32) : dp_len (dq_419 v) 27 = (Int32.toNatClampNeg ((dq_h (v 0) (12 : Int32)) * (16 : Int32))) := zl_27_418 v
theorem zl_33_419 (v : Nat → Int32) : dp_len (dq_419 v) 33 = (Int32.toNatClampNeg (dq_h (v 2) (20 : Int32))) := zl_33_418 v
theorem zl_34_419 (v : Nat → Int32) : dp_len (dq_419 v) 34 = (Int32.toNatClampNeg (dq_h (v 2) (20 : Int32))) := zl_34_418 v
theorem zl_35_419 (v : Nat → Int32) : dp_len (dq_419 v) 35 = (Int32.toNatClampNeg (dq_h (v 2) (20 : Int32))) := zl_35_418 v
theorem zl_36_419 (v : Nat → Int32) : dp_len (dq_419 v) 36 = (Int32.toNatClampNeg ((dq_h (v 2) (20 : Int32)) * (dq_h (v 3) (8 : Int32)))) := zl_36_418 v
theorem zi_420 (v : Nat → Int32) (k i : Nat) : dp_I (dq_420 v) k i = sF_13 v k i := sz_n (dqn_419 v) (zi_419 v) (fun _ => rfl) k i
theorem zj_420 (v : Nat → Int32) (k i : Nat) : dp_J (dq_420 v) k i = 0 := sz_nJ (zj_419 v) k i
theorem zr_420 (v : Nat → Int32) (i : Nat) : dp_R (dq_420 v) 59 i = none := sz_nR (zr_419 v) i
theorem zl_25_420 (v : Nat → Int32) : dp_len (dq_420 v) 25 = (Int32.toNatClampNeg (dq_h (v 0) (12 : Int32))) := sz_nL (dqn_419 v) (by decide) (zl_25_419 v)
theorem zl_26_420 (v : Nat → Int32) : dp_len (dq_420 v) 26 = (Int32.toNatClampNeg (dq_h (v 0) (12 : Int32))) := sz_nL (dqn_419 v) (by decide) (zl_26_419 v)
theorem zl_27_420 (v : Nat → Int32) : dp_len (dq_420 v) 27 = (Int32.toNatClampNeg ((dq_h (v 0) (12 : Int32)) * (16 : Int32))) := sz_nL (dqn_419 v) (by decide) (zl_27_419 v)
theorem zl_33_420 (v : Nat → Int32) : dp_len (dq_420 v) 33 = (Int32.toNatClampNeg (dq_h (v 2) (20 : Int32))) := sz_nL (dqn_419 v) (by decide) (zl_33_419 v)
theorem zl_34_420 (v : Nat → Int32) : dp_len (dq_420 v) 34 = (Int32.toNatClampNeg (dq_h (v 2) (20 : Int32))) := sz_nL (dqn_419 v) (by decide) (zl_34_419 v)
theorem zl_35_420 (v : Nat → Int32) : dp_len (dq_420 v) 35 = (Int32.toNatClampNeg (dq_h (v 2) (20 : Int32))) := sz_nL (dqn_419 v) (by decide) (zl_35_419 v)
theorem zl_36_420 (v : Nat → Int32) : dp_len (dq_420 v) 36 = (Int32.toNatClampNeg ((dq_h (v 2) (20 : Int32)) * (dq_h (v 3) (8 : Int32)))) := sz_nL (dqn_419 v) (by decide) (zl_36_419 v)
theorem zi_421 (v : Nat → Int32) (k i : Nat) : dp_I (dq_421 v) k i = sF_13 v k i := zi_420 v k i
theorem zj_421 (v : Nat → Int32) (k i : Nat) : dp_J (dq_421 v) k i = 0 := zj_420 v k i
theorem zr_421 (v : Nat → Int32) (i : Nat) : dp_R (dq_421 v) 59 i = none := sz_rR (by decide) (zr_420 v) i
theorem zl_25_421 (v : Nat → Int32) : dp_len (dq_421 v) 25 = (Int32.toNatClampNeg (dq_h (v 0) (12 : Int32))) := zl_25_420 v
theorem zl_26_421 (v : Nat → Int32) : dp_len (dq_421 v) 26 = (Int32.toNatClampNeg (dq_h (v 0) (12 : Int32))) := zl_26_420 v
theorem zl_27_421 (v : Nat → Int32) : dp_len (dq_421 v) 27 = (Int32.toNatClampNeg ((dq_h (v 0) (12 : Int32)) * (16 : Int32))) := zl_27_420 v
theorem zl_33_421 (v : Nat → Int32) : dp_len (dq_421 v) 33 = (Int32.toNatClampNeg (dq_h (v 2) (20 : Int32))) := zl_33_420 v
theorem zl_34_421 (v : Nat → Int32) : dp_len (dq_421 v) 34 = (Int32.toNatClampNeg (dq_h (v 2) (20 : Int32))) := zl_34_420 v
theorem zl_35_421 (v : Nat → Int32) : dp_len (dq_421 v) 35 = (Int32.toNatClampNeg (dq_h (v 2) (20 : Int32))) := zl_35_420 v
theorem zl_36_421 (v : Nat → Int32) : dp_len (dq_421 v) 36 = (Int32.toNatClampNeg ((dq_h (v 2) (20 : Int32)) * (dq_h (v 3) (8 : Int32)))) := zl_36_420 v
theorem zi_422 (v : Nat → Int32) (k i : Nat) : dp_I (dq_422 v) k i = sF_13 v k i := sz_n (dqn_421 v) (zi_421 v) (fun _ => rfl) k i
theorem zj_422 (v : Nat → Int32) (k i : Nat) : dp_J (dq_422 v) k i = 0 := sz_nJ (zj_421 v) k i
theorem zr_422 (v : Nat → Int32) (i : Nat) : dp_R (dq_422 v) 59 i = none := sz_nR (zr_421 v) i
theorem zl_25_422 (v : Nat → Int32) : dp_len (dq_422 v) 25 = (Int32.toNatClampNeg (dq_h (v 0) (12 : Int32))) := sz_nL (dqn_421 v) (by decide) (zl_25_421 v)
theorem zl_26_422 (v : Nat → Int32) : dp_len (dq_422 v) 26 = (Int32.toNatClampNeg (dq_h (v 0) (12 : Int32))) := sz_nL (dqn_421 v) (by decide) (zl_26_421 v)
theorem zl_27_422 (v : Nat → Int32) : dp_len (dq_422 v) 27 = (Int32.toNatClampNeg ((dq_h (v 0) (12 : Int32)) * (16 : Int32))) := sz_nL (dqn_421 v) (by decide) (zl_27_421 v)
theorem zl_33_422 (v : Nat → Int32) : dp_len (dq_422 v) 33 = (Int32.toNatClampNeg (dq_h (v 2) (20 : Int32))) := sz_nL (dqn_421 v) (by decide) (zl_33_421 v)
theorem zl_34_422 (v : Nat → Int32) : dp_len (dq_422 v) 34 = (Int32.toNatClampNeg (dq_h (v 2) (20 : Int32))) := sz_nL (dqn_421 v) (by decide) (zl_34_421 v)
theorem zl_35_422 (v : Nat → Int32) : dp_len (dq_422 v) 35 = (Int32.toNatClampNeg (dq_h (v 2) (20 : Int32))) := sz_nL (dqn_421 v) (by decide) (zl_35_421 v)
theorem zl_36_422 (v : Nat → Int32) : dp_len (dq_422 v) 36 = (Int32.toNatClampNeg ((dq_h (v 2) (20 : Int32)) * (dq_h (v 3) (8 : Int32)))) := sz_nL (dqn_421 v) (by decide) (zl_36_421 v)
theorem zi_423 (v : Nat → Int32) (k i : Nat) : dp_I (dq_423 v) k i = sF_13 v k i := zi_422 v k i
theorem zj_423 (v : Nat → Int32) (k i : Nat) : dp_J (dq_423 v) k i = 0 := zj_422 v k i
theorem zr_423 (v : Nat → Int32) (i : Nat) : dp_R (dq_423 v) 59 i = none := sz_rR (by decide) (zr_422 v) i
theorem zl_25_423 (v : Nat → Int32) : dp_len (dq_423 v) 25 = (Int32.toNatClampNeg (dq_h (v 0) (12 : Int32))) := zl_25_422 v
theorem zl_26_423 (v : Nat → Int32) : dp_len (dq_423 v) 26 = (Int32.toNatClampNeg (dq_h (v 0) (12 : Int32))) := zl_26_422 v
theorem zl_27_423 (v : Nat → Int32) : dp_len (dq_423 v) 27 = (Int32.toNatClampNeg ((dq_h (v 0) (12 : Int32)) * (16 : Int32))) := zl_27_422 v
theorem zl_33_423 (v : Nat → Int32) : dp_len (dq_423 v) 33 = (Int32.toNatClampNeg (dq_h (v 2) (20 : Int32))) := zl_33_422 v
theorem zl_34_423 (v : Nat → Int32) : dp_len (dq_423 v) 34 = (Int32.toNatClampNeg (dq_h (v 2) (20 : Int32))) := zl_34_422 v
theorem zl_35_423 (v : Nat → Int32) : dp_len (dq_423 v) 35 = (Int32.toNatClampNeg (dq_h (v 2) (20 : Int32))) := zl_35_422 v
theorem zl_36_423 (v : Nat → Int32) : dp_len (dq_423 v) 36 = (Int32.toNatClampNeg ((dq_h (v 2) (20 : Int32)) * (dq_h (v 3) (8 : Int32)))) := zl_36_422 v
theorem zi_424 (v : Nat → Int32) (k i : Nat) : dp_I (dq_424 v) k i = sF_13 v k i := sz_n (dqn_423 v) (zi_423 v) (fun _ => rfl) k i
theorem zj_424 (v : Nat → Int32) (k i : Nat) : dp_J (dq_424 v) k i = 0 := sz_nJ (zj_423 v) k i
theorem zr_424 (v : Nat → Int32) (i : Nat) : dp_R (dq_424 v) 59 i = none := sz_nR (zr_423 v) i
theorem zl_25_424 (v : Nat → Int32) : dp_len (dq_424 v) 25 = (Int32.toNatClampNeg (dq_h (v 0) (12 : Int32))) := sz_nL (dqn_423 v) (by decide) (zl_25_423 v)
theorem zl_26_424 (v : Nat → Int32) : dp_len (dq_424 v) 26 = (Int32.toNatClampNeg (dq_h (v 0) (12 : Int32))) := sz_nL (dqn_423 v) (by decide) (zl_26_423 v)
theorem zl_27_424 (v : Nat → Int32) : dp_len (dq_424 v) 27 = (Int32.toNatClampNeg ((dq_h (v 0) (12 : Int32)) * (16 : Int32))) := sz_nL (dqn_423 v) (by decide) (zl_27_423 v)
theorem zl_33_424 (v : Nat → Int32) : dp_len (dq_424 v) 33 = (Int32.toNatClampNeg (dq_h (v 2) (20 : Int32))) := sz_nL (dqn_423 v) (by decide) (zl_33_423 v)
theorem zl_34_424 (v : Nat → Int32) : dp_len (dq_424 v) 34 = (Int32.toNatClampNeg (dq_h (v 2) (20 : Int32))) := sz_nL (dqn_423 v) (by decide) (zl_34_423 v)
theorem zl_35_424 (v : Nat → Int32) : dp_len (dq_424 v) 35 = (Int32.toNatClampNeg (dq_h (v 2) (20 : Int32))) := sz_nL (dqn_423 v) (by decide) (zl_35_423 v)
theorem zl_36_424 (v : Nat → Int32) : dp_len (dq_424 v) 36 = (Int32.toNatClampNeg ((dq_h (v 2) (20 : Int32)) * (dq_h (v 3) (8 : Int32)))) := sz_nL (dqn_423 v) (by decide) (zl_36_423 v)
theorem zi_425 (v : Nat → Int32) (k i : Nat) : dp_I (dq_425 v) k i = sF_13 v k i := zi_424 v k i
theorem zj_425 (v : Nat → Int32) (k i : Nat) : dp_J (dq_425 v) k i = 0 := zj_424 v k i
theorem zr_425 (v : Nat → Int32) (i : Nat) : dp_R (dq_425 v) 59 i = none := sz_rR (by decide) (zr_424 v) i
theorem zl_25_425 (v : Nat → Int32) : dp_len (dq_425 v) 25 = (Int32.toNatClampNeg (dq_h (v 0) (12 : Int32))) := zl_25_424 v
theorem zl_26_425 (v : Nat → Int32) : dp_len (dq_425 v) 26 = (Int32.toNatClampNeg (dq_h (v 0) (12 : Int32))) := zl_26_424 v
theorem zl_27_425 (v : Nat → Int32) : dp_len (dq_425 v) 27 = (Int32.toNatClampNeg ((dq_h (v 0) (12 : Int32)) * (16 : Int32))) := zl_27_424 v
theorem zl_33_425 (v : Nat → Int32) : dp_len (dq_425 v) 33 = (Int32.toNatClampNeg (dq_h (v 2) (20 : Int32))) := zl_33_424 v
theorem zl_34_425 (v : Nat → Int32) : dp_len (dq_425 v) 34 = (Int32.toNatClampNeg (dq_h (v 2) (20 : Int32))) := zl_34_424 v
theorem zl_35_425 (v : Nat → Int32) : dp_len (dq_425 v) 35 = (Int32.toNatClampNeg (dq_h (v 2) (20 : Int32))) := zl_35_424 v
theorem zl_36_425 (v : Nat → Int32) : dp_len (dq_425 v) 36 = (Int32.toNatClampNeg ((dq_h (v 2) (20 : Int32)) * (dq_h (v 3) (8 : Int32)))) := zl_36_424 v
theorem zi_426 (v : Nat → Int32) (k i : Nat) : dp_I (dq_426 v) k i = sF_13 v k i := sz_n (dqn_425 v) (zi_425 v) (fun _ => rfl) k i
theorem zj_426 (v : Nat → Int32) (k i : Nat) : dp_J (dq_426 v) k i = 0 := sz_nJ (zj_425 v) k i
theorem zr_426 (v : Nat → Int32) (i : Nat) : dp_R (dq_426 v) 59 i = none := sz_nR (zr_425 v) i
theorem zl_25_426 (v : Nat → Int32) : dp_len (dq_426 v) 25 = (Int32.toNatClampNeg (dq_h (v 0) (12 : Int32))) := sz_nL (dqn_425 v) (by decide) (zl_25_425 v)
theorem zl_26_426 (v : Nat → Int32) : dp_len (dq_426 v) 26 = (Int32.toNatClampNeg (dq_h (v 0) (12 : Int32))) := sz_nL (dqn_425 v) (by decide) (zl_26_425 v)
theorem zl_27_426 (v : Nat → Int32) : dp_len (dq_426 v) 27 = (Int32.toNatClampNeg ((dq_h (v 0) (12 : Int32)) * (16 : Int32))) := sz_nL (dqn_425 v) (by decide) (zl_27_425 v)
theorem zl_33_426 (v : Nat → Int32) : dp_len (dq_426 v) 33 = (Int32.toNatClampNeg (dq_h (v 2) (20 : Int32))) := sz_nL (dqn_425 v) (by decide) (zl_33_425 v)
theorem zl_34_426 (v : Nat → Int32) : dp_len (dq_426 v) 34 = (Int32.toNatClampNeg (dq_h (v 2) (20 : Int32))) := sz_nL (dqn_425 v) (by decide) (zl_34_425 v)
theorem zl_35_426 (v : Nat → Int32) : dp_len (dq_426 v) 35 = (Int32.toNatClampNeg (dq_h (v 2) (20 : Int32))) := sz_nL (dqn_425 v) (by decide) (zl_35_425 v)
theorem zl_36_426 (v : Nat → Int32) : dp_len (dq_426 v) 36 = (Int32.toNatClampNeg ((dq_h (v 2) (20 : Int32)) * (dq_h (v 3) (8 : Int32)))) := sz_nL (dqn_425 v) (by decide) (zl_36_425 v)
theorem zi_427 (v : Nat → Int32) (k i : Nat) : dp_I (dq_427 v) k i = sF_13 v k i := zi_426 v k i
theorem zj_427 (v : Nat → Int32) (k i : Nat) : dp_J (dq_427 v) k i = 0 := zj_426 v k i
theorem zr_427 (v : Nat → Int32) (i : Nat) : dp_R (dq_427 v) 59 i = none := sz_rR (by decide) (zr_426 v) i
theorem zl_25_427 (v : Nat → Int32) : dp_len (dq_427 v) 25 = (Int32.toNatClampNeg (dq_h (v 0) (12 : Int32))) := zl_25_426 v
theorem zl_26_427 (v : Nat → Int32) : dp_len (dq_427 v) 26 = (Int32.toNatClampNeg (dq_h (v 0) (12 : Int32))) := zl_26_426 v
theorem zl_27_427 (v : Nat → Int32) : dp_len (dq_427 v) 27 = (Int32.toNatClampNeg ((dq_h (v 0) (12 : Int32)) * (16 : Int32))) := zl_27_426 v
theorem zl_33_427 (v : Nat → Int32) : dp_len (dq_427 v) 33 = (Int32.toNatClampNeg (dq_h (v 2) (20 : Int32))) := zl_33_426 v
theorem zl_34_427 (v : Nat → Int32) : dp_len (dq_427 v) 34 = (Int32.toNatClampNeg (dq_h (v 2) (20 : Int32))) := zl_34_426 v
theorem zl_35_427 (v : Nat → Int32) : dp_len (dq_427 v) 35 = (Int32.toNatClampNeg (dq_h (v 2) (20 : Int32))) := zl_35_426 v
theorem zl_36_427 (v : Nat → Int32) : dp_len (dq_427 v) 36 = (Int32.toNatClampNeg ((dq_h (v 2) (20 : Int32)) * (dq_h (v 3) (8 : Int32)))) := zl_36_426 v
theorem zi_428 (v : Nat → Int32) (k i : Nat) : dp_I (dq_428 v) k i = sF_13 v k i := sz_n (dqn_427 v) (zi_427 v) (fun _ => rfl) k i
theorem zj_428 (v : Nat → Int32) (k i : Nat) : dp_J (dq_428 v) k i = 0 := sz_nJ (zj_427 v) k i
theorem zr_428 (v : Nat → Int32) (i : Nat) : dp_R (dq_428 v) 59 i = none := sz_nR (zr_427 v) i
theorem zl_25_428 (v : Nat → Int32) : dp_len (dq_428 v) 25 = (Int32.toNatClampNeg (dq_h (v 0) (12 : Int32))) := sz_nL (dqn_427 v) (by decide) (zl_25_427 v)
theorem zl_26_428 (v : Nat → Int32) : dp_len (dq_428 v) 26 = (Int32.toNatClampNeg (dq_h (v 0) (12 : Int32))) := sz_nL (dqn_427 v) (by decide) (zl_26_427 v)
theorem zl_27_428 (v : Nat → Int32) : dp_len (dq_428 v) 27 = (Int32.toNatClampNeg ((dq_h (v 0) (12 : Int32)) * (16 : Int32))) := sz_nL (dqn_427 v) (by decide) (zl_27_427 v)
theorem zl_33_428 (v : Nat → Int32) : dp_len (dq_428 v) 33 = (Int32.toNatClampNeg (dq_h (v 2) (20 : Int32))) := sz_nL (dqn_427 v) (by decide) (zl_33_427 v)
theorem zl_34_428 (v : Nat → Int32) : dp_len (dq_428 v) 34 = (Int32.toNatClampNeg (dq_h (v 2) (20 : Int32))) := sz_nL (dqn_427 v) (by decide) (zl_34_427 v)
theorem zl_35_428 (v : Nat → Int32) : dp_len (dq_428 v) 35 = (Int32.toNatClampNeg (dq_h (v 2) (20 : Int32))) := sz_nL (dqn_427 v) (by decide) (zl_35_427 v)
theorem zl_36_428 (v : Nat → Int32) : dp_len (dq_428 v) 36 = (Int32.toNatClampNeg ((dq_h (v 2) (20 : Int32)) * (dq_h (v 3) (8 : Int32)))) := sz_nL (dqn_427 v) (by decide) (zl_36_427 v)
theorem zi_429 (v : Nat → Int32) (k i : Nat) : dp_I (dq_429 v) k i = sF_13 v k i := zi_428 v k i
theorem zj_429 (v : Nat → Int32) (k i : Nat) : dp_J (dq_429 v) k i = 0 := zj_428 v k i
theorem zr_429 (v : Nat → Int32) (i : Nat) : dp_R (dq_429 v) 59 i = none := sz_rR (by decide) (zr_428 v) i
theorem zl_25_429 (v : Nat → Int32) : dp_len (dq_429 v) 25 = (Int32.toNatClampNeg (dq_h (v 0) (12 : Int32))) := zl_25_428 v
theorem zl_26_429 (v : Nat → Int32) : dp_len (dq_429 v) 26 = (Int32.toNatClampNeg (dq_h (v 0) (12 : Int32))) := zl_26_428 v
theorem zl_27_429 (v : Nat → Int32) : dp_len (dq_429 v) 27 = (Int32.toNatClampNeg ((dq_h (v 0) (12 : Int32)) * (16 : Int32))) := zl_27_428 v
theorem zl_33_429 (v : Nat → Int32) : dp_len (dq_429 v) 33 = (Int32.toNatClampNeg (dq_h (v 2) (20 : Int32))) := zl_33_428 v
theorem zl_34_429 (v : Nat → Int32) : dp_len (dq_429 v) 34 = (Int32.toNatClampNeg (dq_h (v 2) (20 : Int32))) := zl_34_428 v
theorem zl_35_429 (v : Nat → Int32) : dp_len (dq_429 v) 35 = (Int32.toNatClampNeg (dq_h (v 2) (20 : Int32))) := zl_35_428 v
theorem zl_36_429 (v : Nat → Int32) : dp_len (dq_429 v) 36 = (Int32.toNatClampNeg ((dq_h (v 2) (20 : Int32)) * (dq_h (v 3) (8 : Int32)))) := zl_36_428 v
theorem zi_430 (v : Nat → Int32) (k i : Nat) : dp_I (dq_430 v) k i = sF_13 v k i := sz_n (dqn_429 v) (zi_429 v) (fun _ => rfl) k i
theorem zj_430 (v : Nat → Int32) (k i : Nat) : dp_J (dq_430 v) k i = 0 := sz_nJ (zj_429 v) k i
theorem zr_430 (v : Nat → Int32) (i : Nat) : dp_R (dq_430 v) 59 i = none := sz_nR (zr_429 v) i
theorem zl_25_430 (v : Nat → Int32) : dp_len (dq_430 v) 25 = (Int32.toNatClampNeg (dq_h (v 0) (12 : Int32))) := sz_nL (dqn_429 v) (by decide) (zl_25_429 v)
theorem zl_26_430 (v : Nat → Int32) : dp_len (dq_430 v) 26 = (Int32.toNatClampNeg (dq_h (v 0) (12 : Int32))) := sz_nL (dqn_429 v) (by decide) (zl_26_429 v)
theorem zl_27_430 (v : Nat → Int32) : dp_len (dq_430 v) 27 = (Int32.toNatClampNeg ((dq_h (v 0) (12 : Int32)) * (16 : Int32))) := sz_nL (dqn_429 v) (by decide) (zl_27_429 v)
theorem zl_33_430 (v : Nat → Int32) : dp_len (dq_430 v) 33 = (Int32.toNatClampNeg (dq_h (v 2) (20 : Int32))) := sz_nL (dqn_429 v) (by decide) (zl_33_429 v)
theorem zl_34_430 (v : Nat → Int32) : dp_len (dq_430 v) 34 = (Int32.toNatClampNeg (dq_h (v 2) (20 : Int32))) := sz_nL (dqn_429 v) (by decide) (zl_34_429 v)
theorem zl_35_430 (v : Nat → Int32) : dp_len (dq_430 v) 35 = (Int32.toNatClampNeg (dq_h (v 2) (20 : Int32))) := sz_nL (dqn_429 v) (by decide) (zl_35_429 v)
theorem zl_36_430 (v : Nat → Int32) : dp_len (dq_430 v) 36 = (Int32.toNatClampNeg ((dq_h (v 2) (20 : Int32)) * (dq_h (v 3) (8 : Int32)))) := sz_nL (dqn_429 v) (by decide) (zl_36_429 v)
theorem zi_431 (v : Nat → Int32) (k i : Nat) : dp_I (dq_431 v) k i = sF_13 v k i := zi_430 v k i
theorem zj_431 (v : Nat → Int32) (k i : Nat) : dp_J (dq_431 v) k i = 0 := zj_430 v k i
theorem zr_431 (v : Nat → Int32) (i : Nat) : dp_R (dq_431 v) 59 i = none := sz_rR (by decide) (zr_430 v) i
theorem zl_25_431 (v : Nat → Int32) : dp_len (dq_431 v) 25 = (Int32.toNatClampNeg (dq_h (v 0) (12 : Int32))) := zl_25_430 v
theorem zl_26_431 (v : Nat → Int32) : dp_len (dq_431 v) 26 = (Int32.toNatClampNeg (dq_h (v 0) (12 : Int32))) := zl_26_430 v
theorem zl_27_431 (v : Nat → Int32) : dp_len (dq_431 v) 27 = (Int32.toNatClampNeg ((dq_h (v 0) (12 : Int32)) * (16 : Int32))) := zl_27_430 v
theorem zl_33_431 (v : Nat → Int32) : dp_len (dq_431 v) 33 = (Int32.toNatClampNeg (dq_h (v 2) (20 : Int32))) := zl_33_430 v
theorem zl_34_431 (v : Nat → Int32) : dp_len (dq_431 v) 34 = (Int32.toNatClampNeg (dq_h (v 2) (20 : Int32))) := zl_34_430 v
theorem zl_35_431 (v : Nat → Int32) : dp_len (dq_431 v) 35 = (Int32.toNatClampNeg (dq_h (v 2) (20 : Int32))) := zl_35_430 v
theorem zl_36_431 (v : Nat → Int32) : dp_len (dq_431 v) 36 = (Int32.toNatClampNeg ((dq_h (v 2) (20 : Int32)) * (dq_h (v 3) (8 : Int32)))) := zl_36_430 v
theorem zi_432 (v : Nat → Int32) (k i : Nat) : dp_I (dq_432 v) k i = sF_13 v k i := sz_n (dqn_431 v) (zi_431 v) (fun _ => rfl) k i
theorem zj_432 (v : Nat → Int32) (k i : Nat) : dp_J (dq_432 v) k i = 0 := sz_nJ (zj_431 v) k i
theorem zr_432 (v : Nat → Int32) (i : Nat) : dp_R (dq_432 v) 59 i = none := sz_nR (zr_431 v) i
theorem zl_25_432 (v : Nat → Int32) : dp_len (dq_432 v) 25 = (Int32.toNatClampNeg (dq_h (v 0) (12 : Int32))) := sz_nL (dqn_431 v) (by decide) (zl_25_431 v)
theorem zl_26_432 (v : Nat → Int32) : dp_len (dq_432 v) 26 = (Int32.toNatClampNeg (dq_h (v 0) (12 : Int32))) := sz_nL (dqn_431 v) (by decide) (zl_26_431 v)
theorem zl_27_432 (v : Nat → Int32) : dp_len (dq_432 v) 27 = (Int32.toNatClampNeg ((dq_h (v 0) (12 : Int32)) * (16 : Int32))) := sz_nL (dqn_431 v) (by decide) (zl_27_431 v)
theorem zl_33_432 (v : Nat → Int32) : dp_len (dq_432 v) 33 = (Int32.toNatClampNeg (dq_h (v 2) (20 : Int32))) := sz_nL (dqn_431 v) (by decide) (zl_33_431 v)
theorem zl_34_432 (v : Nat → Int32) : dp_len (dq_432 v) 34 = (Int32.toNatClampNeg (dq_h (v 2) (20 : Int32))) := sz_nL (dqn_431 v) (by decide) (zl_34_431 v)
theorem zl_35_432 (v : Nat → Int32) : dp_len (dq_432 v) 35 = (Int32.toNatClampNeg (dq_h (v 2) (20 : Int32))) := sz_nL (dqn_431 v) (by decide) (zl_35_431 v)
theorem zl_36_432 (v : Nat → Int32) : dp_len (dq_432 v) 36 = (Int32.toNatClampNeg ((dq_h (v 2) (20 : Int32)) * (dq_h (v 3) (8 : Int32)))) := sz_nL (dqn_431 v) (by decide) (zl_36_431 v)
theorem zi_433 (v : Nat → Int32) (k i : Nat) : dp_I (dq_433 v) k i = sF_13 v k i := zi_432 v k i
theorem zj_433 (v : Nat → Int32) (k i : Nat) : dp_J (dq_433 v) k i = 0 := zj_432 v k i
theorem zr_433 (v : Nat → Int32) (i : Nat) : dp_R (dq_433 v) 59 i = none := sz_rR (by decide) (zr_432 v) i
theorem zl_25_433 (v : Nat → Int32) : dp_len (dq_433 v) 25 = (Int32.toNatClampNeg (dq_h (v 0) (12 : Int32))) := zl_25_432 v
theorem zl_26_433 (v : Nat → Int32) : dp_len (dq_433 v) 26 = (Int32.toNatClampNeg (dq_h (v 0) (12 : Int32))) := zl_26_432 v
theorem zl_27_433 (v : Nat → Int32) : dp_len (dq_433 v) 27 = (Int32.toNatClampNeg ((dq_h (v 0) (12 : Int32)) * (16 : Int32))) := zl_27_432 v
theorem zl_33_433 (v : Nat → Int32) : dp_len (dq_433 v) 33 = (Int32.toNatClampNeg (dq_h (v 2) (20 : Int32))) := zl_33_432 v
theorem zl_34_433 (v : Nat → Int32) : dp_len (dq_433 v) 34 = (Int32.toNatClampNeg (dq_h (v 2) (20 : Int32))) := zl_34_432 v
theorem zl_35_433 (v : Nat → Int32) : dp_len (dq_433 v) 35 = (Int32.toNatClampNeg (dq_h (v 2) (20 : Int32))) := zl_35_432 v
theorem zl_36_433 (v : Nat → Int32) : dp_len (dq_433 v) 36 = (Int32.toNatClampNeg ((dq_h (v 2) (20 : Int32)) * (dq_h (v 3) (8 : Int32)))) := zl_36_432 v
theorem zi_434 (v : Nat → Int32) (k i : Nat) : dp_I (dq_434 v) k i = sF_13 v k i := sz_n (dqn_433 v) (zi_433 v) (fun _ => rfl) k i
theorem zj_434 (v : Nat → Int32) (k i : Nat) : dp_J (dq_434 v) k i = 0 := sz_nJ (zj_433 v) k i
theorem zr_434 (v : Nat → Int32) (i : Nat) : dp_R (dq_434 v) 59 i = none := sz_nR (zr_433 v) i
theorem zl_25_434 (v : Nat → Int32) : dp_len (dq_434 v) 25 = (Int32.toNatClampNeg (dq_h (v 0) (12 : Int32))) := sz_nL (dqn_433 v) (by decide) (zl_25_433 v)
theorem zl_26_434 (v : Nat → Int32) : dp_len (dq_434 v) 26 = (Int32.toNatClampNeg (dq_h (v 0) (12 : Int32))) := sz_nL (dqn_433 v) (by decide) (zl_26_433 v)
theorem zl_27_434 (v : Nat → Int32) : dp_len (dq_434 v) 27 = (Int32.toNatClampNeg ((dq_h (v 0) (12 : Int32)) * (16 : Int32))) := sz_nL (dqn_433 v) (by decide) (zl_27_433 v)
theorem zl_33_434 (v : Nat → Int32) : dp_len (dq_434 v) 33 = (Int32.toNatClampNeg (dq_h (v 2) (20 : Int32))) := sz_nL (dqn_433 v) (by decide) (zl_33_433 v)
theorem zl_34_434 (v : Nat → Int32) : dp_len (dq_434 v) 34 = (Int32.toNatClampNeg (dq_h (v 2) (20 : Int32))) := sz_nL (dqn_433 v) (by decide) (zl_34_433 v)
theorem zl_35_434 (v : Nat → Int32) : dp_len (dq_434 v) 35 = (Int32.toNatClampNeg (dq_h (v 2) (20 : Int32))) := sz_nL (dqn_433 v) (by decide) (zl_35_433 v)
theorem zl_36_434 (v : Nat → Int32) : dp_len (dq_434 v) 36 = (Int32.toNatClampNeg ((dq_h (v 2) (20 : Int32)) * (dq_h (v 3) (8 : Int32)))) := sz_nL (dqn_433 v) (by decide) (zl_36_433 v)
theorem zi_435 (v : Nat → Int32) (k i : Nat) : dp_I (dq_435 v) k i = sF_13 v k i := zi_434 v k i
theorem zj_435 (v : Nat → Int32) (k i : Nat) : dp_J (dq_435 v) k i = 0 := zj_434 v k i
theorem zr_435 (v : Nat → Int32) (i : Nat) : dp_R (dq_435 v) 59 i = none := sz_rR (by decide) (zr_434 v) i
theorem zl_25_435 (v : Nat → Int32) : dp_len (dq_435 v) 25 = (Int32.toNatClampNeg (dq_h (v 0) (12 : Int32))) := zl_25_434 v
theorem zl_26_435 (v : Nat → Int32) : dp_len (dq_435 v) 26 = (Int32.toNatClampNeg (dq_h (v 0) (12 : Int32))) := zl_26_434 v
theorem zl_27_435 (v : Nat → Int32) : dp_len (dq_435 v) 27 = (Int32.toNatClampNeg ((dq_h (v 0) (12 : Int32)) * (16 : Int32))) := zl_27_434 v
theorem zl_33_435 (v : Nat → Int32) : dp_len (dq_435 v) 33 = (Int32.toNatClampNeg (dq_h (v 2) (20 : Int32))) := zl_33_434 v
theorem zl_34_435 (v : Nat → Int32) : dp_len (dq_435 v) 34 = (Int32.toNatClampNeg (dq_h (v 2) (20 : Int32))) := zl_34_434 v
theorem zl_35_435 (v : Nat → Int32) : dp_len (dq_435 v) 35 = (Int32.toNatClampNeg (dq_h (v 2) (20 : Int32))) := zl_35_434 v
theorem zl_36_435 (v : Nat → Int32) : dp_len (dq_435 v) 36 = (Int32.toNatClampNeg ((dq_h (v 2) (20 : Int32)) * (dq_h (v 3) (8 : Int32)))) := zl_36_434 v
theorem zi_436 (v : Nat → Int32) (k i : Nat) : dp_I (dq_436 v) k i = sF_13 v k i := sz_n (dqn_435 v) (zi_435 v) (fun _ => rfl) k i
theorem zj_436 (v : Nat → Int32) (k i : Nat) : dp_J (dq_436 v) k i = 0 := sz_nJ (zj_435 v) k i
theorem zr_436 (v : Nat → Int32) (i : Nat) : dp_R (dq_436 v) 59 i = none := sz_nR (zr_435 v) i
theorem zl_25_436 (v : Nat → Int32) : dp_len (dq_436 v) 25 = (Int32.toNatClampNeg (dq_h (v 0) (12 : Int32))) := sz_nL (dqn_435 v) (by decide) (zl_25_435 v)
theorem zl_26_436 (v : Nat → Int32) : dp_len (dq_436 v) 26 = (Int32.toNatClampNeg (dq_h (v 0) (12 : Int32))) := sz_nL (dqn_435 v) (by decide) (zl_26_435 v)
theorem zl_27_436 (v : Nat → Int32) : dp_len (dq_436 v) 27 = (Int32.toNatClampNeg ((dq_h (v 0) (12 : Int32)) * (16 : Int32))) := sz_nL (dqn_435 v) (by decide) (zl_27_435 v)
theorem zl_33_436 (v : Nat → Int32) : dp_len (dq_436 v) 33 = (Int32.toNatClampNeg (dq_h (v 2) (20 : Int32))) := sz_nL (dqn_435 v) (by decide) (zl_33_435 v)
theorem zl_34_436 (v : Nat → Int32) : dp_len (dq_436 v) 34 = (Int32.toNatClampNeg (dq_h (v 2) (20 : Int32))) := sz_nL (dqn_435 v) (by decide) (zl_34_435 v)
theorem zl_35_436 (v : Nat → Int32) : dp_len (dq_436 v) 35 = (Int32.toNatClampNeg (dq_h (v 2) (20 : Int32))) := sz_nL (dqn_435 v) (by decide) (zl_35_435 v)
theorem zl_36_436 (v : Nat → Int32) : dp_len (dq_436 v) 36 = (Int32.toNatClampNeg ((dq_h (v 2) (20 : Int32)) * (dq_h (v 3) (8 : Int32)))) := sz_nL (dqn_435 v) (by decide) (zl_36_435 v)
theorem zi_437 (v : Nat → Int32) (k i : Nat) : dp_I (dq_437 v) k i = sF_13 v k i := zi_436 v k i
theorem zj_437 (v : Nat → Int32) (k i : Nat) : dp_J (dq_437 v) k i = 0 := zj_436 v k i
theorem zr_437 (v : Nat → Int32) (i : Nat) : dp_R (dq_437 v) 59 i = none := sz_rR (by decide) (zr_436 v) i
theorem zl_25_437 (v : Nat → Int32) : dp_len (dq_437 v) 25 = (Int32.toNatClampNeg (dq_h (v 0) (12 : Int32))) := zl_25_436 v
theorem zl_26_437 (v : Nat → Int32) : dp_len (dq_437 v) 26 = (Int32.toNatClampNeg (dq_h (v 0) (12 : Int32))) := zl_26_436 v
theorem zl_27_437 (v : Nat → Int32) : dp_len (dq_437 v) 27 = (Int32.toNatClampNeg ((dq_h (v 0) (12 : Int32)) * (16 : Int32))) := zl_27_436 v
theorem zl_33_437 (v : Nat → Int32) : dp_len (dq_437 v) 33 = (Int32.toNatClampNeg (dq_h (v 2) (20 : Int32))) := zl_33_436 v
theorem zl_34_437 (v : Nat → Int32) : dp_len (dq_437 v) 34 = (Int32.toNatClampNeg (dq_h (v 2) (20 : Int32))) := zl_34_436 v
theorem zl_35_437 (v : Nat → Int32) : dp_len (dq_437 v) 35 = (Int32.toNatClampNeg (dq_h (v 2) (20 : Int32))) := zl_35_436 v
theorem zl_36_437 (v : Nat → Int32) : dp_len (dq_437 v) 36 = (Int32.toNatClampNeg ((dq_h (v 2) (20 : Int32)) * (dq_h (v 3) (8 : Int32)))) := zl_36_436 v
theorem zi_438 (v : Nat → Int32) (k i : Nat) : dp_I (dq_438 v) k i = sF_13 v k i := sz_n (dqn_437 v) (zi_437 v) (fun _ => rfl) k i
theorem zj_438 (v : Nat → Int32) (k i : Nat) : dp_J (dq_438 v) k i = 0 := sz_nJ (zj_437 v) k i
theorem zr_438 (v : Nat → Int32) (i : Nat) : dp_R (dq_438 v) 59 i = none := sz_nR (zr_437 v) i
theorem zl_25_438 (v : Nat → Int32) : dp_len (dq_438 v) 25 = (Int32.toNatClampNeg (dq_h (v 0) (12 : Int32))) := sz_nL (dqn_437 v) (by decide) (zl_25_437 v)
theorem zl_26_438 (v : Nat → Int32) : dp_len (dq_438 v) 26 = (Int32.toNatClampNeg (dq_h (v 0) (12 : Int32))) := sz_nL (dqn_437 v) (by decide) (zl_26_437 v)
theorem zl_27_438 (v : Nat → Int32) : dp_len (dq_438 v) 27 = (Int32.toNatClampNeg ((dq_h (v 0) (12 : Int32)) * (16 : Int32))) := sz_nL (dqn_437 v) (by decide) (zl_27_437 v)
theorem zl_33_438 (v : Nat → Int32) : dp_len (dq_438 v) 33 = (Int32.toNatClampNeg (dq_h (v 2) (20 : Int32))) := sz_nL (dqn_437 v) (by decide) (zl_33_437 v)
theorem zl_34_438 (v : Nat → Int32) : dp_len (dq_438 v) 34 = (Int32.toNatClampNeg (dq_h (v 2) (20 : Int32))) := sz_nL (dqn_437 v) (by decide) (zl_34_437 v)
theorem zl_35_438 (v : Nat → Int32) : dp_len (dq_438 v) 35 = (Int32.toNatClampNeg (dq_h (v 2) (20 : Int32))) := sz_nL (dqn_437 v) (by decide) (zl_35_437 v)
theorem zl_36_438 (v : Nat → Int32) : dp_len (dq_438 v) 36 = (Int32.toNatClampNeg ((dq_h (v 2) (20 : Int32)) * (dq_h (v 3) (8 : Int32)))) := sz_nL (dqn_437 v) (by decide) (zl_36_437 v)
theorem zi_439 (v : Nat → Int32) (k i : Nat) : dp_I (dq_439 v) k i = sF_13 v k i := zi_438 v k i
theorem zj_439 (v : Nat → Int32) (k i : Nat) : dp_J (dq_439 v) k i = 0 := zj_438 v k i
theorem zr_439 (v : Nat → Int32) (i : Nat) : dp_R (dq_439 v) 59 i = none := sz_rR (by decide) (zr_438 v) i
theorem zl_25_439 (v : Nat → Int32) : dp_len (dq_439 v) 25 = (Int32.toNatClampNeg (dq_h (v 0) (12 : Int32))) := zl_25_438 v
theorem zl_26_439 (v : Nat → Int32) : dp_len (dq_439 v) 26 = (Int32.toNatClampNeg (dq_h (v 0) (12 : Int32))) := zl_26_438 v
theorem zl_27_439 (v : Nat → Int32) : dp_len (dq_439 v) 27 = (Int32.toNatClampNeg ((dq_h (v 0) (12 : Int32)) * (16 : Int32))) := zl_27_438 v
theorem zl_33_439 (v : Nat → Int32) : dp_len (dq_439 v) 33 = (Int32.toNatClampNeg (dq_h (v 2) (20 : Int32))) := zl_33_438 v
theorem zl_34_439 (v : Nat → Int32) : dp_len (dq_439 v) 34 = (Int32.toNatClampNeg (dq_h (v 2) (20 : Int32))) := zl_34_438 v
theorem zl_35_439 (v : Nat → Int32) : dp_len (dq_439 v) 35 = (Int32.toNatClampNeg (dq_h (v 2) (20 : Int32))) := zl_35_438 v
theorem zl_36_439 (v : Nat → Int32) : dp_len (dq_439 v) 36 = (Int32.toNatClampNeg ((dq_h (v 2) (20 : Int32)) * (dq_h (v 3) (8 : Int32)))) := zl_36_438 v
theorem zi_440 (v : Nat → Int32) (k i : Nat) : dp_I (dq_440 v) k i = sF_13 v k i := sz_n (dqn_439 v) (zi_439 v) (fun _ => rfl) k i
theorem zj_440 (v : Nat → Int32) (k i : Nat) : dp_J (dq_440 v) k i = 0 := sz_nJ (zj_439 v) k i
theorem zr_440 (v : Nat → Int32) (i : Nat) : dp_R (dq_440 v) 59 i = none := sz_nR (zr_439 v) i
theorem zl_25_440 (v : Nat → Int32) : dp_len (dq_440 v) 25 = (Int32.toNatClampNeg (dq_h (v 0) (12 : Int32))) := sz_nL (dqn_439 v) (by decide) (zl_25_439 v)
theorem zl_26_440 (v : Nat → Int32) : dp_len (dq_440 v) 26 = (Int32.toNatClampNeg (dq_h (v 0) (12 : Int32))) := sz_nL (dqn_439 v) (by decide) (zl_26_439 v)
theorem zl_27_440 (v : Nat → Int32) : dp_len (dq_440 v) 27 = (Int32.toNatClampNeg ((dq_h (v 0) (12 : Int32)) * (16 : Int32))) := sz_nL (dqn_439 v) (by decide) (zl_27_439 v)
theorem zl_33_440 (v : Nat → Int32) : dp_len (dq_440 v) 33 = (Int32.toNatClampNeg (dq_h (v 2) (20 : Int32))) := sz_nL (dqn_439 v) (by decide) (zl_33_439 v)
theorem zl_34_440 (v : Nat → Int32) : dp_len (dq_440 v) 34 = (Int32.toNatClampNeg (dq_h (v 2) (20 : Int32))) := sz_nL (dqn_439 v) (by decide) (zl_34_439 v)
theorem zl_35_440 (v : Nat → Int32) : dp_len (dq_440 v) 35 = (Int32.toNatClampNeg (dq_h (v 2) (20 : Int32))) := sz_nL (dqn_439 v) (by decide) (zl_35_439 v)
theorem zl_36_440 (v : Nat → Int32) : dp_len (dq_440 v) 36 = (Int32.toNatClampNeg ((dq_h (v 2) (20 : Int32)) * (dq_h (v 3) (8 : Int32)))) := sz_nL (dqn_439 v) (by decide) (zl_36_439 v)
theorem zi_441 (v : Nat → Int32) (k i : Nat) : dp_I (dq_441 v) k i = sF_13 v k i := zi_440 v k i
theorem zj_441 (v : Nat → Int32) (k i : Nat) : dp_J (dq_441 v) k i = 0 := zj_440 v k i
theorem zr_441 (v : Nat → Int32) (i : Nat) : dp_R (dq_441 v) 59 i = none := sz_rR (by decide) (zr_440 v) i
theorem zl_25_441 (v : Nat → Int32) : dp_len (dq_441 v) 25 = (Int32.toNatClampNeg (dq_h (v 0) (12 : Int32))) := zl_25_440 v
theorem zl_26_441 (v : Nat → Int32) : dp_len (dq_441 v) 26 = (Int32.toNatClampNeg (dq_h (v 0) (12 : Int32))) := zl_26_440 v
theorem zl_27_441 (v : Nat → Int32) : dp_len (dq_441 v) 27 = (Int32.toNatClampNeg ((dq_h (v 0) (12 : Int32)) * (16 : Int32))) := zl_27_440 v
theorem zl_33_441 (v : Nat → Int32) : dp_len (dq_441 v) 33 = (Int32.toNatClampNeg (dq_h (v 2) (20 : Int32))) := zl_33_440 v
theorem zl_34_441 (v : Nat → Int32) : dp_len (dq_441 v) 34 = (Int32.toNatClampNeg (dq_h (v 2) (20 : Int32))) := zl_34_440 v
theorem zl_35_441 (v : Nat → Int32) : dp_len (dq_441 v) 35 = (Int32.toNatClampNeg (dq_h (v 2) (20 : Int32))) := zl_35_440 v
theorem zl_36_441 (v : Nat → Int32) : dp_len (dq_441 v) 36 = (Int32.toNatClampNeg ((dq_h (v 2) (20 : Int32)) * (dq_h (v 3) (8 : Int32)))) := zl_36_440 v
theorem zi_442 (v : Nat → Int32) (k i : Nat) : dp_I (dq_442 v) k i = sF_13 v k i := sz_n (dqn_441 v) (zi_441 v) (fun _ => rfl) k i
theorem zj_442 (v : Nat → Int32) (k i : Nat) : dp_J (dq_442 v) k i = 0 := sz_nJ (zj_441 v) k i
theorem zr_442 (v : Nat → Int32) (i : Nat) : dp_R (dq_442 v) 59 i = none := sz_nR (zr_441 v) i
theorem zl_25_442 (v : Nat → Int32) : dp_len (dq_442 v) 25 = (Int32.toNatClampNeg (dq_h (v 0) (12 : Int32))) := sz_nL (dqn_441 v) (by decide) (zl_25_441 v)
theorem zl_26_442 (v : Nat → Int32) : dp_len (dq_442 v) 26 = (Int32.toNatClampNeg (dq_h (v 0) (12 : Int32))) := sz_nL (dqn_441 v) (by decide) (zl_26_441 v)
theorem zl_27_442 (v : Nat → Int32) : dp_len (dq_442 v) 27 = (Int32.toNatClampNeg ((dq_h (v 0) (12 : Int32)) * (16 : Int32))) := sz_nL (dqn_441 v) (by decide) (zl_27_441 v)
theorem zl_33_442 (v : Nat → Int32) : dp_len (dq_442 v) 33 = (Int32.toNatClampNeg (dq_h (v 2) (20 : Int32))) := sz_nL (dqn_441 v) (by decide) (zl_33_441 v)
theorem zl_34_442 (v : Nat → Int32) : dp_len (dq_442 v) 34 = (Int32.toNatClampNeg (dq_h (v 2) (20 : Int32))) := sz_nL (dqn_441 v) (by decide) (zl_34_441 v)
theorem zl_35_442 (v : Nat → Int32) : dp_len (dq_442 v) 35 = (Int32.toNatClampNeg (dq_h (v 2) (20 : Int32))) := sz_nL (dqn_441 v) (by decide) (zl_35_441 v)
theorem zl_36_442 (v : Nat → Int32) : dp_len (dq_442 v) 36 = (Int32.toNatClampNeg ((dq_h (v 2) (20 : Int32)) * (dq_h (v 3) (8 : Int32)))) := sz_nL (dqn_441 v) (by decide) (zl_36_441 v)
theorem zi_443 (v : Nat → Int32) (k i : Nat) : dp_I (dq_443 v) k i = sF_13 v k i := zi_442 v k i
theorem zj_443 (v : Nat → Int32) (k i : Nat) : dp_J (dq_443 v) k i = 0 := zj_442 v k i
theorem zr_443 (v : Nat → Int32) (i : Nat) : dp_R (dq_443 v) 59 i = none := sz_rR (by decide) (zr_442 v) i
theorem zl_25_443 (v : Nat → Int32) : dp_len (dq_443 v) 25 = (Int32.toNatClampNeg (dq_h (v 0) (12 : Int32))) := zl_25_442 v
theorem zl_26_443 (v : Nat → Int32) : dp_len (dq_443 v) 26 = (Int32.toNatClampNeg (dq_h (v 0) (12 : Int32))) := zl_26_442 v
theorem zl_27_443 (v : Nat → Int32) : dp_len (dq_443 v) 27 = (Int32.toNatClampNeg ((dq_h (v 0) (12 : Int32)) * (16 : Int32))) := zl_27_442 v
theorem zl_33_443 (v : Nat → Int32) : dp_len (dq_443 v) 33 = (Int32.toNatClampNeg (dq_h (v 2) (20 : Int32))) := zl_33_442 v
theorem zl_34_443 (v : Nat → Int32) : dp_len (dq_443 v) 34 = (Int32.toNatClampNeg (dq_h (v 2) (20 : Int32))) := zl_34_442 v
theorem zl_35_443 (v : Nat → Int32) : dp_len (dq_443 v) 35 = (Int32.toNatClampNeg (dq_h (v 2) (20 : Int32))) := zl_35_442 v
theorem zl_36_443 (v : Nat → Int32) : dp_len (dq_443 v) 36 = (Int32.toNatClampNeg ((dq_h (v 2) (20 : Int32)) * (dq_h (v 3) (8 : Int32)))) := zl_36_442 v
theorem zi_444 (v : Nat → Int32) (k i : Nat) : dp_I (dq_444 v) k i = sF_13 v k i := sz_n (dqn_443 v) (zi_443 v) (fun _ => rfl) k i
theorem zj_444 (v : Nat → Int32) (k i : Nat) : dp_J (dq_444 v) k i = 0 := sz_nJ (zj_443 v) k i
theorem zr_444 (v : Nat → Int32) (i : Nat) : dp_R (dq_444 v) 59 i = none := sz_nR (zr_443 v) i
theorem zl_25_444 (v : Nat → Int32) : dp_len (dq_444 v) 25 = (Int32.toNatClampNeg (dq_h (v 0) (12 : Int32))) := sz_nL (dqn_443 v) (by decide) (zl_25_443 v)
theorem zl_26_444 (v : Nat → Int32) : dp_len (dq_444 v) 26 = (Int32.toNatClampNeg (dq_h (v 0) (12 : Int32))) := sz_nL (dqn_443 v) (by decide) (zl_26_443 v)
theorem zl_27_444 (v : Nat → Int32) : dp_len (dq_444 v) 27 = (Int32.toNatClampNeg ((dq_h (v 0) (12 : Int32)) * (16 : Int32))) := sz_nL (dqn_443 v) (by decide) (zl_27_443 v)
theorem zl_33_444 (v : Nat → Int32) : dp_len (dq_444 v) 33 = (Int32.toNatClampNeg (dq_h (v 2) (20 : Int32))) := sz_nL (dqn_443 v) (by decide) (zl_33_443 v)
theorem zl_34_444 (v : Nat → Int32) : dp_len (dq_444 v) 34 = (Int32.toNatClampNeg (dq_h (v 2) (20 : Int32))) := sz_nL (dqn_443 v) (by decide) (zl_34_443 v)
theorem zl_35_444 (v : Nat → Int32) : dp_len (dq_444 v) 35 = (Int32.toNatClampNeg (dq_h (v 2) (20 : Int32))) := sz_nL (dqn_443 v) (by decide) (zl_35_443 v)
theorem zl_36_444 (v : Nat → Int32) : dp_len (dq_444 v) 36 = (Int32.toNatClampNeg ((dq_h (v 2) (20 : Int32)) * (dq_h (v 3) (8 : Int32)))) := sz_nL (dqn_443 v) (by decide) (zl_36_443 v)
theorem zi_445 (v : Nat → Int32) (k i : Nat) : dp_I (dq_445 v) k i = sF_13 v k i := zi_444 v k i
theorem zj_445 (v : Nat → Int32) (k i : Nat) : dp_J (dq_445 v) k i = 0 := zj_444 v k i
theorem zr_445 (v : Nat → Int32) (i : Nat) : dp_R (dq_445 v) 59 i = none := sz_rR (by decide) (zr_444 v) i
theorem zl_25_445 (v : Nat → Int32) : dp_len (dq_445 v) 25 = (Int32.toNatClampNeg (dq_h (v 0) (12 : Int32))) := zl_25_444 v
theorem zl_26_445 (v : Nat → Int32) : dp_len (dq_445 v) 26 = (Int32.toNatClampNeg (dq_h (v 0) (12 : Int32))) := zl_26_444 v
theorem zl_27_445 (v : Nat → Int32) : dp_len (dq_445 v) 27 = (Int32.toNatClampNeg ((dq_h (v 0) (12 : Int32)) * (16 : Int32))) := zl_27_444 v
theorem zl_33_445 (v : Nat → Int32) : dp_len (dq_445 v) 33 = (Int32.toNatClampNeg (dq_h (v 2) (20 : Int32))) := zl_33_444 v
theorem zl_34_445 (v : Nat → Int32) : dp_len (dq_445 v) 34 = (Int32.toNatClampNeg (dq_h (v 2) (20 : Int32))) := zl_34_444 v
theorem zl_35_445 (v : Nat → Int32) : dp_len (dq_445 v) 35 = (Int32.toNatClampNeg (dq_h (v 2) (20 : Int32))) := zl_35_444 v
theorem zl_36_445 (v : Nat → Int32) : dp_len (dq_445 v) 36 = (Int32.toNatClampNeg ((dq_h (v 2) (20 : Int32)) * (dq_h (v 3) (8 : Int32)))) := zl_36_444 v
theorem zi_446 (v : Nat → Int32) (k i : Nat) : dp_I (dq_446 v) k i = sF_13 v k i := sz_n (dqn_445 v) (zi_445 v) (fun _ => rfl) k i
theorem zj_446 (v : Nat → Int32) (k i : Nat) : dp_J (dq_446 v) k i = 0 := sz_nJ (zj_445 v) k i
theorem zr_446 (v : Nat → Int32) (i : Nat) : dp_R (dq_446 v) 59 i = none := sz_nR (zr_445 v) i
theorem zl_25_446 (v : Nat → Int32) : dp_len (dq_446 v) 25 = (Int32.toNatClampNeg (dq_h (v 0) (12 : Int32))) := sz_nL (dqn_445 v) (by decide) (zl_25_445 v)
theorem zl_26_446 (v : Nat → Int32) : dp_len (dq_446 v) 26 = (Int32.toNatClampNeg (dq_h (v 0) (12 : Int32))) := sz_nL (dqn_445 v) (by decide) (zl_26_445 v)
theorem zl_27_446 (v : Nat → Int32) : dp_len (dq_446 v) 27 = (Int32.toNatClampNeg ((dq_h (v 0) (12 : Int32)) * (16 : Int32))) := sz_nL (dqn_445 v) (by decide) (zl_27_445 v)
theorem zl_33_446 (v : Nat → Int32) : dp_len (dq_446 v) 33 = (Int32.toNatClampNeg (dq_h (v 2) (20 : Int32))) := sz_nL (dqn_445 v) (by decide) (zl_33_445 v)
theorem zl_34_446 (v : Nat → Int32) : dp_len (dq_446 v) 34 = (Int32.toNatClampNeg (dq_h (v 2) (20 : Int32))) := sz_nL (dqn_445 v) (by decide) (zl_34_445 v)
theorem zl_35_446 (v : Nat → Int32) : dp_len (dq_446 v) 35 = (Int32.toNatClampNeg (dq_h (v 2) (20 : Int32))) := sz_nL (dqn_445 v) (by decide) (zl_35_445 v)
theorem zl_36_446 (v : Nat → Int32) : dp_len (dq_446 v) 36 = (Int32.toNatClampNeg ((dq_h (v 2) (20 : Int32)) * (dq_h (v 3) (8 : Int32)))) := sz_nL (dqn_445 v) (by decide) (zl_36_445 v)
theorem zi_447 (v : Nat → Int32) (k i : Nat) : dp_I (dq_447 v) k i = sF_13 v k i := zi_446 v k i
theorem zj_447 (v : Nat → Int32) (k i : Nat) : dp_J (dq_447 v) k i = 0 := zj_446 v k i
theorem zr_447 (v : Nat → Int32) (i : Nat) : dp_R (dq_447 v) 59 i = none := sz_rR (by decide) (zr_446 v) i
theorem zl_25_447 (v : Nat → Int32) : dp_len (dq_447 v) 25 = (Int32.toNatClampNeg (dq_h (v 0) (12 : Int32))) := zl_25_446 v
theorem zl_26_447 (v : Nat → Int32) : dp_len (dq_447 v) 26 = (Int32.toNatClampNeg (dq_h (v 0) (12 : Int32))) := zl_26_446 v
theorem zl_27_447 (v : Nat → Int32) : dp_len (dq_447 v) 27 = (Int32.toNatClampNeg ((dq_h (v 0) (12 : Int32)) * (16 : Int32))) := zl_27_446 v
theorem zl_33_447 (v : Nat → Int32) : dp_len (dq_447 v) 33 = (Int32.toNatClampNeg (dq_h (v 2) (20 : Int32))) := zl_33_446 v
theorem zl_34_447 (v : Nat → Int32) : dp_len (dq_447 v) 34 = (Int32.toNatClampNeg (dq_h (v 2) (20 : Int32))) := zl_34_446 v
theorem zl_35_447 (v : Nat → Int32) : dp_len (dq_447 v) 35 = (Int32.toNatClampNeg (dq_h (v 2) (20 : Int32))) := zl_35_446 v
theorem zl_36_447 (v : Nat → Int32) : dp_len (dq_447 v) 36 = (Int32.toNatClampNeg ((dq_h (v 2) (20 : Int32)) * (dq_h (v 3) (8 : Int32)))) := zl_36_446 v
theorem zi_448 (v : Nat → Int32) (k i : Nat) : dp_I (dq_448 v) k i = sF_13 v k i := sz_n (dqn_447 v) (zi_447 v) (fun _ => rfl) k i
theorem zj_448 (v : Nat → Int32) (k i : Nat) : dp_J (dq_448 v) k i = 0 := sz_nJ (zj_447 v) k i
theorem zr_448 (v : Nat → Int32) (i : Nat) : dp_R (dq_448 v) 59 i = none := sz_nR (zr_447 v) i
theorem zl_25_448 (v : Nat → Int32) : dp_len (dq_448 v) 25 = (Int32.toNatClampNeg (dq_h (v 0) (12 : Int32))) := sz_nL (dqn_447 v) (by decide) (zl_25_447 v)
theorem zl_26_448 (v : Nat → Int32) : dp_len (dq_448 v) 26 = (Int32.toNatClampNeg (dq_h (v 0) (12 : Int32))) := sz_nL (dqn_447 v) (by decide) (zl_26_447 v)
theorem zl_27_448 (v : Nat → Int32) : dp_len (dq_448 v) 27 = (Int32.toNatClampNeg ((dq_h (v 0) (12 : Int32)) * (16 : Int32))) := sz_nL (dqn_447 v) (by decide) (zl_27_447 v)
theorem zl_33_448 (v : Nat → Int32) : dp_len (dq_448 v) 33 = (Int32.toNatClampNeg (dq_h (v 2) (20 : Int32))) := sz_nL (dqn_447 v) (by decide) (zl_33_447 v)
theorem zl_34_448 (v : Nat → Int32) : dp_len (dq_448 v) 34 = (Int32.toNatClampNeg (dq_h (v 2) (20 : Int32))) := sz_nL (dqn_447 v) (by decide) (zl_34_447 v)
theorem zl_35_448 (v : Nat → Int32) : dp_len (dq_448 v) 35 = (Int32.toNatClampNeg (dq_h (v 2) (20 : Int32))) := sz_nL (dqn_447 v) (by decide) (zl_35_447 v)
theorem zl_36_448 (v : Nat → Int32) : dp_len (dq_448 v) 36 = (Int32.toNatClampNeg ((dq_h (v 2) (20 : Int32)) * (dq_h (v 3) (8 : Int32)))) := sz_nL (dqn_447 v) (by decide) (zl_36_447 v)
theorem zi_449 (v : Nat → Int32) (k i : Nat) : dp_I (dq_449 v) k i = sF_13 v k i := zi_448 v k i
theorem zj_449 (v : Nat → Int32) (k i : Nat) : dp_J (dq_449 v) k i = 0 := zj_448 v k i
theorem zr_449 (v : Nat → Int32) (i : Nat) : dp_R (dq_449 v) 59 i = none := sz_rR (by decide) (zr_448 v) i
theorem zl_25_449 (v : Nat → Int32) : dp_len (dq_449 v) 25 = (Int32.toNatClampNeg (dq_h (v 0) (12 : Int32))) := zl_25_448 v
theorem zl_26_449 (v : Nat → Int32) : dp_len (dq_449 v) 26 = (Int32.toNatClampNeg (dq_h (v 0) (12 : Int32))) := zl_26_448 v
theorem zl_27_449 (v : Nat → Int32) : dp_len (dq_449 v) 27 = (Int32.toNatClampNeg ((dq_h (v 0) (12 : Int32)) * (16 : Int32))) := zl_27_448 v
theorem zl_33_449 (v : Nat → Int32) : dp_len (dq_449 v) 33 = (Int32.toNatClampNeg (dq_h (v 2) (20 : Int32))) := zl_33_448 v
theorem zl_34_449 (v : Nat → Int32) : dp_len (dq_449 v) 34 = (Int32.toNatClampNeg (dq_h (v 2) (20 : Int32))) := zl_34_448 v
theorem zl_35_449 (v : Nat → Int32) : dp_len (dq_449 v) 35 = (Int32.toNatClampNeg (dq_h (v 2) (20 : Int32))) := zl_35_448 v
theorem zl_36_449 (v : Nat → Int32) : dp_len (dq_449 v) 36 = (Int32.toNatClampNeg ((dq_h (v 2) (20 : Int32)) * (dq_h (v 3) (8 : Int32)))) := zl_36_448 v
theorem zi_450 (v : Nat → Int32) (k i : Nat) : dp_I (dq_450 v) k i = sF_13 v k i := sz_n (dqn_449 v) (zi_449 v) (fun _ => rfl) k i
theorem zj_450 (v : Nat → Int32) (k i : Nat) : dp_J (dq_450 v) k i = 0 := sz_nJ (zj_449 v) k i
theorem zr_450 (v : Nat → Int32) (i : Nat) : dp_R (dq_450 v) 59 i = none := sz_nR (zr_449 v) i
theorem zl_25_450 (v : Nat → Int32) : dp_len (dq_450 v) 25 = (Int32.toNatClampNeg (dq_h (v 0) (12 : Int32))) := sz_nL (dqn_449 v) (by decide) (zl_25_449 v)
theorem zl_26_450 (v : Nat → Int32) : dp_len (dq_450 v) 26 = (Int32.toNatClampNeg (dq_h (v 0) (12 : Int32))) := sz_nL (dqn_449 v) (by decide) (zl_26_449 v)
theorem zl_27_450 (v : Nat → Int32) : dp_len (dq_450 v) 27 = (Int32.toNatClampNeg ((dq_h (v 0) (12 : Int32)) * (16 : Int32))) := sz_nL (dqn_449 v) (by decide) (zl_27_449 v)
theorem zl_33_450 (v : Nat → Int32) : dp_len (dq_450 v) 33 = (Int32.toNatClampNeg (dq_h (v 2) (20 : Int32))) := sz_nL (dqn_449 v) (by decide) (zl_33_449 v)
theorem zl_34_450 (v : Nat → Int32) : dp_len (dq_450 v) 34 = (Int32.toNatClampNeg (dq_h (v 2) (20 : Int32))) := sz_nL (dqn_449 v) (by decide) (zl_34_449 v)
theorem zl_35_450 (v : Nat → Int32) : dp_len (dq_450 v) 35 = (Int32.toNatClampNeg (dq_h (v 2) (20 : Int32))) := sz_nL (dqn_449 v) (by decide) (zl_35_449 v)
theorem zl_36_450 (v : Nat → Int32) : dp_len (dq_450 v) 36 = (Int32.toNatClampNeg ((dq_h (v 2) (20 : Int32)) * (dq_h (v 3) (8 : Int32)))) := sz_nL (dqn_449 v) (by decide) (zl_36_449 v)
theorem zi_451 (v : Nat → Int32) (k i : Nat) : dp_I (dq_451 v) k i = sF_13 v k i := zi_450 v k i
theorem zj_451 (v : Nat → Int32) (k i : Nat) : dp_J (dq_451 v) k i = 0 := zj_450 v k i
theorem zr_451 (v : Nat → Int32) (i : Nat) : dp_R (dq_451 v) 59 i = none := sz_rR (by decide) (zr_450 v) i
theorem zl_25_451 (v : Nat → Int32) : dp_len (dq_451 v) 25 = (Int32.toNatClampNeg (dq_h (v 0) (12 : Int32))) := zl_25_450 v
theorem zl_26_451 (v : Nat → Int32) : dp_len (dq_451 v) 26 = (Int32.toNatClampNeg (dq_h (v 0) (12 : Int32))) := zl_26_450 v
theorem zl_27_451 (v : Nat → Int32) : dp_len (dq_451 v) 27 = (Int32.toNatClampNeg ((dq_h (v 0) (12 : Int32)) * (16 : Int32))) := zl_27_450 v
theorem zl_33_451 (v : Nat → Int32) : dp_len (dq_451 v) 33 = (Int32.toNatClampNeg (dq_h (v 2) (20 : Int32))) := zl_33_450 v
theorem zl_34_451 (v : Nat → Int32) : dp_len (dq_451 v) 34 = (Int32.toNatClampNeg (dq_h (v 2) (20 : Int32))) := zl_34_450 v
theorem zl_35_451 (v : Nat → Int32) : dp_len (dq_451 v) 35 = (Int32.toNatClampNeg (dq_h (v 2) (20 : Int32))) := zl_35_450 v
theorem zl_36_451 (v : Nat → Int32) : dp_len (dq_451 v) 36 = (Int32.toNatClampNeg ((dq_h (v 2) (20 : Int32)) * (dq_h (v 3) (8 : Int32)))) := zl_36_450 v
theorem zi_452 (v : Nat → Int32) (k i : Nat) : dp_I (dq_452 v) k i = sF_13 v k i := sz_n (dqn_451 v) (zi_451 v) (fun _ => rfl) k i
theorem zj_452 (v : Nat → Int32) (k i : Nat) : dp_J (dq_452 v) k i = 0 := sz_nJ (zj_451 v) k i
theorem zr_452 (v : Nat → Int32) (i : Nat) : dp_R (dq_452 v) 59 i = none := sz_nR (zr_451 v) i
theorem zl_25_452 (v : Nat → Int32) : dp_len (dq_452 v) 25 = (Int32.toNatClampNeg (dq_h (v 0) (12 : Int32))) := sz_nL (dqn_451 v) (by decide) (zl_25_451 v)
theorem zl_26_452 (v : Nat → Int32) : dp_len (dq_452 v) 26 = (Int32.toNatClampNeg (dq_h (v 0) (12 : Int32))) := sz_nL (dqn_451 v) (by decide) (zl_26_451 v)
theorem zl_27_452 (v : Nat → Int32) : dp_len (dq_452 v) 27 = (Int32.toNatClampNeg ((dq_h (v 0) (12 : Int32)) * (16 : Int32))) := sz_nL (dqn_451 v) (by decide) (zl_27_451 v)
theorem zl_33_452 (v : Nat → Int32) : dp_len (dq_452 v) 33 = (Int32.toNatClampNeg (dq_h (v 2) (20 : Int32))) := sz_nL (dqn_451 v) (by decide) (zl_33_451 v)
theorem zl_34_452 (v : Nat → Int32) : dp_len (dq_452 v) 34 = (Int32.toNatClampNeg (dq_h (v 2) (20 : Int32))) := sz_nL (dqn_451 v) (by decide) (zl_34_451 v)
theorem zl_35_452 (v : Nat → Int32) : dp_len (dq_452 v) 35 = (Int32.toNatClampNeg (dq_h (v 2) (20 : Int32))) := sz_nL (dqn_451 v) (by decide) (zl_35_451 v)
theorem zl_36_452 (v : Nat → Int32) : dp_len (dq_452 v) 36 = (Int32.toNatClampNeg ((dq_h (v 2) (20 : Int32)) * (dq_h (v 3) (8 : Int32)))) := sz_nL (dqn_451 v) (by decide) (zl_36_451 v)
theorem zi_453 (v : Nat → Int32) (k i : Nat) : dp_I (dq_453 v) k i = sF_13 v k i := zi_452 v k i
theorem zj_453 (v : Nat → Int32) (k i : Nat) : dp_J (dq_453 v) k i = 0 := zj_452 v k i
theorem zr_453 (v : Nat → Int32) (i : Nat) : dp_R (dq_453 v) 59 i = none := sz_rR (by decide) (zr_452 v) i
theorem zl_25_453 (v : Nat → Int32) : dp_len (dq_453 v) 25 = (Int32.toNatClampNeg (dq_h (v 0) (12 : Int32))) := zl_25_452 v
theorem zl_26_453 (v : Nat → Int32) : dp_len (dq_453 v) 26 = (Int32.toNatClampNeg (dq_h (v 0) (12 : Int32))) := zl_26_452 v
theorem zl_27_453 (v : Nat → Int32) : dp_len (dq_453 v) 27 = (Int32.toNatClampNeg ((dq_h (v 0) (12 : Int32)) * (16 : Int32))) := zl_27_452 v
theorem zl_33_453 (v : Nat → Int32) : dp_len (dq_453 v) 33 = (Int32.toNatClampNeg (dq_h (v 2) (20 : Int32))) := zl_33_452 v
theorem zl_34_453 (v : Nat → Int32) : dp_len (dq_453 v) 34 = (Int32.toNatClampNeg (dq_h (v 2) (20 : Int32))) := zl_34_452 v
theorem zl_35_453 (v : Nat → Int32) : dp_len (dq_453 v) 35 = (Int32.toNatClampNeg (dq_h (v 2) (20 : Int32))) := zl_35_452 v
theorem zl_36_453 (v : Nat → Int32) : dp_len (dq_453 v) 36 = (Int32.toNatClampNeg ((dq_h (v 2) (20 : Int32)) * (dq_h (v 3) (8 : Int32)))) := zl_36_452 v
theorem zi_454 (v : Nat → Int32) (k i : Nat) : dp_I (dq_454 v) k i = sF_13 v k i := sz_n (dqn_453 v) (zi_453 v) (fun _ => rfl) k i
theorem zj_454 (v : Nat → Int32) (k i : Nat) : dp_J (dq_454 v) k i = 0 := sz_nJ (zj_453 v) k i
theorem zr_454 (v : Nat → Int32) (i : Nat) : dp_R (dq_454 v) 59 i = none := sz_nR (zr_453 v) i
theorem zl_25_454 (v : Nat → Int32) : dp_len (dq_454 v) 25 = (Int32.toNatClampNeg (dq_h (v 0) (12 : Int32))) := sz_nL (dqn_453 v) (by decide) (zl_25_453 v)
theorem zl_26_454 (v : Nat → Int32) : dp_len (dq_454 v) 26 = (Int32.toNatClampNeg (dq_h (v 0) (12 : Int32))) := sz_nL (dqn_453 v) (by decide) (zl_26_453 v)
theorem zl_27_454 (v : Nat → Int32) : dp_len (dq_454 v) 27 = (Int32.toNatClampNeg ((dq_h (v 0) (12 : Int32)) * (16 : Int32))) := sz_nL (dqn_453 v) (by decide) (zl_27_453 v)
theorem zl_33_454 (v : Nat → Int32) : dp_len (dq_454 v) 33 = (Int32.toNatClampNeg (dq_h (v 2) (20 : Int32))) := sz_nL (dqn_453 v) (by decide) (zl_33_453 v)
theorem zl_34_454 (v : Nat → Int32) : dp_len (dq_454 v) 34 = (Int32.toNatClampNeg (dq_h (v 2) (20 : Int32))) := sz_nL (dqn_453 v) (by decide) (zl_34_453 v)
theorem zl_35_454 (v : Nat → Int32) : dp_len (dq_454 v) 35 = (Int32.toNatClampNeg (dq_h (v 2) (20 : Int32))) := sz_nL (dqn_453 v) (by decide) (zl_35_453 v)
theorem zl_36_454 (v : Nat → Int32) : dp_len (dq_454 v) 36 = (Int32.toNatClampNeg ((dq_h (v 2) (20 : Int32)) * (dq_h (v 3) (8 : Int32)))) := sz_nL (dqn_453 v) (by decide) (zl_36_453 v)
theorem zi_455 (v : Nat → Int32) (k i : Nat) : dp_I (dq_455 v) k i = sF_13 v k i := zi_454 v k i
theorem zj_455 (v : Nat → Int32) (k i : Nat) : dp_J (dq_455 v) k i = 0 := zj_454 v k i
theorem zr_455 (v : Nat → Int32) (i : Nat) : dp_R (dq_455 v) 59 i = none := sz_rR (by decide) (zr_454 v) i
theorem zl_25_455 (v : Nat → Int32) : dp_len (dq_455 v) 25 = (Int32.toNatClampNeg (dq_h (v 0) (12 : Int32))) := zl_25_454 v
theorem zl_26_455 (v : Nat → Int32) : dp_len (dq_455 v) 26 = (Int32.toNatClampNeg (dq_h (v 0) (12 : Int32))) := zl_26_454 v
theorem zl_27_455 (v : Nat → Int32) : dp_len (dq_455 v) 27 = (Int32.toNatClampNeg ((dq_h (v 0) (12 : Int32)) * (16 : Int32))) := zl_27_454 v
theorem zl_33_455 (v : Nat → Int32) : dp_len (dq_455 v) 33 = (Int32.toNatClampNeg (dq_h (v 2) (20 : Int32))) := zl_33_454 v
theorem zl_34_455 (v : Nat → Int32) : dp_len (dq_455 v) 34 = (Int32.toNatClampNeg (dq_h (v 2) (20 : Int32))) := zl_34_454 v
theorem zl_35_455 (v : Nat → Int32) : dp_len (dq_455 v) 35 = (Int32.toNatClampNeg (dq_h (v 2) (20 : Int32))) := zl_35_454 v
theorem zl_36_455 (v : Nat → Int32) : dp_len (dq_455 v) 36 = (Int32.toNatClampNeg ((dq_h (v 2) (20 : Int32)) * (dq_h (v 3) (8 : Int32)))) := zl_36_454 v
theorem zi_456 (v : Nat → Int32) (k i : Nat) : dp_I (dq_456 v) k i = sF_13 v k i := sz_n (dqn_455 v) (zi_455 v) (fun _ => rfl) k i
theorem zj_456 (v : Nat → Int32) (k i : Nat) : dp_J (dq_456 v) k i = 0 := sz_nJ (zj_455 v) k i
theorem zr_456 (v : Nat → Int32) (i : Nat) : dp_R (dq_456 v) 59 i = none := sz_nR (zr_455 v) i
theorem zl_25_456 (v : Nat → Int32) : dp_len (dq_456 v) 25 = (Int32.toNatClampNeg (dq_h (v 0) (12 : Int32))) := sz_nL (dqn_455 v) (by decide) (zl_25_455 v)
theorem zl_26_456 (v : Nat → Int32) : dp_len (dq_456 v) 26 = (Int32.toNatClampNeg (dq_h (v 0) (12 : Int32))) := sz_nL (dqn_455 v) (by decide) (zl_26_455 v)
theorem zl_27_456 (v : Nat → Int32) : dp_len (dq_456 v) 27 = (Int32.toNatClampNeg ((dq_h (v 0) (12 : Int32)) * (16 : Int32))) := sz_nL (dqn_455 v) (by decide) (zl_27_455 v)
theorem zl_33_456 (v : Nat → Int32) : dp_len (dq_456 v) 33 = (Int32.toNatClampNeg (dq_h (v 2) (20 : Int32))) := sz_nL (dqn_455 v) (by decide) (zl_33_455 v)
theorem zl_34_456 (v : Nat → Int32) : dp_len (dq_456 v) 34 = (Int32.toNatClampNeg (dq_h (v 2) (20 : Int32))) := sz_nL (dqn_455 v) (by decide) (zl_34_455 v)
theorem zl_35_456 (v : Nat → Int32) : dp_len (dq_456 v) 35 = (Int32.toNatClampNeg (dq_h (v 2) (20 : Int32))) := sz_nL (dqn_455 v) (by decide) (zl_35_455 v)
theorem zl_36_456 (v : Nat → Int32) : dp_len (dq_456 v) 36 = (Int32.toNatClampNeg ((dq_h (v 2) (20 : Int32)) * (dq_h (v 3) (8 : Int32)))) := sz_nL (dqn_455 v) (by decide) (zl_36_455 v)
theorem zi_457 (v : Nat → Int32) (k i : Nat) : dp_I (dq_457 v) k i = sF_13 v k i := zi_456 v k i
theorem zj_457 (v : Nat → Int32) (k i : Nat) : dp_J (dq_457 v) k i = 0 := zj_456 v k i
theorem zr_457 (v : Nat → Int32) (i : Nat) : dp_R (dq_457 v) 59 i = none := sz_rR (by decide) (zr_456 v) i
theorem zl_25_457 (v : Nat → Int32) : dp_len (dq_457 v) 25 = (Int32.toNatClampNeg (dq_h (v 0) (12 : Int32))) := zl_25_456 v
theorem zl_26_457 (v : Nat → Int32) : dp_len (dq_457 v) 26 = (Int32.toNatClampNeg (dq_h (v 0) (12 : Int32))) := zl_26_456 v
theorem zl_27_457 (v : Nat → Int32) : dp_len (dq_457 v) 27 = (Int32.toNatClampNeg ((dq_h (v 0) (12 : Int32)) * (16 : Int32))) := zl_27_456 v
theorem zl_33_457 (v : Nat → Int32) : dp_len (dq_457 v) 33 = (Int32.toNatClampNeg (dq_h (v 2) (20 : Int32))) := zl_33_456 v
theorem zl_34_457 (v : Nat → Int32) : dp_len (dq_457 v) 34 = (Int32.toNatClampNeg (dq_h (v 2) (20 : Int32))) := zl_34_456 v
theorem zl_35_457 (v : Nat → Int32) : dp_len (dq_457 v) 35 = (Int32.toNatClampNeg (dq_h (v 2) (20 : Int32))) := zl_35_456 v
theorem zl_36_457 (v : Nat → Int32) : dp_len (dq_457 v) 36 = (Int32.toNatClampNeg ((dq_h (v 2) (20 : Int32)) * (dq_h (v 3) (8 : Int32)))) := zl_36_456 v
theorem zi_458 (v : Nat → Int32) (k i : Nat) : dp_I (dq_458 v) k i = sF_13 v k i := sz_n (dqn_457 v) (zi_457 v) (fun _ => rfl) k i
theorem zj_458 (v : Nat → Int32) (k i : Nat) : dp_J (dq_458 v) k i = 0 := sz_nJ (zj_457 v) k i
theorem zr_458 (v : Nat → Int32) (i : Nat) : dp_R (dq_458 v) 59 i = none := sz_nR (zr_457 v) i
theorem zl_25_458 (v : Nat → Int32) : dp_len (dq_458 v) 25 = (Int32.toNatClampNeg (dq_h (v 0) (12 : Int32))) := sz_nL (dqn_457 v) (by decide) (zl_25_457 v)
theorem zl_26_458 (v : Nat → Int32) : dp_len (dq_458 v) 26 = (Int32.toNatClampNeg (dq_h (v 0) (12 : Int32))) := sz_nL (dqn_457 v) (by decide) (zl_26_457 v)
theorem zl_27_458 (v : Nat → Int32) : dp_len (dq_458 v) 27 = (Int32.toNatClampNeg ((dq_h (v 0) (12 : Int32)) * (16 : Int32))) := sz_nL (dqn_457 v) (by decide) (zl_27_457 v)
theorem zl_33_458 (v : Nat → Int32) : dp_len (dq_458 v) 33 = (Int32.toNatClampNeg (dq_h (v 2) (20 : Int32))) := sz_nL (dqn_457 v) (by decide) (zl_33_457 v)
theorem zl_34_458 (v : Nat → Int32) : dp_len (dq_458 v) 34 = (Int32.toNatClampNeg (dq_h (v 2) (20 : Int32))) := sz_nL (dqn_457 v) (by decide) (zl_34_457 v)
theorem zl_35_458 (v : Nat → Int32) : dp_len (dq_458 v) 35 = (Int32.toNatClampNeg (dq_h (v 2) (20 : Int32))) := sz_nL (dqn_457 v) (by decide) (zl_35_457 v)
theorem zl_36_458 (v : Nat → Int32) : dp_len (dq_458 v) 36 = (Int32.toNatClampNeg ((dq_h (v 2) (20 : Int32)) * (dq_h (v 3) (8 : Int32)))) := sz_nL (dqn_457 v) (by decide) (zl_36_457 v)
theorem zi_459 (v : Nat → Int32) (k i : Nat) : dp_I (dq_459 v) k i = sF_13 v k i := zi_458 v k i
theorem zj_459 (v : Nat → Int32) (k i : Nat) : dp_J (dq_459 v) k i = 0 := zj_458 v k i
theorem zr_459 (v : Nat → Int32) (i : Nat) : dp_R (dq_459 v) 59 i = none := sz_rR (by decide) (zr_458 v) i
theorem zl_25_459 (v : Nat → Int32) : dp_len (dq_459 v) 25 = (Int32.toNatClampNeg (dq_h (v 0) (12 : Int32))) := zl_25_458 v
theorem zl_26_459 (v : Nat → Int32) : dp_len (dq_459 v) 26 = (Int32.toNatClampNeg (dq_h (v 0) (12 : Int32))) := zl_26_458 v
theorem zl_27_459 (v : Nat → Int32) : dp_len (dq_459 v) 27 = (Int32.toNatClampNeg ((dq_h (v 0) (12 : Int32)) * (16 : Int32))) := zl_27_458 v
theorem zl_33_459 (v : Nat → Int32) : dp_len (dq_459 v) 33 = (Int32.toNatClampNeg (dq_h (v 2) (20 : Int32))) := zl_33_458 v
theorem zl_34_459 (v : Nat → Int32) : dp_len (dq_459 v) 34 = (Int32.toNatClampNeg (dq_h (v 2) (20 : Int32))) := zl_34_458 v
theorem zl_35_459 (v : Nat → Int32) : dp_len (dq_459 v) 35 = (Int32.toNatClampNeg (dq_h (v 2) (20 : Int32))) := zl_35_458 v
theorem zl_36_459 (v : Nat → Int32) : dp_len (dq_459 v) 36 = (Int32.toNatClampNeg ((dq_h (v 2) (20 : Int32)) * (dq_h (v 3) (8 : Int32)))) := zl_36_458 v
theorem zi_460 (v : Nat → Int32) (k i : Nat) : dp_I (dq_460 v) k i = sF_13 v k i := sz_n (dqn_459 v) (zi_459 v) (fun _ => rfl) k i
theorem zj_460 (v : Nat → Int32) (k i : Nat) : dp_J (dq_460 v) k i = 0 := sz_nJ (zj_459 v) k i
theorem zr_460 (v : Nat → Int32) (i : Nat) : dp_R (dq_460 v) 59 i = none := sz_nR (zr_459 v) i
theorem zl_25_460 (v : Nat → Int32) : dp_len (dq_460 v) 25 = (Int32.toNatClampNeg (dq_h (v 0) (12 : Int32))) := sz_nL (dqn_459 v) (by decide) (zl_25_459 v)
theorem zl_26_460 (v : Nat → Int32) : dp_len (dq_460 v) 26 = (Int32.toNatClampNeg (dq_h (v 0) (12 : Int32))) := sz_nL (dqn_459 v) (by decide) (zl_26_459 v)
theorem zl_27_460 (v : Nat → Int32) : dp_len (dq_460 v) 27 = (Int32.toNatClampNeg ((dq_h (v 0) (12 : Int32)) * (16 : Int32))) := sz_nL (dqn_459 v) (by decide) (zl_27_459 v)
theorem zl_33_460 (v : Nat → Int32) : dp_len (dq_460 v) 33 = (Int32.toNatClampNeg (dq_h (v 2) (20 : Int32))) := sz_nL (dqn_459 v) (by decide) (zl_33_459 v)
theorem zl_34_460 (v : Nat → Int32) : dp_len (dq_460 v) 34 = (Int32.toNatClampNeg (dq_h (v 2) (20 : Int32))) := sz_nL (dqn_459 v) (by decide) (zl_34_459 v)
theorem zl_35_460 (v : Nat → Int32) : dp_len (dq_460 v) 35 = (Int32.toNatClampNeg (dq_h (v 2) (20 : Int32))) := sz_nL (dqn_459 v) (by decide) (zl_35_459 v)
theorem zl_36_460 (v : Nat → Int32) : dp_len (dq_460 v) 36 = (Int32.toNatClampNeg ((dq_h (v 2) (20 : Int32)) * (dq_h (v 3) (8 : Int32)))) := sz_nL (dqn_459 v) (by decide) (zl_36_459 v)
theorem zi_461 (v : Nat → Int32) (k i : Nat) : dp_I (dq_461 v) k i = sF_13 v k i := zi_460 v k i
theorem zj_461 (v : Nat → Int32) (k i : Nat) : dp_J (dq_461 v) k i = 0 := zj_460 v k i
theorem zr_461 (v : Nat → Int32) (i : Nat) : dp_R (dq_461 v) 59 i = none := sz_rR (by decide) (zr_460 v) i
theorem zl_25_461 (v : Nat → Int32) : dp_len (dq_461 v) 25 = (Int32.toNatClampNeg (dq_h (v 0) (12 : Int32))) := zl_25_460 v
theorem zl_26_461 (v : Nat → Int32) : dp_len (dq_461 v) 26 = (Int32.toNatClampNeg (dq_h (v 0) (12 : Int32))) := zl_26_460 v
theorem zl_27_461 (v : Nat → Int32) : dp_len (dq_461 v) 27 = (Int32.toNatClampNeg ((dq_h (v 0) (12 : Int32)) * (16 : Int32))) := zl_27_460 v
theorem zl_33_461 (v : Nat → Int32) : dp_len (dq_461 v) 33 = (Int32.toNatClampNeg (dq_h (v 2) (20 : Int32))) := zl_33_460 v
theorem zl_34_461 (v : Nat → Int32) : dp_len (dq_461 v) 34 = (Int32.toNatClampNeg (dq_h (v 2) (20 : Int32))) := zl_34_460 v
theorem zl_35_461 (v : Nat → Int32) : dp_len (dq_461 v) 35 = (Int32.toNatClampNeg (dq_h (v 2) (20 : Int32))) := zl_35_460 v
theorem zl_36_461 (v : Nat → Int32) : dp_len (dq_461 v) 36 = (Int32.toNatClampNeg ((dq_h (v 2) (20 : Int32)) * (dq_h (v 3) (8 : Int32)))) := zl_36_460 v
def sF_14 (v : Nat → Int32) (k i : Nat) : Int32 := if k = 114 ∧ i = 143 then (-1 : Int32) else sF_13 v k i
theorem zi_462 (v : Nat → Int32) (k i : Nat) : dp_I (dq_462 v) k i = sF_14 v k i := sz_i (zi_461 v) k i
theorem zj_462 (v : Nat → Int32) (k i : Nat) : dp_J (dq_462 v) k i = 0 := zj_461 v k i
theorem zr_462 (v : Nat → Int32) (i : Nat) : dp_R (dq_462 v) 59 i = none := zr_461 v i
theorem zl_25_462 (v : Nat → Int32) : dp_len (dq_462 v) 25 = (Int32.toNatClampNeg (dq_h (v 0) (12 : Int32))) := zl_25_461 v
theorem zl_26_462 (v : Nat → Int32) : dp_len (dq_462 v) 26 = (Int32.toNatClampNeg (dq_h (v 0) (12 : Int32))) := zl_26_461 v
theorem zl_27_462 (v : Nat → Int32) : dp_len (dq_462 v) 27 = (Int32.toNatClampNeg ((dq_h (v 0) (12 : Int32)) * (16 : Int32))) := zl_27_461 v
theorem zl_33_462 (v : Nat → Int32) : dp_len (dq_462 v) 33 = (Int32.toNatClampNeg (dq_h (v 2) (20 : Int32))) := zl_33_461 v
theorem zl_34_462 (v : Nat → Int32) : dp_len (dq_462 v) 34 = (Int32.toNatClampNeg (dq_h (v 2) (20 : Int32))) := zl_34_461 v
theorem zl_35_462 (v : Nat → Int32) : dp_len (dq_462 v) 35 = (Int32.toNatClampNeg (dq_h (v 2) (20 : Int32))) := zl_35_461 v
theorem zl_36_462 (v : Nat → Int32) : dp_len (dq_462 v) 36 = (Int32.toNatClampNeg ((dq_h (v 2) (20 : Int32)) * (dq_h (v 3) (8 : Int32)))) := zl_36_461 v
def sF_15 (v : Nat → Int32) (k i : Nat) : Int32 := if k = 114 ∧ i = 144 then (-1 : Int32) else sF_14 v k i
theorem zi_463 (v : Nat → Int32) (k i : Nat) : dp_I (dq_463 v) k i = sF_15 v k i := sz_i (zi_462 v) k i
theorem zj_463 (v : Nat → Int32) (k i : Nat) : dp_J (dq_463 v) k i = 0 := zj_462 v k i
theorem zr_463 (v : Nat → Int32) (i : Nat) : dp_R (dq_463 v) 59 i = none := zr_462 v i
theorem zl_25_463 (v : Nat → Int32) : dp_len (dq_463 v) 25 = (Int32.toNatClampNeg (dq_h (v 0) (12 : Int32))) := zl_25_462 v
theorem zl_26_463 (v : Nat → Int32) : dp_len (dq_463 v) 26 = (Int32.toNatClampNeg (dq_h (v 0) (12 : Int32))) := zl_26_462 v
theorem zl_27_463 (v : Nat → Int32) : dp_len (dq_463 v) 27 = (Int32.toNatClampNeg ((dq_h (v 0) (12 : Int32)) * (16 : Int32))) := zl_27_462 v
theorem zl_33_463 (v : Nat → Int32) : dp_len (dq_463 v) 33 = (Int32.toNatClampNeg (dq_h (v 2) (20 : Int32))) := zl_33_462 v
theorem zl_34_463 (v : Nat → Int32) : dp_len (dq_463 v) 34 = (Int32.toNatClampNeg (dq_h (v 2) (20 : Int32))) := zl_34_462 v
theorem zl_35_463 (v : Nat → Int32) : dp_len (dq_463 v) 35 = (Int32.toNatClampNeg (dq_h (v 2) (20 : Int32))) := zl_35_462 v
theorem zl_36_463 (v : Nat → Int32) : dp_len (dq_463 v) 36 = (Int32.toNatClampNeg ((dq_h (v 2) (20 : Int32)) * (dq_h (v 3) (8 : Int32)))) := zl_36_462 v
def sF_16 (v : Nat → Int32) (k i : Nat) : Int32 := if k = 114 ∧ i = 146 then (-1 : Int32) else sF_15 v k i
theorem zi_464 (v : Nat → Int32) (k i : Nat) : dp_I (dq_464 v) k i = sF_16 v k i := sz_i (zi_463 v) k i
theorem zj_464 (v : Nat → Int32) (k i : Nat) : dp_J (dq_464 v) k i = 0 := zj_463 v k i
theorem zr_464 (v : Nat → Int32) (i : Nat) : dp_R (dq_464 v) 59 i = none := zr_463 v i
theorem zl_25_464 (v : Nat → Int32) : dp_len (dq_464 v) 25 = (Int32.toNatClampNeg (dq_h (v 0) (12 : Int32))) := zl_25_463 v
theorem zl_26_464 (v : Nat → Int32) : dp_len (dq_464 v) 26 = (Int32.toNatClampNeg (dq_h (v 0) (12 : Int32))) := zl_26_463 v
theorem zl_27_464 (v : Nat → Int32) : dp_len (dq_464 v) 27 = (Int32.toNatClampNeg ((dq_h (v 0) (12 : Int32)) * (16 : Int32))) := zl_27_463 v
theorem zl_33_464 (v : Nat → Int32) : dp_len (dq_464 v) 33 = (Int32.toNatClampNeg (dq_h (v 2) (20 : Int32))) := zl_33_463 v
theorem zl_34_464 (v : Nat → Int32) : dp_len (dq_464 v) 34 = (Int32.toNatClampNeg (dq_h (v 2) (20 : Int32))) := zl_34_463 v
theorem zl_35_464 (v : Nat → Int32) : dp_len (dq_464 v) 35 = (Int32.toNatClampNeg (dq_h (v 2) (20 : Int32))) := zl_35_463 v
theorem zl_36_464 (v : Nat → Int32) : dp_len (dq_464 v) 36 = (Int32.toNatClampNeg ((dq_h (v 2) (20 : Int32)) * (dq_h (v 3) (8 : Int32)))) := zl_36_463 v
theorem zi_465 (v : Nat → Int32) (k i : Nat) : dp_I (dq_465 v) k i = sF_16 v k i := sz_n (dqn_464 v) (zi_464 v) (fun _ => rfl) k i
theorem zj_465 (v : Nat → Int32) (k i : Nat) : dp_J (dq_465 v) k i = 0 := sz_nJ (zj_464 v) k i
theorem zr_465 (v : Nat → Int32) (i : Nat) : dp_R (dq_465 v) 59 i = none := sz_nR (zr_464 v) i
theorem zl_25_465 (v : Nat → Int32) : dp_len (dq_465 v) 25 = (Int32.toNatClampNeg (dq_h (v 0) (12 : Int32))) := sz_nL (dqn_464 v) (by decide) (zl_25_464 v)
theorem zl_26_465 (v : Nat → Int32) : dp_len (dq_465 v) 26 = (Int32.toNatClampNeg (dq_h (v 0) (12 : Int32))) := sz_nL (dqn_464 v) (by decide) (zl_26_464 v)
theorem zl_27_465 (v : Nat → Int32) : dp_len (dq_465 v) 27 = (Int32.toNatClampNeg ((dq_h (v 0) (12 : Int32)) * (16 : Int32))) := sz_nL (dqn_464 v) (by decide) (zl_27_464 v)
theorem zl_33_465 (v : Nat → Int32) : dp_len (dq_465 v) 33 = (Int32.toNatClampNeg (dq_h (v 2) (20 : Int32))) := sz_nL (dqn_464 v) (by decide) (zl_33_464 v)
theorem zl_34_465 (v : Nat → Int32) : dp_len (dq_465 v) 34 = (Int32.toNatClampNeg (dq_h (v 2) (20 : Int32))) := sz_nL (dqn_464 v) (by decide) (zl_34_464 v)
theorem zl_35_465 (v : Nat → Int32) : dp_len (dq_465 v) 35 = (Int32.toNatClampNeg (dq_h (v 2) (20 : Int32))) := sz_nL (dqn_464 v) (by decide) (zl_35_464 v)
theorem zl_36_465 (v : Nat → Int32) : dp_len (dq_465 v) 36 = (Int32.toNatClampNeg ((dq_h (v 2) (20 : Int32)) * (dq_h (v 3) (8 : Int32)))) := sz_nL (dqn_464 v) (by decide) (zl_36_464 v)
theorem zi_466 (v : Nat → Int32) (k i : Nat) : dp_I (dq_466 v) k i = sF_16 v k i := zi_465 v k i
theorem zj_466 (v : Nat → Int32) (k i : Nat) : dp_J (dq_466 v) k i = 0 := zj_465 v k i
theorem zr_466 (v : Nat → Int32) (i : Nat) : dp_R (dq_466 v) 59 i = none := sz_rR (by decide) (zr_465 v) i
theorem zl_25_466 (v : Nat → Int32) : dp_len (dq_466 v) 25 = (Int32.toNatClampNeg (dq_h (v 0) (12 : Int32))) := zl_25_465 v
theorem zl_26_466 (v : Nat → Int32) : dp_len (dq_466 v) 26 = (Int32.toNatClampNeg (dq_h (v 0) (12 : Int32))) := zl_26_465 v
theorem zl_27_466 (v : Nat → Int32) : dp_len (dq_466 v) 27 = (Int32.toNatClampNeg ((dq_h (v 0) (12 : Int32)) * (16 : Int32))) := zl_27_465 v
theorem zl_33_466 (v : Nat → Int32) : dp_len (dq_466 v) 33 = (Int32.toNatClampNeg (dq_h (v 2) (20 : Int32))) := zl_33_465 v
theorem zl_34_466 (v : Nat → Int32) : dp_len (dq_466 v) 34 = (Int32.toNatClampNeg (dq_h (v 2) (20 : Int32))) := zl_34_465 v
theorem zl_35_466 (v : Nat → Int32) : dp_len (dq_466 v) 35 = (Int32.toNatClampNeg (dq_h (v 2) (20 : Int32))) := zl_35_465 v
theorem zl_36_466 (v : Nat → Int32) : dp_len (dq_466 v) 36 = (Int32.toNatClampNeg ((dq_h (v 2) (20 : Int32)) * (dq_h (v 3) (8 : Int32)))) := zl_36_465 v
theorem zi_467 (v : Nat → Int32) (k i : Nat) : dp_I (dq_467 v) k i = sF_16 v k i := sz_n (dqn_466 v) (zi_466 v) (fun _ => rfl) k i
theorem zj_467 (v : Nat → Int32) (k i : Nat) : dp_J (dq_467 v) k i = 0 := sz_nJ (zj_466 v) k i
theorem zr_467 (v : Nat → Int32) (i : Nat) : dp_R (dq_467 v) 59 i = none := sz_nR (zr_466 v) i
theorem zl_25_467 (v : Nat → Int32) : dp_len (dq_467 v) 25 = (Int32.toNatClampNeg (dq_h (v 0) (12 : Int32))) := sz_nL (dqn_466 v) (by decide) (zl_25_466 v)
theorem zl_26_467 (v : Nat → Int32) : dp_len (dq_467 v) 26 = (Int32.toNatClampNeg (dq_h (v 0) (12 : Int32))) := sz_nL (dqn_466 v) (by decide) (zl_26_466 v)
theorem zl_27_467 (v : Nat → Int32) : dp_len (dq_467 v) 27 = (Int32.toNatClampNeg ((dq_h (v 0) (12 : Int32)) * (16 : Int32))) := sz_nL (dqn_466 v) (by decide) (zl_27_466 v)
theorem zl_33_467 (v : Nat → Int32) : dp_len (dq_467 v) 33 = (Int32.toNatClampNeg (dq_h (v 2) (20 : Int32))) := sz_nL (dqn_466 v) (by decide) (zl_33_466 v)
theorem zl_34_467 (v : Nat → Int32) : dp_len (dq_467 v) 34 = (Int32.toNatClampNeg (dq_h (v 2) (20 : Int32))) := sz_nL (dqn_466 v) (by decide) (zl_34_466 v)
theorem zl_35_467 (v : Nat → Int32) : dp_len (dq_467 v) 35 = (Int32.toNatClampNeg (dq_h (v 2) (20 : Int32))) := sz_nL (dqn_466 v) (by decide) (zl_35_466 v)
theorem zl_36_467 (v : Nat → Int32) : dp_len (dq_467 v) 36 = (Int32.toNatClampNeg ((dq_h (v 2) (20 : Int32)) * (dq_h (v 3) (8 : Int32)))) := sz_nL (dqn_466 v) (by decide) (zl_36_466 v)
theorem zi_468 (v : Nat → Int32) (k i : Nat) : dp_I (dq_468 v) k i = sF_16 v k i := zi_467 v k i
theorem zj_468 (v : Nat → Int32) (k i : Nat) : dp_J (dq_468 v) k i = 0 := zj_467 v k i
theorem zr_468 (v : Nat → Int32) (i : Nat) : dp_R (dq_468 v) 59 i = none := sz_rR (by decide) (zr_467 v) i
theorem zl_25_468 (v : Nat → Int32) : dp_len (dq_468 v) 25 = (Int32.toNatClampNeg (dq_h (v 0) (12 : Int32))) := zl_25_467 v
theorem zl_26_468 (v : Nat → Int32) : dp_len (dq_468 v) 26 = (Int32.toNatClampNeg (dq_h (v 0) (12 : Int32))) := zl_26_467 v
theorem zl_27_468 (v : Nat → Int32) : dp_len (dq_468 v) 27 = (Int32.toNatClampNeg ((dq_h (v 0) (12 : Int32)) * (16 : Int32))) := zl_27_467 v
theorem zl_33_468 (v : Nat → Int32) : dp_len (dq_468 v) 33 = (Int32.toNatClampNeg (dq_h (v 2) (20 : Int32))) := zl_33_467 v
theorem zl_34_468 (v : Nat → Int32) : dp_len (dq_468 v) 34 = (Int32.toNatClampNeg (dq_h (v 2) (20 : Int32))) := zl_34_467 v
theorem zl_35_468 (v : Nat → Int32) : dp_len (dq_468 v) 35 = (Int32.toNatClampNeg (dq_h (v 2) (20 : Int32))) := zl_35_467 v
theorem zl_36_468 (v : Nat → Int32) : dp_len (dq_468 v) 36 = (Int32.toNatClampNeg ((dq_h (v 2) (20 : Int32)) * (dq_h (v 3) (8 : Int32)))) := zl_36_467 v
theorem zi_469 (v : Nat → Int32) (k i : Nat) : dp_I (dq_469 v) k i = sF_16 v k i := sz_n (dqn_468 v) (zi_468 v) (fun _ => rfl) k i
theorem zj_469 (v : Nat → Int32) (k i : Nat) : dp_J (dq_469 v) k i = 0 := sz_nJ (zj_468 v) k i
theorem zr_469 (v : Nat → Int32) (i : Nat) : dp_R (dq_469 v) 59 i = none := sz_nR (zr_468 v) i
theorem zl_25_469 (v : Nat → Int32) : dp_len (dq_469 v) 25 = (Int32.toNatClampNeg (dq_h (v 0) (12 : Int32))) := sz_nL (dqn_468 v) (by decide) (zl_25_468 v)
theorem zl_26_469 (v : Nat → Int32) : dp_len (dq_469 v) 26 = (Int32.toNatClampNeg (dq_h (v 0) (12 : Int32))) := sz_nL (dqn_468 v) (by decide) (zl_26_468 v)
theorem zl_27_469 (v : Nat → Int32) : dp_len (dq_469 v) 27 = (Int32.toNatClampNeg ((dq_h (v 0) (12 : Int32)) * (16 : Int32))) := sz_nL (dqn_468 v) (by decide) (zl_27_468 v)
theorem zl_33_469 (v : Nat → Int32) : dp_len (dq_469 v) 33 = (Int32.toNatClampNeg (dq_h (v 2) (20 : Int32))) := sz_nL (dqn_468 v) (by decide) (zl_33_468 v)
theorem zl_34_469 (v : Nat → Int32) : dp_len (dq_469 v) 34 = (Int32.toNatClampNeg (dq_h (v 2) (20 : Int32))) := sz_nL (dqn_468 v) (by decide) (zl_34_468 v)
theorem zl_35_469 (v : Nat → Int32) : dp_len (dq_469 v) 35 = (Int32.toNatClampNeg (dq_h (v 2) (20 : Int32))) := sz_nL (dqn_468 v) (by decide) (zl_35_468 v)
theorem zl_36_469 (v : Nat → Int32) : dp_len (dq_469 v) 36 = (Int32.toNatClampNeg ((dq_h (v 2) (20 : Int32)) * (dq_h (v 3) (8 : Int32)))) := sz_nL (dqn_468 v) (by decide) (zl_36_468 v)
theorem zi_470 (v : Nat → Int32) (k i : Nat) : dp_I (dq_470 v) k i = sF_16 v k i := zi_469 v k i
theorem zj_470 (v : Nat → Int32) (k i : Nat) : dp_J (dq_470 v) k i = 0 := zj_469 v k i
theorem zr_470 (v : Nat → Int32) (i : Nat) : dp_R (dq_470 v) 59 i = none := sz_rR (by decide) (zr_469 v) i
theorem zl_25_470 (v : Nat → Int32) : dp_len (dq_470 v) 25 = (Int32.toNatClampNeg (dq_h (v 0) (12 : Int32))) := zl_25_469 v
theorem zl_26_470 (v : Nat → Int32) : dp_len (dq_470 v) 26 = (Int32.toNatClampNeg (dq_h (v 0) (12 : Int32))) := zl_26_469 v
theorem zl_27_470 (v : Nat → Int32) : dp_len (dq_470 v) 27 = (Int32.toNatClampNeg ((dq_h (v 0) (12 : Int32)) * (16 : Int32))) := zl_27_469 v
theorem zl_33_470 (v : Nat → Int32) : dp_len (dq_470 v) 33 = (Int32.toNatClampNeg (dq_h (v 2) (20 : Int32))) := zl_33_469 v
theorem zl_34_470 (v : Nat → Int32) : dp_len (dq_470 v) 34 = (Int32.toNatClampNeg (dq_h (v 2) (20 : Int32))) := zl_34_469 v
theorem zl_35_470 (v : Nat → Int32) : dp_len (dq_470 v) 35 = (Int32.toNatClampNeg (dq_h (v 2) (20 : Int32))) := zl_35_469 v
theorem zl_36_470 (v : Nat → Int32) : dp_len (dq_470 v) 36 = (Int32.toNatClampNeg ((dq_h (v 2) (20 : Int32)) * (dq_h (v 3) (8 : Int32)))) := zl_36_469 v
theorem zi_471 (v : Nat → Int32) (k i : Nat) : dp_I (dq_471 v) k i = sF_16 v k i := sz_n (dqn_470 v) (zi_470 v) (fun _ => rfl) k i
theorem zj_471 (v : Nat → Int32) (k i : Nat) : dp_J (dq_471 v) k i = 0 := sz_nJ (zj_470 v) k i
theorem zr_471 (v : Nat → Int32) (i : Nat) : dp_R (dq_471 v) 59 i = none := sz_nR (zr_470 v) i
theorem zl_25_471 (v : Nat → Int32) : dp_len (dq_471 v) 25 = (Int32.toNatClampNeg (dq_h (v 0) (12 : Int32))) := sz_nL (dqn_470 v) (by decide) (zl_25_470 v)
theorem zl_26_471 (v : Nat → Int32) : dp_len (dq_471 v) 26 = (Int32.toNatClampNeg (dq_h (v 0) (12 : Int32))) := sz_nL (dqn_470 v) (by decide) (zl_26_470 v)
theorem zl_27_471 (v : Nat → Int32) : dp_len (dq_471 v) 27 = (Int32.toNatClampNeg ((dq_h (v 0) (12 : Int32)) * (16 : Int32))) := sz_nL (dqn_470 v) (by decide) (zl_27_470 v)
theorem zl_33_471 (v : Nat → Int32) : dp_len (dq_471 v) 33 = (Int32.toNatClampNeg (dq_h (v 2) (20 : Int32))) := sz_nL (dqn_470 v) (by decide) (zl_33_470 v)
theorem zl_34_471 (v : Nat → Int32) : dp_len (dq_471 v) 34 = (Int32.toNatClampNeg (dq_h (v 2) (20 : Int32))) := sz_nL (dqn_470 v) (by decide) (zl_34_470 v)
theorem zl_35_471 (v : Nat → Int32) : dp_len (dq_471 v) 35 = (Int32.toNatClampNeg (dq_h (v 2) (20 : Int32))) := sz_nL (dqn_470 v) (by decide) (zl_35_470 v)
theorem zl_36_471 (v : Nat → Int32) : dp_len (dq_471 v) 36 = (Int32.toNatClampNeg ((dq_h (v 2) (20 : Int32)) * (dq_h (v 3) (8 : Int32)))) := sz_nL (dqn_470 v) (by decide) (zl_36_470 v)
theorem zi_472 (v : Nat → Int32) (k i : Nat) : dp_I (dq_472 v) k i = sF_16 v k i := zi_471 v k i
theorem zj_472 (v : Nat → Int32) (k i : Nat) : dp_J (dq_472 v) k i = 0 := zj_471 v k i
theorem zr_472 (v : Nat → Int32) (i : Nat) : dp_R (dq_472 v) 59 i = none := sz_rR (by decide) (zr_471 v) i
theorem zl_25_472 (v : Nat → Int32) : dp_len (dq_472 v) 25 = (Int32.toNatClampNeg (dq_h (v 0) (12 : Int32))) := zl_25_471 v
theorem zl_26_472 (v : Nat → Int32) : dp_len (dq_472 v) 26 = (Int32.toNatClampNeg (dq_h (v 0) (12 : Int32))) := zl_26_471 v
theorem zl_27_472 (v : Nat → Int32) : dp_len (dq_472 v) 27 = (Int32.toNatClampNeg ((dq_h (v 0) (12 : Int32)) * (16 : Int32))) := zl_27_471 v
theorem zl_33_472 (v : Nat → Int32) : dp_len (dq_472 v) 33 = (Int32.toNatClampNeg (dq_h (v 2) (20 : Int32))) := zl_33_471 v
theorem zl_34_472 (v : Nat → Int32) : dp_len (dq_472 v) 34 = (Int32.toNatClampNeg (dq_h (v 2) (20 : Int32))) := zl_34_471 v
theorem zl_35_472 (v : Nat → Int32) : dp_len (dq_472 v) 35 = (Int32.toNatClampNeg (dq_h (v 2) (20 : Int32))) := zl_35_471 v
theorem zl_36_472 (v : Nat → Int32) : dp_len (dq_472 v) 36 = (Int32.toNatClampNeg ((dq_h (v 2) (20 : Int32)) * (dq_h (v 3) (8 : Int32)))) := zl_36_471 v
theorem zi_473 (v : Nat → Int32) (k i : Nat) : dp_I (dq_473 v) k i = sF_16 v k i := sz_n (dqn_472 v) (zi_472 v) (fun _ => rfl) k i
theorem zj_473 (v : Nat → Int32) (k i : Nat) : dp_J (dq_473 v) k i = 0 := sz_nJ (zj_472 v) k i
theorem zr_473 (v : Nat → Int32) (i : Nat) : dp_R (dq_473 v) 59 i = none := sz_nR (zr_472 v) i
theorem zl_25_473 (v : Nat → Int32) : dp_len (dq_473 v) 25 = (Int32.toNatClampNeg (dq_h (v 0) (12 : Int32))) := sz_nL (dqn_472 v) (by decide) (zl_25_472 v)
theorem zl_26_473 (v : Nat → Int32) : dp_len (dq_473 v) 26 = (Int32.toNatClampNeg (dq_h (v 0) (12 : Int32))) := sz_nL (dqn_472 v) (by decide) (zl_26_472 v)
theorem zl_27_473 (v : Nat → Int32) : dp_len (dq_473 v) 27 = (Int32.toNatClampNeg ((dq_h (v 0) (12 : Int32)) * (16 : Int32))) := sz_nL (dqn_472 v) (by decide) (zl_27_472 v)
theorem zl_33_473 (v : Nat → Int32) : dp_len (dq_473 v) 33 = (Int32.toNatClampNeg (dq_h (v 2) (20 : Int32))) := sz_nL (dqn_472 v) (by decide) (zl_33_472 v)
theorem zl_34_473 (v : Nat → Int32) : dp_len (dq_473 v) 34 = (Int32.toNatClampNeg (dq_h (v 2) (20 : Int32))) := sz_nL (dqn_472 v) (by decide) (zl_34_472 v)
theorem zl_35_473 (v : Nat → Int32) : dp_len (dq_473 v) 35 = (Int32.toNatClampNeg (dq_h (v 2) (20 : Int32))) := sz_nL (dqn_472 v) (by decide) (zl_35_472 v)
theorem zl_36_473 (v : Nat → Int32) : dp_len (dq_473 v) 36 = (Int32.toNatClampNeg ((dq_h (v 2) (20 : Int32)) * (dq_h (v 3) (8 : Int32)))) := sz_nL (dqn_472 v) (by decide) (zl_36_472 v)
theorem zi_474 (v : Nat → Int32) (k i : Nat) : dp_I (dq_474 v) k i = sF_16 v k i := zi_473 v k i
theorem zj_474 (v : Nat → Int32) (k i : Nat) : dp_J (dq_474 v) k i = 0 := zj_473 v k i
theorem zr_474 (v : Nat → Int32) (i : Nat) : dp_R (dq_474 v) 59 i = none := sz_rR (by decide) (zr_473 v) i
theorem zl_25_474 (v : Nat → Int32) : dp_len (dq_474 v) 25 = (Int32.toNatClampNeg (dq_h (v 0) (12 : Int32))) := zl_25_473 v
theorem zl_26_474 (v : Nat → Int32) : dp_len (dq_474 v) 26 = (Int32.toNatClampNeg (dq_h (v 0) (12 : Int32))) := zl_26_473 v
theorem zl_27_474 (v : Nat → Int32) : dp_len (dq_474 v) 27 = (Int32.toNatClampNeg ((dq_h (v 0) (12 : Int32)) * (16 : Int32))) := zl_27_473 v
theorem zl_33_474 (v : Nat → Int32) : dp_len (dq_474 v) 33 = (Int32.toNatClampNeg (dq_h (v 2) (20 : Int32))) := zl_33_473 v
theorem zl_34_474 (v : Nat → Int32) : dp_len (dq_474 v) 34 = (Int32.toNatClampNeg (dq_h (v 2) (20 : Int32))) := zl_34_473 v
theorem zl_35_474 (v : Nat → Int32) : dp_len (dq_474 v) 35 = (Int32.toNatClampNeg (dq_h (v 2) (20 : Int32))) := zl_35_473 v
theorem zl_36_474 (v : Nat → Int32) : dp_len (dq_474 v) 36 = (Int32.toNatClampNeg ((dq_h (v 2) (20 : Int32)) * (dq_h (v 3) (8 : Int32)))) := zl_36_473 v
theorem zi_475 (v : Nat → Int32) (k i : Nat) : dp_I (dq_475 v) k i = sF_16 v k i := sz_n (dqn_474 v) (zi_474 v) (fun _ => rfl) k i
theorem zj_475 (v : Nat → Int32) (k i : Nat) : dp_J (dq_475 v) k i = 0 := sz_nJ (zj_474 v) k i
theorem zr_475 (v : Nat → Int32) (i : Nat) : dp_R (dq_475 v) 59 i = none := sz_nR (zr_474 v) i
theorem zl_25_475 (v : Nat → Int32) : dp_len (dq_475 v) 25 = (Int32.toNatClampNeg (dq_h (v 0) (12 : Int32))) := sz_nL (dqn_474 v) (by decide) (zl_25_474 v)
theorem zl_26_475 (v : Nat → Int32) : dp_len (dq_475 v) 26 = (Int32.toNatClampNeg (dq_h (v 0) (12 : Int32))) := sz_nL (dqn_474 v) (by decide) (zl_26_474 v)
theorem zl_27_475 (v : Nat → Int32) : dp_len (dq_475 v) 27 = (Int32.toNatClampNeg ((dq_h (v 0) (12 : Int32)) * (16 : Int32))) := sz_nL (dqn_474 v) (by decide) (zl_27_474 v)
theorem zl_33_475 (v : Nat → Int32) : dp_len (dq_475 v) 33 = (Int32.toNatClampNeg (dq_h (v 2) (20 : Int32))) := sz_nL (dqn_474 v) (by decide) (zl_33_474 v)
theorem zl_34_475 (v : Nat → Int32) : dp_len (dq_475 v) 34 = (Int32.toNatClampNeg (dq_h (v 2) (20 : Int32))) := sz_nL (dqn_474 v) (by decide) (zl_34_474 v)
theorem zl_35_475 (v : Nat → Int32) : dp_len (dq_475 v) 35 = (Int32.toNatClampNeg (dq_h (v 2) (20 : Int32))) := sz_nL (dqn_474 v) (by decide) (zl_35_474 v)
theorem zl_36_475 (v : Nat → Int32) : dp_len (dq_475 v) 36 = (Int32.toNatClampNeg ((dq_h (v 2) (20 : Int32)) * (dq_h (v 3) (8 : Int32)))) := sz_nL (dqn_474 v) (by decide) (zl_36_474 v)
theorem zi_476 (v : Nat → Int32) (k i : Nat) : dp_I (dq_476 v) k i = sF_16 v k i := zi_475 v k i
theorem zj_476 (v : Nat → Int32) (k i : Nat) : dp_J (dq_476 v) k i = 0 := zj_475 v k i
theorem zr_476 (v : Nat → Int32) (i : Nat) : dp_R (dq_476 v) 59 i = none := sz_rR (by decide) (zr_475 v) i
theorem zl_25_476 (v : Nat → Int32) : dp_len (dq_476 v) 25 = (Int32.toNatClampNeg (dq_h (v 0) (12 : Int32))) := zl_25_475 v
theorem zl_26_476 (v : Nat → Int32) : dp_len (dq_476 v) 26 = (Int32.toNatClampNeg (dq_h (v 0) (12 : Int32))) := zl_26_475 v
theorem zl_27_476 (v : Nat → Int32) : dp_len (dq_476 v) 27 = (Int32.toNatClampNeg ((dq_h (v 0) (12 : Int32)) * (16 : Int32))) := zl_27_475 v
theorem zl_33_476 (v : Nat → Int32) : dp_len (dq_476 v) 33 = (Int32.toNatClampNeg (dq_h (v 2) (20 : Int32))) := zl_33_475 v
theorem zl_34_476 (v : Nat → Int32) : dp_len (dq_476 v) 34 = (Int32.toNatClampNeg (dq_h (v 2) (20 : Int32))) := zl_34_475 v
theorem zl_35_476 (v : Nat → Int32) : dp_len (dq_476 v) 35 = (Int32.toNatClampNeg (dq_h (v 2) (20 : Int32))) := zl_35_475 v
theorem zl_36_476 (v : Nat → Int32) : dp_len (dq_476 v) 36 = (Int32.toNatClampNeg ((dq_h (v 2) (20 : Int32)) * (dq_h (v 3) (8 : Int32)))) := zl_36_475 v
theorem zi_477 (v : Nat → Int32) (k i : Nat) : dp_I (dq_477 v) k i = sF_16 v k i := sz_n (dqn_476 v) (zi_476 v) (fun _ => rfl) k i
theorem zj_477 (v : Nat → Int32) (k i : Nat) : dp_J (dq_477 v) k i = 0 := sz_nJ (zj_476 v) k i
theorem zr_477 (v : Nat → Int32) (i : Nat) : dp_R (dq_477 v) 59 i = none := sz_nR (zr_476 v) i
theorem zl_25_477 (v : Nat → Int32) : dp_len (dq_477 v) 25 = (Int32.toNatClampNeg (dq_h (v 0) (12 : Int32))) := sz_nL (dqn_476 v) (by decide) (zl_25_476 v)
theorem zl_26_477 (v : Nat → Int32) : dp_len (dq_477 v) 26 = (Int32.toNatClampNeg (dq_h (v 0) (12 : Int32))) := sz_nL (dqn_476 v) (by decide) (zl_26_476 v)
theorem zl_27_477 (v : Nat → Int32) : dp_len (dq_477 v) 27 = (Int32.toNatClampNeg ((dq_h (v 0) (12 : Int32)) * (16 : Int32))) := sz_nL (dqn_476 v) (by decide) (zl_27_476 v)
theorem zl_33_477 (v : Nat → Int32) : dp_len (dq_477 v) 33 = (Int32.toNatClampNeg (dq_h (v 2) (20 : Int32))) := sz_nL (dqn_476 v) (by decide) (zl_33_476 v)
theorem zl_34_477 (v : Nat → Int32) : dp_len (dq_477 v) 34 = (Int32.toNatClampNeg (dq_h (v 2) (20 : Int32))) := sz_nL (dqn_476 v) (by decide) (zl_34_476 v)
theorem zl_35_477 (v : Nat → Int32) : dp_len (dq_477 v) 35 = (Int32.toNatClampNeg (dq_h (v 2) (20 : Int32))) := sz_nL (dqn_476 v) (by decide) (zl_35_476 v)
theorem zl_36_477 (v : Nat → Int32) : dp_len (dq_477 v) 36 = (Int32.toNatClampNeg ((dq_h (v 2) (20 : Int32)) * (dq_h (v 3) (8 : Int32)))) := sz_nL (dqn_476 v) (by decide) (zl_36_476 v)
theorem zi_478 (v : Nat → Int32) (k i : Nat) : dp_I (dq_478 v) k i = sF_16 v k i := zi_477 v k i
theorem zj_478 (v : Nat → Int32) (k i : Nat) : dp_J (dq_478 v) k i = 0 := zj_477 v k i
theorem zr_478 (v : Nat → Int32) (i : Nat) : dp_R (dq_478 v) 59 i = none := sz_rR (by decide) (zr_477 v) i
theorem zl_25_478 (v : Nat → Int32) : dp_len (dq_478 v) 25 = (Int32.toNatClampNeg (dq_h (v 0) (12 : Int32))) := zl_25_477 v
theorem zl_26_478 (v : Nat → Int32) : dp_len (dq_478 v) 26 = (Int32.toNatClampNeg (dq_h (v 0) (12 : Int32))) := zl_26_477 v
theorem zl_27_478 (v : Nat → Int32) : dp_len (dq_478 v) 27 = (Int32.toNatClampNeg ((dq_h (v 0) (12 : Int32)) * (16 : Int32))) := zl_27_477 v
theorem zl_33_478 (v : Nat → Int32) : dp_len (dq_478 v) 33 = (Int32.toNatClampNeg (dq_h (v 2) (20 : Int32))) := zl_33_477 v
theorem zl_34_478 (v : Nat → Int32) : dp_len (dq_478 v) 34 = (Int32.toNatClampNeg (dq_h (v 2) (20 : Int32))) := zl_34_477 v
theorem zl_35_478 (v : Nat → Int32) : dp_len (dq_478 v) 35 = (Int32.toNatClampNeg (dq_h (v 2) (20 : Int32))) := zl_35_477 v
theorem zl_36_478 (v : Nat → Int32) : dp_len (dq_478 v) 36 = (Int32.toNatClampNeg ((dq_h (v 2) (20 : Int32)) * (dq_h (v 3) (8 : Int32)))) := zl_36_477 v
theorem zi_479 (v : Nat → Int32) (k i : Nat) : dp_I (dq_479 v) k i = sF_16 v k i := sz_n (dqn_478 v) (zi_478 v) (fun _ => rfl) k i
theorem zj_479 (v : Nat → Int32) (k i : Nat) : dp_J (dq_479 v) k i = 0 := sz_nJ (zj_478 v) k i
theorem zr_479 (v : Nat → Int32) (i : Nat) : dp_R (dq_479 v) 59 i = none := sz_nR (zr_478 v) i
theorem zl_25_479 (v : Nat → Int32) : dp_len (dq_479 v) 25 = (Int32.toNatClampNeg (dq_h (v 0) (12 : Int32))) := sz_nL (dqn_478 v) (by decide) (zl_25_478 v)
theorem zl_26_479 (v : Nat → Int32) : dp_len (dq_479 v) 26 = (Int32.toNatClampNeg (dq_h (v 0) (12 : Int32))) := sz_nL (dqn_478 v) (by decide) (zl_26_478 v)
theorem zl_27_479 (v : Nat → Int32) : dp_len (dq_479 v) 27 = (Int32.toNatClampNeg ((dq_h (v 0) (12 : Int32)) * (16 : Int32))) := sz_nL (dqn_478 v) (by decide) (zl_27_478 v)
theorem zl_33_479 (v : Nat → Int32) : dp_len (dq_479 v) 33 = (Int32.toNatClampNeg (dq_h (v 2) (20 : Int32))) := sz_nL (dqn_478 v) (by decide) (zl_33_478 v)
theorem zl_34_479 (v : Nat → Int32) : dp_len (dq_479 v) 34 = (Int32.toNatClampNeg (dq_h (v 2) (20 : Int32))) := sz_nL (dqn_478 v) (by decide) (zl_34_478 v)
theorem zl_35_479 (v : Nat → Int32) : dp_len (dq_479 v) 35 = (Int32.toNatClampNeg (dq_h (v 2) (20 : Int32))) := sz_nL (dqn_478 v) (by decide) (zl_35_478 v)
theorem zl_36_479 (v : Nat → Int32) : dp_len (dq_479 v) 36 = (Int32.toNatClampNeg ((dq_h (v 2) (20 : Int32)) * (dq_h (v 3) (8 : Int32)))) := sz_nL (dqn_478 v) (by decide) (zl_36_478 v)
theorem zi_480 (v : Nat → Int32) (k i : Nat) : dp_I (dq_480 v) k i = sF_16 v k i := zi_479 v k i
theorem zj_480 (v : Nat → Int32) (k i : Nat) : dp_J (dq_480 v) k i = 0 := zj_479 v k i
theorem zr_480 (v : Nat → Int32) (i : Nat) : dp_R (dq_480 v) 59 i = none := sz_rR (by decide) (zr_479 v) i
theorem zl_25_480 (v : Nat → Int32) : dp_len (dq_480 v) 25 = (Int32.toNatClampNeg (dq_h (v 0) (12 : Int32))) := zl_25_479 v
theorem zl_26_480 (v : Nat → Int32) : dp_len (dq_480 v) 26 = (Int32.toNatClampNeg (dq_h (v 0) (12 : Int32))) := zl_26_479 v
theorem zl_27_480 (v : Nat → Int32) : dp_len (dq_480 v) 27 = (Int32.toNatClampNeg ((dq_h (v 0) (12 : Int32)) * (16 : Int32))) := zl_27_479 v
theorem zl_33_480 (v : Nat → Int32) : dp_len (dq_480 v) 33 = (Int32.toNatClampNeg (dq_h (v 2) (20 : Int32))) := zl_33_479 v
theorem zl_34_480 (v : Nat → Int32) : dp_len (dq_480 v) 34 = (Int32.toNatClampNeg (dq_h (v 2) (20 : Int32))) := zl_34_479 v
theorem zl_35_480 (v : Nat → Int32) : dp_len (dq_480 v) 35 = (Int32.toNatClampNeg (dq_h (v 2) (20 : Int32))) := zl_35_479 v
theorem zl_36_480 (v : Nat → Int32) : dp_len (dq_480 v) 36 = (Int32.toNatClampNeg ((dq_h (v 2) (20 : Int32)) * (dq_h (v 3) (8 : Int32)))) := zl_36_479 v
theorem zi_481 (v : Nat → Int32) (k i : Nat) : dp_I (dq_481 v) k i = sF_16 v k i := sz_n (dqn_480 v) (zi_480 v) (fun _ => rfl) k i
theorem zj_481 (v : Nat → Int32) (k i : Nat) : dp_J (dq_481 v) k i = 0 := sz_nJ (zj_480 v) k i
theorem zr_481 (v : Nat → Int32) (i : Nat) : dp_R (dq_481 v) 59 i = none := sz_nR (zr_480 v) i
theorem zl_25_481 (v : Nat → Int32) : dp_len (dq_481 v) 25 = (Int32.toNatClampNeg (dq_h (v 0) (12 : Int32))) := sz_nL (dqn_480 v) (by decide) (zl_25_480 v)
theorem zl_26_481 (v : Nat → Int32) : dp_len (dq_481 v) 26 = (Int32.toNatClampNeg (dq_h (v 0) (12 : Int32))) := sz_nL (dqn_480 v) (by decide) (zl_26_480 v)
theorem zl_27_481 (v : Nat → Int32) : dp_len (dq_481 v) 27 = (Int32.toNatClampNeg ((dq_h (v 0) (12 : Int32)) * (16 : Int32))) := sz_nL (dqn_480 v) (by decide) (zl_27_480 v)
theorem zl_33_481 (v : Nat → Int32) : dp_len (dq_481 v) 33 = (Int32.toNatClampNeg (dq_h (v 2) (20 : Int32))) := sz_nL (dqn_480 v) (by decide) (zl_33_480 v)
theorem zl_34_481 (v : Nat → Int32) : dp_len (dq_481 v) 34 = (Int32.toNatClampNeg (dq_h (v 2) (20 : Int32))) := sz_nL (dqn_480 v) (by decide) (zl_34_480 v)
theorem zl_35_481 (v : Nat → Int32) : dp_len (dq_481 v) 35 = (Int32.toNatClampNeg (dq_h (v 2) (20 : Int32))) := sz_nL (dqn_480 v) (by decide) (zl_35_480 v)
theorem zl_36_481 (v : Nat → Int32) : dp_len (dq_481 v) 36 = (Int32.toNatClampNeg ((dq_h (v 2) (20 : Int32)) * (dq_h (v 3) (8 : Int32)))) := sz_nL (dqn_480 v) (by decide) (zl_36_480 v)
theorem zi_482 (v : Nat → Int32) (k i : Nat) : dp_I (dq_482 v) k i = sF_16 v k i := zi_481 v k i
theorem zj_482 (v : Nat → Int32) (k i : Nat) : dp_J (dq_482 v) k i = 0 := zj_481 v k i
theorem zr_482 (v : Nat → Int32) (i : Nat) : dp_R (dq_482 v) 59 i = none := sz_rR (by decide) (zr_481 v) i
theorem zl_25_482 (v : Nat → Int32) : dp_len (dq_482 v) 25 = (Int32.toNatClampNeg (dq_h (v 0) (12 : Int32))) := zl_25_481 v
theorem zl_26_482 (v : Nat → Int32) : dp_len (dq_482 v) 26 = (Int32.toNatClampNeg (dq_h (v 0) (12 : Int32))) := zl_26_481 v
theorem zl_27_482 (v : Nat → Int32) : dp_len (dq_482 v) 27 = (Int32.toNatClampNeg ((dq_h (v 0) (12 : Int32)) * (16 : Int32))) := zl_27_481 v
theorem zl_33_482 (v : Nat → Int32) : dp_len (dq_482 v) 33 = (Int32.toNatClampNeg (dq_h (v 2) (20 : Int32))) := zl_33_481 v
theorem zl_34_482 (v : Nat → Int32) : dp_len (dq_482 v) 34 = (Int32.toNatClampNeg (dq_h (v 2) (20 : Int32))) := zl_34_481 v
theorem zl_35_482 (v : Nat → Int32) : dp_len (dq_482 v) 35 = (Int32.toNatClampNeg (dq_h (v 2) (20 : Int32))) := zl_35_481 v
theorem zl_36_482 (v : Nat → Int32) : dp_len (dq_482 v) 36 = (Int32.toNatClampNeg ((dq_h (v 2) (20 : Int32)) * (dq_h (v 3) (8 : Int32)))) := zl_36_481 v
theorem zi_483 (v : Nat → Int32) (k i : Nat) : dp_I (dq_483 v) k i = sF_16 v k i := sz_n (dqn_482 v) (zi_482 v) (fun _ => rfl) k i
theorem zj_483 (v : Nat → Int32) (k i : Nat) : dp_J (dq_483 v) k i = 0 := sz_nJ (zj_482 v) k i
theorem zr_483 (v : Nat → Int32) (i : Nat) : dp_R (dq_483 v) 59 i = none := sz_nR (zr_482 v) i
theorem zl_25_483 (v : Nat → Int32) : dp_len (dq_483 v) 25 = (Int32.toNatClampNeg (dq_h (v 0) (12 : Int32))) := sz_nL (dqn_482 v) (by decide) (zl_25_482 v)
theorem zl_26_483 (v : Nat → Int32) : dp_len (dq_483 v) 26 = (Int32.toNatClampNeg (dq_h (v 0) (12 : Int32))) := sz_nL (dqn_482 v) (by decide) (zl_26_482 v)
theorem zl_27_483 (v : Nat → Int32) : dp_len (dq_483 v) 27 = (Int32.toNatClampNeg ((dq_h (v 0) (12 : Int32)) * (16 : Int32))) := sz_nL (dqn_482 v) (by decide) (zl_27_482 v)
theorem zl_33_483 (v : Nat → Int32) : dp_len (dq_483 v) 33 = (Int32.toNatClampNeg (dq_h (v 2) (20 : Int32))) := sz_nL (dqn_482 v) (by decide) (zl_33_482 v)
theorem zl_34_483 (v : Nat → Int32) : dp_len (dq_483 v) 34 = (Int32.toNatClampNeg (dq_h (v 2) (20 : Int32))) := sz_nL (dqn_482 v) (by decide) (zl_34_482 v)
theorem zl_35_483 (v : Nat → Int32) : dp_len (dq_483 v) 35 = (Int32.toNatClampNeg (dq_h (v 2) (20 : Int32))) := sz_nL (dqn_482 v) (by decide) (zl_35_482 v)
theorem zl_36_483 (v : Nat → Int32) : dp_len (dq_483 v) 36 = (Int32.toNatClampNeg ((dq_h (v 2) (20 : Int32)) * (dq_h (v 3) (8 : Int32)))) := sz_nL (dqn_482 v) (by decide) (zl_36_482 v)
theorem zi_484 (v : Nat → Int32) (k i : Nat) : dp_I (dq_484 v) k i = sF_16 v k i := zi_483 v k i
theorem zj_484 (v : Nat → Int32) (k i : Nat) : dp_J (dq_484 v) k i = 0 := zj_483 v k i
theorem zr_484 (v : Nat → Int32) (i : Nat) : dp_R (dq_484 v) 59 i = none := sz_rR (by decide) (zr_483 v) i
theorem zl_25_484 (v : Nat → Int32) : dp_len (dq_484 v) 25 = (Int32.toNatClampNeg (dq_h (v 0) (12 : Int32))) := zl_25_483 v
theorem zl_26_484 (v : Nat → Int32) : dp_len (dq_484 v) 26 = (Int32.toNatClampNeg (dq_h (v 0) (12 : Int32))) := zl_26_483 v
theorem zl_27_484 (v : Nat → Int32) : dp_len (dq_484 v) 27 = (Int32.toNatClampNeg ((dq_h (v 0) (12 : Int32)) * (16 : Int32))) := zl_27_483 v
theorem zl_33_484 (v : Nat → Int32) : dp_len (dq_484 v) 33 = (Int32.toNatClampNeg (dq_h (v 2) (20 : Int32))) := zl_33_483 v
theorem zl_34_484 (v : Nat → Int32) : dp_len (dq_484 v) 34 = (Int32.toNatClampNeg (dq_h (v 2) (20 : Int32))) := zl_34_483 v
theorem zl_35_484 (v : Nat → Int32) : dp_len (dq_484 v) 35 = (Int32.toNatClampNeg (dq_h (v 2) (20 : Int32))) := zl_35_483 v
theorem zl_36_484 (v : Nat → Int32) : dp_len (dq_484 v) 36 = (Int32.toNatClampNeg ((dq_h (v 2) (20 : Int32)) * (dq_h (v 3) (8 : Int32)))) := zl_36_483 v
theorem zi_485 (v : Nat → Int32) (k i : Nat) : dp_I (dq_485 v) k i = sF_16 v k i := sz_n (dqn_484 v) (zi_484 v) (fun _ => rfl) k i
theorem zj_485 (v : Nat → Int32) (k i : Nat) : dp_J (dq_485 v) k i = 0 := sz_nJ (zj_484 v) k i
theorem zr_485 (v : Nat → Int32) (i : Nat) : dp_R (dq_485 v) 59 i = none := sz_nR (zr_484 v) i
theorem zl_25_485 (v : Nat → Int32) : dp_len (dq_485 v) 25 = (Int32.toNatClampNeg (dq_h (v 0) (12 : Int32))) := sz_nL (dqn_484 v) (by decide) (zl_25_484 v)
theorem zl_26_485 (v : Nat → Int32) : dp_len (dq_485 v) 26 = (Int32.toNatClampNeg (dq_h (v 0) (12 : Int32))) := sz_nL (dqn_484 v) (by decide) (zl_26_484 v)
theorem zl_27_485 (v : Nat → Int32) : dp_len (dq_485 v) 27 = (Int32.toNatClampNeg ((dq_h (v 0) (12 : Int32)) * (16 : Int32))) := sz_nL (dqn_484 v) (by decide) (zl_27_484 v)
theorem zl_33_485 (v : Nat → Int32) : dp_len (dq_485 v) 33 = (Int32.toNatClampNeg (dq_h (v 2) (20 : Int32))) := sz_nL (dqn_484 v) (by decide) (zl_33_484 v)
theorem zl_34_485 (v : Nat → Int32) : dp_len (dq_485 v) 34 = (Int32.toNatClampNeg (dq_h (v 2) (20 : Int32))) := sz_nL (dqn_484 v) (by decide) (zl_34_484 v)
theorem zl_35_485 (v : Nat → Int32) : dp_len (dq_485 v) 35 = (Int32.toNatClampNeg (dq_h (v 2) (20 : Int32))) := sz_nL (dqn_484 v) (by decide) (zl_35_484 v)
theorem zl_36_485 (v : Nat → Int32) : dp_len (dq_485 v) 36 = (Int32.toNatClampNeg ((dq_h (v 2) (20 : Int32)) * (dq_h (v 3) (8 : Int32)))) := sz_nL (dqn_484 v) (by decide) (zl_36_484 v)
theorem zi_486 (v : Nat → Int32) (k i : Nat) : dp_I (dq_486 v) k i = sF_16 v k i := zi_485 v k i
theorem zj_486 (v : Nat → Int32) (k i : Nat) : dp_J (dq_486 v) k i = 0 := zj_485 v k i
theorem zr_486 (v : Nat → Int32) (i : Nat) : dp_R (dq_486 v) 59 i = none := sz_rR (by decide) (zr_485 v) i
theorem zl_25_486 (v : Nat → Int32) : dp_len (dq_486 v) 25 = (Int32.toNatClampNeg (dq_h (v 0) (12 : Int32))) := zl_25_485 v
theorem zl_26_486 (v : Nat → Int32) : dp_len (dq_486 v) 26 = (Int32.toNatClampNeg (dq_h (v 0) (12 : Int32))) := zl_26_485 v
theorem zl_27_486 (v : Nat → Int32) : dp_len (dq_486 v) 27 = (Int32.toNatClampNeg ((dq_h (v 0) (12 : Int32)) * (16 : Int32))) := zl_27_485 v
theorem zl_33_486 (v : Nat → Int32) : dp_len (dq_486 v) 33 = (Int32.toNatClampNeg (dq_h (v 2) (20 : Int32))) := zl_33_485 v
theorem zl_34_486 (v : Nat → Int32) : dp_len (dq_486 v) 34 = (Int32.toNatClampNeg (dq_h (v 2) (20 : Int32))) := zl_34_485 v
theorem zl_35_486 (v : Nat → Int32) : dp_len (dq_486 v) 35 = (Int32.toNatClampNeg (dq_h (v 2) (20 : Int32))) := zl_35_485 v
theorem zl_36_486 (v : Nat → Int32) : dp_len (dq_486 v) 36 = (Int32.toNatClampNeg ((dq_h (v 2) (20 : Int32)) * (dq_h (v 3) (8 : Int32)))) := zl_36_485 v
theorem zi_487 (v : Nat → Int32) (k i : Nat) : dp_I (dq_487 v) k i = sF_16 v k i := sz_n (dqn_486 v) (zi_486 v) (fun _ => rfl) k i
theorem zj_487 (v : Nat → Int32) (k i : Nat) : dp_J (dq_487 v) k i = 0 := sz_nJ (zj_486 v) k i
theorem zr_487 (v : Nat → Int32) (i : Nat) : dp_R (dq_487 v) 59 i = none := sz_nR (zr_486 v) i
theorem zl_25_487 (v : Nat → Int32) : dp_len (dq_487 v) 25 = (Int32.toNatClampNeg (dq_h (v 0) (12 : Int32))) := sz_nL (dqn_486 v) (by decide) (zl_25_486 v)
theorem zl_26_487 (v : Nat → Int32) : dp_len (dq_487 v) 26 = (Int32.toNatClampNeg (dq_h (v 0) (12 : Int32))) := sz_nL (dqn_486 v) (by decide) (zl_26_486 v)
theorem zl_27_487 (v : Nat → Int32) : dp_len (dq_487 v) 27 = (Int32.toNatClampNeg ((dq_h (v 0) (12 : Int32)) * (16 : Int32))) := sz_nL (dqn_486 v) (by decide) (zl_27_486 v)
theorem zl_33_487 (v : Nat → Int32) : dp_len (dq_487 v) 33 = (Int32.toNatClampNeg (dq_h (v 2) (20 : Int32))) := sz_nL (dqn_486 v) (by decide) (zl_33_486 v)
theorem zl_34_487 (v : Nat → Int32) : dp_len (dq_487 v) 34 = (Int32.toNatClampNeg (dq_h (v 2) (20 : Int32))) := sz_nL (dqn_486 v) (by decide) (zl_34_486 v)
theorem zl_35_487 (v : Nat → Int32) : dp_len (dq_487 v) 35 = (Int32.toNatClampNeg (dq_h (v 2) (20 : Int32))) := sz_nL (dqn_486 v) (by decide) (zl_35_486 v)
theorem zl_36_487 (v : Nat → Int32) : dp_len (dq_487 v) 36 = (Int32.toNatClampNeg ((dq_h (v 2) (20 : Int32)) * (dq_h (v 3) (8 : Int32)))) := sz_nL (dqn_486 v) (by decide) (zl_36_486 v)
theorem zi_488 (v : Nat → Int32) (k i : Nat) : dp_I (dq_488 v) k i = sF_16 v k i := zi_487 v k i
theorem zj_488 (v : Nat → Int32) (k i : Nat) : dp_J (dq_488 v) k i = 0 := zj_487 v k i
theorem zr_488 (v : Nat → Int32) (i : Nat) : dp_R (dq_488 v) 59 i = none := sz_rR (by decide) (zr_487 v) i
theorem zl_25_488 (v : Nat → Int32) : dp_len (dq_488 v) 25 = (Int32.toNatClampNeg (dq_h (v 0) (12 : Int32))) := zl_25_487 v
theorem zl_26_488 (v : Nat → Int32) : dp_len (dq_488 v) 26 = (Int32.toNatClampNeg (dq_h (v 0) (12 : Int32))) := zl_26_487 v
theorem zl_27_488 (v : Nat → Int32) : dp_len (dq_488 v) 27 = (Int32.toNatClampNeg ((dq_h (v 0) (12 : Int32)) * (16 : Int32))) := zl_27_487 v
theorem zl_33_488 (v : Nat → Int32) : dp_len (dq_488 v) 33 = (Int32.toNatClampNeg (dq_h (v 2) (20 : Int32))) := zl_33_487 v
theorem zl_34_488 (v : Nat → Int32) : dp_len (dq_488 v) 34 = (Int32.toNatClampNeg (dq_h (v 2) (20 : Int32))) := zl_34_487 v
theorem zl_35_488 (v : Nat → Int32) : dp_len (dq_488 v) 35 = (Int32.toNatClampNeg (dq_h (v 2) (20 : Int32))) := zl_35_487 v
theorem zl_36_488 (v : Nat → Int32) : dp_len (dq_488 v) 36 = (Int32.toNatClampNeg ((dq_h (v 2) (20 : Int32)) * (dq_h (v 3) (8 : Int32)))) := zl_36_487 v
theorem zi_489 (v : Nat → Int32) (k i : Nat) : dp_I (dq_489 v) k i = sF_16 v k i := sz_n (dqn_488 v) (zi_488 v) (fun _ => rfl) k i
theorem zj_489 (v : Nat → Int32) (k i : Nat) : dp_J (dq_489 v) k i = 0 := sz_nJ (zj_488 v) k i
theorem zr_489 (v : Nat → Int32) (i : Nat) : dp_R (dq_489 v) 59 i = none := sz_nR (zr_488 v) i
theorem zl_25_489 (v : Nat → Int32) : dp_len (dq_489 v) 25 = (Int32.toNatClampNeg (dq_h (v 0) (12 : Int32))) := sz_nL (dqn_488 v) (by decide) (zl_25_488 v)
theorem zl_26_489 (v : Nat → Int32) : dp_len (dq_489 v) 26 = (Int32.toNatClampNeg (dq_h (v 0) (12 : Int32))) := sz_nL (dqn_488 v) (by decide) (zl_26_488 v)
theorem zl_27_489 (v : Nat → Int32) : dp_len (dq_489 v) 27 = (Int32.toNatClampNeg ((dq_h (v 0) (12 : Int32)) * (16 : Int32))) := sz_nL (dqn_488 v) (by decide) (zl_27_488 v)
theorem zl_33_489 (v : Nat → Int32) : dp_len (dq_489 v) 33 = (Int32.toNatClampNeg (dq_h (v 2) (20 : Int32))) := sz_nL (dqn_488 v) (by decide) (zl_33_488 v)
theorem zl_34_489 (v : Nat → Int32) : dp_len (dq_489 v) 34 = (Int32.toNatClampNeg (dq_h (v 2) (20 : Int32))) := sz_nL (dqn_488 v) (by decide) (zl_34_488 v)
theorem zl_35_489 (v : Nat → Int32) : dp_len (dq_489 v) 35 = (Int32.toNatClampNeg (dq_h (v 2) (20 : Int32))) := sz_nL (dqn_488 v) (by decide) (zl_35_488 v)
theorem zl_36_489 (v : Nat → Int32) : dp_len (dq_489 v) 36 = (Int32.toNatClampNeg ((dq_h (v 2) (20 : Int32)) * (dq_h (v 3) (8 : Int32)))) := sz_nL (dqn_488 v) (by decide) (zl_36_488 v)
theorem zi_490 (v : Nat → Int32) (k i : Nat) : dp_I (dq_490 v) k i = sF_16 v k i := zi_489 v k i
theorem zj_490 (v : Nat → Int32) (k i : Nat) : dp_J (dq_490 v) k i = 0 := zj_489 v k i
theorem zr_490 (v : Nat → Int32) (i : Nat) : dp_R (dq_490 v) 59 i = none := sz_rR (by decide) (zr_489 v) i
theorem zl_25_490 (v : Nat → Int32) : dp_len (dq_490 v) 25 = (Int32.toNatClampNeg (dq_h (v 0) (12 : Int32))) := zl_25_489 v
theorem zl_26_490 (v : Nat → Int32) : dp_len (dq_490 v) 26 = (Int32.toNatClampNeg (dq_h (v 0) (12 : Int32))) := zl_26_489 v
theorem zl_27_490 (v : Nat → Int32) : dp_len (dq_490 v) 27 = (Int32.toNatClampNeg ((dq_h (v 0) (12 : Int32)) * (16 : Int32))) := zl_27_489 v
theorem zl_33_490 (v : Nat → Int32) : dp_len (dq_490 v) 33 = (Int32.toNatClampNeg (dq_h (v 2) (20 : Int32))) := zl_33_489 v
theorem zl_34_490 (v : Nat → Int32) : dp_len (dq_490 v) 34 = (Int32.toNatClampNeg (dq_h (v 2) (20 : Int32))) := zl_34_489 v
theorem zl_35_490 (v : Nat → Int32) : dp_len (dq_490 v) 35 = (Int32.toNatClampNeg (dq_h (v 2) (20 : Int32))) := zl_35_489 v
theorem zl_36_490 (v : Nat → Int32) : dp_len (dq_490 v) 36 = (Int32.toNatClampNeg ((dq_h (v 2) (20 : Int32)) * (dq_h (v 3) (8 : Int32)))) := zl_36_489 v
theorem zi_491 (v : Nat → Int32) (k i : Nat) : dp_I (dq_491 v) k i = sF_16 v k i := sz_n (dqn_490 v) (zi_490 v) (fun _ => rfl) k i
theorem zj_491 (v : Nat → Int32) (k i : Nat) : dp_J (dq_491 v) k i = 0 := sz_nJ (zj_490 v) k i
theorem zr_491 (v : Nat → Int32) (i : Nat) : dp_R (dq_491 v) 59 i = none := sz_nR (zr_490 v) i
theorem zl_25_491 (v : Nat → Int32) : dp_len (dq_491 v) 25 = (Int32.toNatClampNeg (dq_h (v 0) (12 : Int32))) := sz_nL (dqn_490 v) (by decide) (zl_25_490 v)
theorem zl_26_491 (v : Nat → Int32) : dp_len (dq_491 v) 26 = (Int32.toNatClampNeg (dq_h (v 0) (12 : Int32))) := sz_nL (dqn_490 v) (by decide) (zl_26_490 v)
theorem zl_27_491 (v : Nat → Int32) : dp_len (dq_491 v) 27 = (Int32.toNatClampNeg ((dq_h (v 0) (12 : Int32)) * (16 : Int32))) := sz_nL (dqn_490 v) (by decide) (zl_27_490 v)
theorem zl_33_491 (v : Nat → Int32) : dp_len (dq_491 v) 33 = (Int32.toNatClampNeg (dq_h (v 2) (20 : Int32))) := sz_nL (dqn_490 v) (by decide) (zl_33_490 v)
theorem zl_34_491 (v : Nat → Int32) : dp_len (dq_491 v) 34 = (Int32.toNatClampNeg (dq_h (v 2) (20 : Int32))) := sz_nL (dqn_490 v) (by decide) (zl_34_490 v)
theorem zl_35_491 (v : Nat → Int32) : dp_len (dq_491 v) 35 = (Int32.toNatClampNeg (dq_h (v 2) (20 : Int32))) := sz_nL (dqn_490 v) (by decide) (zl_35_490 v)
theorem zl_36_491 (v : Nat → Int32) : dp_len (dq_491 v) 36 = (Int32.toNatClampNeg ((dq_h (v 2) (20 : Int32)) * (dq_h (v 3) (8 : Int32)))) := sz_nL (dqn_490 v) (by decide) (zl_36_490 v)
theorem zi_492 (v : Nat → Int32) (k i : Nat) : dp_I (dq_492 v) k i = sF_16 v k i := zi_491 v k i
theorem zj_492 (v : Nat → Int32) (k i : Nat) : dp_J (dq_492 v) k i = 0 := zj_491 v k i
theorem zr_492 (v : Nat → Int32) (i : Nat) : dp_R (dq_492 v) 59 i = none := sz_rR (by decide) (zr_491 v) i
theorem zl_25_492 (v : Nat → Int32) : dp_len (dq_492 v) 25 = (Int32.toNatClampNeg (dq_h (v 0) (12 : Int32))) := zl_25_491 v
theorem zl_26_492 (v : Nat → Int32) : dp_len (dq_492 v) 26 = (Int32.toNatClampNeg (dq_h (v 0) (12 : Int32))) := zl_26_491 v
theorem zl_27_492 (v : Nat → Int32) : dp_len (dq_492 v) 27 = (Int32.toNatClampNeg ((dq_h (v 0) (12 : Int32)) * (16 : Int32))) := zl_27_491 v
theorem zl_33_492 (v : Nat → Int32) : dp_len (dq_492 v) 33 = (Int32.toNatClampNeg (dq_h (v 2) (20 : Int32))) := zl_33_491 v
theorem zl_34_492 (v : Nat → Int32) : dp_len (dq_492 v) 34 = (Int32.toNatClampNeg (dq_h (v 2) (20 : Int32))) := zl_34_491 v
theorem zl_35_492 (v : Nat → Int32) : dp_len (dq_492 v) 35 = (Int32.toNatClampNeg (dq_h (v 2) (20 : Int32))) := zl_35_491 v
theorem zl_36_492 (v : Nat → Int32) : dp_len (dq_492 v) 36 = (Int32.toNatClampNeg ((dq_h (v 2) (20 : Int32)) * (dq_h (v 3) (8 : Int32)))) := zl_36_491 v
theorem zi_493 (v : Nat → Int32) (k i : Nat) : dp_I (dq_493 v) k i = sF_16 v k i := sz_n (dqn_492 v) (zi_492 v) (fun _ => rfl) k i
theorem zj_493 (v : Nat → Int32) (k i : Nat) : dp_J (dq_493 v) k i = 0 := sz_nJ (zj_492 v) k i
theorem zr_493 (v : Nat → Int32) (i : Nat) : dp_R (dq_493 v) 59 i = none := sz_nR (zr_492 v) i
theorem zl_25_493 (v : Nat → Int32) : dp_len (dq_493 v) 25 = (Int32.toNatClampNeg (dq_h (v 0) (12 : Int32))) := sz_nL (dqn_492 v) (by decide) (zl_25_492 v)
theorem zl_26_493 (v : Nat → Int32) : dp_len (dq_493 v) 26 = (Int32.toNatClampNeg (dq_h (v 0) (12 : Int32))) := sz_nL (dqn_492 v) (by decide) (zl_26_492 v)
theorem zl_27_493 (v : Nat → Int32) : dp_len (dq_493 v) 27 = (Int32.toNatClampNeg ((dq_h (v 0) (12 : Int32)) * (16 : Int32))) := sz_nL (dqn_492 v) (by decide) (zl_27_492 v)
theorem zl_33_493 (v : Nat → Int32) : dp_len (dq_493 v) 33 = (Int32.toNatClampNeg (dq_h (v 2) (20 : Int32))) := sz_nL (dqn_492 v) (by decide) (zl_33_492 v)
theorem zl_34_493 (v : Nat → Int32) : dp_len (dq_493 v) 34 = (Int32.toNatClampNeg (dq_h (v 2) (20 : Int32))) := sz_nL (dqn_492 v) (by decide) (zl_34_492 v)
theorem zl_35_493 (v : Nat → Int32) : dp_len (dq_493 v) 35 = (Int32.toNatClampNeg (dq_h (v 2) (20 : Int32))) := sz_nL (dqn_492 v) (by decide) (zl_35_492 v)
theorem zl_36_493 (v : Nat → Int32) : dp_len (dq_493 v) 36 = (Int32.toNatClampNeg ((dq_h (v 2) (20 : Int32)) * (dq_h (v 3) (8 : Int32)))) := sz_nL (dqn_492 v) (by decide) (zl_36_492 v)
theorem zi_494 (v : Nat → Int32) (k i : Nat) : dp_I (dq_494 v) k i = sF_16 v k i := zi_493 v k i
theorem zj_494 (v : Nat → Int32) (k i : Nat) : dp_J (dq_494 v) k i = 0 := zj_493 v k i
theorem zr_494 (v : Nat → Int32) (i : Nat) : dp_R (dq_494 v) 59 i = none := sz_rR (by decide) (zr_493 v) i
theorem zl_25_494 (v : Nat → Int32) : dp_len (dq_494 v) 25 = (Int32.toNatClampNeg (dq_h (v 0) (12 : Int32))) := zl_25_493 v
theorem zl_26_494 (v : Nat → Int32) : dp_len (dq_494 v) 26 = (Int32.toNatClampNeg (dq_h (v 0) (12 : Int32))) := zl_26_493 v
theorem zl_27_494 (v : Nat → Int32) : dp_len (dq_494 v) 27 = (Int32.toNatClampNeg ((dq_h (v 0) (12 : Int32)) * (16 : Int32))) := zl_27_493 v
theorem zl_33_494 (v : Nat → Int32) : dp_len (dq_494 v) 33 = (Int32.toNatClampNeg (dq_h (v 2) (20 : Int32))) := zl_33_493 v
theorem zl_34_494 (v : Nat → Int32) : dp_len (dq_494 v) 34 = (Int32.toNatClampNeg (dq_h (v 2) (20 : Int32))) := zl_34_493 v
theorem zl_35_494 (v : Nat → Int32) : dp_len (dq_494 v) 35 = (Int32.toNatClampNeg (dq_h (v 2) (20 : Int32))) := zl_35_493 v
theorem zl_36_494 (v : Nat → Int32) : dp_len (dq_494 v) 36 = (Int32.toNatClampNeg ((dq_h (v 2) (20 : Int32)) * (dq_h (v 3) (8 : Int32)))) := zl_36_493 v
theorem zi_495 (v : Nat → Int32) (k i : Nat) : dp_I (dq_495 v) k i = sF_16 v k i := sz_n (dqn_494 v) (zi_494 v) (fun _ => rfl) k i
theorem zj_495 (v : Nat → Int32) (k i : Nat) : dp_J (dq_495 v) k i = 0 := sz_nJ (zj_494 v) k i
theorem zr_495 (v : Nat → Int32) (i : Nat) : dp_R (dq_495 v) 59 i = none := sz_nR (zr_494 v) i
theorem zl_25_495 (v : Nat → Int32) : dp_len (dq_495 v) 25 = (Int32.toNatClampNeg (dq_h (v 0) (12 : Int32))) := sz_nL (dqn_494 v) (by decide) (zl_25_494 v)
theorem zl_26_495 (v : Nat → Int32) : dp_len (dq_495 v) 26 = (Int32.toNatClampNeg (dq_h (v 0) (12 : Int32))) := sz_nL (dqn_494 v) (by decide) (zl_26_494 v)
theorem zl_27_495 (v : Nat → Int32) : dp_len (dq_495 v) 27 = (Int32.toNatClampNeg ((dq_h (v 0) (12 : Int32)) * (16 : Int32))) := sz_nL (dqn_494 v) (by decide) (zl_27_494 v)
theorem zl_33_495 (v : Nat → Int32) : dp_len (dq_495 v) 33 = (Int32.toNatClampNeg (dq_h (v 2) (20 : Int32))) := sz_nL (dqn_494 v) (by decide) (zl_33_494 v)
theorem zl_34_495 (v : Nat → Int32) : dp_len (dq_495 v) 34 = (Int32.toNatClampNeg (dq_h (v 2) (20 : Int32))) := sz_nL (dqn_494 v) (by decide) (zl_34_494 v)
theorem zl_35_495 (v : Nat → Int32) : dp_len (dq_495 v) 35 = (Int32.toNatClampNeg (dq_h (v 2) (20 : Int32))) := sz_nL (dqn_494 v) (by decide) (zl_35_494 v)
theorem zl_36_495 (v : Nat → Int32) : dp_len (dq_495 v) 36 = (Int32.toNatClampNeg ((dq_h (v 2) (20 : Int32)) * (dq_h (v 3) (8 : Int32)))) := sz_nL (dqn_494 v) (by decide) (zl_36_494 v)
theorem zi_496 (v : Nat → Int32) (k i : Nat) : dp_I (dq_496 v) k i = sF_16 v k i := zi_495 v k i
theorem zj_496 (v : Nat → Int32) (k i : Nat) : dp_J (dq_496 v) k i = 0 := zj_495 v k i
theorem zr_496 (v : Nat → Int32) (i : Nat) : dp_R (dq_496 v) 59 i = none := sz_rR (by decide) (zr_495 v) i
theorem zl_25_496 (v : Nat → Int32) : dp_len (dq_496 v) 25 = (Int32.toNatClampNeg (dq_h (v 0) (12 : Int32))) := zl_25_495 v
theorem zl_26_496 (v : Nat → Int32) : dp_len (dq_496 v) 26 = (Int32.toNatClampNeg (dq_h (v 0) (12 : Int32))) := zl_26_495 v
theorem zl_27_496 (v : Nat → Int32) : dp_len (dq_496 v) 27 = (Int32.toNatClampNeg ((dq_h (v 0) (12 : Int32)) * (16 : Int32))) := zl_27_495 v
theorem zl_33_496 (v : Nat → Int32) : dp_len (dq_496 v) 33 = (Int32.toNatClampNeg (dq_h (v 2) (20 : Int32))) := zl_33_495 v
theorem zl_34_496 (v : Nat → Int32) : dp_len (dq_496 v) 34 = (Int32.toNatClampNeg (dq_h (v 2) (20 : Int32))) := zl_34_495 v
theorem zl_35_496 (v : Nat → Int32) : dp_len (dq_496 v) 35 = (Int32.toNatClampNeg (dq_h (v 2) (20 : Int32))) := zl_35_495 v
theorem zl_36_496 (v : Nat → Int32) : dp_len (dq_496 v) 36 = (Int32.toNatClampNeg ((dq_h (v 2) (20 : Int32)) * (dq_h (v 3) (8 : Int32)))) := zl_36_495 v
theorem zi_497 (v : Nat → Int32) (k i : Nat) : dp_I (dq_497 v) k i = sF_16 v k i := sz_n (dqn_496 v) (zi_496 v) (fun _ => rfl) k i
theorem zj_497 (v : Nat → Int32) (k i : Nat) : dp_J (dq_497 v) k i = 0 := sz_nJ (zj_496 v) k i
theorem zr_497 (v : Nat → Int32) (i : Nat) : dp_R (dq_497 v) 59 i = none := sz_nR (zr_496 v) i
theorem zl_25_497 (v : Nat → Int32) : dp_len (dq_497 v) 25 = (Int32.toNatClampNeg (dq_h (v 0) (12 : Int32))) := sz_nL (dqn_496 v) (by decide) (zl_25_496 v)
theorem zl_26_497 (v : Nat → Int32) : dp_len (dq_497 v) 26 = (Int32.toNatClampNeg (dq_h (v 0) (12 : Int32))) := sz_nL (dqn_496 v) (by decide) (zl_26_496 v)
theorem zl_27_497 (v : Nat → Int32) : dp_len (dq_497 v) 27 = (Int32.toNatClampNeg ((dq_h (v 0) (12 : Int32)) * (16 : Int32))) := sz_nL (dqn_496 v) (by decide) (zl_27_496 v)
theorem zl_33_497 (v : Nat → Int32) : dp_len (dq_497 v) 33 = (Int32.toNatClampNeg (dq_h (v 2) (20 : Int32))) := sz_nL (dqn_496 v) (by decide) (zl_33_496 v)
theorem zl_34_497 (v : Nat → Int32) : dp_len (dq_497 v) 34 = (Int32.toNatClampNeg (dq_h (v 2) (20 : Int32))) := sz_nL (dqn_496 v) (by decide) (zl_34_496 v)
theorem zl_35_497 (v : Nat → Int32) : dp_len (dq_497 v) 35 = (Int32.toNatClampNeg (dq_h (v 2) (20 : Int32))) := sz_nL (dqn_496 v) (by decide) (zl_35_496 v)
theorem zl_36_497 (v : Nat → Int32) : dp_len (dq_497 v) 36 = (Int32.toNatClampNeg ((dq_h (v 2) (20 : Int32)) * (dq_h (v 3) (8 : Int32)))) := sz_nL (dqn_496 v) (by decide) (zl_36_496 v)
theorem zi_498 (v : Nat → Int32) (k i : Nat) : dp_I (dq_498 v) k i = sF_16 v k i := zi_497 v k i
theorem zj_498 (v : Nat → Int32) (k i : Nat) : dp_J (dq_498 v) k i = 0 := zj_497 v k i
theorem zr_498 (v : Nat → Int32) (i : Nat) : dp_R (dq_498 v) 59 i = none := sz_rR (by decide) (zr_497 v) i
theorem zl_25_498 (v : Nat → Int32) : dp_len (dq_498 v) 25 = (Int32.toNatClampNeg (dq_h (v 0) (12 : Int32))) := zl_25_497 v
theorem zl_26_498 (v : Nat → Int32) : dp_len (dq_498 v) 26 = (Int32.toNatClampNeg (dq_h (v 0) (12 : Int32))) := zl_26_497 v
theorem zl_27_498 (v : Nat → Int32) : dp_len (dq_498 v) 27 = (Int32.toNatClampNeg ((dq_h (v 0) (12 : Int32)) * (16 : Int32))) := zl_27_497 v
theorem zl_33_498 (v : Nat → Int32) : dp_len (dq_498 v) 33 = (Int32.toNatClampNeg (dq_h (v 2) (20 : Int32))) := zl_33_497 v
theorem zl_34_498 (v : Nat → Int32) : dp_len (dq_498 v) 34 = (Int32.toNatClampNeg (dq_h (v 2) (20 : Int32))) := zl_34_497 v
theorem zl_35_498 (v : Nat → Int32) : dp_len (dq_498 v) 35 = (Int32.toNatClampNeg (dq_h (v 2) (20 : Int32))) := zl_35_497 v
theorem zl_36_498 (v : Nat → Int32) : dp_len (dq_498 v) 36 = (Int32.toNatClampNeg ((dq_h (v 2) (20 : Int32)) * (dq_h (v 3) (8 : Int32)))) := zl_36_497 v
theorem zi_499 (v : Nat → Int32) (k i : Nat) : dp_I (dq_499 v) k i = sF_16 v k i := sz_n (dqn_498 v) (zi_498 v) (fun _ => rfl) k i
theorem zj_499 (v : Nat → Int32) (k i : Nat) : dp_J (dq_499 v) k i = 0 := sz_nJ (zj_498 v) k i
theorem zr_499 (v : Nat → Int32) (i : Nat) : dp_R (dq_499 v) 59 i = none := sz_nR (zr_498 v) i
theorem zl_25_499 (v : Nat → Int32) : dp_len (dq_499 v) 25 = (Int32.toNatClampNeg (dq_h (v 0) (12 : Int32))) := sz_nL (dqn_498 v) (by decide) (zl_25_498 v)
theorem zl_26_499 (v : Nat → Int32) : dp_len (dq_499 v) 26 = (Int32.toNatClampNeg (dq_h (v 0) (12 : Int32))) := sz_nL (dqn_498 v) (by decide) (zl_26_498 v)
theorem zl_27_499 (v : Nat → Int32) : dp_len (dq_499 v) 27 = (Int32.toNatClampNeg ((dq_h (v 0) (12 : Int32)) * (16 : Int32))) := sz_nL (dqn_498 v) (by decide) (zl_27_498 v)
theorem zl_33_499 (v : Nat → Int32) : dp_len (dq_499 v) 33 = (Int32.toNatClampNeg (dq_h (v 2) (20 : Int32))) := sz_nL (dqn_498 v) (by decide) (zl_33_498 v)
theorem zl_34_499 (v : Nat → Int32) : dp_len (dq_499 v) 34 = (Int32.toNatClampNeg (dq_h (v 2) (20 : Int32))) := sz_nL (dqn_498 v) (by decide) (zl_34_498 v)
theorem zl_35_499 (v : Nat → Int32) : dp_len (dq_499 v) 35 = (Int32.toNatClampNeg (dq_h (v 2) (20 : Int32))) := sz_nL (dqn_498 v) (by decide) (zl_35_498 v)
theorem zl_36_499 (v : Nat → Int32) : dp_len (dq_499 v) 36 = (Int32.toNatClampNeg ((dq_h (v 2) (20 : Int32)) * (dq_h (v 3) (8 : Int32)))) := sz_nL (dqn_498 v) (by decide) (zl_36_498 v)
theorem zi_500 (v : Nat → Int32) (k i : Nat) : dp_I (dq_500 v) k i = sF_16 v k i := zi_499 v k i
theorem zj_500 (v : Nat → Int32) (k i : Nat) : dp_J (dq_500 v) k i = 0 := zj_499 v k i
theorem zr_500 (v : Nat → Int32) (i : Nat) : dp_R (dq_500 v) 59 i = none := sz_rR (by decide) (zr_499 v) i
theorem zl_25_500 (v : Nat → Int32) : dp_len (dq_500 v) 25 = (Int32.toNatClampNeg (dq_h (v 0) (12 : Int32))) := zl_25_499 v
theorem zl_26_500 (v : Nat → Int32) : dp_len (dq_500 v) 26 = (Int32.toNatClampNeg (dq_h (v 0) (12 : Int32))) := zl_26_499 v
theorem zl_27_500 (v : Nat → Int32) : dp_len (dq_500 v) 27 = (Int32.toNatClampNeg ((dq_h (v 0) (12 : Int32)) * (16 : Int32))) := zl_27_499 v
theorem zl_33_500 (v : Nat → Int32) : dp_len (dq_500 v) 33 = (Int32.toNatClampNeg (dq_h (v 2) (20 : Int32))) := zl_33_499 v
theorem zl_34_500 (v : Nat → Int32) : dp_len (dq_500 v) 34 = (Int32.toNatClampNeg (dq_h (v 2) (20 : Int32))) := zl_34_499 v
theorem zl_35_500 (v : Nat → Int32) : dp_len (dq_500 v) 35 = (Int32.toNatClampNeg (dq_h (v 2) (20 : Int32))) := zl_35_499 v
theorem zl_36_500 (v : Nat → Int32) : dp_len (dq_500 v) 36 = (Int32.toNatClampNeg ((dq_h (v 2) (20 : Int32)) * (dq_h (v 3) (8 : Int32)))) := zl_36_499 v
theorem zi_501 (v : Nat → Int32) (k i : Nat) : dp_I (dq_501 v) k i = sF_16 v k i := sz_n (dqn_500 v) (zi_500 v) (fun _ => rfl) k i
theorem zj_501 (v : Nat → Int32) (k i : Nat) : dp_J (dq_501 v) k i = 0 := sz_nJ (zj_500 v) k i
theorem zr_501 (v : Nat → Int32) (i : Nat) : dp_R (dq_501 v) 59 i = none := sz_nR (zr_500 v) i
theorem zl_25_501 (v : Nat → Int32) : dp_len (dq_501 v) 25 = (Int32.toNatClampNeg (dq_h (v 0) (12 : Int32))) := sz_nL (dqn_500 v) (by decide) (zl_25_500 v)
theorem zl_26_501 (v : Nat → Int32) : dp_len (dq_501 v) 26 = (Int32.toNatClampNeg (dq_h (v 0) (12 : Int32))) := sz_nL (dqn_500 v) (by decide) (zl_26_500 v)
theorem zl_27_501 (v : Nat → Int32) : dp_len (dq_501 v) 27 = (Int32.toNatClampNeg ((dq_h (v 0) (12 : Int32)) * (16 : Int32))) := sz_nL (dqn_500 v) (by decide) (zl_27_500 v)
theorem zl_33_501 (v : Nat → Int32) : dp_len (dq_501 v) 33 = (Int32.toNatClampNeg (dq_h (v 2) (20 : Int32))) := sz_nL (dqn_500 v) (by decide) (zl_33_500 v)
theorem zl_34_501 (v : Nat → Int32) : dp_len (dq_501 v) 34 = (Int32.toNatClampNeg (dq_h (v 2) (20 : Int32))) := sz_nL (dqn_500 v) (by decide) (zl_34_500 v)
theorem zl_35_501 (v : Nat → Int32) : dp_len (dq_501 v) 35 = (Int32.toNatClampNeg (dq_h (v 2) (20 : Int32))) := sz_nL (dqn_500 v) (by decide) (zl_35_500 v)
theorem zl_36_501 (v : Nat → Int32) : dp_len (dq_501 v) 36 = (Int32.toNatClampNeg ((dq_h (v 2) (20 : Int32)) * (dq_h (v 3) (8 : Int32)))) := sz_nL (dqn_500 v) (by decide) (zl_36_500 v)
theorem zi_502 (v : Nat → Int32) (k i : Nat) : dp_I (dq_502 v) k i = sF_16 v k i := zi_501 v k i
theorem zj_502 (v : Nat → Int32) (k i : Nat) : dp_J (dq_502 v) k i = 0 := zj_501 v k i
theorem zr_502 (v : Nat → Int32) (i : Nat) : dp_R (dq_502 v) 59 i = none := sz_rR (by decide) (zr_501 v) i
theorem zl_25_502 (v : Nat → Int32) : dp_len (dq_502 v) 25 = (Int32.toNatClampNeg (dq_h (v 0) (12 : Int32))) := zl_25_501 v
theorem zl_26_502 (v : Nat → Int32) : dp_len (dq_502 v) 26 = (Int32.toNatClampNeg (dq_h (v 0) (12 : Int32))) := zl_26_501 v
theorem zl_27_502 (v : Nat → Int32) : dp_len (dq_502 v) 27 = (Int32.toNatClampNeg ((dq_h (v 0) (12 : Int32)) * (16 : Int32))) := zl_27_501 v
theorem zl_33_502 (v : Nat → Int32) : dp_len (dq_502 v) 33 = (Int32.toNatClampNeg (dq_h (v 2) (20 : Int32))) := zl_33_501 v
theorem zl_34_502 (v : Nat → Int32) : dp_len (dq_502 v) 34 = (Int32.toNatClampNeg (dq_h (v 2) (20 : Int32))) := zl_34_501 v
theorem zl_35_502 (v : Nat → Int32) : dp_len (dq_502 v) 35 = (Int32.toNatClampNeg (dq_h (v 2) (20 : Int32))) := zl_35_501 v
theorem zl_36_502 (v : Nat → Int32) : dp_len (dq_502 v) 36 = (Int32.toNatClampNeg ((dq_h (v 2) (20 : Int32)) * (dq_h (v 3) (8 : Int32)))) := zl_36_501 v
theorem zi_503 (v : Nat → Int32) (k i : Nat) : dp_I (dq_503 v) k i = sF_16 v k i := sz_n (dqn_502 v) (zi_502 v) (fun _ => rfl) k i
theorem zj_503 (v : Nat → Int32) (k i : Nat) : dp_J (dq_503 v) k i = 0 := sz_nJ (zj_502 v) k i
theorem zr_503 (v : Nat → Int32) (i : Nat) : dp_R (dq_503 v) 59 i = none := sz_nR (zr_502 v) i
theorem zl_25_503 (v : Nat → Int32) : dp_len (dq_503 v) 25 = (Int32.toNatClampNeg (dq_h (v 0) (12 : Int32))) := sz_nL (dqn_502 v) (by decide) (zl_25_502 v)
theorem zl_26_503 (v : Nat → Int32) : dp_len (dq_503 v) 26 = (Int32.toNatClampNeg (dq_h (v 0) (12 : Int32))) := sz_nL (dqn_502 v) (by decide) (zl_26_502 v)
theorem zl_27_503 (v : Nat → Int32) : dp_len (dq_503 v) 27 = (Int32.toNatClampNeg ((dq_h (v 0) (12 : Int32)) * (16 : Int32))) := sz_nL (dqn_502 v) (by decide) (zl_27_502 v)
theorem zl_33_503 (v : Nat → Int32) : dp_len (dq_503 v) 33 = (Int32.toNatClampNeg (dq_h (v 2) (20 : Int32))) := sz_nL (dqn_502 v) (by decide) (zl_33_502 v)
theorem zl_34_503 (v : Nat → Int32) : dp_len (dq_503 v) 34 = (Int32.toNatClampNeg (dq_h (v 2) (20 : Int32))) := sz_nL (dqn_502 v) (by decide) (zl_34_502 v)
theorem zl_35_503 (v : Nat → Int32) : dp_len (dq_503 v) 35 = (Int32.toNatClampNeg (dq_h (v 2) (20 : Int32))) := sz_nL (dqn_502 v) (by decide) (zl_35_502 v)
theorem zl_36_503 (v : Nat → Int32) : dp_len (dq_503 v) 36 = (Int32.toNatClampNeg ((dq_h (v 2) (20 : Int32)) * (dq_h (v 3) (8 : Int32)))) := sz_nL (dqn_502 v) (by decide) (zl_36_502 v)
theorem zi_504 (v : Nat → Int32) (k i : Nat) : dp_I (dq_504 v) k i = sF_16 v k i := zi_503 v k i
theorem zj_504 (v : Nat → Int32) (k i : Nat) : dp_J (dq_504 v) k i = 0 := zj_503 v k i
theorem zr_504 (v : Nat → Int32) (i : Nat) : dp_R (dq_504 v) 59 i = none := sz_rR (by decide) (zr_503 v) i
theorem zl_25_504 (v : Nat → Int32) : dp_len (dq_504 v) 25 = (Int32.toNatClampNeg (dq_h (v 0) (12 : Int32))) := zl_25_503 v
theorem zl_26_504 (v : Nat → Int32) : dp_len (dq_504 v) 26 = (Int32.toNatClampNeg (dq_h (v 0) (12 : Int32))) := zl_26_503 v
theorem zl_27_504 (v : Nat → Int32) : dp_len (dq_504 v) 27 = (Int32.toNatClampNeg ((dq_h (v 0) (12 : Int32)) * (16 : Int32))) := zl_27_503 v
theorem zl_33_504 (v : Nat → Int32) : dp_len (dq_504 v) 33 = (Int32.toNatClampNeg (dq_h (v 2) (20 : Int32))) := zl_33_503 v
theorem zl_34_504 (v : Nat → Int32) : dp_len (dq_504 v) 34 = (Int32.toNatClampNeg (dq_h (v 2) (20 : Int32))) := zl_34_503 v
theorem zl_35_504 (v : Nat → Int32) : dp_len (dq_504 v) 35 = (Int32.toNatClampNeg (dq_h (v 2) (20 : Int32))) := zl_35_503 v
theorem zl_36_504 (v : Nat → Int32) : dp_len (dq_504 v) 36 = (Int32.toNatClampNeg ((dq_h (v 2) (20 : Int32)) * (dq_h (v 3) (8 : Int32)))) := zl_36_503 v
theorem zi_505 (v : Nat → Int32) (k i : Nat) : dp_I (dq_505 v) k i = sF_16 v k i := sz_n (dqn_504 v) (zi_504 v) (fun _ => rfl) k i
theorem zj_505 (v : Nat → Int32) (k i : Nat) : dp_J (dq_505 v) k i = 0 := sz_nJ (zj_504 v) k i
theorem zr_505 (v : Nat → Int32) (i : Nat) : dp_R (dq_505 v) 59 i = none := sz_nR (zr_504 v) i
theorem zl_25_505 (v : Nat → Int32) : dp_len (dq_505 v) 25 = (Int32.toNatClampNeg (dq_h (v 0) (12 : Int32))) := sz_nL (dqn_504 v) (by decide) (zl_25_504 v)
theorem zl_26_505 (v : Nat → Int32) : dp_len (dq_505 v) 26 = (Int32.toNatClampNeg (dq_h (v 0) (12 : Int32))) := sz_nL (dqn_504 v) (by decide) (zl_26_504 v)
theorem zl_27_505 (v : Nat → Int32) : dp_len (dq_505 v) 27 = (Int32.toNatClampNeg ((dq_h (v 0) (12 : Int32)) * (16 : Int32))) := sz_nL (dqn_504 v) (by decide) (zl_27_504 v)
theorem zl_33_505 (v : Nat → Int32) : dp_len (dq_505 v) 33 = (Int32.toNatClampNeg (dq_h (v 2) (20 : Int32))) := sz_nL (dqn_504 v) (by decide) (zl_33_504 v)
theorem zl_34_505 (v : Nat → Int32) : dp_len (dq_505 v) 34 = (Int32.toNatClampNeg (dq_h (v 2) (20 : Int32))) := sz_nL (dqn_504 v) (by decide) (zl_34_504 v)
theorem zl_35_505 (v : Nat → Int32) : dp_len (dq_505 v) 35 = (Int32.toNatClampNeg (dq_h (v 2) (20 : Int32))) := sz_nL (dqn_504 v) (by decide) (zl_35_504 v)
theorem zl_36_505 (v : Nat → Int32) : dp_len (dq_505 v) 36 = (Int32.toNatClampNeg ((dq_h (v 2) (20 : Int32)) * (dq_h (v 3) (8 : Int32)))) := sz_nL (dqn_504 v) (by decide) (zl_36_504 v)
theorem zi_506 (v : Nat → Int32) (k i : Nat) : dp_I (dq_506 v) k i = sF_16 v k i := zi_505 v k i
theorem zj_506 (v : Nat → Int32) (k i : Nat) : dp_J (dq_506 v) k i = 0 := zj_505 v k i
theorem zr_506 (v : Nat → Int32) (i : Nat) : dp_R (dq_506 v) 59 i = none := sz_rR (by decide) (zr_505 v) i
theorem zl_25_506 (v : Nat → Int32) : dp_len (dq_506 v) 25 = (Int32.toNatClampNeg (dq_h (v 0) (12 : Int32))) := zl_25_505 v
theorem zl_26_506 (v : Nat → Int32) : dp_len (dq_506 v) 26 = (Int32.toNatClampNeg (dq_h (v 0) (12 : Int32))) := zl_26_505 v
theorem zl_27_506 (v : Nat → Int32) : dp_len (dq_506 v) 27 = (Int32.toNatClampNeg ((dq_h (v 0) (12 : Int32)) * (16 : Int32))) := zl_27_505 v
theorem zl_33_506 (v : Nat → Int32) : dp_len (dq_506 v) 33 = (Int32.toNatClampNeg (dq_h (v 2) (20 : Int32))) := zl_33_505 v
theorem zl_34_506 (v : Nat → Int32) : dp_len (dq_506 v) 34 = (Int32.toNatClampNeg (dq_h (v 2) (20 : Int32))) := zl_34_505 v
theorem zl_35_506 (v : Nat → Int32) : dp_len (dq_506 v) 35 = (Int32.toNatClampNeg (dq_h (v 2) (20 : Int32))) := zl_35_505 v
theorem zl_36_506 (v : Nat → Int32) : dp_len (dq_506 v) 36 = (Int32.toNatClampNeg ((dq_h (v 2) (20 : Int32)) * (dq_h (v 3) (8 : Int32)))) := zl_36_505 v
theorem zi_507 (v : Nat → Int32) (k i : Nat) : dp_I (dq_507 v) k i = sF_16 v k i := sz_n (dqn_506 v) (zi_506 v) (fun _ => rfl) k i
theorem zj_507 (v : Nat → Int32) (k i : Nat) : dp_J (dq_507 v) k i = 0 := sz_nJ (zj_506 v) k i
theorem zr_507 (v : Nat → Int32) (i : Nat) : dp_R (dq_507 v) 59 i = none := sz_nR (zr_506 v) i
theorem zl_25_507 (v : Nat → Int32) : dp_len (dq_507 v) 25 = (Int32.toNatClampNeg (dq_h (v 0) (12 : Int32))) := sz_nL (dqn_506 v) (by decide) (zl_25_506 v)
theorem zl_26_507 (v : Nat → Int32) : dp_len (dq_507 v) 26 = (Int32.toNatClampNeg (dq_h (v 0) (12 : Int32))) := sz_nL (dqn_506 v) (by decide) (zl_26_506 v)
theorem zl_27_507 (v : Nat → Int32) : dp_len (dq_507 v) 27 = (Int32.toNatClampNeg ((dq_h (v 0) (12 : Int32)) * (16 : Int32))) := sz_nL (dqn_506 v) (by decide) (zl_27_506 v)
theorem zl_33_507 (v : Nat → Int32) : dp_len (dq_507 v) 33 = (Int32.toNatClampNeg (dq_h (v 2) (20 : Int32))) := sz_nL (dqn_506 v) (by decide) (zl_33_506 v)
theorem zl_34_507 (v : Nat → Int32) : dp_len (dq_507 v) 34 = (Int32.toNatClampNeg (dq_h (v 2) (20 : Int32))) := sz_nL (dqn_506 v) (by decide) (zl_34_506 v)
theorem zl_35_507 (v : Nat → Int32) : dp_len (dq_507 v) 35 = (Int32.toNatClampNeg (dq_h (v 2) (20 : Int32))) := sz_nL (dqn_506 v) (by decide) (zl_35_506 v)
theorem zl_36_507 (v : Nat → Int32) : dp_len (dq_507 v) 36 = (Int32.toNatClampNeg ((dq_h (v 2) (20 : Int32)) * (dq_h (v 3) (8 : Int32)))) := sz_nL (dqn_506 v) (by decide) (zl_36_506 v)
theorem zi_508 (v : Nat → Int32) (k i : Nat) : dp_I (dq_508 v) k i = sF_16 v k i := zi_507 v k i
theorem zj_508 (v : Nat → Int32) (k i : Nat) : dp_J (dq_508 v) k i = 0 := zj_507 v k i
theorem zr_508 (v : Nat → Int32) (i : Nat) : dp_R (dq_508 v) 59 i = none := sz_rR (by decide) (zr_507 v) i
theorem zl_25_508 (v : Nat → Int32) : dp_len (dq_508 v) 25 = (Int32.toNatClampNeg (dq_h (v 0) (12 : Int32))) := zl_25_507 v
theorem zl_26_508 (v : Nat → Int32) : dp_len (dq_508 v) 26 = (Int32.toNatClampNeg (dq_h (v 0) (12 : Int32))) := zl_26_507 v
theorem zl_27_508 (v : Nat → Int32) : dp_len (dq_508 v) 27 = (Int32.toNatClampNeg ((dq_h (v 0) (12 : Int32)) * (16 : Int32))) := zl_27_507 v
theorem zl_33_508 (v : Nat → Int32) : dp_len (dq_508 v) 33 = (Int32.toNatClampNeg (dq_h (v 2) (20 : Int32))) := zl_33_507 v
theorem zl_34_508 (v : Nat → Int32) : dp_len (dq_508 v) 34 = (Int32.toNatClampNeg (dq_h (v 2) (20 : Int32))) := zl_34_507 v
theorem zl_35_508 (v : Nat → Int32) : dp_len (dq_508 v) 35 = (Int32.toNatClampNeg (dq_h (v 2) (20 : Int32))) := zl_35_507 v
theorem zl_36_508 (v : Nat → Int32) : dp_len (dq_508 v) 36 = (Int32.toNatClampNeg ((dq_h (v 2) (20 : Int32)) * (dq_h (v 3) (8 : Int32)))) := zl_36_507 v
theorem zi_509 (v : Nat → Int32) (k i : Nat) : dp_I (dq_509 v) k i = sF_16 v k i := sz_n (dqn_508 v) (zi_508 v) (fun _ => rfl) k i
theorem zj_509 (v : Nat → Int32) (k i : Nat) : dp_J (dq_509 v) k i = 0 := sz_nJ (zj_508 v) k i
theorem zr_509 (v : Nat → Int32) (i : Nat) : dp_R (dq_509 v) 59 i = none := sz_nR (zr_508 v) i
theorem zl_25_509 (v : Nat → Int32) : dp_len (dq_509 v) 25 = (Int32.toNatClampNeg (dq_h (v 0) (12 : Int32))) := sz_nL (dqn_508 v) (by decide) (zl_25_508 v)
theorem zl_26_509 (v : Nat → Int32) : dp_len (dq_509 v) 26 = (Int32.toNatClampNeg (dq_h (v 0) (12 : Int32))) := sz_nL (dqn_508 v) (by decide) (zl_26_508 v)
theorem zl_27_509 (v : Nat → Int32) : dp_len (dq_509 v) 27 = (Int32.toNatClampNeg ((dq_h (v 0) (12 : Int32)) * (16 : Int32))) := sz_nL (dqn_508 v) (by decide) (zl_27_508 v)
theorem zl_33_509 (v : Nat → Int32) : dp_len (dq_509 v) 33 = (Int32.toNatClampNeg (dq_h (v 2) (20 : Int32))) := sz_nL (dqn_508 v) (by decide) (zl_33_508 v)
theorem zl_34_509 (v : Nat → Int32) : dp_len (dq_509 v) 34 = (Int32.toNatClampNeg (dq_h (v 2) (20 : Int32))) := sz_nL (dqn_508 v) (by decide) (zl_34_508 v)
theorem zl_35_509 (v : Nat → Int32) : dp_len (dq_509 v) 35 = (Int32.toNatClampNeg (dq_h (v 2) (20 : Int32))) := sz_nL (dqn_508 v) (by decide) (zl_35_508 v)
theorem zl_36_509 (v : Nat → Int32) : dp_len (dq_509 v) 36 = (Int32.toNatClampNeg ((dq_h (v 2) (20 : Int32)) * (dq_h (v 3) (8 : Int32)))) := sz_nL (dqn_508 v) (by decide) (zl_36_508 v)
theorem zi_510 (v : Nat → Int32) (k i : Nat) : dp_I (dq_510 v) k i = sF_16 v k i := zi_509 v k i
theorem zj_510 (v : Nat → Int32) (k i : Nat) : dp_J (dq_510 v) k i = 0 := zj_509 v k i
theorem zr_510 (v : Nat → Int32) (i : Nat) : dp_R (dq_510 v) 59 i = none := sz_rR (by decide) (zr_509 v) i
theorem zl_25_510 (v : Nat → Int32) : dp_len (dq_510 v) 25 = (Int32.toNatClampNeg (dq_h (v 0) (12 : Int32))) := zl_25_509 v
theorem zl_26_510 (v : Nat → Int32) : dp_len (dq_510 v) 26 = (Int32.toNatClampNeg (dq_h (v 0) (12 : Int32))) := zl_26_509 v
theorem zl_27_510 (v : Nat → Int32) : dp_len (dq_510 v) 27 = (Int32.toNatClampNeg ((dq_h (v 0) (12 : Int32)) * (16 : Int32))) := zl_27_509 v
theorem zl_33_510 (v : Nat → Int32) : dp_len (dq_510 v) 33 = (Int32.toNatClampNeg (dq_h (v 2) (20 : Int32))) := zl_33_509 v
theorem zl_34_510 (v : Nat → Int32) : dp_len (dq_510 v) 34 = (Int32.toNatClampNeg (dq_h (v 2) (20 : Int32))) := zl_34_509 v
theorem zl_35_510 (v : Nat → Int32) : dp_len (dq_510 v) 35 = (Int32.toNatClampNeg (dq_h (v 2) (20 : Int32))) := zl_35_509 v
theorem zl_36_510 (v : Nat → Int32) : dp_len (dq_510 v) 36 = (Int32.toNatClampNeg ((dq_h (v 2) (20 : Int32)) * (dq_h (v 3) (8 : Int32)))) := zl_36_509 v
theorem zi_511 (v : Nat → Int32) (k i : Nat) : dp_I (dq_511 v) k i = sF_16 v k i := sz_n (dqn_510 v) (zi_510 v) (fun _ => rfl) k i
theorem zj_511 (v : Nat → Int32) (k i : Nat) : dp_J (dq_511 v) k i = 0 := sz_nJ (zj_510 v) k i
theorem zr_511 (v : Nat → Int32) (i : Nat) : dp_R (dq_511 v) 59 i = none := sz_nR (zr_510 v) i
theorem zl_25_511 (v : Nat → Int32) : dp_len (dq_511 v) 25 = (Int32.toNatClampNeg (dq_h (v 0) (12 : Int32))) := sz_nL (dqn_510 v) (by decide) (zl_25_510 v)
theorem zl_26_511 (v : Nat → Int32) : dp_len (dq_511 v) 26 = (Int32.toNatClampNeg (dq_h (v 0) (12 : Int32))) := sz_nL (dqn_510 v) (by decide) (zl_26_510 v)
theorem zl_27_511 (v : Nat → Int32) : dp_len (dq_511 v) 27 = (Int32.toNatClampNeg ((dq_h (v 0) (12 : Int32)) * (16 : Int32))) := sz_nL (dqn_510 v) (by decide) (zl_27_510 v)
theorem zl_33_511 (v : Nat → Int32) : dp_len (dq_511 v) 33 = (Int32.toNatClampNeg (dq_h (v 2) (20 : Int32))) := sz_nL (dqn_510 v) (by decide) (zl_33_510 v)
theorem zl_34_511 (v : Nat → Int32) : dp_len (dq_511 v) 34 = (Int32.toNatClampNeg (dq_h (v 2) (20 : Int32))) := sz_nL (dqn_510 v) (by decide) (zl_34_510 v)
theorem zl_35_511 (v : Nat → Int32) : dp_len (dq_511 v) 35 = (Int32.toNatClampNeg (dq_h (v 2) (20 : Int32))) := sz_nL (dqn_510 v) (by decide) (zl_35_510 v)
theorem zl_36_511 (v : Nat → Int32) : dp_len (dq_511 v) 36 = (Int32.toNatClampNeg ((dq_h (v 2) (20 : Int32)) * (dq_h (v 3) (8 : Int32)))) := sz_nL (dqn_510 v) (by decide) (zl_36_510 v)
theorem zi_512 (v : Nat → Int32) (k i : Nat) : dp_I (dq_512 v) k i = sF_16 v k i := zi_511 v k i
theorem zj_512 (v : Nat → Int32) (k i : Nat) : dp_J (dq_512 v) k i = 0 := zj_511 v k i
theorem zr_512 (v : Nat → Int32) (i : Nat) : dp_R (dq_512 v) 59 i = none := sz_rR (by decide) (zr_511 v) i
theorem zl_25_512 (v : Nat → Int32) : dp_len (dq_512 v) 25 = (Int32.toNatClampNeg (dq_h (v 0) (12 : Int32))) := zl_25_511 v
theorem zl_26_512 (v : Nat → Int32) : dp_len (dq_512 v) 26 = (Int32.toNatClampNeg (dq_h (v 0) (12 : Int32))) := zl_26_511 v
theorem zl_27_512 (v : Nat → Int32) : dp_len (dq_512 v) 27 = (Int32.toNatClampNeg ((dq_h (v 0) (12 : Int32)) * (16 : Int32))) := zl_27_511 v
theorem zl_33_512 (v : Nat → Int32) : dp_len (dq_512 v) 33 = (Int32.toNatClampNeg (dq_h (v 2) (20 : Int32))) := zl_33_511 v
theorem zl_34_512 (v : Nat → Int32) : dp_len (dq_512 v) 34 = (Int32.toNatClampNeg (dq_h (v 2) (20 : Int32))) := zl_34_511 v
theorem zl_35_512 (v : Nat → Int32) : dp_len (dq_512 v) 35 = (Int32.toNatClampNeg (dq_h (v 2) (20 : Int32))) := zl_35_511 v
theorem zl_36_512 (v : Nat → Int32) : dp_len (dq_512 v) 36 = (Int32.toNatClampNeg ((dq_h (v 2) (20 : Int32)) * (dq_h (v 3) (8 : Int32)))) := zl_36_511 v
def sF_17 (v : Nat → Int32) (k i : Nat) : Int32 := if k = 114 ∧ i = 1 then (dq_g (v 0) (12 : Int32)) else sF_16 v k i
theorem zi_513 (v : Nat → Int32) (k i : Nat) : dp_I (dq_513 v) k i = sF_17 v k i := sz_i (zi_512 v) k i
theorem zj_513 (v : Nat → Int32) (k i : Nat) : dp_J (dq_513 v) k i = 0 := zj_512 v k i
theorem zr_513 (v : Nat → Int32) (i : Nat) : dp_R (dq_513 v) 59 i = none := zr_512 v i
theorem zl_25_513 (v : Nat → Int32) : dp_len (dq_513 v) 25 = (Int32.toNatClampNeg (dq_h (v 0) (12 : Int32))) := zl_25_512 v
theorem zl_26_513 (v : Nat → Int32) : dp_len (dq_513 v) 26 = (Int32.toNatClampNeg (dq_h (v 0) (12 : Int32))) := zl_26_512 v
theorem zl_27_513 (v : Nat → Int32) : dp_len (dq_513 v) 27 = (Int32.toNatClampNeg ((dq_h (v 0) (12 : Int32)) * (16 : Int32))) := zl_27_512 v
theorem zl_33_513 (v : Nat → Int32) : dp_len (dq_513 v) 33 = (Int32.toNatClampNeg (dq_h (v 2) (20 : Int32))) := zl_33_512 v
theorem zl_34_513 (v : Nat → Int32) : dp_len (dq_513 v) 34 = (Int32.toNatClampNeg (dq_h (v 2) (20 : Int32))) := zl_34_512 v
theorem zl_35_513 (v : Nat → Int32) : dp_len (dq_513 v) 35 = (Int32.toNatClampNeg (dq_h (v 2) (20 : Int32))) := zl_35_512 v
theorem zl_36_513 (v : Nat → Int32) : dp_len (dq_513 v) 36 = (Int32.toNatClampNeg ((dq_h (v 2) (20 : Int32)) * (dq_h (v 3) (8 : Int32)))) := zl_36_512 v
def sF_18 (v : Nat → Int32) (k i : Nat) : Int32 := if k = 114 ∧ i = 2 then (dq_g (v 1) (4 : Int32)) else sF_17 v k i
theorem zi_514 (v : Nat → Int32) (k i : Nat) : dp_I (dq_514 v) k i = sF_18 v k i := sz_i (zi_513 v) k i
theorem zj_514 (v : Nat → Int32) (k i : Nat) : dp_J (dq_514 v) k i = 0 := zj_513 v k i
theorem zr_514 (v : Nat → Int32) (i : Nat) : dp_R (dq_514 v) 59 i = none := zr_513 v i
theorem zl_25_514 (v : Nat → Int32) : dp_len (dq_514 v) 25 = (Int32.toNatClampNeg (dq_h (v 0) (12 : Int32))) := zl_25_513 v
theorem zl_26_514 (v : Nat → Int32) : dp_len (dq_514 v) 26 = (Int32.toNatClampNeg (dq_h (v 0) (12 : Int32))) := zl_26_513 v
theorem zl_27_514 (v : Nat → Int32) : dp_len (dq_514 v) 27 = (Int32.toNatClampNeg ((dq_h (v 0) (12 : Int32)) * (16 : Int32))) := zl_27_513 v
theorem zl_33_514 (v : Nat → Int32) : dp_len (dq_514 v) 33 = (Int32.toNatClampNeg (dq_h (v 2) (20 : Int32))) := zl_33_513 v
theorem zl_34_514 (v : Nat → Int32) : dp_len (dq_514 v) 34 = (Int32.toNatClampNeg (dq_h (v 2) (20 : Int32))) := zl_34_513 v
theorem zl_35_514 (v : Nat → Int32) : dp_len (dq_514 v) 35 = (Int32.toNatClampNeg (dq_h (v 2) (20 : Int32))) := zl_35_513 v
theorem zl_36_514 (v : Nat → Int32) : dp_len (dq_514 v) 36 = (Int32.toNatClampNeg ((dq_h (v 2) (20 : Int32)) * (dq_h (v 3) (8 : Int32)))) := zl_36_513 v
def sF_19 (v : Nat → Int32) (k i : Nat) : Int32 := if k = 114 ∧ i = 25 then (dq_g (v 2) (20 : Int32)) else sF_18 v k i
theorem zi_515 (v : Nat → Int32) (k i : Nat) : dp_I (dq_515 v) k i = sF_19 v k i := sz_i (zi_514 v) k i
theorem zj_515 (v : Nat → Int32) (k i : Nat) : dp_J (dq_515 v) k i = 0 := zj_514 v k i
theorem zr_515 (v : Nat → Int32) (i : Nat) : dp_R (dq_515 v) 59 i = none := zr_514 v i
theorem zl_25_515 (v : Nat → Int32) : dp_len (dq_515 v) 25 = (Int32.toNatClampNeg (dq_h (v 0) (12 : Int32))) := zl_25_514 v
theorem zl_26_515 (v : Nat → Int32) : dp_len (dq_515 v) 26 = (Int32.toNatClampNeg (dq_h (v 0) (12 : Int32))) := zl_26_514 v
theorem zl_27_515 (v : Nat → Int32) : dp_len (dq_515 v) 27 = (Int32.toNatClampNeg ((dq_h (v 0) (12 : Int32)) * (16 : Int32))) := zl_27_514 v
theorem zl_33_515 (v : Nat → Int32) : dp_len (dq_515 v) 33 = (Int32.toNatClampNeg (dq_h (v 2) (20 : Int32))) := zl_33_514 v
theorem zl_34_515 (v : Nat → Int32) : dp_len (dq_515 v) 34 = (Int32.toNatClampNeg (dq_h (v 2) (20 : Int32))) := zl_34_514 v
theorem zl_35_515 (v : Nat → Int32) : dp_len (dq_515 v) 35 = (Int32.toNatClampNeg (dq_h (v 2) (20 : Int32))) := zl_35_514 v
theorem zl_36_515 (v : Nat → Int32) : dp_len (dq_515 v) 36 = (Int32.toNatClampNeg ((dq_h (v 2) (20 : Int32)) * (dq_h (v 3) (8 : Int32)))) := zl_36_514 v
def sF_20 (v : Nat → Int32) (k i : Nat) : Int32 := if k = 114 ∧ i = 26 then (dq_g (v 3) (8 : Int32)) else sF_19 v k i
theorem zi_516 (v : Nat → Int32) (k i : Nat) : dp_I (dq_516 v) k i = sF_20 v k i := sz_i (zi_515 v) k i
theorem zj_516 (v : Nat → Int32) (k i : Nat) : dp_J (dq_516 v) k i = 0 := zj_515 v k i
theorem zr_516 (v : Nat → Int32) (i : Nat) : dp_R (dq_516 v) 59 i = none := zr_515 v i
theorem zl_25_516 (v : Nat → Int32) : dp_len (dq_516 v) 25 = (Int32.toNatClampNeg (dq_h (v 0) (12 : Int32))) := zl_25_515 v
theorem zl_26_516 (v : Nat → Int32) : dp_len (dq_516 v) 26 = (Int32.toNatClampNeg (dq_h (v 0) (12 : Int32))) := zl_26_515 v
theorem zl_27_516 (v : Nat → Int32) : dp_len (dq_516 v) 27 = (Int32.toNatClampNeg ((dq_h (v 0) (12 : Int32)) * (16 : Int32))) := zl_27_515 v
theorem zl_33_516 (v : Nat → Int32) : dp_len (dq_516 v) 33 = (Int32.toNatClampNeg (dq_h (v 2) (20 : Int32))) := zl_33_515 v
theorem zl_34_516 (v : Nat → Int32) : dp_len (dq_516 v) 34 = (Int32.toNatClampNeg (dq_h (v 2) (20 : Int32))) := zl_34_515 v
theorem zl_35_516 (v : Nat → Int32) : dp_len (dq_516 v) 35 = (Int32.toNatClampNeg (dq_h (v 2) (20 : Int32))) := zl_35_515 v
theorem zl_36_516 (v : Nat → Int32) : dp_len (dq_516 v) 36 = (Int32.toNatClampNeg ((dq_h (v 2) (20 : Int32)) * (dq_h (v 3) (8 : Int32)))) := zl_36_515 v
def sF_21 (v : Nat → Int32) (k i : Nat) : Int32 := if k = 114 ∧ i = 27 then (dq_g (v 4) (400 : Int32)) else sF_20 v k i
theorem zi_517 (v : Nat → Int32) (k i : Nat) : dp_I (dq_517 v) k i = sF_21 v k i := sz_i (zi_516 v) k i
theorem zj_517 (v : Nat → Int32) (k i : Nat) : dp_J (dq_517 v) k i = 0 := zj_516 v k i
theorem zr_517 (v : Nat → Int32) (i : Nat) : dp_R (dq_517 v) 59 i = none := zr_516 v i
theorem zl_25_517 (v : Nat → Int32) : dp_len (dq_517 v) 25 = (Int32.toNatClampNeg (dq_h (v 0) (12 : Int32))) := zl_25_516 v
theorem zl_26_517 (v : Nat → Int32) : dp_len (dq_517 v) 26 = (Int32.toNatClampNeg (dq_h (v 0) (12 : Int32))) := zl_26_516 v
theorem zl_27_517 (v : Nat → Int32) : dp_len (dq_517 v) 27 = (Int32.toNatClampNeg ((dq_h (v 0) (12 : Int32)) * (16 : Int32))) := zl_27_516 v
theorem zl_33_517 (v : Nat → Int32) : dp_len (dq_517 v) 33 = (Int32.toNatClampNeg (dq_h (v 2) (20 : Int32))) := zl_33_516 v
theorem zl_34_517 (v : Nat → Int32) : dp_len (dq_517 v) 34 = (Int32.toNatClampNeg (dq_h (v 2) (20 : Int32))) := zl_34_516 v
theorem zl_35_517 (v : Nat → Int32) : dp_len (dq_517 v) 35 = (Int32.toNatClampNeg (dq_h (v 2) (20 : Int32))) := zl_35_516 v
theorem zl_36_517 (v : Nat → Int32) : dp_len (dq_517 v) 36 = (Int32.toNatClampNeg ((dq_h (v 2) (20 : Int32)) * (dq_h (v 3) (8 : Int32)))) := zl_36_516 v
theorem zi_518 (v : Nat → Int32) (k i : Nat) : dp_I (dq_518 v) k i = sF_21 v k i := zi_517 v k i
theorem zr_518 (v : Nat → Int32) (i : Nat) : dp_R (dq_518 v) 59 i = none := zr_517 v i
theorem zl_25_518 (v : Nat → Int32) : dp_len (dq_518 v) 25 = (Int32.toNatClampNeg (dq_h (v 0) (12 : Int32))) := zl_25_517 v
theorem zl_26_518 (v : Nat → Int32) : dp_len (dq_518 v) 26 = (Int32.toNatClampNeg (dq_h (v 0) (12 : Int32))) := zl_26_517 v
theorem zl_27_518 (v : Nat → Int32) : dp_len (dq_518 v) 27 = (Int32.toNatClampNeg ((dq_h (v 0) (12 : Int32)) * (16 : Int32))) := zl_27_517 v
theorem zl_33_518 (v : Nat → Int32) : dp_len (dq_518 v) 33 = (Int32.toNatClampNeg (dq_h (v 2) (20 : Int32))) := zl_33_517 v
theorem zl_34_518 (v : Nat → Int32) : dp_len (dq_518 v) 34 = (Int32.toNatClampNeg (dq_h (v 2) (20 : Int32))) := zl_34_517 v
theorem zl_35_518 (v : Nat → Int32) : dp_len (dq_518 v) 35 = (Int32.toNatClampNeg (dq_h (v 2) (20 : Int32))) := zl_35_517 v
theorem zl_36_518 (v : Nat → Int32) : dp_len (dq_518 v) 36 = (Int32.toNatClampNeg ((dq_h (v 2) (20 : Int32)) * (dq_h (v 3) (8 : Int32)))) := zl_36_517 v
theorem zi_519 (v : Nat → Int32) (k i : Nat) : dp_I (dq_519 v) k i = sF_21 v k i := sz_n (dqn_518 v) (zi_518 v) (fun _ => rfl) k i
theorem zr_519 (v : Nat → Int32) (i : Nat) : dp_R (dq_519 v) 59 i = none := sz_nR (zr_518 v) i
theorem zl_25_519 (v : Nat → Int32) : dp_len (dq_519 v) 25 = (Int32.toNatClampNeg (dq_h (v 0) (12 : Int32))) := sz_nL (dqn_518 v) (by decide) (zl_25_518 v)
theorem zl_26_519 (v : Nat → Int32) : dp_len (dq_519 v) 26 = (Int32.toNatClampNeg (dq_h (v 0) (12 : Int32))) := sz_nL (dqn_518 v) (by decide) (zl_26_518 v)
theorem zl_27_519 (v : Nat → Int32) : dp_len (dq_519 v) 27 = (Int32.toNatClampNeg ((dq_h (v 0) (12 : Int32)) * (16 : Int32))) := sz_nL (dqn_518 v) (by decide) (zl_27_518 v)
theorem zl_33_519 (v : Nat → Int32) : dp_len (dq_519 v) 33 = (Int32.toNatClampNeg (dq_h (v 2) (20 : Int32))) := sz_nL (dqn_518 v) (by decide) (zl_33_518 v)
theorem zl_34_519 (v : Nat → Int32) : dp_len (dq_519 v) 34 = (Int32.toNatClampNeg (dq_h (v 2) (20 : Int32))) := sz_nL (dqn_518 v) (by decide) (zl_34_518 v)
theorem zl_35_519 (v : Nat → Int32) : dp_len (dq_519 v) 35 = (Int32.toNatClampNeg (dq_h (v 2) (20 : Int32))) := sz_nL (dqn_518 v) (by decide) (zl_35_518 v)
theorem zl_36_519 (v : Nat → Int32) : dp_len (dq_519 v) 36 = (Int32.toNatClampNeg ((dq_h (v 2) (20 : Int32)) * (dq_h (v 3) (8 : Int32)))) := sz_nL (dqn_518 v) (by decide) (zl_36_518 v)
theorem zj_519 (v : Nat → Int32) (k i : Nat) : dp_J (dq_519 v) k i = if k = 240 ∧ i < 3200 then -1 else 0 := by
  have e : ∀ k i, dp_J (dq_518 v) k i = if k = 240 ∧ i < 3200 then -1 else 0 := fun k i => by
    show (if k = 240 ∧ i < 3200 then (-1 : Int64) else dp_J (dq_517 v) k i) = _
    rw [zj_517 v k i]
  show (if k = dp_n (dq_518 v) then (0 : Int64) else dp_J (dq_518 v) k i) = _
  by_cases z : k = dp_n (dq_518 v)
  · rw [if_pos z, if_neg (fun w => by rw [dqn_518 v] at z; omega)]
  · rw [if_neg z, e]
end StA
