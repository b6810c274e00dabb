-- needs: 71 72 73 74 75 76
/-! PLAN: the class's rows: an end, a state read -/
/-- box i keeps c from being an end -/
def ebd (l : Nat → Int32) (c i : Nat) : Bool := decide (pl c i = 13 ∨ (¬ l i = 0 ∧ ¬ pl c i = 12))
theorem ebd_t {l : Nat → Int32} {c i : Nat} : ebd l c i = true ↔ pl c i = 13 ∨ (¬ l i = 0 ∧ ¬ pl c i = 12) := decide_eq_true_iff
def eok (l : Nat → Int32) (n c : Nat) : Bool := decide (∀ i, i < n → ebd l c i = false)
theorem eok_t {l : Nat → Int32} {n c : Nat} : eok l n c = true ↔ ∀ i, i < n → ebd l c i = false := decide_eq_true_iff
theorem lp_no {F : Nat → Option dp_Res} (p : Nat → Bool) {N : Nat} {M : dp_M} (he : F N = iR 1 M) (h1 : ∀ i, i < N → p i = true → F i = iR 0 M) (h0 : ∀ i r, i < N → p i = false → F (i + 1) = some r → F i = some r) : F 0 = iR (bI (decide (∀ i, i < N → p i = false) = true)) M := by
  rcases fst_or p 0 N with ⟨j, -, hj, hp, hb⟩ | h
  · rw [bI, if_neg (fun q => by rw [decide_eq_true_iff.mp q j hj] at hp; cases hp)]
    exact lpf (Nat.zero_le j) (fun i _ hi hr => h0 i _ (by omega) (hb i (Nat.zero_le _) hi) hr) (h1 j hj hp)
  · rw [bI, if_pos (decide_eq_true_iff.mpr (fun i hi => h i (Nat.zero_le _) hi))]
    exact lpf (Nat.zero_le N) (fun i _ hi hr => h0 i _ hi (h i (Nat.zero_le _) hi) hr) he
section PnB
variable {xs : Nat → Int32} {xl d : Nat} {M : dp_M}
theorem c_end {n c : Nat} (hn : n ≤ 4) (hb : dp_I M 14 12 = nI n) (hc : c < 65536) : dp_den true xs xl (d + 1) 108 [.ref 14, .int (nI c)] M = iR (bI (eok (dp_I M 21) n c = true)) M := by
  have hl : D_X4_isEnd_2 xs xl d (nI c) (nI 0) M = iR (bI (eok (dp_I M 21) n c = true)) M := by
    refine lp_no (F := fun i => D_X4_isEnd_2 xs xl d (nI c) (nI i) M) (ebd (dp_I M 21) c) ?_ (fun i hi hp => ?_) (fun i r hi hp hr => ?_)
    · (try dsimp only)
      rw [D_X4_isEnd_2_eq, hb, if_pos (nI_lle (Nat.le_refl _) (by omega))]
    · (try dsimp only)
      rw [D_X4_isEnd_2_eq, hb, if_neg (nI_nge hi (by omega))]
      simp only [dp_w, c_pl hc (show i < 4 by omega), nI_cl (show i < 2147483648 by omega), nI_o (show i < 4 by omega) (by omega), if_false]
      have := pl_lt c i
      rcases ebd_t.mp hp with e | ⟨e1, e2⟩
      · rw [e]; exact if_pos rfl
      · by_cases z : pl c i = 13
        · rw [z]; exact if_pos rfl
        · rw [if_neg (show ¬ nI (pl c i) = 13 from fun q => z ((nI_eq (by omega) (by omega)).mp (show nI (pl c i) = nI 13 from q))), if_neg e1, if_neg (show ¬ nI (pl c i) = 12 from fun q => e2 ((nI_eq (by omega) (by omega)).mp (show nI (pl c i) = nI 12 from q)))]
    · (try dsimp only at hr); (try dsimp only)
      rw [D_X4_isEnd_2_eq, hb, if_neg (nI_nge hi (by omega))]
      simp only [dp_w, c_pl hc (show i < 4 by omega), nI_cl (show i < 2147483648 by omega), nI_o (show i < 4 by omega) (by omega), if_false, nI_1]
      have := pl_lt c i
      have hp' : ¬ (pl c i = 13 ∨ (¬ dp_I M 21 i = 0 ∧ ¬ pl c i = 12)) := fun q => by rw [ebd_t.mpr q] at hp; cases hp
      rw [if_neg (show ¬ nI (pl c i) = 13 from fun q => hp' (Or.inl ((nI_eq (by omega) (by omega)).mp (show nI (pl c i) = nI 13 from q))))]
      by_cases z : dp_I M 21 i = 0
      · rw [if_pos z]; exact D_X4_isEnd_2_to_2_a _ _ _ hr
      · have e : pl c i = 12 := Classical.byContradiction (fun q => hp' (Or.inr ⟨z, q⟩))
        rw [if_neg z, e]
        rw [if_pos (show nI 12 = 12 from rfl)]; exact D_X4_isEnd_2_to_2_a _ _ _ hr
  rw [D_X4_isEnd_0_den, D_X4_isEnd_0_eq]; exact hl
end PnB
