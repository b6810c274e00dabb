-- needs: 71 72 73 74
/-! RATES: print: steps against their text -/
section Rz
variable {t : Nat → Int32} {L : Nat}
theorem p6 {a k : Nat} (h : a < 10 ^ k) (hk : k ≤ 6) : a < 1000000 := Nat.lt_of_lt_of_le h (Nat.pow_le_pow_right (by omega) hk)
theorem rWh_pr {p x q : Nat} (h : rWh t L p = .inr (x, q)) : x < 1000000 ∧ (wS x).length + p ≤ q := by
  unfold rWh at h
  have g := sk_ge (t := t) (L := L) (p := p)
  split at h
  · rename_i k1
    injection h with h; injection h with h1 h2
    have v := vN_d (t := t) (L := L) (p := sk t L p)
    have l := wS_le k1.1 v
    have v6 := p6 v k1.2
    rw [h1] at l v6
    omega
  · cases h
theorem rSt_pr {p f c q : Nat} (h : rSt t L p = .inr (f, c, q)) : f < 1000000 ∧ c < 1000000 ∧ (wS f).length + 1 + (wS c).length + p ≤ q := by
  unfold rSt at h
  split at h
  · cases h
  · rename_i f0 q0 e0
    obtain ⟨a1, a2⟩ := rWh_pr e0
    split at h
    · cases h
    · rename_i q1 e1
      have b := (pss_gt e1).1
      split at h
      · cases h
      · rename_i c0 q2 e2
        obtain ⟨d1, d2⟩ := rWh_pr e2
        injection h with h; injection h with h1 h2; injection h2 with h2 h3
        subst h1 h2 h3
        omega
theorem rwS_app {a b : List (Int32 × Int32)} : ∀ k, k ≤ a.length → rwS (a ++ b) k = rwS a k
  | 0, _ => rfl
  | k + 1, h => by
    unfold rwS
    rw [rwS_app k (by omega), gl (by omega)]
def rl (a : List (Nat × Nat)) : Nat := (rwS (rws a) a.length).length
theorem rl_s {a : List (Nat × Nat)} {f c : Nat} (hf : f < 1000000) (hc : c < 1000000) : rl (a ++ [(f, c)]) = rl a + (2 + (wS f).length + 1 + (wS c).length) := by
  unfold rl
  have e : rws (a ++ [(f, c)]) = rws a ++ [(nI f, nI c)] := by unfold rws; rw [List.map_append]; rfl
  have ln : (rws a).length = a.length := by unfold rws; rw [List.length_map]
  rw [List.length_append, List.length_singleton, e]
  show (rwS (rws a ++ [(nI f, nI c)]) a.length ++ ((if a.length = 0 then [nI 58, nI 32] else [nI 44, nI 32]) ++ (wS ((rws a ++ [(nI f, nI c)]).getD a.length (0, 0)).1.toNatClampNeg ++ (nI 61 :: wS ((rws a ++ [(nI f, nI c)]).getD a.length (0, 0)).2.toNatClampNeg)))).length = _
  have g : (rws a ++ [(nI f, nI c)]).getD a.length (0, 0) = (nI f, nI c) := by rw [gr' (by omega), ln, Nat.sub_self]; rfl
  have i2 : (if a.length = 0 then [nI 58, nI 32] else [nI 44, nI 32]).length = 2 := by split <;> rfl
  rw [rwS_app _ (by omega), g]
  show (rwS (rws a) a.length ++ (_ ++ (wS (nI f).toNatClampNeg ++ (nI 61 :: wS (nI c).toNatClampNeg)))).length = _
  rw [nI_cl (by omega), nI_cl (by omega), List.length_append, List.length_append, List.length_append, List.length_cons, i2]
  omega
theorem rRo_pr : ∀ n (a : List (Nat × Nat)) (p : Nat) (a' : List (Nat × Nat)) (q : Nat), (∀ x, x ∈ a → x.1 < 1000000 ∧ x.2 < 1000000) → rRo t L n a p = .inr (a', q) → (∀ x, x ∈ a' → x.1 < 1000000 ∧ x.2 < 1000000) ∧ a.length ≤ a'.length ∧ a'.length + p ≤ q + a.length ∧ rl a' + p + a.length ≤ rl a + q + a'.length + 1
  | 0, a, p, a', q, _, h => by rw [rRo] at h; cases h
  | n + 1, a, p, a', q, ha, h => by
    rw [rRo] at h
    split at h
    · cases h
    · rename_i f c q0 e0
      obtain ⟨f1, c1, b1⟩ := rSt_pr e0
      have g := sk_ge (t := t) (L := L) (p := q0)
      have r := rl_s (a := a) f1 c1
      have ln : (a ++ [(f, c)]).length = a.length + 1 := by rw [List.length_append]; rfl
      have ha' : ∀ x, x ∈ a ++ [(f, c)] → x.1 < 1000000 ∧ x.2 < 1000000 := fun x hx => by
        rcases List.mem_append.mp hx with hx | hx
        · exact ha x hx
        · rw [List.mem_singleton.mp hx]; exact ⟨f1, c1⟩
      split at h
      · cases h
      · split at h
        · obtain ⟨i1, i2, i3, i4⟩ := rRo_pr n _ _ a' q ha' h
          rw [ln] at i2 i3 i4
          rw [r] at i4
          exact ⟨i1, by omega, by omega, by omega⟩
        · injection h with h; injection h with h1 h2
          subst h1 h2
          rw [ln, r]
          exact ⟨ha', by omega, by omega, by omega⟩
theorem rSp_pr {p q : Nat} {v : Nd} (h : rSp t L p = .inr (v, q)) : (lfS v).length + 2 + 2 * p ≤ 2 * q + 8 ∧ v.1 = 7 ∧ (∃ e, e < 1000000 ∧ v.2.1 = nI e) ∧ ∃ a, v.2.2.2 = rws a ∧ ∀ x, x ∈ a → x.1 < 1000000 ∧ x.2 < 1000000 := by
  unfold rSp at h
  split at h
  · cases h
  · rename_i q1 e1
    have h1 := (pss_gt e1).1
    split at h
    · cases h
    · rename_i e q2 e2
      obtain ⟨b1, b2⟩ := rWh_pr e2
      split at h
      · cases h
      · rename_i q3 e3
        have h3 := (pss_gt e3).1
        split at h
        · cases h
        · rename_i a q4 e4
          obtain ⟨i1, i2, i3, i4⟩ := rRo_pr _ _ _ _ _ (fun x hx => by cases hx) e4
          split at h
          · cases h
          · rename_i q5 e5
            have h5 := (pss_gt e5).1
            injection h with h; injection h with h6 h7
            subst h6 h7
            refine ⟨?_, rfl, ⟨e, b1, rfl⟩, a, rfl, i1⟩
            unfold lfS
            rw [if_neg (show ¬ (7 : Int32) = 0 by decide), if_neg (show ¬ (7 : Int32) = 1 by decide), if_neg (show ¬ (7 : Int32) = 2 by decide)]
            show ([nI 115, nI 116, nI 101, nI 112, nI 40] ++ (wS (nI e).toNatClampNeg ++ (rwS (rws a) (rws a).length ++ [nI 41]))).length + 2 + 2 * p ≤ 2 * q5 + 8
            have ln : (rws a).length = a.length := by unfold rws; rw [List.length_map]
            have r0 : rl [] = 0 := rfl
            have rla : (rwS (rws a) a.length).length = rl a := rfl
            rw [r0, List.length_nil] at i4
            rw [List.length_nil] at i3
            rw [nI_cl (by omega), ln, List.length_append, List.length_append, List.length_append, rla, List.length_singleton]
            simp only [List.length_cons, List.length_nil]
            omega
end Rz
