-- needs: 71 72 73 74
/-! RATES: what nodes there are -/
section Rm
variable {t : Nat → Int32} {L : Nat}
def ndk (v : Nd) : Prop := v.1 = 0 ∨ v.1 = 1 ∨ (v.1 = 2 ∧ ∃ u, u < 8 ∧ v.2.2.1 = nI u) ∨ (v.1 = 3 ∨ v.1 = 4 ∨ v.1 = 5 ∨ v.1 = 6) ∨ (v.1 = 7 ∧ 1 ≤ v.2.2.2.length ∧ v.2.2.2.length ≤ 6)
theorem u_of {x : Int32} (z1 : ¬ x < 65) (z2 : ¬ 72 < x) : ∃ u, u < 8 ∧ x - 65 = nI u := by
  rw [Int32.lt_iff_toInt_lt] at z1 z2
  have c1 : (65 : Int32).toInt = 65 := by decide
  have c2 : (72 : Int32).toInt = 72 := by decide
  refine ⟨x.toInt.toNat - 65, by omega, Int32.toInt_inj.mp ?_⟩
  rw [Int32.toInt_sub, c1, nI_toInt (by omega), Int.bmod_def]
  omega
theorem rNum_ok {p q : Nat} {v : Nd} (h : rNum t L p = .inr (v, q)) : ndk v := by
  unfold rNum at h
  split at h
  · cases h
  · unfold rUn at h
    split at h
    · injection h with h; injection h with h1 h2; subst h1
      exact Or.inr (Or.inl rfl)
    · split at h
      · split at h
        · rename_i z
          injection h with h; injection h with h1 h2; subst h1
          obtain ⟨-, z1, z2⟩ := z
          exact Or.inr (Or.inr (Or.inl ⟨rfl, u_of z1 z2⟩))
        · cases h
      · cases h
theorem rRo_ok : ∀ n (a : List (Nat × Nat)) (p : Nat) (a' : List (Nat × Nat)) (q : Nat), a.length ≤ 6 → rRo t L n a p = .inr (a', q) → 1 ≤ a'.length ∧ a'.length ≤ 6
  | 0, a, p, a', q, _, h => by rw [rRo] at h; cases h
  | n + 1, a, p, a', q, ha, h => by
    rw [rRo] at h
    split at h
    · cases h
    · split at h
      · cases h
      · rename_i z
        have z' : ¬ a.length = 6 := fun e => z (Or.inl e)
        split at h
        · exact rRo_ok n _ _ a' q (by rw [List.length_append, List.length_singleton]; omega) h
        · injection h with h; injection h with h4 h5
          rw [← h4, List.length_append, List.length_singleton]; omega
theorem rSp_ok {p q : Nat} {v : Nd} (h : rSp t L p = .inr (v, q)) : ndk v := by
  unfold rSp at h
  split at h
  · cases h
  · split at h
    · cases h
    · split at h
      · cases h
      · split at h
        · cases h
        · rename_i e4
          have h4 := rRo_ok _ _ _ _ _ (by decide) e4
          split at h
          · cases h
          · injection h with h; injection h with h6 h7
            subst h6
            refine Or.inr (Or.inr (Or.inr (Or.inr ⟨rfl, ?_, ?_⟩)))
            · show 1 ≤ (rws _).length
              unfold rws; rw [List.length_map]; exact h4.1
            · show (rws _).length ≤ 6
              unfold rws; rw [List.length_map]; exact h4.2
def ndl (l : List Nd) : Prop := ∀ v, v ∈ l → ndk v
theorem ndl_app {a b : List Nd} (h1 : ndl a) (h2 : ndl b) : ndl (a ++ b) := fun v hv => (List.mem_append.mp hv).elim (h1 v) (h2 v)
theorem ndl_one {v : Nd} (h : ndk v) : ndl [v] := fun w hw => by rw [List.mem_singleton.mp hw]; exact h
theorem ndl_cons {v : Nd} {a : List Nd} (h : ndk v) (h1 : ndl a) : ndl (v :: a) := fun w hw => (List.mem_cons.mp hw).elim (fun e => by rw [e]; exact h) (h1 w)
theorem ps_ok : ∀ n m (l : List Nd) (k p c : Nat), m ≤ 2 → ndl l → ∀ l' q c', ps t L n m l k p c = some (.inr (l', q, c')) → ndl l' := by
  intro n
  induction n with
  | zero => intro m l k p c _ _ l' q c' e; rw [ps] at e; cases e
  | succ n ih =>
    intro m l k p c hm hl l' q c' e
    have nil : ndl [] := fun v hv => by cases hv
    have cs : m = 0 ∨ m = 1 ∨ m = 2 := by omega
    rcases cs with rfl | rfl | rfl
    · rw [ps] at e
      · split at e
        · split at e
          · split at e
            · rename_i l1 q1 c1 e1
              have h1 := ih 1 [] _ _ _ (by omega) nil l1 q1 c1 e1
              split at e
              · cases e
              · injection e with e; injection e with e; injection e with e3 e4
                subst e3
                exact h1
            · rename_i e1; exact absurd e (e1 l' q c')
          · cases e
        · split at e
          · split at e
            · split at e
              · cases e
              · rename_i e1
                injection e with e; injection e with e; injection e with e3 e4
                subst e3
                exact ndl_one (rNum_ok e1)
            · cases e
          · split at e
            · split at e
              · injection e with e; injection e with e; injection e with e3 e4
                subst e3
                exact ndl_one (Or.inl rfl)
              · cases e
            · split at e
              · split at e
                · split at e
                  · cases e
                  · split at e
                    · rename_i l1 q1 c1 e1
                      have h1 := ih 1 [] _ _ _ (by omega) nil l1 q1 c1 e1
                      split at e
                      · cases e
                      · split at e
                        · rename_i l2 q3 c2 e3
                          have h3 := ih 1 [] _ _ _ (by omega) nil l2 q3 c2 e3
                          split at e
                          · cases e
                          · injection e with e; injection e with e; injection e with e5 e6
                            subst e5
                            refine ndl_cons ?_ (ndl_app h1 h3)
                            by_cases z : isWd t L (sk t L p) [109, 105, 110]
                            · rw [if_pos z]; exact Or.inr (Or.inr (Or.inr (Or.inl (Or.inr (Or.inr (Or.inl rfl))))))
                            · rw [if_neg z]; exact Or.inr (Or.inr (Or.inr (Or.inl (Or.inr (Or.inr (Or.inr rfl))))))
                        · rename_i e1; exact absurd e (e1 l' q c')
                    · rename_i e1; exact absurd e (e1 l' q c')
                · cases e
              · split at e
                · split at e
                  · split at e
                    · cases e
                    · rename_i e1
                      injection e with e; injection e with e; injection e with e3 e4
                      subst e3
                      exact ndl_one (rSp_ok e1)
                  · cases e
                · cases e
      · intro x; cases x
      · intro x; cases x
    · rw [ps] at e
      split at e
      · rename_i l1 q1 c1 e1
        have h1 := ih 0 [] _ _ _ (by omega) nil l1 q1 c1 e1
        exact ih 2 l1 _ _ _ (by omega) h1 l' q c' e
      · rename_i e1; exact absurd e (e1 l' q c')
    · rw [ps] at e
      split at e
      · split at e
        · split at e
          · rename_i l1 q1 c1 e1
            have h1 := ih 0 [] _ _ _ (by omega) nil l1 q1 c1 e1
            refine ih 2 _ _ _ _ (by omega) (ndl_cons ?_ (ndl_app hl h1)) l' q c' e
            by_cases z : t (sk t L p) = 43
            · rw [if_pos z]; exact Or.inr (Or.inr (Or.inr (Or.inl (Or.inl rfl))))
            · rw [if_neg z]; exact Or.inr (Or.inr (Or.inr (Or.inl (Or.inr (Or.inl rfl)))))
          · rename_i e1; exact absurd e (e1 l' q c')
        · cases e
      · injection e with e; injection e with e; injection e with e3 e4
        subst e3
        exact hl
theorem rdR_ok {l : List Nd} (h : rdR t L = .inr l) : ndl l := by
  unfold rdR at h
  cases e : ps t L 802 1 [] 0 0 0 with
  | none => rw [e] at h; cases h
  | some r =>
    rw [e] at h
    cases r with
    | inl b => cases h
    | inr lq =>
      obtain ⟨l', q, c'⟩ := lq
      have h' : (if q < L then Sum.inl q else Sum.inr l') = (Sum.inr l : Nat ⊕ List Nd) := h
      split at h'
      · cases h'
      · injection h' with h'
        subst h'
        exact ps_ok 802 1 [] 0 0 0 (by omega) (fun v hv => by cases hv) l' q c' e
end Rm
