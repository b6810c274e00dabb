-- needs: 71 72 73 74
/-! RATES: print: the numbers of a tree that was read -/
section Rba
variable {t : Nat → Int32} {L : Nat}
theorem nmk_b {v : Nd} (h1 : ¬ v.1 = 1) (h2 : ¬ v.1 = 2) (h7 : ¬ v.1 = 7) : nmk v := ⟨fun q => (q.elim h1 h2).elim, fun q => (h7 q).elim⟩
theorem nmk_0 : nmk (0, 0, -1, []) := nmk_b (by decide) (by decide) (by decide)
theorem rNum_nm {p q : Nat} {v : Nd} (h : rNum t L p = .inr (v, q)) : nmk v := by
  obtain ⟨-, k, x, x8, hx⟩ := rNum_pr h
  refine ⟨fun _ => ⟨x, x8, hx⟩, fun k7 => ?_⟩
  rcases k with k | k <;> rw [k] at k7 <;> exact absurd k7 (by decide)
theorem rSp_nm {p q : Nat} {v : Nd} (h : rSp t L p = .inr (v, q)) : nmk v := by
  obtain ⟨-, k, a, b⟩ := rSp_pr h
  refine ⟨fun q => ?_, fun _ => ⟨a, b⟩⟩
  rw [k] at q
  exact absurd q (by decide)
def nml (l : List Nd) : Prop := ∀ v, v ∈ l → nmk v
theorem nml_app {a b : List Nd} (h1 : nml a) (h2 : nml b) : nml (a ++ b) := fun v hv => (List.mem_append.mp hv).elim (h1 v) (h2 v)
theorem nml_one {v : Nd} (h : nmk v) : nml [v] := fun w hw => by rw [List.mem_singleton.mp hw]; exact h
theorem nml_cons {v : Nd} {a : List Nd} (h : nmk v) (h1 : nml a) : nml (v :: a) := fun w hw => (List.mem_cons.mp hw).elim (fun e => by rw [e]; exact h) (h1 w)
theorem ps_nm : ∀ n m (l : List Nd) (k p c : Nat), m ≤ 2 → nml l → ∀ l' q c', ps t L n m l k p c = some (.inr (l', q, c')) → nml l' := by
  intro n
  induction n with
  | zero => intro m l k p c _ _ l' q c' e; rw [ps] at e; cases e
  | succ n ih =>
    intro m l k p c hm hl l' q c' e
    have nil : nml [] := fun v hv => by cases hv
    have cs : m = 0 ∨ m = 1 ∨ m = 2 := by omega
    rcases cs with rfl | rfl | rfl
    · rw [ps] at e
      · split at e
        · split at e
          · split at e
            · rename_i l1 q1 c1 e1
              have h1 := ih 1 [] _ _ _ (by omega) nil l1 q1 c1 e1
              split at e
              · cases e
              · injection e with e; injection e with e; injection e with e3 e4
                subst e3
                exact h1
            · rename_i e1; exact absurd e (e1 l' q c')
          · cases e
        · split at e
          · split at e
            · split at e
              · cases e
              · rename_i e1
                injection e with e; injection e with e; injection e with e3 e4
                subst e3
                exact nml_one (rNum_nm e1)
            · cases e
          · split at e
            · split at e
              · injection e with e; injection e with e; injection e with e3 e4
                subst e3
                exact nml_one nmk_0
              · cases e
            · split at e
              · split at e
                · split at e
                  · cases e
                  · split at e
                    · rename_i l1 q1 c1 e1
                      have h1 := ih 1 [] _ _ _ (by omega) nil l1 q1 c1 e1
                      split at e
                      · cases e
                      · split at e
                        · rename_i l2 q3 c2 e3
                          have h3 := ih 1 [] _ _ _ (by omega) nil l2 q3 c2 e3
                          split at e
                          · cases e
                          · injection e with e; injection e with e; injection e with e5 e6
                            subst e5
                            refine nml_cons ?_ (nml_app h1 h3)
                            by_cases z : isWd t L (sk t L p) [109, 105, 110]
                            · rw [if_pos z]; exact nmk_b (by decide) (by decide) (by decide)
                            · rw [if_neg z]; exact nmk_b (by decide) (by decide) (by decide)
                        · rename_i e1; exact absurd e (e1 l' q c')
                    · rename_i e1; exact absurd e (e1 l' q c')
                · cases e
              · split at e
                · split at e
                  · split at e
                    · cases e
                    · rename_i e1
                      injection e with e; injection e with e; injection e with e3 e4
                      subst e3
                      exact nml_one (rSp_nm e1)
                  · cases e
                · cases e
      · intro x; cases x
      · intro x; cases x
    · rw [ps] at e
      split at e
      · rename_i l1 q1 c1 e1
        have h1 := ih 0 [] _ _ _ (by omega) nil l1 q1 c1 e1
        exact ih 2 l1 _ _ _ (by omega) h1 l' q c' e
      · rename_i e1; exact absurd e (e1 l' q c')
    · rw [ps] at e
      split at e
      · split at e
        · split at e
          · rename_i l1 q1 c1 e1
            have h1 := ih 0 [] _ _ _ (by omega) nil l1 q1 c1 e1
            refine ih 2 _ _ _ _ (by omega) (nml_cons ?_ (nml_app hl h1)) l' q c' e
            by_cases z : t (sk t L p) = 43
            · rw [if_pos z]; exact nmk_b (by decide) (by decide) (by decide)
            · rw [if_neg z]; exact nmk_b (by decide) (by decide) (by decide)
          · rename_i e1; exact absurd e (e1 l' q c')
        · cases e
      · injection e with e; injection e with e; injection e with e3 e4
        subst e3
        exact hl
theorem rdR_nm {l : List Nd} (h : rdR t L = .inr l) : nml l := by
  unfold rdR at h
  cases e : ps t L 802 1 [] 0 0 0 with
  | none => rw [e] at h; cases h
  | some r =>
    rw [e] at h
    cases r with
    | inl b => cases h
    | inr lq =>
      obtain ⟨l', q, c'⟩ := lq
      have h' : (if q < L then Sum.inl q else Sum.inr l') = (Sum.inr l : Nat ⊕ List Nd) := h
      split at h'
      · cases h'
      · injection h' with h'
        subst h'
        exact ps_nm 802 1 [] 0 0 0 (by omega) (fun v hv => by cases hv) l' q c' e
end Rba
