/-! MATHEMATICS (7): more loops -/
/-- loops: to the last turn -/
theorem lpt {β : Type} {F : Nat → β → Option dp_Res} {Inv : Nat → β → Prop} {a N : Nat} (ha : a ≤ N)
    (hs : ∀ i s, a ≤ i → i < N → Inv i s → ∃ s', Inv (i + 1) s' ∧ ∀ r, F (i + 1) s' = some r → F i s = some r) : ∀ s, Inv a s → ∃ s', Inv N s' ∧ ∀ r, F N s' = some r → F a s = some r := by
  have key : ∀ n, n ≤ N - a → ∀ s, Inv (N - n) s → ∃ s', Inv N s' ∧ ∀ r, F N s' = some r → F (N - n) s = some r := by
    intro n
    induction n with
    | zero => intro _ s h; exact ⟨s, h, fun r hr => hr⟩
    | succ n ih =>
      intro hn s h
      obtain ⟨s', h1, h2⟩ := hs (N - (n + 1)) s (by omega) (by omega) h
      rw [show N - (n + 1) + 1 = N - n by omega] at h1 h2
      obtain ⟨s2, h3, h4⟩ := ih (by omega) s' h1
      exact ⟨s2, h3, fun r hr => h2 r (h4 r hr)⟩
  intro s h
  have := key (N - a) (Nat.le_refl _) s
  rw [show N - (N - a) = a by omega] at this
  exact this h
/-- a row of ints filled -/
theorem q_fillI {xs : Nat → Int32} {xl d : Nat} {M : dp_M} {p N : Nat} {x : Int32} (hp : p < 246) (h114 : p ≠ 114) (ht : dp_t true M p = 1) (hl : dp_ln true M p = N) (hN : N < 2147483648) : ∃ M', dp_den true xs xl (d + 1) 593 [.ref p, .int x] M = vR M' ∧ Off [p] [] M M' ∧ dp_n M' = dp_n M ∧ dp_z M' = dp_z M ∧ dp_J M' = dp_J M ∧ ∀ k, dp_I M' k = if k = p then fN (dp_I M p) 0 N (fun _ => x) else dp_I M k := by
  have key := lpi (F := fun i N' => D_J7_fill_53178_5 xs xl d p x (nI i) (nI N) N') (a := 0) (N := N)
    (Inv := fun i N' => Off [p] [] M N' ∧ dp_n N' = dp_n M ∧ dp_z N' = dp_z M ∧ dp_J N' = dp_J M ∧ (∀ k, dp_I N' k = if k = p then fN (dp_I M p) 0 i (fun _ => x) else dp_I M k) ∧ dp_t true N' p = 1 ∧ dp_ln true N' p = N)
    (Post := fun r => ∃ M', r = (.inl none, M') ∧ Off [p] [] M M' ∧ dp_n M' = dp_n M ∧ dp_z M' = dp_z M ∧ dp_J M' = dp_J M ∧ ∀ k, dp_I M' k = if k = p then fN (dp_I M p) 0 N (fun _ => x) else dp_I M k)
    (Nat.zero_le _) ?_ ?_ M ?_
  · obtain ⟨r, hr, M', rfl, q⟩ := key
    refine ⟨M', ?_, q⟩
    rw [D_J7_fill_53178_0_den, D_J7_fill_53178_0_eq]
    simp only [dp_w]
    rw [if_pos (Or.inl ht), hl]
    exact hr
  · rintro N' ⟨o, i1, i2, i3, i4, i5, i6⟩
    refine ⟨(.inl none, N'), ?_, N', rfl, o, i1, i2, i3, i4⟩
    try dsimp only
    rw [D_J7_fill_53178_5_eq, if_pos (nI_lle (Nat.le_refl _) hN)]
  · rintro i N' - hi ⟨o, i1, i2, i3, i4, i5, i6⟩
    refine ⟨dp_setI N' p i x, ⟨o.I p ⟨⟨by simp, hp⟩, h114⟩ _ _, i1, i2, i3, fun k => ?_, i5, i6⟩, fun r hr => ?_⟩
    · rw [gII]
      by_cases e : k = p
      · rw [if_pos e, if_pos e, i4 p, if_pos rfl]
        have := fN_s (dp_I M p) 0 i (fun _ => x)
        rwa [Nat.zero_add] at this
      · rw [if_neg e, if_neg e, i4 k, if_neg e]
    · (try dsimp only at hr); (try dsimp only)
      rw [D_J7_fill_53178_5_eq, if_neg (nI_nge hi hN), if_pos i5, i6, if_neg (nI_inn hi hN), nI_cl (by omega), nI_1]
      exact hr
  · exact ⟨Off.rr _ _ _, rfl, rfl, rfl, fun k => by by_cases e : k = p <;> simp [e, fN_0], ht, hl⟩
theorem fst_or (p : Nat → Bool) (a : Nat) : ∀ N, (∃ j, a ≤ j ∧ j < N ∧ p j = true ∧ ∀ i, a ≤ i → i < j → p i = false) ∨ ∀ i, a ≤ i → i < N → p i = false
  | 0 => Or.inr (fun i _ h => by omega)
  | N + 1 => by
    rcases fst_or p a N with ⟨j, h1, h2, h3, h4⟩ | h
    · exact Or.inl ⟨j, h1, by omega, h3, h4⟩
    · by_cases q : a ≤ N ∧ p N = true
      · exact Or.inl ⟨N, q.1, by omega, q.2, h⟩
      · right
        intro i h1 h2
        by_cases e : i = N
        · subst e
          cases z : p i with
          | false => rfl
          | true => exact absurd ⟨h1, z⟩ q
        · exact h i h1 (by omega)
/-- loops that go on to a place -/
theorem lpf {F : Nat → Option dp_Res} {a j : Nat} {r : dp_Res} (haj : a ≤ j) (h : ∀ i, a ≤ i → i < j → F (i + 1) = some r → F i = some r) (he : F j = some r) : F a = some r :=
  lpa (F := fun (_ : Unit) i => F i) (s := fun _ => ()) haj he (fun i h1 h2 h3 => h i h1 h2 h3)
