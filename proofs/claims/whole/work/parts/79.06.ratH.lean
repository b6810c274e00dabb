-- needs: 71 72 73 74
/-! RATES: reading goes on -/
section RH
variable {t : Nat → Int32} {L : Nat}
theorem pss_gt {c : Int32} {p q : Nat} (h : pss t L c p = .inr q) : p < q ∧ q ≤ L := by
  unfold pss at h
  have := sk_ge (t := t) (L := L) (p := p)
  split at h
  · rename_i z
    injection h with h
    have := z.1
    omega
  · cases h
theorem rWh_gt {p x q : Nat} (hp : p ≤ L) (h : rWh t L p = .inr (x, q)) : p < q ∧ q ≤ L := by
  unfold rWh at h
  have h1 := sk_ge (t := t) (L := L) (p := p)
  have h2 := dgt_le (t := t) (sk_le (t := t) hp)
  split at h
  · injection h with h; injection h with h3 h4; omega
  · cases h
theorem rNu_gt {p x q : Nat} (hp : p ≤ L) (h : rNu t L p = .inr (x, q)) : p < q ∧ q ≤ L := by
  unfold rNu at h
  have h2 := dgt_le (t := t) hp
  split at h
  · split at h
    · rename_i z
      have h3 := dgt_le (t := t) (L := L) (p := p + dgt t L p + 1) (by have := z.1; omega)
      split at h
      · injection h with h; injection h with h4 h5; omega
      · cases h
    · injection h with h; injection h with h4 h5; omega
  · cases h
theorem rUn_gt {p x q : Nat} {v : Nd} (h : rUn t L x p = .inr (v, q)) : p < q ∧ q ≤ L := by
  unfold rUn at h
  have h1 := sk_ge (t := t) (L := L) (p := p)
  split at h
  · rename_i z
    injection h with h; injection h with h4 h5
    have := z.1; omega
  · split at h
    · have h2 := sk_ge (t := t) (L := L) (p := sk t L p + 1)
      split at h
      · rename_i z
        injection h with h; injection h with h4 h5
        have := z.1; omega
      · cases h
    · cases h
theorem rNum_gt {p q : Nat} {v : Nd} (hp : p ≤ L) (h : rNum t L p = .inr (v, q)) : p < q ∧ q ≤ L := by
  unfold rNum at h
  split at h
  · cases h
  · rename_i e
    have h1 := rNu_gt hp e
    have h2 := rUn_gt h
    omega
theorem rSt_gt {p f c q : Nat} (hp : p ≤ L) (h : rSt t L p = .inr (f, c, q)) : p < q ∧ q ≤ L := by
  unfold rSt at h
  split at h
  · cases h
  · rename_i e1
    have h1 := rWh_gt hp e1
    split at h
    · cases h
    · rename_i e2
      have h2 := pss_gt e2
      split at h
      · cases h
      · rename_i e3
        have h3 := rWh_gt h2.2 e3
        injection h with h; injection h with h4 h5; injection h5 with h5 h6
        omega
theorem rRo_gt : ∀ n (a : List (Nat × Nat)) (p : Nat) (a' : List (Nat × Nat)) (q : Nat), p ≤ L → rRo t L n a p = .inr (a', q) → p < q ∧ q ≤ L
  | 0, a, p, a', q, hp, h => by rw [rRo] at h; cases h
  | n + 1, a, p, a', q, hp, h => by
    rw [rRo] at h
    split at h
    · cases h
    · rename_i f c q0 e1
      have h1 := rSt_gt hp e1
      have h2 := sk_ge (t := t) (L := L) (p := q0)
      have h3 := sk_le (t := t) h1.2
      split at h
      · cases h
      · split at h
        · rename_i z
          have h4 := rRo_gt n _ _ a' q (by have := z.1; omega) h
          omega
        · injection h with h; injection h with h4 h5; omega
theorem rSp_gt {p q : Nat} {v : Nd} (h : rSp t L p = .inr (v, q)) : p < q ∧ q ≤ L := by
  unfold rSp at h
  split at h
  · cases h
  · rename_i e1
    have h1 := pss_gt e1
    split at h
    · cases h
    · rename_i e2
      have h2 := rWh_gt h1.2 e2
      split at h
      · cases h
      · rename_i e3
        have h3 := pss_gt e3
        split at h
        · cases h
        · rename_i e4
          have h4 := rRo_gt _ _ _ _ _ h3.2 e4
          split at h
          · cases h
          · rename_i e5
            have h5 := pss_gt e5
            injection h with h; injection h with h6 h7
            omega
theorem isWd_le {p : Nat} {w : List Int32} (hp : p ≤ L) (h : isWd t L p w) : p + w.length ≤ L := by
  have := lt_le (t := t) hp
  rw [h.1] at this; exact this
/-- what was read lies behind -/
def psGt (L p : Nat) (m : Nat) (r : PRes) (c : Nat) : Prop := ∀ l q c', r = some (.inr (l, q, c')) → (if m = 2 then p ≤ q else p < q) ∧ q ≤ L ∧ c ≤ c' ∧ c' ≤ 60 ∧ 1 ≤ l.length
theorem ps_gt : ∀ n m (l : List Nd) (k p c : Nat), m ≤ 2 → p ≤ L → c ≤ 60 → (m = 2 → 1 ≤ l.length) → psGt L p m (ps t L n m l k p c) c := by
  intro n
  induction n with
  | zero => intro m l k p c _ _ _ _ l' q c' e; rw [ps] at e; cases e
  | succ n ih =>
    intro m l k p c hm hp hc hl l' q c' e
    have s1 := sk_ge (t := t) (L := L) (p := p)
    have s2 := sk_le (t := t) hp
    have cs : m = 0 ∨ m = 1 ∨ m = 2 := by omega
    rcases cs with rfl | rfl | rfl
    · rw [if_neg (by decide)]
      rw [ps] at e
      · split at e
        · rename_i z0
          have z1 := z0.1
          split at e
          · split at e
            · rename_i l1 q1 c1 e1
              have h1 := ih 1 [] (k + 1) (sk t L p + 1) c (by omega) (by omega) hc (fun x => by cases x) l1 q1 c1 e1
              rw [if_neg (by decide)] at h1
              split at e
              · cases e
              · rename_i e2
                have h2 := pss_gt e2
                injection e with e; injection e with e; injection e with e3 e4; injection e4 with e4 e5
                subst e3 e4 e5
                exact ⟨by omega, h2.2, h1.2.2.1, h1.2.2.2.1, h1.2.2.2.2⟩
            · rename_i e1; exact absurd e (e1 l' q c')
          · cases e
        · split at e
          · rename_i z0
            split at e
            · split at e
              · cases e
              · rename_i e1
                have h1 := rNum_gt s2 e1
                injection e with e; injection e with e; injection e with e3 e4; injection e4 with e4 e5
                subst e3 e4 e5
                exact ⟨by omega, h1.2, by omega, by omega, Nat.le_refl _⟩
            · cases e
          · split at e
            · rename_i z0
              have h1 := isWd_le s2 z0
              split at e
              · injection e with e; injection e with e; injection e with e3 e4; injection e4 with e4 e5
                subst e3 e4 e5
                have h1' : sk t L p + 4 ≤ L := h1
                exact ⟨by omega, by omega, by omega, by omega, Nat.le_refl _⟩
              · cases e
            · split at e
              · rename_i z0
                split at e
                · split at e
                  · cases e
                  · rename_i e0
                    have h0 := pss_gt e0
                    split at e
                    · rename_i l1 q1 c1 e1
                      have h1 := ih 1 [] (k + 1) _ (c + 1) (by omega) h0.2 (by omega) (fun x => by cases x) l1 q1 c1 e1
                      rw [if_neg (by decide)] at h1
                      split at e
                      · cases e
                      · rename_i e2
                        have h2 := pss_gt e2
                        split at e
                        · rename_i l2 q3 c2 e3
                          have h3 := ih 1 [] (k + 1) _ c1 (by omega) h2.2 h1.2.2.2.1 (fun x => by cases x) l2 q3 c2 e3
                          rw [if_neg (by decide)] at h3
                          split at e
                          · cases e
                          · rename_i e4
                            have h4 := pss_gt e4
                            injection e with e; injection e with e; injection e with e5 e6; injection e6 with e6 e7
                            subst e5 e6 e7
                            exact ⟨by omega, h4.2, by omega, h3.2.2.2.1, by rw [List.length_cons]; omega⟩
                        · rename_i e1; exact absurd e (e1 l' q c')
                    · rename_i e1; exact absurd e (e1 l' q c')
                · cases e
              · split at e
                · split at e
                  · split at e
                    · cases e
                    · rename_i e1
                      have h1 := rSp_gt e1
                      injection e with e; injection e with e; injection e with e3 e4; injection e4 with e4 e5
                      subst e3 e4 e5
                      exact ⟨by omega, h1.2, by omega, by omega, Nat.le_refl _⟩
                  · cases e
                · cases e
      · intro x; cases x
      · intro x; cases x
    · rw [if_neg (by decide)]
      rw [ps] at e
      split at e
      · rename_i l1 q1 c1 e1
        have h1 := ih 0 [] k p c (by omega) hp hc (fun x => by cases x) l1 q1 c1 e1
        rw [if_neg (by decide)] at h1
        have h2 := ih 2 l1 k q1 c1 (by omega) h1.2.1 h1.2.2.2.1 (fun _ => h1.2.2.2.2) l' q c' e
        rw [if_pos rfl] at h2
        exact ⟨by omega, h2.2.1, by omega, h2.2.2.2.1, h2.2.2.2.2⟩
      · rename_i e1; exact absurd e (e1 l' q c')
    · rw [if_pos rfl]
      rw [ps] at e
      split at e
      · split at e
        · split at e
          · rename_i r q1 c1 e1
            have z1 : sk t L p < L := by
              rename_i z0 _ _
              rcases z0 with z | z <;> exact z.1
            have h1 := ih 0 [] k (sk t L p + 1) (c + 1) (by omega) (by omega) (by omega) (fun x => by cases x) r q1 c1 e1
            rw [if_neg (by decide)] at h1
            have h2 := ih 2 _ k q1 c1 (by omega) h1.2.1 h1.2.2.2.1 (fun _ => by rw [List.length_cons]; omega) l' q c' e
            rw [if_pos rfl] at h2
            exact ⟨by omega, h2.2.1, by omega, h2.2.2.2.1, h2.2.2.2.2⟩
          · rename_i e1; exact absurd e (e1 l' q c')
        · cases e
      · injection e with e; injection e with e; injection e with e3 e4; injection e4 with e4 e5
        subst e3 e4 e5
        exact ⟨s1, s2, Nat.le_refl _, hc, hl rfl⟩
end RH
