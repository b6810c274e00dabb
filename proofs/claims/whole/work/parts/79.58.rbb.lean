-- needs: 71 72 73 74
/-! RATES: print: what a tree prints, and how long it is -/
section Rbb
variable {t : Nat → Int32} {L : Nat}
/-- is the first node of a list a sum or a difference -/
def bkH (l : List Nd) : Bool := decide ((l.getD 0 v0).1 = 3 ∨ (l.getD 0 v0).1 = 4)
def twV (v : Nd) : List Int32 := if v.1 = 5 then [nI 109, nI 105, nI 110, nI 40] else if v.1 = 6 then [nI 109, nI 97, nI 120, nI 40] else []
/-- what a node with two below it prints -/
def jnS (v : Nd) (b : Bool) (s1 s2 : List Int32) : List Int32 := if v.1 = 3 ∨ v.1 = 4 then s1 ++ ([32, (if v.1 = 3 then 43 else 45), 32] ++ ((if b = true then [40] else []) ++ (s2 ++ (if b = true then [41] else [])))) else twV v ++ (s1 ++ ([44, 32] ++ (s2 ++ [41])))
/-- the list is a tree that prints s -/
def Pr : Nat → List Nd → List Int32 → Prop
  | 0, _, _ => False
  | n + 1, l, s => (∃ v, isBn v = false ∧ l = [v] ∧ s = lfS v) ∨ (∃ v l1 l2 s1 s2, isBn v = true ∧ Pr n l1 s1 ∧ Pr n l2 s2 ∧ l = v :: (l1 ++ l2) ∧ s = jnS v (bkH l2) s1 s2)
theorem Pr.up : ∀ {n m l s}, Pr n l s → n ≤ m → Pr m l s
  | n + 1, m, l, s, h, hm => by
    obtain ⟨k, rfl⟩ : ∃ k, m = k + 1 := ⟨m - 1, by omega⟩
    rcases h with h | ⟨v, l1, l2, s1, s2, h1, h2, h3, h4⟩
    · exact Or.inl h
    · exact Or.inr ⟨v, l1, l2, s1, s2, h1, h2.up (by omega), h3.up (by omega), h4⟩
theorem Pr.pos : ∀ {n l s}, Pr n l s → 1 ≤ l.length
  | n + 1, l, s, h => by
    rcases h with ⟨v, -, e, -⟩ | ⟨v, l1, l2, s1, s2, -, -, -, e, -⟩ <;> rw [e, List.length_cons] <;> omega
theorem Pr.len : ∀ {n l s}, Pr n l s → Pr l.length l s
  | n + 1, l, s, h => by
    rcases h with ⟨v, h1, e, h2⟩ | ⟨v, l1, l2, s1, s2, h1, h2, h3, e, h4⟩
    · rw [e]; exact Or.inl ⟨v, h1, rfl, h2⟩
    · have a := h2.len
      have b := h3.len
      rw [e, List.length_cons, List.length_append]
      exact Or.inr ⟨v, l1, l2, s1, s2, h1, a.up (by omega), b.up (by omega), rfl, h4⟩
theorem Pr.tsl : ∀ {n l s}, Pr n l s → ∀ m (r : List Nd), n ≤ m → ts m (l ++ r) = l.length
  | n + 1, l, s, h, m, r, hm => by
    obtain ⟨k, rfl⟩ : ∃ k, m = k + 1 := ⟨m - 1, by omega⟩
    rcases h with ⟨v, h0, e1, -⟩ | ⟨v, l1, l2, s1, s2, h0, h1, h2, e1, -⟩
    · rw [e1]
      show (if isBn v = true then _ else 1) = 1
      rw [if_neg (by rw [h0]; decide)]
    · rw [e1]
      show (if isBn v = true then 1 + (ts k (l1 ++ l2 ++ r) + ts k ((l1 ++ l2 ++ r).drop (ts k (l1 ++ l2 ++ r)))) else 1) = _
      have t1 : ts k (l1 ++ l2 ++ r) = l1.length := by rw [List.append_assoc]; exact h1.tsl k (l2 ++ r) (by omega)
      rw [if_pos h0, t1, List.append_assoc, List.drop_left, h2.tsl k r (by omega), List.length_cons, List.length_append]
      omega
theorem jn_len {v : Nd} {b : Bool} {s1 s2 : List Int32} (h : v.1 = 3 ∨ v.1 = 4) : (jnS v b s1 s2).length = s1.length + s2.length + (if b = true then 5 else 3) := by
  unfold jnS
  rw [if_pos h]
  cases b
  · simp only [List.length_append, List.length_cons, List.length_nil, Bool.false_eq_true, if_false]; omega
  · simp only [List.length_append, List.length_cons, List.length_nil, if_true]; omega
theorem pr_len {v : Nd} {b : Bool} {s1 s2 : List Int32} (h : v.1 = 5 ∨ v.1 = 6) : (jnS v b s1 s2).length = s1.length + s2.length + 7 := by
  have n : ¬ (v.1 = 3 ∨ v.1 = 4) := by rcases h with h | h <;> rw [h] <;> decide
  have w : (twV v).length = 4 := by
    unfold twV
    rcases h with h | h
    · rw [if_pos h]; rfl
    · rw [if_neg (by rw [h]; decide), if_pos h]; rfl
  unfold jnS
  rw [if_neg n, List.length_append, w]
  simp only [List.length_append, List.length_cons, List.length_nil]; omega
theorem wS_1 {n : Nat} : 1 ≤ (wS n).length := by
  unfold wS
  have := (wU_pow 9 n 1 (by omega)).1
  rw [wD]
  split
  · omega
  · rw [List.length_cons]; omega
theorem lfS_two' {v : Nd} (h : v.1 = 1 ∨ v.1 = 2) : 2 ≤ (lfS v).length := by
  have w : ∀ x, 1 ≤ (nS x).length := fun x => by unfold nS; rw [List.length_append]; have := wS_1 (n := x / 1000); omega
  have := w v.2.1.toNatClampNeg
  unfold lfS
  rcases h with h | h
  · rw [if_neg (by rw [h]; decide), if_pos h, List.length_append, List.length_singleton]; omega
  · rw [if_neg (by rw [h]; decide), if_neg (by rw [h]; decide), if_pos h, List.length_append]; simp only [List.length_cons, List.length_nil]; omega
theorem bk_one {v : Nd} (h : ¬ (v.1 = 3 ∨ v.1 = 4)) {l : List Nd} : bkH (v :: l) = false := decide_eq_false h
theorem ps_pr : ∀ n m (l : List Nd) (k p c : Nat) (N : Nat) (s : List Int32), m ≤ 2 → p ≤ L → (m = 2 → Pr N l s) → ∀ l' q c', ps t L n m l k p c = some (.inr (l', q, c')) → ∃ N' s', Pr N' l' s' ∧ p ≤ q ∧ q ≤ L ∧ (m = 2 → s'.length + 2 * p ≤ s.length + 2 * q) ∧ (m < 2 → s'.length + 2 + 2 * p ≤ 2 * q) ∧ (m = 0 → bkH l' = true → s'.length + 6 + 2 * p ≤ 2 * q) := by
  intro n
  induction n with
  | zero => intro m l k p c N s _ _ _ l' q c' e; rw [ps] at e; cases e
  | succ n ih =>
    intro m l k p c N s hm hp hl l' q c' e
    have s1 := sk_ge (t := t) (L := L) (p := p)
    have s2 := sk_le (t := t) hp
    have cs : m = 0 ∨ m = 1 ∨ m = 2 := by omega
    rcases cs with rfl | rfl | rfl
    · rw [ps] at e
      · split at e
        · rename_i z0
          have z1 := z0.1
          split at e
          · split at e
            · rename_i l1 q1 c1 e1
              obtain ⟨N1, w1, a1, a2, a3, -, a5, -⟩ := ih 1 [] _ _ _ 0 [] (by omega) (by omega) (fun x => (by cases x)) l1 q1 c1 e1
              split at e
              · cases e
              · rename_i q' e2
                have h2 := pss_gt e2
                injection e with e; injection e with e; injection e with e3 e4; injection e4 with e4 e5
                subst e3 e4
                have a5 := a5 (by omega)
                exact ⟨N1, w1, a1, by omega, h2.2, fun x => (by cases x), fun _ => by omega, fun _ _ => by omega⟩
            · rename_i e1; exact absurd e (e1 l' q c')
          · cases e
        · split at e
          · split at e
            · split at e
              · cases e
              · rename_i v q1 e1
                have g := rNum_pr e1
                have gq := (rNum_gt s2 e1).2
                injection e with e; injection e with e; injection e with e3 e4; injection e4 with e4 e5
                subst e3 e4
                have nb : ¬ (v.1 = 3 ∨ v.1 = 4) := by rcases g.2.1 with k | k <;> rw [k] <;> decide
                have hb : isBn v = false := by unfold isBn; rcases g.2.1 with k | k <;> rw [k] <;> decide
                have g2 := lfS_two' g.2.1
                have := g.1
                exact ⟨1, lfS v, Or.inl ⟨v, hb, rfl, rfl⟩, by omega, gq, fun x => (by cases x), fun _ => by omega, fun _ x => (by rw [bk_one nb] at x; cases x)⟩
            · cases e
          · split at e
            · rename_i z0
              have zl : sk t L p + 4 ≤ L := isWd_le s2 z0
              split at e
              · injection e with e; injection e with e; injection e with e3 e4; injection e4 with e4 e5
                subst e3 e4
                exact ⟨1, lfS (0, 0, -1, []), Or.inl ⟨_, rfl, rfl, rfl⟩, by omega, zl, fun x => (by cases x), fun _ => by show 4 + 2 + 2 * p ≤ _; omega, fun _ x => (by cases x)⟩
              · cases e
            · split at e
              · rename_i z0
                have zl : sk t L p + 3 ≤ L := by
                  rcases z0 with z | z
                  · exact isWd_le s2 z
                  · exact isWd_le s2 z
                split at e
                · split at e
                  · cases e
                  · rename_i q0 e0
                    have h0 := pss_gt e0
                    split at e
                    · rename_i l1 q1 c1 e1
                      obtain ⟨N1, w1, a1, a2, a3, -, a5, -⟩ := ih 1 [] _ _ _ 0 [] (by omega) h0.2 (fun x => (by cases x)) l1 q1 c1 e1
                      split at e
                      · cases e
                      · rename_i q2 e2
                        have h2 := pss_gt e2
                        split at e
                        · rename_i l2 q3 c2 e3
                          obtain ⟨N2, w2, b1, b2, b3, -, b5, -⟩ := ih 1 [] _ _ _ 0 [] (by omega) h2.2 (fun x => (by cases x)) l2 q3 c2 e3
                          split at e
                          · cases e
                          · rename_i q4 e4
                            have h4 := pss_gt e4
                            injection e with e; injection e with e; injection e with e5 e6; injection e6 with e6 e7
                            have a5 := a5 (by omega)
                            have b5 := b5 (by omega)
                            obtain ⟨v, hv⟩ : ∃ v : Nd, v = (if isWd t L (sk t L p) [109, 105, 110] then (5, 0, -1, []) else (6, 0, -1, [])) := ⟨_, rfl⟩
                            have hk : v.1 = 5 ∨ v.1 = 6 := by
                              by_cases z : isWd t L (sk t L p) [109, 105, 110]
                              · rw [hv, if_pos z]; exact Or.inl rfl
                              · rw [hv, if_neg z]; exact Or.inr rfl
                            rw [← hv] at e5
                            subst e5 e6
                            have nb : ¬ (v.1 = 3 ∨ v.1 = 4) := by rcases hk with k | k <;> rw [k] <;> decide
                            have hb : isBn v = true := by unfold isBn; rcases hk with k | k <;> rw [k] <;> decide
                            have ln := pr_len (b := bkH l2) (s1 := w1) (s2 := w2) hk
                            refine ⟨N1 + N2 + 1, _, Or.inr ⟨v, l1, l2, w1, w2, hb, a1.up (by omega), b1.up (by omega), rfl, rfl⟩, by omega, h4.2, fun x => (by cases x), fun _ => by omega, fun _ x => (by rw [bk_one nb] at x; cases x)⟩
                        · rename_i e1; exact absurd e (e1 l' q c')
                    · rename_i e1; exact absurd e (e1 l' q c')
                · cases e
              · split at e
                · rename_i z0
                  have zl : sk t L p + 4 ≤ L := isWd_le s2 z0
                  split at e
                  · split at e
                    · cases e
                    · rename_i v q1 e1
                      have g := rSp_pr e1
                      have gq := (rSp_gt e1).2
                      injection e with e; injection e with e; injection e with e3 e4; injection e4 with e4 e5
                      subst e3 e4
                      have nb : ¬ (v.1 = 3 ∨ v.1 = 4) := by rw [g.2.1]; decide
                      have hb : isBn v = false := by unfold isBn; rw [g.2.1]; decide
                      have := g.1
                      exact ⟨1, lfS v, Or.inl ⟨v, hb, rfl, rfl⟩, by omega, gq, fun x => (by cases x), fun _ => by omega, fun _ x => (by rw [bk_one nb] at x; cases x)⟩
                  · cases e
                · cases e
      · intro x; cases x
      · intro x; cases x
    · rw [ps] at e
      split at e
      · rename_i l1 q1 c1 e1
        obtain ⟨N1, w1, a1, a2, a3, -, a5, -⟩ := ih 0 [] _ _ _ 0 [] (by omega) hp (fun x => (by cases x)) l1 q1 c1 e1
        obtain ⟨N2, w2, b1, b2, b3, b4, -, -⟩ := ih 2 l1 _ _ _ N1 w1 (by omega) a3 (fun _ => a1) l' q c' e
        have a5 := a5 (by omega)
        have b4 := b4 rfl
        exact ⟨N2, w2, b1, by omega, b3, fun x => (by cases x), fun _ => by omega, fun x => (by cases x)⟩
      · rename_i e1; exact absurd e (e1 l' q c')
    · rw [ps] at e
      split at e
      · rename_i z0
        have z1 : sk t L p < L := by rcases z0 with z | z <;> exact z.1
        split at e
        · split at e
          · rename_i r1 q1 c1 e1
            obtain ⟨N1, w1, a1, a2, a3, -, a5, a6⟩ := ih 0 [] _ _ _ 0 [] (by omega) (by omega) (fun x => (by cases x)) r1 q1 c1 e1
            obtain ⟨v, hv⟩ : ∃ v : Nd, v = (if t (sk t L p) = 43 then (3, 0, -1, []) else (4, 0, -1, [])) := ⟨_, rfl⟩
            have hk : v.1 = 3 ∨ v.1 = 4 := by
              by_cases z : t (sk t L p) = 43
              · rw [hv, if_pos z]; exact Or.inl rfl
              · rw [hv, if_neg z]; exact Or.inr rfl
            rw [← hv] at e
            have hb : isBn v = true := by unfold isBn; rcases hk with k | k <;> rw [k] <;> decide
            have ln := jn_len (b := bkH r1) (s1 := s) (s2 := w1) hk
            have P2 : Pr (N + N1 + 1) (v :: (l ++ r1)) (jnS v (bkH r1) s w1) := Or.inr ⟨v, l, r1, s, w1, hb, (hl rfl).up (by omega), a1.up (by omega), rfl, rfl⟩
            obtain ⟨N2, w2, b1, b2, b3, b4, -, -⟩ := ih 2 _ _ _ _ _ _ (by omega) a3 (fun _ => P2) l' q c' e
            have a5 := a5 (by omega)
            have b4 := b4 rfl
            refine ⟨N2, w2, b1, by omega, b3, fun _ => ?_, fun x => by omega, fun x => (by cases x)⟩
            by_cases z : bkH r1 = true
            · rw [if_pos z] at ln
              have := a6 rfl z
              omega
            · rw [if_neg z] at ln
              omega
          · rename_i e1; exact absurd e (e1 l' q c')
        · cases e
      · injection e with e; injection e with e; injection e with e3 e4; injection e4 with e4 e5
        subst e3 e4
        exact ⟨N, s, hl rfl, s1, s2, fun _ => by omega, fun x => by omega, fun x => (by cases x)⟩
theorem rdR_pr {l : List Nd} (hL : L ≤ 400) (h : rdR t L = .inr l) : ∃ n s, Pr n l s ∧ s.length ≤ 798 := by
  unfold rdR at h
  cases e : ps t L 802 1 [] 0 0 0 with
  | none => rw [e] at h; cases h
  | some r =>
    rw [e] at h
    cases r with
    | inl b => cases h
    | inr lq =>
      obtain ⟨l', q, c'⟩ := lq
      have h' : (if q < L then Sum.inl q else Sum.inr l') = (Sum.inr l : Nat ⊕ List Nd) := h
      split at h'
      · cases h'
      · injection h' with h'
        subst h'
        obtain ⟨N1, w1, a1, a2, a3, -, a5, -⟩ := ps_pr 802 1 [] 0 0 0 0 [] (by omega) (by omega) (fun x => (by cases x)) l' q c' e
        have a5 := a5 (by omega)
        exact ⟨N1, w1, a1, by omega⟩
end Rbb
