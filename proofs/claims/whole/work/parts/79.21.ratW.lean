-- needs: 71 72 73 74
/-! RATES: the nodes in the tree's order -/
section RW
variable {t : Nat → Int32} {L : Nat}
/-- ps comes to an end -/
theorem ps_some : ∀ n m (l : List Nd) (k p c : Nat), m ≤ 2 → p ≤ L → c ≤ 60 → (m = 2 → 1 ≤ l.length) → (if m = 1 then 2 * (L - p) + 2 else 2 * (L - p) + 1) ≤ n → ∃ r, ps t L n m l k p c = some r := by
  intro n
  induction n with
  | zero => intro m l k p c _ _ _ _ h; split at h <;> omega
  | succ n ih =>
    intro m l k p c hm hp hc hl h
    have s1 := sk_ge (t := t) (L := L) (p := p)
    have s2 := sk_le (t := t) hp
    have cs : m = 0 ∨ m = 1 ∨ m = 2 := by omega
    rcases cs with rfl | rfl | rfl
    · rw [if_neg (by decide)] at h
      rw [ps]
      · split
        · rename_i z0
          have z1 := z0.1
          split
          · obtain ⟨r, e1⟩ := ih 1 [] (k + 1) (sk t L p + 1) c (by omega) (by omega) hc (fun x => by cases x) (by rw [if_pos rfl]; omega)
            rw [e1]
            cases r with
            | inl b => exact ⟨_, rfl⟩
            | inr x =>
              obtain ⟨l1, q1, c1⟩ := x
              (try dsimp only)
              split <;> exact ⟨_, rfl⟩
          · exact ⟨_, rfl⟩
        · split
          · split
            · split <;> exact ⟨_, rfl⟩
            · exact ⟨_, rfl⟩
          · split
            · split <;> exact ⟨_, rfl⟩
            · split
              · rename_i z0
                have zl : sk t L p + 3 ≤ L := by
                  rcases z0 with z | z
                  · exact isWd_le s2 z
                  · exact isWd_le s2 z
                split
                · split
                  · exact ⟨_, rfl⟩
                  · rename_i q0 e0
                    have h0 := pss_gt e0
                    obtain ⟨r, e1⟩ := ih 1 [] (k + 1) q0 (c + 1) (by omega) h0.2 (by omega) (fun x => by cases x) (by rw [if_pos rfl]; omega)
                    rw [e1]
                    cases r with
                    | inl b => exact ⟨_, rfl⟩
                    | inr x =>
                      obtain ⟨l1, q1, c1⟩ := x
                      have g1 := ps_gt (t := t) (L := L) n 1 [] (k + 1) q0 (c + 1) (by omega) h0.2 (by omega) (fun x => by cases x) l1 q1 c1 e1
                      rw [if_neg (by decide)] at g1
                      (try dsimp only)
                      split
                      · exact ⟨_, rfl⟩
                      · rename_i q2 e2
                        have h2 := pss_gt e2
                        obtain ⟨r2, e3⟩ := ih 1 [] (k + 1) q2 c1 (by omega) h2.2 g1.2.2.2.1 (fun x => by cases x) (by rw [if_pos rfl]; omega)
                        rw [e3]
                        cases r2 with
                        | inl b => exact ⟨_, rfl⟩
                        | inr x =>
                          obtain ⟨l2, q3, c2⟩ := x
                          (try dsimp only)
                          split <;> exact ⟨_, rfl⟩
                · exact ⟨_, rfl⟩
              · split
                · split
                  · split <;> exact ⟨_, rfl⟩
                  · exact ⟨_, rfl⟩
                · exact ⟨_, rfl⟩
      · intro x; cases x
      · intro x; cases x
    · rw [if_pos rfl] at h
      rw [ps]
      obtain ⟨r, e1⟩ := ih 0 [] k p c (by omega) hp hc (fun x => by cases x) (by rw [if_neg (by decide)]; omega)
      rw [e1]
      cases r with
      | inl b => exact ⟨_, rfl⟩
      | inr x =>
        obtain ⟨l1, q1, c1⟩ := x
        have g1 := ps_gt (t := t) (L := L) n 0 [] k p c (by omega) hp hc (fun x => by cases x) l1 q1 c1 e1
        rw [if_neg (by decide)] at g1
        (try dsimp only)
        exact ih 2 l1 k q1 c1 (by omega) g1.2.1 g1.2.2.2.1 (fun _ => g1.2.2.2.2) (by rw [if_neg (by decide)]; omega)
    · rw [if_neg (by decide)] at h
      rw [ps]
      split
      · rename_i z0
        have z1 : sk t L p < L := by rcases z0 with z | z <;> exact z.1
        split
        · obtain ⟨r, e1⟩ := ih 0 [] k (sk t L p + 1) (c + 1) (by omega) (by omega) (by omega) (fun x => by cases x) (by rw [if_neg (by decide)]; omega)
          rw [e1]
          cases r with
          | inl b => exact ⟨_, rfl⟩
          | inr x =>
            obtain ⟨r1, q1, c1⟩ := x
            have g1 := ps_gt (t := t) (L := L) n 0 [] k (sk t L p + 1) (c + 1) (by omega) (by omega) (by omega) (fun x => by cases x) r1 q1 c1 e1
            rw [if_neg (by decide)] at g1
            (try dsimp only)
            exact ih 2 _ k q1 c1 (by omega) g1.2.1 g1.2.2.2.1 (fun _ => by rw [List.length_cons]; omega) (by rw [if_neg (by decide)]; omega)
        · exact ⟨_, rfl⟩
      · exact ⟨_, rfl⟩
/-- all of the text: where it is bad, or its tree -/
def rdR (t : Nat → Int32) (L : Nat) : Nat ⊕ List Nd := match ps t L 802 1 [] 0 0 0 with
  | some (.inr (l, q, _)) => if q < L then .inl q else .inr l
  | some (.inl b) => .inl b
  | none => .inl 0
/-- how long the first tree in a list is -/
def ts : Nat → List Nd → Nat
  | 0, _ => 0
  | _ + 1, [] => 0
  | n + 1, v :: l => if isBn v = true then 1 + (ts n l + ts n (l.drop (ts n l))) else 1
theorem ts_rp {rd : Nat → Nd × Int32 × Int32} : ∀ {n x l ix}, Rp rd n x l ix → ∀ m (r : List Nd), n ≤ m → ts m (l ++ r) = l.length
  | n + 1, x, l, ix, h, m, r, hm => by
    obtain ⟨k, rfl⟩ : ∃ k, m = k + 1 := ⟨m - 1, by omega⟩
    rcases h with ⟨h0, -, e1, -⟩ | ⟨h0, x1, x2, l1, l2, i1, i2, -, h1, h2, e1, -⟩
    · rw [e1]
      show (if isBn (rd x).1 = true then _ else 1) = 1
      rw [if_neg (by rw [h0]; decide)]
    · rw [e1]
      show (if isBn (rd x).1 = true then 1 + (ts k (l1 ++ l2 ++ r) + ts k ((l1 ++ l2 ++ r).drop (ts k (l1 ++ l2 ++ r)))) else 1) = _
      have t1 : ts k (l1 ++ l2 ++ r) = l1.length := by rw [List.append_assoc]; exact ts_rp h1 k (l2 ++ r) (by omega)
      rw [if_pos h0, t1, List.append_assoc, List.drop_left, ts_rp h2 k r (by omega), List.length_cons, List.length_append]
      omega
/-- nothing -/
def v0 : Nd := (0, 0, 0, [])
def fL (l : List Nd) (j : Nat) : Int32 := if isBn (l.getD j v0) = true then nI (j + 1) else -1
def fR (l : List Nd) (j : Nat) : Int32 := if isBn (l.getD j v0) = true then nI (j + 1 + ts 100 (l.drop (j + 1))) else -1
/-- a node and what is below it, by their places in the list -/
def Ch (rd : Nat → Nd × Int32 × Int32) (l : List Nd) (ix : List Nat) (j : Nat) : Prop := (rd (ix.getD j 0)).1 = l.getD j v0 ∧ ((isBn (l.getD j v0) = false ∧ (rd (ix.getD j 0)).2 = (-1, -1)) ∨ (isBn (l.getD j v0) = true ∧ ∃ m, j + 1 < l.length ∧ m < l.length ∧ j + 1 < m ∧ (∀ r : List Nd, m = j + 1 + ts 100 (l.drop (j + 1) ++ r)) ∧ (rd (ix.getD j 0)).2 = (nI (ix.getD (j + 1) 0), nI (ix.getD m 0))))
theorem gl {α : Type} {a b : List α} {j : Nat} {d : α} (h : j < a.length) : (a ++ b).getD j d = a.getD j d := by simp [List.getD_eq_getElem?_getD, List.getElem?_append, h]
theorem gr' {α : Type} {a b : List α} {j : Nat} {d : α} (h : a.length ≤ j) : (a ++ b).getD j d = b.getD (j - a.length) d := by
  have : ¬ j < a.length := by omega
  simp [List.getD_eq_getElem?_getD, List.getElem?_append, this]
theorem gc0 {α : Type} {x d : α} {a : List α} : (x :: a).getD 0 d = x := rfl
theorem gcs {α : Type} {x d : α} {a : List α} {j : Nat} : (x :: a).getD (j + 1) d = a.getD j d := rfl
theorem rp_ch {rd : Nat → Nd × Int32 × Int32} : ∀ {n x l ix}, Rp rd n x l ix → n ≤ 100 → ∀ j, j < l.length → Ch rd l ix j := by
  intro n
  induction n with
  | zero => intro x l ix h; exact absurd h (by rw [Rp]; exact id)
  | succ n ih =>
    intro x l ix h hn j hj
    rcases h with ⟨h0, h1, e1, e2⟩ | ⟨h0, x1, x2, l1, l2, i1, i2, h1, h2, h3, e1, e2⟩
    · rw [e1] at hj
      have j0 : j = 0 := by rw [List.length_singleton] at hj; omega
      subst j0
      rw [e1, e2]
      exact ⟨rfl, Or.inl ⟨h0, h1⟩⟩
    · have n1 := h2.len
      have n2 := h3.len
      rw [e1, List.length_cons, List.length_append] at hj
      cases j with
      | zero =>
        refine ⟨by rw [e1, e2]; rfl, Or.inr ⟨by rw [e1]; exact h0, 1 + l1.length, ?_, ?_, by omega, ?_, ?_⟩⟩
        · rw [e1, List.length_cons, List.length_append]; omega
        · rw [e1, List.length_cons, List.length_append]; omega
        · intro r
          rw [e1]
          show 1 + l1.length = 0 + 1 + ts 100 (l1 ++ l2 ++ r)
          rw [List.append_assoc, ts_rp h2 100 (l2 ++ r) (by omega)]
        · have a1 : i1.getD 0 0 = x1 := by
            obtain ⟨n', rfl⟩ : ∃ n', n = n' + 1 := by
              cases n with
              | zero => exact absurd h2 (by rw [Rp]; exact id)
              | succ n' => exact ⟨n', rfl⟩
            rcases h2 with ⟨-, -, -, e⟩ | ⟨-, _, _, _, _, _, _, -, -, -, -, e⟩ <;> rw [e] <;> rfl
          have a2 : i2.getD 0 0 = x2 := by
            obtain ⟨n', rfl⟩ : ∃ n', n = n' + 1 := by
              cases n with
              | zero => exact absurd h2 (by rw [Rp]; exact id)
              | succ n' => exact ⟨n', rfl⟩
            rcases h3 with ⟨-, -, -, e⟩ | ⟨-, _, _, _, _, _, _, -, -, -, -, e⟩ <;> rw [e] <;> rfl
          rw [e2, gc0, h1, show 1 + l1.length = l1.length + 1 by omega, gcs, gl (by omega), a1, gcs, gr' (by omega), n1.1, Nat.sub_self, a2]
      | succ j =>
        by_cases z : j < l1.length
        · have c1 := ih h2 (by omega) j z
          obtain ⟨c1, c2⟩ := c1
          have eL : l.getD (j + 1) v0 = l1.getD j v0 := by rw [e1, gcs, gl z]
          have eI : ix.getD (j + 1) 0 = i1.getD j 0 := by rw [e2, gcs, gl (by omega)]
          refine ⟨by rw [eL, eI]; exact c1, ?_⟩
          rw [eL, eI]
          rcases c2 with c2 | ⟨c2, m, m1, m2, m3, m4, m5⟩
          · exact Or.inl c2
          · refine Or.inr ⟨c2, m + 1, ?_, ?_, by omega, ?_, ?_⟩
            · rw [e1, List.length_cons, List.length_append]; omega
            · rw [e1, List.length_cons, List.length_append]; omega
            · intro r
              have eD : l.drop (j + 1 + 1) = l1.drop (j + 1) ++ l2 := by
                rw [e1, List.drop_succ_cons, List.drop_append_of_le_length (by omega)]
              have := m4 (l2 ++ r)
              rw [eD, List.append_assoc]; omega
            · rw [m5, e2, gcs, gcs, gl (by omega), gl (by omega)]
        · have c1 := ih h3 (by omega) (j - l1.length) (by omega)
          obtain ⟨c1, c2⟩ := c1
          have eL : l.getD (j + 1) v0 = l2.getD (j - l1.length) v0 := by rw [e1, gcs, gr' (by omega)]
          have eI : ix.getD (j + 1) 0 = i2.getD (j - l1.length) 0 := by rw [e2, gcs, gr' (by omega), n1.1]
          refine ⟨by rw [eL, eI]; exact c1, ?_⟩
          rw [eL, eI]
          rcases c2 with c2 | ⟨c2, m, m1, m2, m3, m4, m5⟩
          · exact Or.inl c2
          · refine Or.inr ⟨c2, m + l1.length + 1, ?_, ?_, by omega, ?_, ?_⟩
            · rw [e1, List.length_cons, List.length_append]; omega
            · rw [e1, List.length_cons, List.length_append]; omega
            · intro r
              have eD : l.drop (j + 1 + 1) = l2.drop (j - l1.length + 1) := by
                rw [e1, List.drop_succ_cons, List.drop_append, List.drop_eq_nil_of_le (by omega), List.nil_append]
                congr 1
                omega
              have := m4 r
              rw [eD]; omega
            · rw [m5, e2, gcs, gcs, gr' (by omega), gr' (by omega), n1.1]
              congr 3 <;> omega
end RW
