-- needs: 71 72 73 74 75 76 77 78 85
/-! PLAN: what holds of every queue -/
theorem vk_x {n c f k : Nat} (hn : n ≤ 4) (hc : c < 16 ^ n) (h : vc n c = true) (hf : f < 7) (ek : tkn c n f = some k) : vk1 n c k = true := by
  have h1 := vk_t hn hc h
  cases e : vk1 n c k with
  | true => rfl
  | false =>
    exfalso
    unfold vk at h1
    rw [Bool.not_eq_true'] at h1
    refine absurd (an_iff.mpr ⟨f, hf, ?_⟩) (Bool.eq_false_iff.mp h1)
    (try dsimp only)
    rw [ek]
    (try dsimp only)
    rw [e]; rfl
theorem vk1_p {n c k p : Nat} (h : vk1 n c k = true) (hp : p = 12 ∨ p = 13 ∨ ∃ t, t < 3 ∧ ¬ pl c k / 4 = t ∧ hgt c n t < 4 ∧ p = t * 4 + hgt c n t) : vc n (pu c k p) = true := by
  unfold vk1 at h
  rw [Bool.and_eq_true, Bool.and_eq_true] at h
  obtain ⟨h1, h2, h3⟩ := h
  rcases hp with rfl | rfl | ⟨t, ht, a1, a2, rfl⟩
  · exact h1
  · exact h2
  · cases e : vc n (pu c k (t * 4 + hgt c n t)) with
    | true => rfl
    | false =>
      exfalso
      have b1 : Nat.beq (pl c k / 4) t = false := by
        cases q : Nat.beq (pl c k / 4) t with
        | false => rfl
        | true => exact absurd (Nat.eq_of_beq_eq_true q) a1
      have b2 : Nat.blt (hgt c n t) 4 = true := Nat.ble_eq_true_of_le a2
      have : an (fun t => !(Nat.beq (pl c k / 4) t || (!(Nat.blt (hgt c n t) 4) || vc n (pu c k (t * 4 + hgt c n t))))) 3 = true := an_iff.mpr ⟨t, ht, by (try dsimp only); rw [b1, b2, e]; rfl⟩
      rw [this] at h3; cases h3
theorem tpp_f (c : Nat) : ∀ n f, 0 < hgt c n f → pl c (tpp c n f) / 4 = f
  | 0, _ => fun h => absurd h (Nat.lt_irrefl 0)
  | n + 1, f => fun h => by
    rw [tpp]
    rw [hgt] at h
    split
    · rename_i z; exact z.2.1
    · rename_i z
      rw [if_neg z] at h
      exact tpp_f c n f h
theorem asd_p (c j : Nat) : ∀ n k, asd c n j = some k → k < n ∧ pl c k = 13
  | 0, k => fun h => by cases h
  | n + 1, k => fun h => by
    rw [asd] at h
    cases e : asd c n j with
    | some x =>
      rw [e] at h
      (try dsimp only at h)
      have := asd_p c j n k (by rw [e]; exact h)
      exact ⟨by omega, this.2⟩
    | none =>
      rw [e] at h
      (try dsimp only at h)
      by_cases z : pl c n = 13 ∧ ct (fun i => decide (pl c i = 13)) n = j
      · rw [if_pos z] at h
        have e' : n = k := Option.some.inj h
        subst e'
        exact ⟨by omega, z.1⟩
      · rw [if_neg z] at h; cases h
theorem tkn_p {c n f k : Nat} (h : tkn c n f = some k) : k < n ∧ (f < 3 → pl c k / 4 = f) ∧ (3 ≤ f → pl c k = 13) := by
  unfold tkn at h
  by_cases z : f < 3
  · rw [if_pos z] at h
    by_cases y : hgt c n f = 0
    · rw [if_pos y] at h; cases h
    · rw [if_neg y] at h
      have e : tpp c n f = k := Option.some.inj h
      subst e
      exact ⟨tpp_lt c n f (by omega), fun _ => tpp_f c n f (by omega), fun q => by omega⟩
  · rw [if_neg z] at h
    have := asd_p c _ n k h
    exact ⟨this.1, fun q => absurd q z, fun _ => this.2⟩
theorem pu_ltn {c k p n : Nat} (hn : n ≤ 4) (hc : c < 16 ^ n) (hk : k < n) (hp : p < 16) : pu c k p < 16 ^ n := by
  have e := pu_sp c k p
  have cn : n = 1 ∨ n = 2 ∨ n = 3 ∨ n = 4 := by omega
  have ck : k = 0 ∨ k = 1 ∨ k = 2 ∨ k = 3 := by omega
  rcases cn with rfl | rfl | rfl | rfl <;> rcases ck with rfl | rfl | rfl | rfl <;> first
    | (exfalso; omega)
    | (rw [e]; simp only [show (16 : Nat) ^ 0 = 1 from rfl, show (16 : Nat) ^ 1 = 16 from rfl, show (16 : Nat) ^ 2 = 256 from rfl, show (16 : Nat) ^ 3 = 4096 from rfl, show (16 : Nat) ^ 4 = 65536 from rfl, show (16 : Nat) ^ (0 + 1) = 16 from rfl, show (16 : Nat) ^ (1 + 1) = 256 from rfl, show (16 : Nat) ^ (2 + 1) = 4096 from rfl, show (16 : Nat) ^ (3 + 1) = 65536 from rfl] at hc ⊢; omega)
theorem QW.add {Q : List qE} {e : qE} (h : QW Q) (hi : e.2.1 < Q.length) : QW (qadd Q e) := by
  unfold qadd
  split
  · exact h
  · intro j h0 hj
    rw [List.length_append, show [e].length = 1 from rfl] at hj
    by_cases y : j < Q.length
    · rw [qat_l y]; exact h j h0 y
    · rw [show j = Q.length by omega, qat_r]; exact hi
theorem gi_q {n T : Nat} {l ah : Nat → Int32} (hn : n ≤ 4) (hT : T ≤ 4) : GI (fun Q => QV n Q ∧ QW Q) n T l ah := by
  refine ⟨fun Q q => ⟨by have := q.1.len hn; omega, q.2⟩, fun Q i f t q hi hf ht => ?_⟩
  obtain ⟨q1, q2⟩ := q
  obtain ⟨c1, c2⟩ := q1.1 i hi
  obtain ⟨c, ec⟩ : ∃ c, c = (qat Q i).1 := ⟨_, rfl⟩
  rw [← ec] at c1 c2 ⊢
  cases ek : tkn c n f with
  | none => rw [qst_n ek]; exact ⟨q1, q2⟩
  | some k =>
    cases ep : mvt c n T l ah k f t with
    | none => rw [qst_m ek ep]; exact ⟨q1, q2⟩
    | some p =>
      rw [qst_s ek ep]
      obtain ⟨k1, k2, k3⟩ := tkn_p ek
      have hp : p = 12 ∨ p = 13 ∨ ∃ t, t < 3 ∧ ¬ pl c k / 4 = t ∧ hgt c n t < 4 ∧ p = t * 4 + hgt c n t := by
        unfold mvt at ep
        by_cases z : t < 3
        · rw [if_pos z] at ep
          by_cases y : t ≠ f ∧ hgt c n t < T
          · rw [if_pos y] at ep
            refine Or.inr (Or.inr ⟨t, z, fun q => ?_, by omega, (Option.some.inj ep).symm⟩)
            by_cases x : f < 3
            · exact y.1 (by rw [← q]; exact k2 x)
            · rw [k3 (by omega)] at q; omega
          · rw [if_neg y] at ep; cases ep
        · rw [if_neg z] at ep
          by_cases y : t = 3
          · rw [if_pos y] at ep
            split at ep
            · exact Or.inl (Option.some.inj ep).symm
            · cases ep
          · rw [if_neg y] at ep
            split at ep
            · exact Or.inr (Or.inl (Option.some.inj ep).symm)
            · cases ep
      have hp16 : p < 16 := by
        rcases hp with e | e | ⟨t', h1, -, h3, h4⟩
        · omega
        · omega
        · omega
      exact ⟨q1.add (pu_ltn hn c1 k1 hp16) (vk1_p (vk_x hn c1 c2 hf ek) hp), q2.add hi⟩
