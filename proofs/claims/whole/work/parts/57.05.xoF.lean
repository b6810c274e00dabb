/-! THE JDK (6): copyOf -/
theorem xo_arrc {c : ClassId} {N : Nat} {f g : Nat → Value} (h : ∀ j, j < N → f j = g j) : arrV c N f = arrV c N g := by
  have hs : (arrV c N f).slots = (arrV c N g).slots := by
    refine Array.ext (by rw [arrV_size, arrV_size]) (fun i h1 h2 => ?_)
    have hi : i < N := by rw [arrV_size] at h1; exact h1
    have e1 := arrV_read c f hi
    have e2 := arrV_read c g hi
    rw [Array.getElem?_eq_getElem h1] at e1
    rw [Array.getElem?_eq_getElem h2] at e2
    rw [Option.some.inj e1, Option.some.inj e2, h i hi]
  show ({ cls := c, slots := (arrV c N f).slots, vm := .none } : Cell) = { cls := c, slots := (arrV c N g).slots, vm := .none }
  rw [hs]
theorem xo_n1 (M : dp_M) (N : Nat) {a : Nat} (h : a ≠ dp_n M) : dp_I (dp_new M N 1 N) a = dp_I M a ∧ dp_len (dp_new M N 1 N) a = dp_len M a := by
  refine ⟨?_, ?_⟩
  · funext i; simp [dp_I, dp_new, dp_row, h]
  · simp [dp_len, dp_new, dp_u1, h]
theorem xo_t1 {md : Bool} {M : dp_M} {N : Nat} (h : dp_n M < dp_K0 → dp_sh (dp_n M) = 1) : dp_t md (dp_new M N 1 N) (dp_n M) = 1 := by
  have hn : dp_n (dp_new M N 1 N) = dp_n M + 1 := rfl
  unfold dp_t
  split
  · rename_i hk
    split
    · exact h hk
    · rw [if_pos (by rw [hn]; omega)]; exact h hk
  · simp [dp_tag, dp_new, dp_u1]
theorem xo_t2 {md : Bool} {M : dp_M} {N a : Nat} (hlt : a < dp_n M) : dp_t md (dp_new M N 1 N) a = dp_t md M a := by
  have hn : dp_n (dp_new M N 1 N) = dp_n M + 1 := rfl
  have hne : a ≠ dp_n M := by omega
  unfold dp_t
  split
  · split
    · rfl
    · rw [hn, if_pos (by omega)]
      try rw [if_pos hlt]
  · simp [dp_tag, dp_new, dp_u1, hne]
/-- a new place that holds what another holds -/
theorem xo_nw {G : dp_G} {b : Nat} {H0 : Heap} {md : Bool} {M : dp_M} {H : Heap} {a : Nat} (hRp : dp_Rep G b H0 md M H) (ha : a < dp_n M) (hnk : dp_n M < dp_K0 → dp_sh (dp_n M) = 1) : dp_Rep G b H0 md (dp_cpI (dp_new M (dp_len M a) 1 (dp_len M a)) a 0 (dp_n M) 0 (dp_len M a)) (H.push (arrV (G.2 1) (dp_len M a) (fun j => .int (dp_I M a j)))) := by
  have hsz := hRp.1
  obtain ⟨L, eL⟩ : ∃ L, L = dp_len M a := ⟨_, rfl⟩
  rw [← eL]
  have r0 : dp_Rep G b H0 md (dp_new M L 1 L) (H.push (arrV (G.2 1) L (fun _ => .int 0))) := by
    refine hRp.nw (by rw [Array.size_push]) (fun q hq => by rw [Array.getElem?_push, if_neg (Nat.ne_of_lt hq)]) hnk ?_
    show (H.push _)[b + dp_n M]? = some (arrV (G.2 1) (dp_len _ _) _)
    rw [dp_newL, dp_newI, ← hsz, Array.getElem?_push_size]
  refine r0.wr (k := dp_n M) (by rw [Array.size_push, Array.size_push]) (fun q hq => ?_) ⟨fun j hj => ⟨?_, rfl, rfl⟩, rfl, rfl, rfl⟩ ?_ (fun _ _ _ _ => rfl)
  · rw [Array.getElem?_push, Array.getElem?_push]
    by_cases z : q = H.size
    · omega
    · rw [if_neg z, if_neg z]
  · funext i
    show (if j = dp_n M ∧ _ ∧ _ then _ else dp_I (dp_new M L 1 L) j i) = _
    rw [if_neg (fun q => hj q.1)]
  · rw [xo_t1 hnk]
    show (H.push _)[b + dp_n M]? = some (arrV (G.2 1) (dp_len (dp_new M L 1 L) (dp_n M)) (fun j => .int (dp_I (dp_cpI (dp_new M L 1 L) a 0 (dp_n M) 0 L) (dp_n M) j)))
    rw [dp_newL, ← hsz, Array.getElem?_push_size]
    congr 1
    refine xo_arrc (fun j hj => ?_)
    show Value.int (dp_I M a j) = Value.int (if dp_n M = dp_n M ∧ 0 ≤ j ∧ j < 0 + L then dp_I (dp_new M L 1 L) a (0 + (j - 0)) else _)
    rw [if_pos ⟨rfl, Nat.zero_le _, by omega⟩, (xo_n1 M L (by omega : a ≠ dp_n M)).1, Nat.zero_add, Nat.sub_zero]
