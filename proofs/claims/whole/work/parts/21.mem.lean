/-! THE DEEP LAYER (2): the memory against the heap -/
/-- the tag of a place: 0 nothing, 1 int[], 2 long[], 3 boolean[], 4 char[], 5 Rate[], 10 + class. md: all fixed places are there -/
def dp_t (md : Bool) (M : dp_M) (k : Nat) : Nat := if k < dp_K0 then (if md then dp_sh k else if k < dp_n M then dp_sh k else 0) else dp_tag M k
def dp_ln (md : Bool) (M : dp_M) (k : Nat) : Nat := if md then (if k < dp_K0 then (if dp_sl k = 0 then dp_len M k else dp_sl k) else dp_len M k) else dp_len M k
def dp_fv (b : Nat) (M : dp_M) (k kd i : Nat) : Value := match kd with
  | 0 => .int (dp_I M k i)
  | 1 => .long (dp_J M k i)
  | _ => va_rf ((dp_R M k i).map (b + ·))
abbrev dp_G : Type := va_G × (Nat → ClassId)
def dp_ob (G : dp_G) (b ci : Nat) (M : dp_M) (k : Nat) (H : Heap) : Prop := ∃ r : vw_C, vwCl[ci]? = some r ∧ t_OB (b + k) (G.1.1 ci) r.2.2 (G.1.2 ci) H (fun i => dp_fv b M k (dp_fk ci i) i)
def dp_at (G : dp_G) (b t : Nat) (M : dp_M) (k : Nat) (H : Heap) : Prop := match t with
  | 0 => True
  | 1 => H[b + k]? = some (arrV (G.2 1) (dp_len M k) (fun j => .int (dp_I M k j)))
  | 2 => H[b + k]? = some (arrV (G.2 2) (dp_len M k) (fun j => .long (dp_J M k j)))
  | 3 => H[b + k]? = some (arrV (G.2 3) (dp_len M k) (fun j => .int (dp_I M k j)))
  | 4 => H[b + k]? = some (arrV (G.2 4) (dp_len M k) (fun j => .int (dp_I M k j)))
  | 5 => H[b + k]? = some (arrV (G.2 5) (dp_len M k) (fun j => va_rf ((dp_R M k j).map (b + ·))))
  | 6 => False
  | 7 => False
  | 8 => False
  | 9 => False
  | ci + 10 => dp_ob G b ci M k H
/-- the heap H holds the memory M behind base b, and ahead of it what H0 held -/
def dp_Rep (G : dp_G) (b : Nat) (H0 : Heap) (md : Bool) (M : dp_M) (H : Heap) : Prop :=
  H.size = b + dp_n M ∧ (∀ q : Nat, q < b → H[q]? = H0[q]?) ∧ (∀ k, dp_t md M k ≠ 0 → k < dp_n M ∧ dp_at G b (dp_t md M k) M k H) ∧
    (md = true → dp_K0 ≤ dp_n M ∧ (∀ k, k < dp_K0 → dp_sl k ≠ 0 → dp_len M k = dp_sl k) ∧ ∀ k i, k < dp_K0 → dp_sr k i ≠ 0 → dp_R M k i = some (dp_sr k i - 1)) ∧ ∀ k, dp_n M ≤ k → dp_tag M k = 0
theorem dp_ln_eq {G : dp_G} {b : Nat} {H0 : Heap} {md : Bool} {M : dp_M} {H : Heap} (h : dp_Rep G b H0 md M H) (k : Nat) : dp_ln md M k = dp_len M k := by
  unfold dp_ln
  split
  · rename_i hm
    split
    · rename_i hk
      split
      · rfl
      · rename_i hs; exact ((h.2.2.2.1 hm).2.1 k hk hs).symm
    · rfl
  · rfl
/-- rows other than k, lengths, tags and count are the same -/
def dp_same (M M' : dp_M) (k : Nat) : Prop := (∀ j, j ≠ k → dp_I M' j = dp_I M j ∧ dp_J M' j = dp_J M j ∧ dp_R M' j = dp_R M j) ∧ dp_len M' = dp_len M ∧ dp_tag M' = dp_tag M ∧ dp_n M' = dp_n M
theorem dp_at_congr {G : dp_G} {b t k : Nat} {M M' : dp_M} {H H' : Heap} (hI : dp_I M' k = dp_I M k) (hJ : dp_J M' k = dp_J M k) (hR : dp_R M' k = dp_R M k) (hl : dp_len M' k = dp_len M k) (hh : H'[b + k]? = H[b + k]?) (h : dp_at G b t M k H) : dp_at G b t M' k H' := by
  unfold dp_at at h ⊢
  split at h
  · trivial
  · rw [hh, hI, hl]; exact h
  · rw [hh, hJ, hl]; exact h
  · rw [hh, hI, hl]; exact h
  · rw [hh, hI, hl]; exact h
  · rw [hh, hR, hl]; exact h
  · exact h
  · exact h
  · exact h
  · exact h
  · obtain ⟨r, h1, h2⟩ := h
    refine ⟨r, h1, (h2.kept hh).to (fun i _ => ?_)⟩
    unfold dp_fv
    split
    · rw [hI]
    · rw [hJ]
    · rw [hR]
theorem dp_t_same {md : Bool} {M M' : dp_M} (ht : dp_tag M' = dp_tag M) (hn : dp_n M' = dp_n M) (k : Nat) : dp_t md M' k = dp_t md M k := by
  unfold dp_t; rw [ht, hn]
theorem dp_Rep.wr {G : dp_G} {b : Nat} {H0 : Heap} {md : Bool} {M M' : dp_M} {H H' : Heap} {k : Nat} (h : dp_Rep G b H0 md M H) (hz : H'.size = H.size) (ho : ∀ q : Nat, q ≠ b + k → H'[q]? = H[q]?)
    (hs : dp_same M M' k) (hat : dp_at G b (dp_t md M k) M' k H') (hR : md = true → ∀ i, k < dp_K0 → dp_sr k i ≠ 0 → dp_R M' k i = dp_R M k i) : dp_Rep G b H0 md M' H' := by
  obtain ⟨h1, h2, h3, h4, h5⟩ := h
  obtain ⟨s1, s2, s3, s4⟩ := hs
  refine ⟨by rw [hz, h1, s4], fun q hq => by rw [ho q (by omega)]; exact h2 q hq, fun j hj => ?_, fun hm => ⟨by rw [s4]; exact (h4 hm).1, by rw [s2]; exact (h4 hm).2.1, fun j i hj hi => ?_⟩, fun j hj => by rw [s3]; exact h5 j (by rw [← s4]; exact hj)⟩
  · rw [dp_t_same s3 s4] at hj ⊢
    obtain ⟨a1, a2⟩ := h3 j hj
    refine ⟨by rw [s4]; exact a1, ?_⟩
    by_cases hjk : j = k
    · subst hjk; exact hat
    · obtain ⟨i1, i2, i3⟩ := s1 j hjk
      exact dp_at_congr i1 i2 i3 (by rw [s2]) (ho _ (by omega)) a2
  · by_cases hjk : j = k
    · subst hjk
      rw [hR hm i hj hi]; exact (h4 hm).2.2 j i hj hi
    · rw [(s1 j hjk).2.2]; exact (h4 hm).2.2 j i hj hi
theorem dp_same_I (M : dp_M) (k i : Nat) (x : Int32) : dp_same M (dp_setI M k i x) k := ⟨fun j hj => ⟨by funext i'; simp [dp_setI, dp_I, dp_up, hj], rfl, rfl⟩, rfl, rfl, rfl⟩
theorem dp_same_J (M : dp_M) (k i : Nat) (x : Int64) : dp_same M (dp_setJ M k i x) k := ⟨fun j hj => ⟨rfl, by funext i'; simp [dp_setJ, dp_J, dp_up, hj], rfl⟩, rfl, rfl, rfl⟩
theorem dp_same_R (M : dp_M) (k i : Nat) (x : Option Nat) : dp_same M (dp_setR M k i x) k := ⟨fun j hj => ⟨rfl, rfl, by funext i'; simp [dp_setR, dp_R, dp_up, hj]⟩, rfl, rfl, rfl⟩
/-- a new place -/
theorem dp_Rep.nw {G : dp_G} {b : Nat} {H0 : Heap} {md : Bool} {M : dp_M} {H H' : Heap} {n t z : Nat} (h : dp_Rep G b H0 md M H) (hz : H'.size = H.size + 1) (ho : ∀ q : Nat, q < H.size → H'[q]? = H[q]?)
    (ht : dp_n M < dp_K0 → dp_sh (dp_n M) = t) (hat : dp_at G b t (dp_new M n t z) (dp_n M) H') : dp_Rep G b H0 md (dp_new M n t z) H' := by
  obtain ⟨h1, h2, h3, h4, h5⟩ := h
  have hn : dp_n (dp_new M n t z) = dp_n M + 1 := rfl
  refine ⟨by rw [hz, h1, hn]; omega, fun q hq => by rw [ho q (by omega)]; exact h2 q hq, fun j hj => ?_, fun hm => ⟨by rw [hn]; have := (h4 hm).1; omega, fun k hk hs => ?_, fun k i hk hi => ?_⟩, fun j hj => ?_⟩
  · by_cases hjn : j = dp_n M
    · subst hjn
      refine ⟨by rw [hn]; omega, ?_⟩
      have : dp_t md (dp_new M n t z) (dp_n M) = t := by
        unfold dp_t
        split
        · rename_i hk
          split
          · exact ht hk
          · rw [if_pos (by rw [hn]; omega)]; exact ht hk
        · simp [dp_tag, dp_new, dp_u1]
      rw [this]; exact hat
    · have e : dp_t md (dp_new M n t z) j ≠ 0 → dp_t md (dp_new M n t z) j = dp_t md M j ∧ dp_t md M j ≠ 0 := by
        intro hne
        have : dp_t md (dp_new M n t z) j = dp_t md M j := by
          unfold dp_t
          split
          · split
            · rfl
            · rw [hn]
              by_cases h9 : j < dp_n M
              · rw [if_pos h9, if_pos (by omega)]
              · rw [if_neg h9, if_neg (by omega)]
          · simp [dp_tag, dp_new, dp_u1, hjn]
        exact ⟨this, by rw [← this]; exact hne⟩
      obtain ⟨e1, e2⟩ := e hj
      obtain ⟨a1, a2⟩ := h3 j e2
      refine ⟨by rw [hn]; omega, ?_⟩
      rw [e1]
      refine dp_at_congr ?_ ?_ ?_ ?_ (ho _ (by omega)) a2
      · funext i; simp [dp_I, dp_new, dp_row, hjn]
      · funext i; simp [dp_J, dp_new, dp_row, hjn]
      · funext i; simp [dp_R, dp_new, dp_row, hjn]
      · simp [dp_len, dp_new, dp_u1, hjn]
  · have h6 := h4 hm
    have : k ≠ dp_n M := by omega
    rw [← h6.2.1 k hk hs]
    simp [dp_len, dp_new, dp_u1, this]
  · have h6 := h4 hm
    have : k ≠ dp_n M := by omega
    rw [← h6.2.2 k i hk hi]
    simp [dp_R, dp_new, dp_row, this]
  · rw [hn] at hj
    have : j ≠ dp_n M := by omega
    have h7 := h5 j (by omega)
    simpa [dp_tag, dp_new, dp_u1, this] using h7
/-- a cell that is no place's any more (an exception) -/
theorem dp_Rep.gb {G : dp_G} {b : Nat} {H0 : Heap} {md : Bool} {M : dp_M} {H H' : Heap} {z : Nat} (h : dp_Rep G b H0 md M H) (hz : H'.size = H.size + 1) (ho : ∀ q : Nat, q < H.size → H'[q]? = H[q]?)
    (ht : dp_n M < dp_K0 → dp_sh (dp_n M) = 0) : dp_Rep G b H0 md (dp_new M 0 0 z) H' := h.nw hz ho ht trivial
