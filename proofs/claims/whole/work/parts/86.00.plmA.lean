-- needs: 71 72 73 74 75 76 77 78 85
/-! PLAN: the model's table of words -/
def hsw (w : Int64) : Int64 := ((Int64.toUInt64 (w * (-7046029254386353131 : Int64)) >>> ((Int32.toInt64 (40 : Int32)).toUInt64 &&& Int64.toUInt64 63)).toInt64) &&& (4095 : Int64)
def hsh (w : Int64) : Nat := (hsw w).toBitVec.toNat
theorem hs_and (y : Int64) : (y &&& (4095 : Int64)).toBitVec.toNat < 4096 := by
  have e : (y &&& (4095 : Int64)).toBitVec.toNat = y.toBitVec.toNat &&& 4095 := by
    rw [Int64.toBitVec_and, BitVec.toNat_and]; rfl
  rw [e]
  have := Nat.and_le_right (n := y.toBitVec.toNat) (m := 4095)
  omega
theorem hsh_lt (w : Int64) : hsh w < 4096 := by rw [hsh, hsw]; exact hs_and _
theorem hs_i32 {x : Int64} (h : x.toBitVec.toNat < 4096) : Int64.toInt32 x = nI x.toBitVec.toNat := by
  apply Int32.toBitVec_inj.mp
  apply BitVec.eq_of_toNat_eq
  rw [nI_bv, Int64.toBitVec_toInt32, BitVec.signExtend_eq_setWidth_of_le _ (by decide), BitVec.toNat_setWidth, BitVec.toNat_ofNat]
theorem hs_n (w : Int64) : (hsw w).toBitVec.toNat = hsh w := by rw [hsh]
theorem hs_e (w : Int64) : Int64.toInt32 (hsw w) = nI ((hsh w + 0) % 4096) := by
  rw [Nat.add_zero, Nat.mod_eq_of_lt (hsh_lt w), ← hs_n]
  exact hs_i32 (by rw [hs_n]; exact hsh_lt w)
/-- the table holds the words of the list, each where it is looked for -/
def HI (hs : Nat → Int32) (wy : Nat → Int64) (N : Nat) : Prop :=
  (∀ s, s < 4096 → ∃ x : Nat, x ≤ N ∧ hs s = nI x) ∧ (∀ s s', s < 4096 → s' < 4096 → hs s = hs s' → ¬ hs s = 0 → s = s') ∧
  ∀ j, j < N → ∃ t, t < 4096 ∧ hs ((hsh (wy j) + t) % 4096) = nI (j + 1) ∧ ∀ u, u < t → ¬ hs ((hsh (wy j) + u) % 4096) = 0
theorem HI.room {hs : Nat → Int32} {wy : Nat → Int64} {N : Nat} (h : HI hs wy N) (hN : N < 2048) (a : Nat) : ¬ ∀ u, u < 4096 → ¬ hs ((a + u) % 4096) = 0 := fun q => by
  have key := pig (N + 1) 4096 (fun s => (hs s).toNatClampNeg) (fun s hs' => ?_) (fun s s' h1 h2 e => ?_)
  · omega
  · obtain ⟨x, hx, e⟩ := h.1 s hs'
    (try dsimp only)
    rw [e, nI_cl (by omega)]; omega
  · obtain ⟨x, hx, ex⟩ := h.1 s h1
    obtain ⟨y, hy, ey⟩ := h.1 s' h2
    (try dsimp only at e)
    rw [ex, ey, nI_cl (by omega), nI_cl (by omega)] at e
    refine h.2.1 s s' h1 h2 (by rw [ex, ey, e]) ?_
    have := q ((s + 4096 * (a + 1) - a) % 4096) (Nat.mod_lt _ (by decide))
    rw [show (a + (s + 4096 * (a + 1) - a) % 4096) % 4096 = s by omega] at this
    exact this
theorem HI.add {hs : Nat → Int32} {wy : Nat → Int64} {N t : Nat} {w : Int64} (h : HI hs wy N) (hN : N < 2047) (ht : t < 4096) (he : hs ((hsh w + t) % 4096) = 0) (hb : ∀ u, u < t → ¬ hs ((hsh w + u) % 4096) = 0) : HI (uI hs ((hsh w + t) % 4096) (nI (N + 1))) (uI wy N w) (N + 1) := by
  obtain ⟨s0, es⟩ : ∃ s0, s0 = (hsh w + t) % 4096 := ⟨_, rfl⟩
  rw [← es] at he ⊢
  have hs0 : s0 < 4096 := by rw [es]; exact Nat.mod_lt _ (by decide)
  refine ⟨fun s hs' => ?_, fun s s' h1 h2 e z => ?_, fun j hj => ?_⟩
  · by_cases y : s = s0
    · rw [y, uI_s]; exact ⟨N + 1, Nat.le_refl _, rfl⟩
    · rw [uI_n y]
      obtain ⟨x, a1, a2⟩ := h.1 s hs'
      exact ⟨x, by omega, a2⟩
  · by_cases y : s = s0
    · by_cases y' : s' = s0
      · rw [y, y']
      · exfalso
        rw [y, uI_s, uI_n y'] at e
        obtain ⟨x, a1, a2⟩ := h.1 s' h2
        rw [a2, nI_eq (by omega) (by omega)] at e; omega
    · by_cases y' : s' = s0
      · exfalso
        rw [y', uI_s, uI_n y] at e
        obtain ⟨x, a1, a2⟩ := h.1 s h1
        rw [a2, nI_eq (by omega) (by omega)] at e; omega
      · rw [uI_n y, uI_n y'] at e
        rw [uI_n y] at z
        exact h.2.1 s s' h1 h2 e z
  · by_cases y : j = N
    · subst y
      rw [uI_s]
      refine ⟨t, ht, by rw [← es, uI_s], fun u hu => ?_⟩
      by_cases z : (hsh w + u) % 4096 = s0
      · rw [z, uI_s]; exact fun q => by rw [show (0 : Int32) = nI 0 from rfl, nI_eq (by omega) (by omega)] at q; omega
      · rw [uI_n z]; exact hb u hu
    · rw [uI_n y]
      obtain ⟨t', a1, a2, a3⟩ := h.2.2 j (by omega)
      have nz : ∀ s, ¬ hs s = 0 → ¬ uI hs s0 (nI (N + 1)) s = 0 := fun s q => by
        by_cases z : s = s0
        · rw [z] at q; exact absurd he q
        · rw [uI_n z]; exact q
      refine ⟨t', a1, ?_, fun u hu => nz _ (a3 u hu)⟩
      rw [uI_n (fun q => ?_)]; exact a2
      rw [q, he, show (0 : Int32) = nI 0 from rfl, nI_eq (by omega) (by omega)] at a2; omega
/-- nothing is found where a free place comes first -/
theorem HI.new {hs : Nat → Int32} {wy : Nat → Int64} {N t : Nat} {w : Int64} (h : HI hs wy N) (hN : N < 2048) (ht : t < 4096) (he : hs ((hsh w + t) % 4096) = 0) (hb : ∀ u, u < t → ∀ j, j < N → hs ((hsh w + u) % 4096) = nI (j + 1) → ¬ wy j = w) (j : Nat) (hj : j < N) : ¬ wy j = w := fun e => by
  obtain ⟨t', a1, a2, a3⟩ := h.2.2 j hj
  rw [e] at a2 a3
  by_cases y : t' < t
  · exact hb t' y j hj a2 e
  · by_cases z : t' = t
    · rw [z, he, show (0 : Int32) = nI 0 from rfl, nI_eq (by omega) (by omega)] at a2; omega
    · exact a3 t (by omega) he
