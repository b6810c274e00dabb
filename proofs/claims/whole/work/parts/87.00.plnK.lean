-- needs: 71 72 73 74 75 76 77 78 85 86
/-! PLAN: the boxes of a bay and their code -/
/-- the j-th of those that are meant -/
def lob (p : Nat → Bool) : Nat → Nat → Nat
  | 0, _ => 0
  | n + 1, j => if p n = true ∧ ct p n = j then n else lob p n j
theorem lob_p {p : Nat → Bool} : ∀ n j, j < ct p n → lob p n j < n ∧ p (lob p n j) = true ∧ ct p (lob p n j) = j
  | 0, j, h => by rw [ct] at h; omega
  | n + 1, j, h => by
    rw [lob]
    by_cases z : p n = true ∧ ct p n = j
    · rw [if_pos z]; exact ⟨by omega, z.1, z.2⟩
    · rw [if_neg z]
      rw [ct] at h
      have hj : j < ct p n := by
        by_cases y : p n = true
        · rw [if_pos y] at h
          have : ¬ ct p n = j := fun q => z ⟨y, q⟩
          omega
        · rw [if_neg y] at h; exact h
      obtain ⟨h1, h2, h3⟩ := lob_p n j hj
      exact ⟨by omega, h2, h3⟩
theorem lob_at {p : Nat → Bool} {i : Nat} (hp : p i = true) : ∀ n, i < n → lob p n (ct p i) = i
  | 0, h => by omega
  | n + 1, h => by
    rw [lob]
    by_cases z : i = n
    · subst z; rw [if_pos ⟨hp, rfl⟩]
    · have := cts hp (show i < n by omega)
      rw [if_neg (fun q => by omega)]
      exact lob_at hp n (by omega)
theorem ct_lob {p q : Nat → Bool} : ∀ n, (∀ i, i < n → q i = true → p i = true) → ct q n = ct (fun k => q (lob p n k)) (ct p n)
  | 0, _ => rfl
  | n + 1, h => by
    have ih := ct_lob (p := p) (q := q) n (fun i hi => h i (by omega))
    have e : ct (fun k => q (lob p (n + 1) k)) (ct p n) = ct (fun k => q (lob p n k)) (ct p n) := ct_c (fun k hk => by
      (try dsimp only)
      rw [lob, if_neg (fun z => by omega)])
    rw [ct, ih]
    by_cases z : p n = true
    · have e1 : ct p (n + 1) = ct p n + 1 := by rw [ct, if_pos z]
      have el : lob p (n + 1) (ct p n) = n := by rw [lob, if_pos ⟨z, rfl⟩]
      rw [e1, ct, e]
      (try dsimp only)
      rw [el]
    · have e1 : ct p (n + 1) = ct p n := by rw [ct, if_neg z]; rfl
      rw [e1, e, if_neg (fun y => z (h n (by omega) y))]; rfl
/-- a code of places -/
def cod (f : Nat → Nat) : Nat → Nat
  | 0 => 0
  | k + 1 => cod f k + f k * 16 ^ k
theorem cod_lt {f : Nat → Nat} : ∀ n, (∀ i, i < n → f i < 16) → cod f n < 16 ^ n
  | 0, _ => Nat.lt_succ_self 0
  | n + 1, h => by
    have ih := cod_lt n (fun i hi => h i (by omega))
    have h1 := h n (by omega)
    have h2 : f n * 16 ^ n ≤ 15 * 16 ^ n := Nat.mul_le_mul_right _ (by omega)
    rw [cod, Nat.pow_succ]; omega
theorem cod_pl {f : Nat → Nat} : ∀ n i, (∀ i, i < n → f i < 16) → i < n → pl (cod f n) i = f i
  | 0, i, _, h => by omega
  | n + 1, i, hf, h => by
    have hl := cod_lt n (fun i hi => hf i (by omega))
    have ih := fun z => cod_pl n i (fun i hi => hf i (by omega)) z
    rw [cod]
    by_cases z : i = n
    · subst z
      unfold pl
      rw [Nat.add_mul_div_right _ _ (Nat.pow_pos (by decide)), Nat.div_eq_of_lt hl, Nat.zero_add, Nat.mod_eq_of_lt (hf i (by omega))]
    · rw [← ih (by omega)]
      unfold pl
      obtain ⟨e, he⟩ : ∃ e, n = i + 1 + e := ⟨n - (i + 1), by omega⟩
      rw [he, Nat.pow_add, Nat.pow_succ, show f (i + 1 + e) * (16 ^ i * 16 * 16 ^ e) = (f (i + 1 + e) * 16 ^ e * 16) * 16 ^ i by simp only [Nat.mul_comm, Nat.mul_left_comm, Nat.mul_assoc], Nat.add_mul_div_right _ _ (Nat.pow_pos (by decide)), Nat.add_mul_mod_self_right]
theorem tpp_h (c : Nat) : ∀ n f, 0 < hgt c n f → pl c (tpp c n f) < 12 ∧ pl c (tpp c n f) % 4 + 1 = hgt c n f
  | 0, f, h => by rw [hgt] at h; omega
  | n + 1, f, h => by
    rw [hgt] at h ⊢
    rw [tpp]
    by_cases z : pl c n < 12 ∧ pl c n / 4 = f ∧ hgt c n f < pl c n % 4 + 1
    · rw [if_pos z, if_pos z]; exact ⟨z.1, rfl⟩
    · rw [if_neg z] at h
      rw [if_neg z, if_neg z]
      exact tpp_h c n f h
def khg (n c : Nat) : Bool := !(an (fun t => !(Nat.beq (ct (fun k => Nat.blt (pl c k) 12 && Nat.beq (pl c k / 4) t) n) (hgt c n t))) 3) && !(an (fun k => !(Nat.beq (wN c k ||| wb k (pl c k)) (wN c k + wb k (pl c k)))) n)
theorem khg_a : vlt khg = true := by decide +kernel
theorem khg_h {n c t : Nat} (hn : n ≤ 4) (v : VV n c) (ht : t < 3) : ct (fun k => Nat.blt (pl c k) 12 && Nat.beq (pl c k / 4) t) n = hgt c n t := by
  have k := vlt_t khg_a hn v.1 v.2
  unfold khg at k
  rw [Bool.and_eq_true] at k
  exact bq_t (nt_f (an_no k.1 t ht))
theorem khg_w {n c k : Nat} (hn : n ≤ 4) (v : VV n c) (hk : k < n) : wN c k ||| wb k (pl c k) = wN c k + wb k (pl c k) := by
  have q := vlt_t khg_a hn v.1 v.2
  unfold khg at q
  rw [Bool.and_eq_true] at q
  exact bq_t (nt_f (an_no q.2 k hk))
/-- the boxes of the bay stand as the code says -/
def CR (N m b : Nat) (bay : Nat → Int32) (lo : Nat → Nat) (S D : Nat → Int32) (c : Nat) : Prop :=
  (∀ k, k < m → (pl c k < 12 → S (lo k) = nI (pl c k / 4) ∧ D (lo k) = nI (pl c k % 4)) ∧ (pl c k = 12 → S (lo k) = 3) ∧ (pl c k = 13 → S (lo k) = 4)) ∧ ∀ x, x < N → bay x = nI b → ¬ S x = 3 → ∃ k, k < m ∧ x = lo k
/-- what is meant by the bay's boxes -/
def BX (N m b : Nat) (bay : Nat → Int32) (p : Nat → Bool) : Prop := m = ct p N ∧ m ≤ 4 ∧ ∀ x, p x = true → bay x = nI b
theorem BX.lo {N m b : Nat} {bay : Nat → Int32} {p : Nat → Bool} (h : BX N m b bay p) {k : Nat} (hk : k < m) : lob p N k < N ∧ bay (lob p N k) = nI b ∧ p (lob p N k) = true ∧ ct p (lob p N k) = k := by
  have := lob_p N k (by rw [← h.1]; exact hk)
  exact ⟨this.1, h.2.2 _ this.2.1, this.2⟩
theorem BX.inj {N m b : Nat} {bay : Nat → Int32} {p : Nat → Bool} (h : BX N m b bay p) {k k' : Nat} (hk : k < m) (hk' : k' < m) (e : lob p N k = lob p N k') : k = k' := by
  rw [← (h.lo hk).2.2.2, ← (h.lo hk').2.2.2, e]
theorem nI_q {a b : Nat} (ha : a < 2147483648) (hb : b < 2147483648) : nI a = nI b ↔ a = b := nI_eq ha hb
theorem CR.ct {N m b t c : Nat} {bay S D : Nat → Int32} {p : Nat → Bool} (x : BX N m b bay p) (v : VV m c) (h : CR N m b bay (lob p N) S D c) (ht : t < 3) : ct (hbf bay S (nI b) (nI t)) N = hgt c m t := by
  have e3 : ∀ a : Nat, a < 3 → ¬ nI a = (3 : Int32) := fun a ha q => by
    have := (nI_q (by omega) (by omega)).mp (show nI a = nI 3 from q); omega
  rw [ct_lob (p := p) (q := hbf bay S (nI b) (nI t)) N (fun i hi q => ?_), ← x.1, ← khg_h x.2.1 v ht]
  · refine ct_c (fun k hk => ?_)
    obtain ⟨h1, h2, h3⟩ := h.1 k hk
    have hp := v.pl hk
    have e4 : ¬ nI 4 = nI t := fun q => by have := (nI_q (by omega) (by omega)).mp q; omega
    have key : hbf bay S (nI b) (nI t) (lob p N k) = true ↔ (Nat.blt (pl c k) 12 && Nat.beq (pl c k / 4) t) = true := by
      rw [hbf_t, Bool.and_eq_true]
      constructor
      · rintro ⟨-, q⟩
        by_cases z : pl c k < 12
        · rw [(h1 z).1, nI_q (by omega) (by omega)] at q
          exact ⟨Nat.ble_eq_true_of_le z, by rw [q]; exact Nat.beq_refl _⟩
        · exfalso
          by_cases y : pl c k = 12
          · rw [h2 y] at q; exact e3 t ht q.symm
          · rw [h3 (by omega)] at q; exact e4 q
      · rintro ⟨q1, q2⟩
        exact ⟨(x.lo hk).2.1, by rw [(h1 (bq_l q1)).1, bq_t q2]⟩
    (try dsimp only)
    cases a : hbf bay S (nI b) (nI t) (lob p N k) with
    | true => rw [key.mp a]
    | false =>
      cases a' : (Nat.blt (pl c k) 12 && Nat.beq (pl c k / 4) t) with
      | false => rfl
      | true => rw [key.mpr a'] at a; cases a
  · obtain ⟨q1, q2⟩ := hbf_t.mp q
    obtain ⟨k, k1, k2⟩ := h.2 i hi q1 (by rw [q2]; exact e3 t ht)
    rw [k2]; exact (x.lo k1).2.2.1
/-- the bits of those ahead, as both make them -/
def ahm (needs : Nat → Int32) (lo : Nat → Nat) (i : Nat) : Nat → Int32
  | 0 => 0
  | j + 1 => ahm needs lo i j ||| (if needs (lo j * 100 + lo i) = 0 then 0 else (1 : Int32) <<< (nI j &&& 31))
