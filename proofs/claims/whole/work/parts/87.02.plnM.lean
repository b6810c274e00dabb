-- needs: 71 72 73 74 75 76 77 78 85 86
/-! PLAN: the first code -/
/-- the place of a box -/
def pcl (S D : Nat → Int32) (x : Nat) : Nat := if S x = 4 then 13 else (S x).toNatClampNeg * 4 + (D x).toNatClampNeg
theorem nI_c {i : Nat} (h : i < 2147483648) : (nI i).toNatClampNeg = i := nI_cl h
section PlS
variable {N B T b : Nat} {port bay S D needs : Nat → Int32}
/-- in a stack there is no hole -/
theorem st_sj {s t : Nat} (h : HSt N B T port bay S D needs) (hb : b < B) (hN : N ≤ 100) (hs : s < 3) (ht : t < ct (hbf bay S (nI b) (nI s)) N) : ∃ x, x < N ∧ bay x = nI b ∧ S x = nI s ∧ D x = nI t := by
  refine Classical.byContradiction (fun no => ?_)
  obtain ⟨q, eq⟩ : ∃ q, q = hbf bay S (nI b) (nI s) := ⟨_, rfl⟩
  rw [← eq] at ht
  have hle := ct_le q N
  have inf : ∀ j, j < ct q N → lob q N j < N ∧ ct q (lob q N j) = j ∧ bay (lob q N j) = nI b ∧ S (lob q N j) = nI s ∧ ∃ d : Nat, d < ct q N ∧ ¬ d = t ∧ D (lob q N j) = nI d := fun j hj => by
    obtain ⟨a1, a2, a3⟩ := lob_p N j hj
    rw [eq] at a2
    obtain ⟨b1, b2⟩ := hbf_t.mp a2
    rw [← eq] at b1 b2
    have c2 := (h.2.1 _ a1 s (by omega) b2).2 hs
    rw [b1, ← eq] at c2
    obtain ⟨d, d1, d2⟩ := qin_of c2 (by omega)
    exact ⟨a1, a3, b1, b2, d, d1, fun e => no ⟨_, a1, b1, b2, by rw [d2, e]⟩, d2⟩
  have key := pig (ct q N - 1) (ct q N) (fun j => if t < (D (lob q N j)).toNatClampNeg then (D (lob q N j)).toNatClampNeg - 1 else (D (lob q N j)).toNatClampNeg) (fun j hj => ?_) (fun i j hi hj e => ?_)
  · omega
  · obtain ⟨-, -, -, -, d, d1, d2, d3⟩ := inf j hj
    (try dsimp only)
    rw [d3, nI_c (by omega)]
    split <;> omega
  · obtain ⟨a1, a2, a3, a4, d, d1, d2, d3⟩ := inf i hi
    obtain ⟨b1, b2, b3, b4, d', e1, e2, e3⟩ := inf j hj
    (try dsimp only at e)
    rw [d3, e3, nI_c (by omega), nI_c (by omega)] at e
    have hd : d = d' := by
      by_cases z : t < d
      · rw [if_pos z] at e
        by_cases y : t < d'
        · rw [if_pos y] at e; omega
        · rw [if_neg y] at e; omega
      · rw [if_neg z] at e
        by_cases y : t < d'
        · rw [if_pos y] at e; omega
        · rw [if_neg y] at e; omega
    have := h.2.2.1 _ _ s a1 b1 hs (by rw [a3, b3]) a4 b4 (by rw [d3, e3, hd])
    rw [← a2, ← b2, this]
theorem pcl_i {x : Nat} (h : HSt N B T port bay S D needs) (hT4 : T ≤ 4) (hb : b < B) (hx : x < N) (bx : bay x = nI b) (sx : ¬ S x = 3) : (S x = 4 ∧ pcl S D x = 13) ∨ ∃ s d : Nat, s < 3 ∧ S x = nI s ∧ D x = nI d ∧ d < T ∧ d < ct (hbf bay S (nI b) (nI s)) N ∧ pcl S D x = s * 4 + d := by
  obtain ⟨s, s1, s2⟩ := qin_of (h.1 x hx).2.2 (by omega)
  by_cases z : s = 4
  · subst z
    have e : S x = 4 := s2
    exact Or.inl ⟨e, by unfold pcl; rw [if_pos e]⟩
  · have s3 : ¬ s = 3 := fun q => sx (by rw [s2, q]; rfl)
    have hs : s < 3 := by omega
    have c2 := (h.2.1 x hx s s1 s2).2 hs
    rw [bx] at c2
    have ch := h.2.2.2.1 b s hb hs
    obtain ⟨d, d1, d2⟩ := qin_of c2 (by omega)
    refine Or.inr ⟨s, d, hs, s2, d2, by omega, d1, ?_⟩
    unfold pcl
    rw [if_neg (fun q => ?_), s2, d2, nI_c (by omega), nI_c (by omega)]
    rw [s2] at q
    exact z ((nI_q (by omega) (by omega)).mp (show nI s = nI 4 from q))
theorem st_bx {n : Nat} (h : HSt N B T port bay S D needs) (hb : b < B) (hn : n = ct (lyf bay S (nI b)) N) : BX N n b bay (lyf bay S (nI b)) :=
  ⟨hn, by rw [hn]; exact h.2.2.2.2.1 b hb, fun x hx => (lyf_t.mp hx).1⟩
theorem st_code {m : Nat} (h : HSt N B T port bay S D needs) (hb : b < B) (hN : N ≤ 100) (hT4 : T ≤ 4) (hm : m = ct (lyf bay S (nI b)) N) :
    VV m (cod (fun k => pcl S D (lob (lyf bay S (nI b)) N k)) m) ∧ hT m T (cod (fun k => pcl S D (lob (lyf bay S (nI b)) N k)) m) ∧ CR N m b bay (lob (lyf bay S (nI b)) N) S D (cod (fun k => pcl S D (lob (lyf bay S (nI b)) N k)) m) := by
  have x := st_bx h hb hm
  obtain ⟨p, ep⟩ : ∃ p, p = lyf bay S (nI b) := ⟨_, rfl⟩
  rw [← ep] at hm x ⊢
  obtain ⟨c, ec⟩ : ∃ c, c = cod (fun k => pcl S D (lob p N k)) m := ⟨_, rfl⟩
  have inf : ∀ k, k < m → (S (lob p N k) = 4 ∧ pcl S D (lob p N k) = 13) ∨ ∃ s d : Nat, s < 3 ∧ S (lob p N k) = nI s ∧ D (lob p N k) = nI d ∧ d < T ∧ d < ct (hbf bay S (nI b) (nI s)) N ∧ pcl S D (lob p N k) = s * 4 + d := fun k hk => by
    obtain ⟨a1, a2, a3, -⟩ := x.lo hk
    rw [ep] at a3
    have := (lyf_t.mp a3).2
    rw [← ep] at this
    exact pcl_i h hT4 hb a1 a2 this
  have f16 : ∀ k, k < m → pcl S D (lob p N k) < 16 := fun k hk => by
    rcases inf k hk with ⟨-, e⟩ | ⟨s, d, h1, -, -, h4, -, e⟩ <;> omega
  have cp : ∀ k, k < m → pl c k = pcl S D (lob p N k) := fun k hk => by rw [ec]; exact cod_pl m k f16 hk
  have cl : c < 16 ^ m := by rw [ec]; exact cod_lt m f16
  rw [← ec]
  refine ⟨⟨cl, ?_⟩, fun i hi hp => ?_, fun k hk => ?_, fun y hy b1 b2 => ?_⟩
  · unfold vc
    rw [Bool.not_eq_true', Bool.eq_false_iff]
    intro q
    obtain ⟨i, hi, hv⟩ := an_iff.mp q
    rw [Bool.not_eq_true'] at hv
    refine Bool.eq_false_iff.mp hv ?_
    unfold vc1
    rw [Bool.and_eq_true]
    rcases inf i hi with ⟨e1, e2⟩ | ⟨s, d, h1, h2, h3, h4, h5, e⟩
    · rw [cp i hi, e2]
      exact ⟨rfl, rfl⟩
    · have e' : pl c i = s * 4 + d := by rw [cp i hi, e]
      rw [e', Bool.or_eq_true, Bool.and_eq_true]
      refine ⟨Nat.ble_eq_true_of_le (by omega), Or.inr ⟨?_, ?_⟩⟩
      · rw [Bool.or_eq_true]
        by_cases z : d = 0
        · exact Or.inl (by rw [z, show (s * 4 + 0) % 4 = 0 by omega]; rfl)
        · right
          obtain ⟨y, y1, y2, y3, y4⟩ := st_sj (t := d - 1) h hb hN h1 (by omega)
          have py : p y = true := by
            rw [ep]
            exact lyf_t.mpr ⟨y2, fun q => by rw [y3] at q; have := (nI_q (by omega) (by omega)).mp (show nI s = nI 3 from q); omega⟩
          have hk : ct p y < m := by rw [hm]; exact cts py y1
          have hl := lob_at py N y1
          refine an_iff.mpr ⟨ct p y, hk, ?_⟩
          rw [cp _ hk, hl]
          have : pcl S D y = s * 4 + (d - 1) := by
            unfold pcl
            rw [if_neg (fun q => ?_), y3, y4, nI_c (by omega), nI_c (by omega)]
            rw [y3] at q
            have := (nI_q (by omega) (by omega)).mp (show nI s = nI 4 from q); omega
          rw [this, show s * 4 + (d - 1) + 1 = s * 4 + d by omega]; exact Nat.beq_refl _
      · rw [Bool.not_eq_true', Bool.eq_false_iff]
        intro w
        obtain ⟨j, hj, hv'⟩ := an_iff.mp w
        have hv' := bq_t hv'
        have hj' : j < m := by omega
        rw [cp j hj'] at hv'
        rcases inf j hj' with ⟨-, e2⟩ | ⟨s', d', g1, g2, g3, g4, g5, g⟩
        · omega
        · have es : s' = s := by omega
          have ed : d' = d := by omega
          rw [es] at g2
          rw [ed] at g3
          have := h.2.2.1 _ _ s (x.lo hj').1 (x.lo hi).1 h1 (by rw [(x.lo hj').2.1, (x.lo hi).2.1]) g2 h2 (by rw [g3, h3])
          have := x.inj hj' hi this
          omega
  · rw [cp i hi] at hp ⊢
    rcases inf i hi with ⟨e1, e2⟩ | ⟨s, d, h1, h2, h3, h4, h5, e⟩ <;> omega
  · rw [cp k hk]
    rcases inf k hk with ⟨e1, e2⟩ | ⟨s, d, h1, h2, h3, h4, h5, e⟩
    · rw [e2]
      exact ⟨fun w => absurd w (by decide), fun w => absurd w (by decide), fun _ => e1⟩
    · rw [e]
      refine ⟨fun _ => ⟨by rw [h2]; exact congrArg nI (by omega), by rw [h3]; exact congrArg nI (by omega)⟩, fun w => by omega, fun w => by omega⟩
  · have py : p y = true := by rw [ep]; exact lyf_t.mpr ⟨b1, b2⟩
    exact ⟨ct p y, by rw [hm]; exact cts py hy, (lob_at py N hy).symm⟩
end PlS
