-- needs: 71 72 73 74 75 76 77 78 85
/-! PLAN: a short way (2) -/
theorem s12_t {n c c' : Nat} (h : s12 n c c' = true) (i : Nat) (hi : i < n) : pl c i = 12 ↔ pl c' i = 12 := by
  unfold s12 at h
  have := eq_of_beq (nt_f (an_no h i hi))
  constructor
  · intro e; rw [e] at this; exact bq_t this.symm
  · intro e; rw [e] at this; exact bq_t this
theorem nSk_0 {n c : Nat} (h : nSk n c = 0) (i : Nat) (hi : i < n) : ¬ pl c i < 12 := by
  have : ∀ n, ct (fun i => Nat.blt (pl c i) 12) n = 0 → ∀ i, i < n → ¬ pl c i < 12 := fun n => by
    induction n with
    | zero => intro _ i hi; omega
    | succ n ih =>
      intro h i hi
      rw [ct] at h
      by_cases z : i = n
      · subst z
        intro q
        rw [if_pos (show Nat.blt (pl c i) 12 = true from Nat.ble_eq_true_of_le q)] at h; omega
      · exact ih (by omega) i (by omega)
  exact this n h i hi
theorem ct_z0 {p : Nat → Bool} : ∀ n, ct p n = 0 → ∀ i, i < n → p i = false
  | 0, _, i, hi => by omega
  | n + 1, h, i, hi => by
    rw [ct] at h
    by_cases z : i = n
    · subst z
      cases e : p i with
      | false => rfl
      | true => rw [if_pos e] at h; omega
    · exact ct_z0 n (by omega) i (by omega)
theorem tk_s {c n s : Nat} (hs : s < 3) (h : 0 < hgt c n s) : tkn c n s = some (tpp c n s) := by
  unfold tkn; rw [if_pos hs, if_neg (by omega)]
theorem fAs_r {n T c : Nat} {l ah : Nat → Int32} : Rle n T l ah 1 c (fAs n c) := by
  have go : ∀ s, s < 3 → 0 < hgt c n s → Rle n T l ah 1 c (pu c (tpp c n s) 13) := fun s hs h =>
    St1.le ⟨s, 4, tpp c n s, 13, by omega, by decide, tk_s hs h, by unfold mvt; rw [if_neg (by decide), if_neg (by decide), if_pos hs], rfl⟩
  unfold fAs
  by_cases z0 : 0 < hgt c n 0
  · rw [if_pos z0]; exact go 0 (by decide) z0
  · rw [if_neg z0]
    by_cases z1 : 0 < hgt c n 1
    · rw [if_pos z1]; exact go 1 (by decide) z1
    · rw [if_neg z1]
      by_cases z2 : 0 < hgt c n 2
      · rw [if_pos z2]; exact go 2 (by decide) z2
      · rw [if_neg z2]; exact Rle.z
/-- a code of n boxes that is valid -/
def VV (n c : Nat) : Prop := c < 16 ^ n ∧ vc n c = true
/-- all that is not ashore is aside -/
def Zs (n c z : Nat) : Prop := VV n z ∧ nSk n z = 0 ∧ ∀ i, i < n → (pl z i = 12 ↔ pl c i = 12)
theorem ph1 {n T : Nat} {l ah : Nat → Int32} (hn : n ≤ 4) : ∀ m c, VV n c → nSk n c ≤ m → ∃ z, Zs n c z ∧ Rle n T l ah m c z
  | 0, c, v, h => ⟨c, ⟨v, by omega, fun _ _ => Iff.rfl⟩, Rle.z⟩
  | m + 1, c, v, h => by
    by_cases z : nSk n c = 0
    · exact ⟨c, ⟨v, z, fun _ _ => Iff.rfl⟩, Rle.z⟩
    · have k := vlt_t kt1_a hn v.1 v.2
      unfold kt1 at k
      rw [Bool.or_eq_true] at k
      rcases k with k | k
      · exact absurd (bq_t k) z
      rw [Bool.and_eq_true, Bool.and_eq_true, Bool.and_eq_true] at k
      obtain ⟨k1', k2', k3', k4'⟩ := k
      have lt := bq_l k4'
      obtain ⟨w, w1, w2⟩ := ph1 (T := T) (l := l) (ah := ah) hn m (fAs n c) ⟨bq_l k2', k1'⟩ (by omega)
      refine ⟨w, ⟨w1.1, w1.2.1, fun i hi => (w1.2.2 i hi).trans (s12_t k3' i hi).symm⟩, ?_⟩
      have := (fAs_r (n := n) (T := T) (c := c) (l := l) (ah := ah)).tr w2
      rw [Nat.add_comm] at this; exact this
theorem VV.pl {n c k : Nat} (h : VV n c) (hk : k < n) : pl c k < 14 := vc_pl h.2 hk
theorem ash_c {c c' : Nat} : ∀ n, (∀ i, i < n → (pl c i = 12 ↔ pl c' i = 12)) → ash c n = ash c' n
  | 0, _ => rfl
  | n + 1, h => by
    have ih := ash_c n (fun i hi => h i (by omega))
    have e := h n (by omega)
    rw [ash, ash, ih]
    by_cases z : pl c n = 12
    · rw [if_pos z, if_pos (e.mp z)]
    · rw [if_neg z, if_neg (fun q => z (e.mpr q))]
theorem ph2 {n T z k : Nat} {l ah : Nat → Int32} (hn : n ≤ 4) (hT1 : 1 ≤ T) (v : VV n z) (h0 : nSk n z = 0) (hk : k < n) (e : pl z k = 13) (h1 : ¬ l k = 0) (h2 : (ah k &&& (nI (ash z n) ^^^ (-1 : Int32))) = 0) :
    Rle n T l ah 2 z (pu (pu z k 0) k 12) ∧ VV n (pu (pu z k 0) k 12) ∧ nSk n (pu (pu z k 0) k 12) = 0 ∧ n12 n (pu (pu z k 0) k 12) = n12 n z + 1 := by
  have q := vlt_t kt2_a hn v.1 v.2
  unfold kt2 at q
  rw [Bool.or_eq_true] at q
  rcases q with q | q
  · have := bq_l q; omega
  rw [Bool.and_eq_true] at q
  obtain ⟨q0, q1⟩ := q
  have q1 := an_no q1 k hk
  (try dsimp only at q1)
  rw [e, show Nat.beq 13 13 = true from rfl, Bool.true_and] at q1
  have q1 := nt_f q1
  rw [Bool.and_eq_true, Bool.and_eq_true, Bool.and_eq_true, Bool.and_eq_true, Bool.and_eq_true, Bool.and_eq_true] at q1
  obtain ⟨a1', a2', a3', a4', a5', a6', a7'⟩ := q1
  have hh := bq_t q0
  have hc := ct_le (fun i => decide (pl z i = 13)) k
  refine ⟨?_, ⟨bq_l a5', a4'⟩, bq_t a6', bq_t a7'⟩
  refine (St1.le ⟨3 + ct (fun i => decide (pl z i = 13)) k, 0, k, 0, by omega, by decide, ?_, ?_, rfl⟩).tr (St1.le ⟨0, 3, k, 12, by decide, by decide, ?_, ?_, rfl⟩)
  · unfold tkn
    rw [if_neg (by omega), Nat.add_sub_cancel_left]; exact asd_at hk e
  · unfold mvt
    rw [if_pos (by decide), hh, if_pos ⟨by omega, by omega⟩]
  · have := tk_s (c := pu z k 0) (n := n) (s := 0) (by decide) (by rw [bq_t a1']; decide)
    rw [this, bq_t a2']
  · unfold mvt
    rw [if_neg (by decide), if_pos rfl, if_pos ⟨by decide, h1, by rw [bq_t a3']; exact h2⟩]
theorem mvt_12 {c n T : Nat} {l ah : Nat → Int32} {k f t : Nat} (hT4 : T ≤ 4) (h : mvt c n T l ah k f t = some 12) : ¬ l k = 0 ∧ (ah k &&& (nI (ash c n) ^^^ (-1 : Int32))) = 0 := by
  unfold mvt at h
  by_cases z : t < 3
  · rw [if_pos z] at h
    by_cases y : t ≠ f ∧ hgt c n t < T
    · rw [if_pos y] at h
      have := Option.some.inj h; omega
    · rw [if_neg y] at h; cases h
  · rw [if_neg z] at h
    by_cases y : t = 3
    · rw [if_pos y] at h
      by_cases x : f < 3 ∧ ¬ l k = 0 ∧ (ah k &&& (nI (ash c n) ^^^ (-1 : Int32))) = 0
      · exact x.2
      · rw [if_neg x] at h; cases h
    · rw [if_neg y] at h
      by_cases x : f < 3
      · rw [if_pos x] at h; have := Option.some.inj h; omega
      · rw [if_neg x] at h; cases h
/-- along a way: ashore in the same order -/
theorem ph2w {n T c0 z0 : Nat} {l ah : Nat → Int32} (hn : n ≤ 4) (hT1 : 1 ≤ T) (hT4 : T ≤ 4) (hz : Zs n c0 z0) : ∀ m c, Rcm n T l ah m c0 c → ∃ z, Zs n c z ∧ Rle n T l ah (2 * n12 n z) z0 z
  | 0, c, h => by cases h; exact ⟨z0, hz, Rle.z⟩
  | m + 1, c, h => by
    obtain ⟨c1, h1, f, t, k, p, hf, ht, ek, ep, rfl⟩ := h
    obtain ⟨z, ⟨v, s0, s1⟩, r⟩ := ph2w hn hT1 hT4 hz m c1 h1
    obtain ⟨k1, k2, k3⟩ := tkn_p ek
    have hp : p < 16 := by rcases mvt_p ep with e | e | ⟨y1, -, y3, y4⟩ <;> omega
    have n12' : ¬ pl c1 k = 12 := fun q => by
      by_cases y : f < 3
      · have := k2 y; omega
      · have := k3 (by omega); omega
    have z13 : pl z k = 13 := by
      have a := v.pl k1
      have b := nSk_0 s0 k k1
      have c : ¬ pl z k = 12 := fun q => n12' ((s1 k k1).mp q)
      omega
    by_cases y : p = 12
    · subst y
      obtain ⟨m1, m2⟩ := mvt_12 hT4 ep
      obtain ⟨b1', b2', b3', b4'⟩ := ph2 hn hT1 v s0 k1 z13 m1 (by rw [ash_c n s1]; exact m2)
      refine ⟨_, ⟨b2', b3', fun i hi => ?_⟩, (r.tr b1').up (by rw [b4']; omega)⟩
      rw [pl_pu (by omega) (by omega) (by decide), pl_pu (by omega) (by omega) (by decide), pl_pu (by omega) (by omega) (by decide)]
      by_cases x : i = k
      · rw [if_pos x, if_pos x]
      · rw [if_neg x, if_neg x, if_neg x]; exact s1 i hi
    · refine ⟨z, ⟨v, s0, fun i hi => ?_⟩, r⟩
      rw [pl_pu (by omega) (by omega) hp]
      by_cases x : i = k
      · rw [if_pos x, x]; exact ⟨fun q => by omega, fun q => absurd q y⟩
      · rw [if_neg x]; exact s1 i hi
theorem hTb_t {n T c : Nat} : hTb n T c = true ↔ hT n T c := by
  unfold hTb hT
  constructor
  · intro h i hi hp
    have := an_no h i hi
    (try dsimp only at this)
    rw [show Nat.blt (pl c i) 12 = true from Nat.ble_eq_true_of_le hp, Bool.true_and] at this
    exact bq_l (nt_f this)
  · intro h
    rw [Bool.not_eq_true', Bool.eq_false_iff]
    intro q
    obtain ⟨i, hi, hp⟩ := an_iff.mp q
    rw [Bool.and_eq_true] at hp
    have := h i hi (bq_l hp.1)
    rw [show Nat.blt (pl c i % 4) T = true from Nat.ble_eq_true_of_le this] at hp
    cases hp.2
theorem fBk_r {n T c : Nat} {l ah : Nat → Int32} : Rle n T l ah 1 c (fBk n T c) := by
  unfold fBk
  cases ek : tkn c n 3 with
  | none => exact Rle.z
  | some k =>
    have go : ∀ s, s < 3 → hgt c n s < T → Rle n T l ah 1 c (pu c k (s * 4 + hgt c n s)) := fun s hs h =>
      St1.le ⟨3, s, k, _, by decide, by omega, ek, by unfold mvt; rw [if_pos hs, if_pos ⟨by omega, h⟩], rfl⟩
    (try dsimp only)
    by_cases z0 : hgt c n 0 < T
    · rw [if_pos z0]; exact go 0 (by decide) z0
    · rw [if_neg z0]
      by_cases z1 : hgt c n 1 < T
      · rw [if_pos z1]; exact go 1 (by decide) z1
      · rw [if_neg z1]
        by_cases z2 : hgt c n 2 < T
        · rw [if_pos z2]; exact go 2 (by decide) z2
        · rw [if_neg z2]; exact Rle.z
theorem kt3_t {n T c : Nat} (hn : n ≤ 4) (hT1 : 1 ≤ T) (hT4 : T ≤ 4) (v : VV n c) : kt3 T n c = true := by
  have cs : T = 1 ∨ T = 2 ∨ T = 3 ∨ T = 4 := by omega
  rcases cs with rfl | rfl | rfl | rfl
  · exact vlt_t kt3_1 hn v.1 v.2
  · exact vlt_t kt3_2 hn v.1 v.2
  · exact vlt_t kt3_3 hn v.1 v.2
  · exact vlt_t kt3_4 hn v.1 v.2
theorem ph3 {n T : Nat} {l ah : Nat → Int32} (hn : n ≤ 4) (hT1 : 1 ≤ T) (hT4 : T ≤ 4) : ∀ m c, VV n c → hT n T c → n - n12 n c ≤ 3 * T → n13 n c ≤ m → ∃ e, Rle n T l ah m c e ∧ n13 n e = 0 ∧ ∀ i, i < n → (pl c i = 12 ↔ pl e i = 12)
  | 0, c, v, ht, hr, h => ⟨c, Rle.z, by omega, fun _ _ => Iff.rfl⟩
  | m + 1, c, v, ht, hr, h => by
    by_cases z : n13 n c = 0
    · exact ⟨c, Rle.z, z, fun _ _ => Iff.rfl⟩
    · have k := kt3_t hn hT1 hT4 v
      unfold kt3 at k
      rw [hTb_t.mpr ht, show Nat.ble (n - n12 n c) (3 * T) = true from Nat.ble_eq_true_of_le hr] at k
      rw [Bool.not_true, Bool.false_or, Bool.false_or, Bool.or_eq_true] at k
      rcases k with k | k
      · exact absurd (bq_t k) z
      rw [Bool.and_eq_true, Bool.and_eq_true, Bool.and_eq_true, Bool.and_eq_true, Bool.and_eq_true] at k
      obtain ⟨q1, q2, q3, q4, q5, q6⟩ := k
      have lt := bq_l q5
      obtain ⟨e, e1, e2, e3⟩ := ph3 (l := l) (ah := ah) hn hT1 hT4 m (fBk n T c) ⟨bq_l q2, q1⟩ (hTb_t.mp q4) (by rw [bq_t q6]; exact hr) (by omega)
      refine ⟨e, ?_, e2, fun i hi => (s12_t q3 i hi).trans (e3 i hi)⟩
      have := (fBk_r (n := n) (T := T) (c := c) (l := l) (ah := ah)).tr e1
      rw [Nat.add_comm] at this; exact this
/-- where an end can be reached at all, one can be reached in sixteen moves -/
theorem shp {n T c0 e m : Nat} {l ah : Nat → Int32} (hn : n ≤ 4) (hT1 : 1 ≤ T) (hT4 : T ≤ 4) (v : VV n c0) (r : Rcm n T l ah m c0 e) (ve : VV n e) (te : hT n T e) (ee : eok l n e = true) : ∃ m' e', m' ≤ 16 ∧ Rcm n T l ah m' c0 e' ∧ eok l n e' = true := by
  obtain ⟨z0, z1, z2⟩ := ph1 (T := T) (l := l) (ah := ah) hn 4 c0 v (by have := ct_le (fun i => Nat.blt (pl c0 i) 12) n; unfold nSk; omega)
  obtain ⟨z, ⟨y1, y2, y3⟩, y4⟩ := ph2w hn hT1 hT4 z1 m e r
  have eb := eok_t.mp ee
  have ez : n12 n z = n12 n e := ct_c (fun i hi => by
    have := y3 i hi
    by_cases q : pl z i = 12
    · rw [q, this.mp q]
    · have q' : ¬ pl e i = 12 := fun w => q (this.mpr w)
      cases q1 : Nat.beq (pl z i) 12 with
      | true => exact absurd (bq_t q1) q
      | false =>
        cases q2 : Nat.beq (pl e i) 12 with
        | true => exact absurd (bq_t q2) q'
        | false => rfl)
  have l12 := ct_le (fun i => Nat.beq (pl z i) 12) n
  have l13 := ct_le (fun i => Nat.beq (pl z i) 13) n
  have hr : n - n12 n z ≤ 3 * T := by
    by_cases q : T = 1
    · subst q
      have k := vlt_t kt4_a hn ve.1 ve.2
      unfold kt4 at k
      rw [hTb_t.mpr te, Bool.not_true, Bool.false_or, Bool.or_eq_true] at k
      rcases k with k | k
      · exfalso
        have h0 : n13 n e = 0 := by
          have : ∀ n, (∀ i, i < n → ¬ pl e i = 13) → ct (fun i => Nat.beq (pl e i) 13) n = 0 := fun n => by
            induction n with
            | zero => intro _; rfl
            | succ n ih =>
              intro hh
              rw [ct, ih (fun i hi => hh i (by omega)), if_neg (fun q => hh n (by omega) (bq_t q))]
          exact this n (fun i hi q => by have := eb i hi; rw [ebd_t.mpr (Or.inl q)] at this; cases this)
        have := bq_l k; omega
      · rw [ez]; exact Nat.le_of_ble_eq_true k
    · omega
  obtain ⟨e', x1, x2, x3⟩ := ph3 (l := l) (ah := ah) hn hT1 hT4 4 z y1 (fun i hi q => absurd q (nSk_0 y2 i hi)) hr (by unfold n13; omega)
  obtain ⟨m', m1, m2⟩ := (z2.tr y4).tr x1
  refine ⟨m', e', by unfold n12 at m1; omega, m2, eok_t.mpr (fun i hi => ?_)⟩
  cases q : ebd l e' i with
  | false => rfl
  | true =>
    exfalso
    rcases ebd_t.mp q with w | ⟨w1, w2⟩
    · have := ct_z0 n x2 i hi
      rw [w] at this; cases this
    · have hx : ¬ pl e i = 12 := fun p => w2 ((x3 i hi).mp ((y3 i hi).mpr p))
      have := eb i hi
      rw [ebd_t.mpr (Or.inr ⟨w1, hx⟩)] at this; cases this
/-- the way to the first end -/
theorem hD_t {n T c0 : Nat} {l ah : Nat → Int32} (hn : n ≤ 4) (hT1 : 1 ≤ T) (hT4 : T ≤ 4) (v : VV n c0) : ∀ i L, qfe l n (qbf n T l ah [(c0, 0, 0)] i) < (qbf n T l ah [(c0, 0, 0)] i).length → QG n T (qbf n T l ah [(c0, 0, 0)] i) → anc (qbf n T l ah [(c0, 0, 0)] i) (qfe l n (qbf n T l ah [(c0, 0, 0)] i)) L = 0 → (∀ m, m < L → 0 < anc (qbf n T l ah [(c0, 0, 0)] i) (qfe l n (qbf n T l ah [(c0, 0, 0)] i)) m) → L ≤ 16 := by
  intro i L hg q h1 h2
  refine Nat.le_of_not_lt (fun z => ?_)
  have s1 := qfe_s hg
  have s2 := fun j (h : j < qfe l n (qbf n T l ah [(c0, 0, 0)] i)) => qfe_b h (Nat.lt_trans h hg)
  have dg : DP (qbf n T l ah [(c0, 0, 0)] i) (qfe l n (qbf n T l ah [(c0, 0, 0)] i)) L := ⟨h1, h2⟩
  obtain ⟨⟨w, qp, qs⟩, -⟩ := qbf_z (n := n) (T := T) (c0 := c0) (l := l) (ah := ah) i
  have r := qs_rch w qs L _ hg dg
  have k0 := qbf_k (n := n) (T := T) (l := l) (ah := ah) (Q0 := [(c0, 0, 0)]) (i := 0) (j := 0) (show 0 < 1 by decide) i
  rw [Nat.zero_add] at k0
  rw [k0.2] at r
  obtain ⟨m', e', x1, x2, x3⟩ := shp hn hT1 hT4 v r (q.1.1.1 _ hg) (q.2 _ hg) s1
  obtain ⟨x, e, y1, y2, y3, y4⟩ := qbf_near hg dg m' e' (by omega) x2
  by_cases y : x < qfe l n (qbf n T l ah [(c0, 0, 0)] i)
  · exact s2 x y (by rw [y2]; exact x3)
  · have := DP.mono w qp e _ x L (by omega) y1 dg y3
    omega
