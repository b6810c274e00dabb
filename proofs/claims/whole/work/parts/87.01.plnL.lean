-- needs: 71 72 73 74 75 76 77 78 85 86
/-! PLAN: a way of codes is a way of boxes -/
theorem mvt_q {c n T : Nat} {l ah : Nat → Int32} {k f t p : Nat} (ht : t < 5) (h : mvt c n T l ah k f t = some p) : (t = 3 ∧ p = 12 ∧ f < 3 ∧ ¬ l k = 0 ∧ (ah k &&& (nI (ash c n) ^^^ (-1 : Int32))) = 0) ∨ (t = 4 ∧ p = 13 ∧ f < 3) ∨ (t < 3 ∧ ¬ t = f ∧ hgt c n t < T ∧ p = t * 4 + hgt c n t) := by
  unfold mvt at h
  by_cases z : t < 3
  · rw [if_pos z] at h
    by_cases y : t ≠ f ∧ hgt c n t < T
    · rw [if_pos y] at h
      exact Or.inr (Or.inr ⟨z, y.1, y.2, (Option.some.inj h).symm⟩)
    · rw [if_neg y] at h; cases h
  · rw [if_neg z] at h
    by_cases y : t = 3
    · rw [if_pos y] at h
      by_cases x : f < 3 ∧ ¬ l k = 0 ∧ (ah k &&& (nI (ash c n) ^^^ (-1 : Int32))) = 0
      · rw [if_pos x] at h
        exact Or.inl ⟨y, (Option.some.inj h).symm, x⟩
      · rw [if_neg x] at h; cases h
    · rw [if_neg y] at h
      by_cases x : f < 3
      · rw [if_pos x] at h
        exact Or.inr (Or.inl ⟨by omega, (Option.some.inj h).symm, x⟩)
      · rw [if_neg x] at h; cases h
theorem mv_ok {N m b T c f t k p : Nat} {bay needs l ah S D : Nat → Int32} {q : Nat → Bool} (x : BX N m b bay q) (v : VV m c) (hT4 : T ≤ 4) (h : CR N m b bay (lob q N) S D c) (hf : f < 7) (ht : t < 5) (ek : tkn c m f = some k) (ep : mvt c m T l ah k f t = some p)
    (hA : (ah k &&& (nI (ash c m) ^^^ (-1 : Int32))) = 0 → ∀ j, j < m → needs (lob q N j * 100 + lob q N k) = 1 → pl c j = 12) :
    mvo bay needs N T b S D (lob q N k) t ∧ CR N m b bay (lob q N) (uI S (lob q N k) (nI t)) (mvD bay N b S D (lob q N k) t) (pu c k p) := by
  obtain ⟨k1, k2, k3⟩ := tkn_p ek
  obtain ⟨y1, y2, y3, y4⟩ := x.lo k1
  obtain ⟨h1, h2, h3⟩ := h.1 k k1
  have m4 := x.2.1
  have cth := fun s (hs : s < 3) => CR.ct x v h hs
  have ne : ∀ a b : Nat, a < 5 → b < 5 → a ≠ b → ¬ nI a = nI b := fun a b ha hb hab q => hab ((nI_q (by omega) (by omega)).mp q)
  have st : (f < 3 ∧ pl c k < 12 ∧ pl c k / 4 = f ∧ S (lob q N k) = nI f) ∨ (3 ≤ f ∧ pl c k = 13 ∧ S (lob q N k) = nI 4) := by
    by_cases z : f < 3
    · have e := k2 z
      have : pl c k < 12 := by omega
      exact Or.inl ⟨z, this, e, by rw [(h1 this).1, e]⟩
    · exact Or.inr ⟨by omega, k3 (by omega), h3 (k3 (by omega))⟩
  have hq := mvt_q ht ep
  have p16' : p < 16 := by rcases hq with ⟨-, e, -⟩ | ⟨-, e, -⟩ | ⟨a, -, b, e⟩ <;> omega
  refine ⟨⟨y1, y2, ?_, ht, ?_, fun z => ?_, fun s hs es => ?_, fun z y hy by' hn => ?_⟩, fun k' hk' => ?_, fun y hy by' sy => ?_⟩
  · rcases st with ⟨a, -, -, e⟩ | ⟨a, -, e⟩
    · rw [e]; exact ne f 3 (by omega) (by omega) (by omega)
    · rw [e]; exact ne 4 3 (by omega) (by omega) (by omega)
  · rcases st with ⟨a, -, -, e⟩ | ⟨a, -, e⟩
    · rw [e]
      refine ne f t (by omega) (by omega) ?_
      rcases hq with ⟨e1, -⟩ | ⟨e1, -⟩ | ⟨a1, a2, -⟩ <;> omega
    · rw [e]
      refine ne 4 t (by omega) (by omega) ?_
      rcases hq with ⟨e1, -⟩ | ⟨e1, -, e2⟩ | ⟨a1, a2, -⟩ <;> omega
  · rw [cth t z]
    rcases hq with ⟨e1, -⟩ | ⟨e1, -, e2⟩ | ⟨a1, a2, a3, -⟩ <;> omega
  · rcases st with ⟨a, b1, b2, e⟩ | ⟨a, -, e⟩
    · have hsf : s = f := by
        rw [e] at es
        exact ((nI_q (by omega) (by omega)).mp es).symm
      subst hsf
      have h0 : 0 < hgt c m s := by
        unfold tkn at ek
        rw [if_pos hs] at ek
        by_cases w : hgt c m s = 0
        · rw [if_pos w] at ek; cases ek
        · omega
      have ekk : tpp c m s = k := by
        unfold tkn at ek
        rw [if_pos hs, if_neg (by omega)] at ek
        exact Option.some.inj ek
      have tt := (tpp_h c m s h0).2
      rw [ekk] at tt
      rw [cth s hs, (h1 b1).2, ← tt, nI_pred]
    · rw [e] at es
      exact absurd es (ne 4 s (by omega) (by omega) (by omega))
  · rcases hq with ⟨e1, e2, e3, e4, e5⟩ | ⟨e1, -⟩ | ⟨a1, -⟩
    · refine Classical.byContradiction (fun s3 => ?_)
      obtain ⟨j, j1, j2⟩ := h.2 y hy by' s3
      subst j2
      exact s3 ((h.1 j j1).2.1 (hA e5 j j1 hn))
    · omega
    · omega
  · obtain ⟨g1, g2, g3⟩ := h.1 k' hk'
    unfold mvD
    rw [pl_pu (by omega) (by omega) p16']
    by_cases z : k' = k
    · subst z
      rw [if_pos rfl, uI_s, uI_s]
      rcases hq with ⟨e1, e2, -⟩ | ⟨e1, e2, -⟩ | ⟨a1, -, a3, a4⟩
      · subst e1; subst e2
        exact ⟨fun w => absurd w (by decide), fun _ => rfl, fun w => by omega⟩
      · subst e1; subst e2
        exact ⟨fun w => absurd w (by decide), fun w => by omega, fun _ => rfl⟩
      · refine ⟨fun w => ?_, fun w => by omega, fun w => by omega⟩
        rw [if_pos a1, cth t a1]
        exact ⟨congrArg nI (by omega), congrArg nI (by omega)⟩
    · have nl : lob q N k' ≠ lob q N k := fun e => z (x.inj hk' k1 e)
      rw [if_neg z, uI_n nl, uI_n nl]
      exact ⟨g1, g2, g3⟩
  · by_cases z : y = lob q N k
    · exact ⟨k, k1, z⟩
    · rw [uI_n z] at sy
      exact h.2 y hy by' sy
theorem vv_pu {n T c f t k p : Nat} {l ah : Nat → Int32} (hn : n ≤ 4) (hT4 : T ≤ 4) (v : VV n c) (hf : f < 7) (ht : t < 5) (ek : tkn c n f = some k) (ep : mvt c n T l ah k f t = some p) : VV n (pu c k p) := by
  obtain ⟨k1, k2, k3⟩ := tkn_p ek
  have hq := mvt_q ht ep
  have hp : p = 12 ∨ p = 13 ∨ ∃ t, t < 3 ∧ ¬ pl c k / 4 = t ∧ hgt c n t < 4 ∧ p = t * 4 + hgt c n t := by
    rcases hq with ⟨-, e, -⟩ | ⟨-, e, -⟩ | ⟨a1, a2, a3, a4⟩
    · exact Or.inl e
    · exact Or.inr (Or.inl e)
    · refine Or.inr (Or.inr ⟨t, a1, fun q => ?_, by omega, a4⟩)
      by_cases z : f < 3
      · exact a2 (by rw [← q]; exact k2 z)
      · rw [k3 (by omega)] at q; omega
  have p16' : p < 16 := by rcases hp with e | e | ⟨t', h1, h2, h3, h4⟩ <;> omega
  exact ⟨pu_ltn hn v.1 k1 p16', vk1_p (vk_x hn v.1 v.2 hf ek) hp⟩
/-- a way of codes: the moves that are left may be done -/
theorem pv_way {N m b T L : Nat} {bay needs l ah : Nat → Int32} {q : Nat → Bool} {cs mb mt : Nat → Nat} (x : BX N m b bay q) (hT4 : T ≤ 4)
    (hw : ∀ e, e < L → ∃ f t k p, f < 7 ∧ t < 5 ∧ tkn (cs e) m f = some k ∧ mvt (cs e) m T l ah k f t = some p ∧ cs (e + 1) = pu (cs e) k p ∧ mb e = lob q N k ∧ mt e = t)
    (hA : ∀ c k, k < m → (ah k &&& (nI (ash c m) ^^^ (-1 : Int32))) = 0 → ∀ j, j < m → needs (lob q N j * 100 + lob q N k) = 1 → pl c j = 12) :
    ∀ r e S D, e + r = L → VV m (cs e) → CR N m b bay (lob q N) S D (cs e) → PV bay needs N T b mb mt r e S D
  | 0, e, S, D, _, _, _ => trivial
  | r + 1, e, S, D, he, v, h => by
    obtain ⟨f, t, k, p, hf, ht, ek, ep, e1, e2, e3⟩ := hw e (by omega)
    obtain ⟨m1, m2⟩ := mv_ok x v hT4 h hf ht ek ep (hA (cs e) k (tkn_p ek).1)
    rw [PV, e2, e3]
    refine ⟨m1, pv_way x hT4 hw hA r (e + 1) _ _ (by omega) ?_ ?_⟩
    · rw [e1]; exact vv_pu x.2.1 hT4 v hf ht ek ep
    · rw [e1]; exact m2
