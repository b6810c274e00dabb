-- needs: 71 72 73 74
/-! RATES: the model's stack -/
section RQ
variable {xs : Nat → Int32} {xl d : Nat} {M : dp_M} {t : Nat → Int32} {L : Nat}
/-- one more is open -/
def opN (M : dp_M) (k : Nat) (kind : Int32) : dp_M := dp_setI (dp_setI (dp_setI (dp_setI (dp_setI M 182 k kind) 183 k (-1)) 184 k (-1)) 185 k 0) 114 97 (nI (k + 1))
theorem opN_fr {k : Nat} {kind : Int32} : FrM M (opN M k kind) := by
  unfold opN
  exact (((((FrM.r M).w 182 (by decide) _ _).w 183 (by decide) _ _).w 184 (by decide) _ _).w 185 (by decide) _ _).s 97 (by decide) _
theorem opN_114 {k : Nat} {kind : Int32} : dp_I (opN M k kind) 114 = uI (dp_I M 114) 97 (nI (k + 1)) := by unfold opN; simp only [gII, Nat.reduceEqDiff, if_true, if_false]
theorem opN_o {k K : Nat} {kind : Int32} (h : K ∈ [174, 175, 176, 177, 178, 179, 180, 181]) : dp_I (opN M k kind) K = dp_I M K := by
  simp only [List.mem_cons, List.not_mem_nil, or_false] at h
  rcases h with rfl | rfl | rfl | rfl | rfl | rfl | rfl | rfl <;> (unfold opN; simp only [gII, Nat.reduceEqDiff, if_false])
theorem opN_n {k : Nat} {kind : Int32} : dp_I (opN M k kind) 182 = uI (dp_I M 182) k kind ∧ dp_I (opN M k kind) 183 = uI (dp_I M 183) k (-1) ∧ dp_I (opN M k kind) 184 = uI (dp_I M 184) k (-1) ∧ dp_I (opN M k kind) 185 = uI (dp_I M 185) k 0 := by
  unfold opN
  refine ⟨?_, ?_, ?_, ?_⟩ <;> simp only [gII, Nat.reduceEqDiff, if_true, if_false]
theorem opN_low {k nr : Nat} {kind : Int32} : LowM M (opN M k kind) nr := ⟨fun K hK i _ => by
  have w : ∀ K ∈ [174, 175, 176, 177, 178, 179], K ∈ [174, 175, 176, 177, 178, 179, 180, 181] := by decide
  rw [opN_o (w K hK)], fun i _ => by rw [opN_o (by decide), opN_o (by decide)]; exact ⟨rfl, rfl⟩⟩
theorem opN_op {k : Nat} {kind : Int32} : OpM M (opN M k kind) k := fun K hK i hi => by
  obtain ⟨e1, e2, e3, e4⟩ := opN_n (M := M) (k := k) (kind := kind)
  simp only [List.mem_cons, List.not_mem_nil, or_false] at hK
  rcases hK with rfl | rfl | rfl | rfl
  · rw [e1, uI_n (by omega)]
  · rw [e2, uI_n (by omega)]
  · rw [e3, uI_n (by omega)]
  · rw [e4, uI_n (by omega)]
theorem m_open {p c nr k : Nat} {kind : Int32} {w : Nat} (h : MSt M t L p c nr k) : (k < 12 → (∀ {d}, dp_den true xs xl (d + 2) 480 [.ref 114, .int kind, .int (nI w)] M = vR (opN M (k + 1) kind)) ∧ MSt (opN M (k + 1) kind) t L p c nr (k + 1)) ∧ (¬ k < 12 → (∀ {d}, dp_den true xs xl (d + 2) 480 [.ref 114, .int kind, .int (nI w)] M = vR (dp_setI M 114 81 (nI w)))) := by
  obtain ⟨h1, h2, h3, h4, h5, h6, h7, h8, h9, h10, h11⟩ := h
  have h9' : dp_I M 114 97 = nI (k + 1) := h9
  constructor
  · intro hk
    have e1 : ∀ i, i ≠ 97 → dp_I (opN M (k + 1) kind) 114 i = dp_I M 114 i := fun i hi => by rw [opN_114, uI_n hi]
    refine ⟨fun {d} => ?_, ⟨h1.fr opN_fr, by rw [e1 _ (by decide)]; exact h2, h3, by rw [e1 _ (by decide)]; exact h4, by rw [e1 _ (by decide)]; exact h5, h6, by rw [e1 _ (by decide)]; exact h7, h8, by rw [opN_114, uI_s], by omega, fun y hy => by rw [opN_o (by decide)]; exact h11 y hy⟩⟩
    rw [D_X12_opens_0_den, D_X12_opens_0_eq, h9', if_neg (fun q => by rw [show (13 : Int32) = nI 13 from rfl, nI_eq (by omega) (by omega)] at q; omega)]
    simp only [nI_cl (show k + 1 < 2147483648 by omega), nI_o (show k + 1 < 14 by omega) (by omega), if_false, dp_w, gII, Nat.reduceEqDiff, h9', nI_1]
    rfl
  · intro hk d
    rw [D_X12_opens_0_den, D_X12_opens_0_eq, h9', if_pos (by rw [show k = 12 by omega]; rfl), m_stop h4, rb_bv]
/-- a tree is laid on top -/
def jnA (M : dp_M) (k y : Nat) : dp_M := dp_setI (dp_setI M 184 k (nI y)) 185 k 0
theorem m_join0 {p c nr k y : Nat} (h : MSt M t L p c nr k) (hs : dp_I M 185 k = 0) : ∀ {d}, dp_den true xs xl (d + 2) 484 [.ref 114, .int (nI y)] M = vR (jnA M k y) := fun {d} => by
  obtain ⟨h1, h2, h3, h4, h5, h6, h7, h8, h9, h10, h11⟩ := h
  have h9' : dp_I M 114 97 = nI (k + 1) := h9
  rw [D_X12_joins_0_den, D_X12_joins_0_eq]
  simp only [dp_w, h9', nI_pred, nI_cl (show k < 2147483648 by omega), nI_o (show k < 14 by omega) (by omega), if_false, hs, if_true]
  rfl
theorem m_join1 {p c nr k y : Nat} {sg : Int32} (h : MSt M t L p c nr k) (hn : nr < c) (hs : dp_I M 185 k = sg) (h0 : ¬ sg = 0) : ∀ {d}, dp_den true xs xl (d + 2) 484 [.ref 114, .int (nI y)] M = vR (jnA (mkM M nr sg 0 (-1) (dp_I M 184 k) (nI y)) k nr) := fun {d} => by
  have hh := h
  obtain ⟨h1, h2, h3, h4, h5, h6, h7, h8, h9, h10, h11⟩ := h
  have h9' : dp_I M 114 97 = nI (k + 1) := h9
  rw [D_X12_joins_0_den, D_X12_joins_0_eq]
  simp only [dp_w, h9', nI_pred, nI_cl (show k < 2147483648 by omega), nI_o (show k < 14 by omega) (by omega), if_false, hs, h0]
  rw [(m_make (xs := xs) (xl := xl) hh hn).1, rb_bi]
  rfl
theorem jnA_fr {k y : Nat} : FrM M (jnA M k y) := by unfold jnA; exact ((FrM.r M).w 184 (by decide) _ _).w 185 (by decide) _ _
theorem jnA_o {k y K : Nat} (h1 : K ≠ 184) (h2 : K ≠ 185) : dp_I (jnA M k y) K = dp_I M K := by unfold jnA; rw [gII, if_neg h2, gII, if_neg h1]
theorem jnA_184 {k y : Nat} : dp_I (jnA M k y) 184 = uI (dp_I M 184) k (nI y) := by unfold jnA; rw [gII, if_neg (by decide), gII, if_pos rfl]
theorem jnA_185 {k y : Nat} : dp_I (jnA M k y) 185 = uI (dp_I M 185) k 0 := by unfold jnA; rw [gII, if_pos rfl, gII, if_neg (by decide)]
theorem jnA_low {k y nr : Nat} : LowM M (jnA M k y) nr := ⟨fun K hK i _ => by
  have w : ∀ K ∈ [174, 175, 176, 177, 178, 179], K ≠ 184 ∧ K ≠ 185 := by decide
  rw [jnA_o (w K hK).1 (w K hK).2], fun i _ => by rw [jnA_o (by decide) (by decide), jnA_o (by decide) (by decide)]; exact ⟨rfl, rfl⟩⟩
theorem jnA_op {k y : Nat} : OpM M (jnA M k y) k := fun K hK i hi => by
  simp only [List.mem_cons, List.not_mem_nil, or_false] at hK
  rcases hK with rfl | rfl | rfl | rfl
  · rw [jnA_o (by decide) (by decide)]
  · rw [jnA_o (by decide) (by decide)]
  · rw [jnA_184, uI_n (by omega)]
  · rw [jnA_185, uI_n (by omega)]
theorem jnA_st {p c nr k y : Nat} (h : MSt M t L p c nr k) : MSt (jnA M k y) t L p c nr k := by
  obtain ⟨h1, h2, h3, h4, h5, h6, h7, h8, h9, h10, h11⟩ := h
  have e : dp_I (jnA M k y) 114 = dp_I M 114 := jnA_o (by decide) (by decide)
  exact ⟨h1.fr jnA_fr, by rw [e]; exact h2, h3, by rw [e]; exact h4, by rw [e]; exact h5, h6, by rw [e]; exact h7, h8, by rw [e]; exact h9, h10, fun x hx => by rw [jnA_o (by decide) (by decide)]; exact h11 x hx⟩
theorem jnA_rd {k y x : Nat} : rdN (jnA M k y) x = rdN M x := by
  unfold rdN rwN
  rw [jnA_o (K := 174) (by decide) (by decide), jnA_o (K := 175) (by decide) (by decide), jnA_o (K := 176) (by decide) (by decide), jnA_o (K := 177) (by decide) (by decide), jnA_o (K := 178) (by decide) (by decide), jnA_o (K := 179) (by decide) (by decide), jnA_o (K := 180) (by decide) (by decide), jnA_o (K := 181) (by decide) (by decide)]
/-- a rate was read: it lies on top -/
def RtM (M : dp_M) (t : Nat → Int32) (L c nr k : Nat) (l : List Nd) (q c' : Nat) (M' : dp_M) (y : Nat) : Prop := FrM M M' ∧ MSt M' t L q c' (nr + l.length) k ∧ c' = c + l.length ∧ LowM M M' nr ∧ (∃ n ix, Rp (rdN M') n y l ix ∧ ix.Nodup ∧ ∀ i, i ∈ ix → nr ≤ i ∧ i < nr + l.length) ∧ OpM M M' k ∧ dp_I M' 182 k = dp_I M 182 k ∧ dp_I M' 183 k = dp_I M 183 k ∧ dp_I M' 184 k = nI y ∧ dp_I M' 185 k = 0
theorem RtM.of {M1 : dp_M} {c nr k q c' y : Nat} {l : List Nd} (h : PtM M t L c nr k l q c' M1 y) : RtM M t L c nr k l q c' (jnA M1 k y) y := by
  obtain ⟨a1, a2, a3, a4, ⟨n, ix, a5, a6, a7⟩, a8⟩ := h
  refine ⟨a1.tr jnA_fr, jnA_st a2, a3, a4.tr jnA_low (Nat.le_refl _), ⟨n, ix, a5.c (fun i _ => jnA_rd), a6, a7⟩, OpM.tr (M' := M1) (k := k) (k' := k) (fun K hK i hi => a8 K hK i (by omega)) jnA_op (Nat.le_refl _), ?_, ?_, by rw [jnA_184, uI_s], by rw [jnA_185, uI_s]⟩
  · rw [jnA_o (by decide) (by decide)]; exact a8 182 (by decide) k (by omega)
  · rw [jnA_o (by decide) (by decide)]; exact a8 183 (by decide) k (by omega)
theorem RtM.pl {M1 : dp_M} {c nr k q q' c' y : Nat} {l : List Nd} (h : RtM M t L c nr k l q c' M1 y) (hq : q' ≤ L) : RtM M t L c nr k l q' c' (plm M1 q') y := by
  obtain ⟨a1, a2, a3, a4, ⟨n, ix, a5, a6, a7⟩, a8, a9, a10, a11, a12⟩ := h
  have er : ∀ i, rdN (plm M1 q') i = rdN M1 i := fun i => by
    unfold rdN rwN
    rw [plm_I _ _ 174 (by decide), plm_I _ _ 175 (by decide), plm_I _ _ 176 (by decide), plm_I _ _ 177 (by decide), plm_I _ _ 178 (by decide), plm_I _ _ 179 (by decide), plm_I _ _ 180 (by decide), plm_I _ _ 181 (by decide)]
  exact ⟨a1.tr FrM.pl, a2.pl hq, a3, a4.tr LowM.pl (Nat.le_refl _), ⟨n, ix, a5.c (fun i _ => er i), a6, a7⟩, a8.tr OpM.pl (Nat.le_refl _), by rw [plm_I _ _ _ (by decide)]; exact a9, by rw [plm_I _ _ _ (by decide)]; exact a10, by rw [plm_I _ _ _ (by decide)]; exact a11, by rw [plm_I _ _ _ (by decide)]; exact a12⟩
theorem plm_rd {q i : Nat} : rdN (plm M q) i = rdN M i := by
  unfold rdN rwN
  rw [plm_I _ _ 174 (by decide), plm_I _ _ 175 (by decide), plm_I _ _ 176 (by decide), plm_I _ _ 177 (by decide), plm_I _ _ 178 (by decide), plm_I _ _ 179 (by decide), plm_I _ _ 180 (by decide), plm_I _ _ 181 (by decide)]
/-- two trees are joined -/
theorem rp_bin {N : dp_M} {nr nr1 nr2 y1 y2 : Nat} {l r : List Nd} {kd : Int32} (hk : isBn (kd, 0, -1, []) = true) (hr6 : ∀ y, y < nr2 → tN (dp_I N 179 y) ≤ 6) (h1 : ∃ n ix, Rp (rdN N) n y1 l ix ∧ ix.Nodup ∧ ∀ i, i ∈ ix → nr ≤ i ∧ i < nr1) (h2 : ∃ n ix, Rp (rdN N) n y2 r ix ∧ ix.Nodup ∧ ∀ i, i ∈ ix → nr1 ≤ i ∧ i < nr2) (hn : nr ≤ nr1) (hn2 : nr1 ≤ nr2) : ∃ n ix, Rp (rdN (mkM N nr2 kd 0 (-1) (nI y1) (nI y2))) n nr2 ((kd, 0, -1, []) :: (l ++ r)) ix ∧ ix.Nodup ∧ ∀ i, i ∈ ix → nr ≤ i ∧ i < nr2 + 1 := by
  obtain ⟨n1, i1, r1, d1, g1⟩ := h1
  obtain ⟨n2, i2, r2, d2, g2⟩ := h2
  have low := mkM_low (M := N) (nr := nr2) (v1 := kd) (v2 := 0) (v3 := -1) (v4 := nI y1) (v5 := nI y2)
  have ro : ∀ i, i < nr2 → rdN (mkM N nr2 kd 0 (-1) (nI y1) (nI y2)) i = rdN N i := fun i hi => rdN_c low hi (hr6 i hi)
  have ry := mkM_rd (M := N) (nr := nr2) (v1 := kd) (v2 := 0) (v3 := -1) (v4 := nI y1) (v5 := nI y2)
  refine ⟨n1 + n2 + 1, nr2 :: (i1 ++ i2), Or.inr ⟨by rw [ry]; exact hk, y1, y2, l, r, i1, i2, by rw [ry], ?_, ?_, by rw [ry], rfl⟩, ?_, fun i hi => ?_⟩
  · exact (r1.c (fun i hi => ro i (by have := g1 i hi; omega))).up _ (by omega)
  · exact (r2.c (fun i hi => ro i (by have := g2 i hi; omega))).up _ (by omega)
  · refine List.nodup_cons.mpr ⟨fun hm => ?_, nd_app d1 d2 g1 g2⟩
    rcases List.mem_append.mp hm with e | e
    · have := g1 _ e; omega
    · have := g2 _ e; omega
  · rcases List.mem_cons.mp hi with e | e
    · omega
    · rcases List.mem_append.mp e with e | e
      · have := g1 _ e; omega
      · have := g2 _ e; omega
end RQ
