-- needs: 71 72 73 74
/-! RATES: the model reads a part -/
section RU
variable {xs : Nat → Int32} {xl d : Nat} {M : dp_M} {t : Nat → Int32} {L : Nat}
theorem rd_114 {i y : Nat} {x : Int32} : rdN (dp_setI M 114 i x) y = rdN M y := by
  unfold rdN rwN
  simp only [gII, Nat.reduceEqDiff, if_false]
theorem low_114 {i nr : Nat} {x : Int32} : LowM M (dp_setI M 114 i x) nr := ⟨fun K hK j _ => by
  have w : ∀ K ∈ [174, 175, 176, 177, 178, 179], K ≠ 114 := by decide
  rw [gII, if_neg (w K hK)], fun j _ => by rw [gII, if_neg (by decide), gII, if_neg (by decide)]; exact ⟨rfl, rfl⟩⟩
theorem op_114 {i k : Nat} {x : Int32} : OpM M (dp_setI M 114 i x) k := fun K hK j _ => by
  have w : ∀ K ∈ [182, 183, 184, 185], K ≠ 114 := by decide
  rw [gII, if_neg (w K hK)]
theorem MSt.close {q c nr k : Nat} (h : MSt M t L q c nr (k + 1)) (hq : q + 1 ≤ L) : MSt (dp_setI (plm M (q + 1)) 114 97 (nI (k + 1))) t L (q + 1) c nr k := by
  obtain ⟨h1, h2, h3, h4, h5, h6, h7, h8, h9, h10, h11⟩ := h
  have fr : FrM M (dp_setI (plm M (q + 1)) 114 97 (nI (k + 1))) := FrM.pl.s 97 (by decide) _
  have e : ∀ i, i ≠ 97 → i ≠ 80 → dp_I (dp_setI (plm M (q + 1)) 114 97 (nI (k + 1))) 114 i = dp_I M 114 i := fun i k1 k2 => by rw [gII, if_pos rfl, uI_n k1, plm_o _ _ _ k2]
  exact ⟨h1.fr fr, by rw [gII, if_pos rfl, uI_n (by decide)]; exact plm_p _ _, hq, by rw [e _ (by decide) (by decide)]; exact h4, by rw [e _ (by decide) (by decide)]; exact h5, h6, by rw [e _ (by decide) (by decide)]; exact h7, h8, by rw [gII, if_pos rfl, uI_s], by omega, fun y hy => by rw [gII, if_neg (by decide), plm_I _ _ _ (by decide)]; exact h11 y hy⟩
/-- what was in brackets -/
theorem PtM.close {N M1 : dp_M} {c nr k q c' y : Nat} {l : List Nd} (h : RtM N t L c nr (k + 1) l q c' M1 y) (fN : FrM M N) (lN : LowM M N nr) (oN : OpM M N (k + 1)) (hq : q + 1 ≤ L) : PtM M t L c nr k l (q + 1) c' (dp_setI (plm M1 (q + 1)) 114 97 (nI (k + 1))) y := by
  obtain ⟨a1, a2, a3, a4, ⟨n, ix, a5, a6, a7⟩, a8, -⟩ := h
  refine ⟨((fN.tr a1).tr FrM.pl).s 97 (by decide) _, a2.close hq, a3, ((lN.tr a4 (Nat.le_refl _)).tr (LowM.pl (nr := nr)) (Nat.le_refl _)).tr (low_114 (nr := nr)) (Nat.le_refl _), ⟨n, ix, a5.c (fun i _ => by rw [rd_114, plm_rd]), a6, a7⟩, ((oN.tr a8 (Nat.le_refl _)).tr (OpM.pl (k := k + 1)) (Nat.le_refl _)).tr (op_114 (k := k + 1)) (Nat.le_refl _)⟩
/-- a pair -/
theorem PtM.pair {N M1 M2 M3 : dp_M} {c nr k q1 c1 y1 q3 c2 y2 nr3 : Nat} {kd : Int32} {l1 l2 : List Nd} (hM : MSt M t L q1 c nr k ∨ nr ≤ c) (hA : RtM N t L (c + 1) nr (k + 1) l1 q1 c1 M1 y1) (fN : FrM M N) (lN : LowM M N nr) (oN : OpM M N (k + 1)) (hM2 : M2 = plm (dp_setI (dp_setI M1 183 (k + 1) (nI y1)) 184 (k + 1) (-1)) (q1 + 1)) (hC : RtM M2 t L c1 (nr + l1.length) (k + 1) l2 q3 c2 M3 y2) (hq : q3 + 1 ≤ L) (hn3 : nr3 = nr + l1.length + l2.length) (hlt : nr3 < c2) (kB : isBn (kd, 0, -1, []) = true) : PtM M t L c nr k ((kd, 0, -1, []) :: (l1 ++ l2)) (q3 + 1) c2 (mkM (dp_setI (plm M3 (q3 + 1)) 114 97 (nI (k + 1))) nr3 kd 0 (-1) (nI y1) (nI y2)) nr3 := by
  obtain ⟨a1, a2, a3, a4, a5, a6, -⟩ := hA
  obtain ⟨b1, b2, b3, b4, b5, b6, -⟩ := hC
  have k2 : ∀ K, K ≠ 114 → K ≠ 183 → K ≠ 184 → dp_I M2 K = dp_I M1 K := fun K h1 h2 h3 => by rw [hM2, plm_I _ _ _ h1, gII, if_neg h3, gII, if_neg h2]
  have f2 : FrM M1 M2 := by rw [hM2]; exact (((FrM.r M1).w 183 (by decide) _ _).w 184 (by decide) _ _).tr FrM.pl
  have l2' : ∀ m, LowM M1 M2 m := fun m => ⟨fun K hK i _ => by
    have w : ∀ K ∈ [174, 175, 176, 177, 178, 179], K ≠ 114 ∧ K ≠ 183 ∧ K ≠ 184 := by decide
    rw [k2 K (w K hK).1 (w K hK).2.1 (w K hK).2.2], fun i _ => by rw [k2 _ (by decide) (by decide) (by decide), k2 _ (by decide) (by decide) (by decide)]; exact ⟨rfl, rfl⟩⟩
  have o2 : OpM M1 M2 (k + 1) := fun K hK i hi => by
    rw [hM2]
    simp only [List.mem_cons, List.not_mem_nil, or_false] at hK
    rcases hK with rfl | rfl | rfl | rfl
    · rw [plm_I _ _ _ (by decide), gII, if_neg (by decide), gII, if_neg (by decide)]
    · rw [plm_I _ _ _ (by decide), gII, if_neg (by decide), gII, if_pos rfl, uI_n (by omega)]
    · rw [plm_I _ _ _ (by decide), gII, if_pos rfl, uI_n (by omega), gII, if_neg (by decide)]
    · rw [plm_I _ _ _ (by decide), gII, if_neg (by decide), gII, if_neg (by decide)]
  obtain ⟨Z, hZ⟩ : ∃ Z, Z = dp_setI (plm M3 (q3 + 1)) 114 97 (nI (k + 1)) := ⟨_, rfl⟩
  have sZ : MSt Z t L (q3 + 1) c2 nr3 k := by rw [hZ, hn3]; exact b2.close hq
  have lZ : ∀ m, LowM M3 Z m := fun m => by rw [hZ]; exact LowM.pl.tr (low_114 (nr := m)) (Nat.le_refl _)
  have oZ : ∀ m, OpM M3 Z m := fun m => by rw [hZ]; exact OpM.pl.tr (op_114 (k := m)) (Nat.le_refl _)
  have fZ : FrM M3 Z := by rw [hZ]; exact FrM.pl.s 97 (by decide) _
  have low13 : LowM M1 Z (nr + l1.length) := ((l2' _).tr b4 (Nat.le_refl _)).tr (lZ _) (Nat.le_refl _)
  have rp1 : ∃ n ix, Rp (rdN Z) n y1 l1 ix ∧ ix.Nodup ∧ ∀ i, i ∈ ix → nr ≤ i ∧ i < nr + l1.length := by
    obtain ⟨n, ix, x1, x2, x3⟩ := a5
    exact ⟨n, ix, x1.c (fun i hi => rdN_c low13 (x3 i hi).2 (a2.2.2.2.2.2.2.2.2.2.2 i (x3 i hi).2)), x2, x3⟩
  have rp2 : ∃ n ix, Rp (rdN Z) n y2 l2 ix ∧ ix.Nodup ∧ ∀ i, i ∈ ix → nr + l1.length ≤ i ∧ i < nr3 := by
    obtain ⟨n, ix, x1, x2, x3⟩ := b5
    exact ⟨n, ix, x1.c (fun i _ => by rw [hZ, rd_114, plm_rd]), x2, fun i hi => by have := x3 i hi; omega⟩
  have bin := rp_bin (N := Z) (nr := nr) (nr1 := nr + l1.length) (nr2 := nr3) (y1 := y1) (y2 := y2) kB sZ.2.2.2.2.2.2.2.2.2.2 rp1 rp2 (by omega) (by omega)
  have mk2 := (m_make (xs := fun _ => 0) (xl := 0) (v1 := kd) (v2 := 0) (v3 := -1) (v4 := nI y1) (v5 := nI y2) sZ hlt).2
  rw [← hZ]
  have len : ((kd, 0, -1, []) :: (l1 ++ l2) : List Nd).length = l1.length + l2.length + 1 := by rw [List.length_cons, List.length_append]
  refine ⟨((((fN.tr a1).tr f2).tr b1).tr fZ).tr mkM_fr, ?_, by rw [len]; omega, ?_, ?_, ?_⟩
  · rw [len, show nr + (l1.length + l2.length + 1) = nr3 + 1 by omega]; exact mk2
  · exact (((lN.tr a4 (Nat.le_refl _)).tr low13 (by omega)).tr mkM_low (by omega))
  · obtain ⟨n, ix, x1, x2, x3⟩ := bin
    exact ⟨n, ix, x1, x2, fun i hi => by rw [len]; have := x3 i hi; omega⟩
  · exact ((((oN.tr a6 (Nat.le_refl _)).tr o2 (Nat.le_refl _)).tr b6 (Nat.le_refl _)).tr (oZ (k + 1)) (Nat.le_refl _)).tr mkM_op (Nat.le_refl _)
theorem ltz_0 {p : Nat} (h : ¬ (p < L ∧ isLt (t p))) : lt' t L p = 0 := by
  unfold lt'
  exact rnN_e (fun q => h ⟨q.1, of_decide_eq_true q.2⟩) _
theorem ltz_1 {p : Nat} (h : lt' t L p ≠ 0) : p < L ∧ isLt (t p) := Classical.byContradiction (fun q => h (ltz_0 q))
theorem dgt_1 {p : Nat} (h : p < L ∧ isDg (t p)) : 1 ≤ dgt t L p := by
  unfold dgt
  rw [rnN_s h.1 (decide_eq_true h.2)]; omega
theorem dg_lt {v : Int32} (h : isDg v) : ¬ isLt v := fun q => by
  have h1 := isDg_n h
  have h2 := q.1
  rw [Int32.lt_iff_toInt_lt] at h2
  have e1 : (97 : Int32).toInt = 97 := rfl
  omega
end RU
