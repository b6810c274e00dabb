-- needs: 71 72 73 74
/-! RATES: the class reads all of it -/
def fu : Nat → Nat → Nat
  | 0, d => d
  | m + 1, d => fu m d + 3
def ResC (call : Option dp_Res) (M : dp_M) (t : Nat → Int32) (L c s : Nat) (res : Nat ⊕ (List Nd × Nat × Nat)) : Prop := match res with
  | .inl b => ∃ M', call = iR (-1) M' ∧ BdC M M' b
  | .inr (l, q, c') => ∃ M' x, call = iR (nI x) M' ∧ PtC M t L c s l q c' M' x
section RJ
variable {xs : Nat → Int32} {xl d : Nat} {M : dp_M} {t : Nat → Int32} {L : Nat}
/-- two trees are joined -/
theorem PtC.bin {M0 M4 : dp_M} {c0 s0 q c' s' y x1 x2 n1 n2 : Nat} {l r : List Nd} {i1 i2 : List Nat} {kind : Int32} (hf : FrC M0 M4) (hs : CSt M4 t L q c' s') (hss : s0 ≤ s') (hc : c' = c0 + (1 + (l.length + r.length))) (h71 : ∀ i, i < c0 * 7 → dp_I M4 71 i = dp_I M0 71 i) (h72 : ∀ i, i < s0 * 2 → dp_I M4 72 i = dp_I M0 72 i)
    (hy : c0 ≤ y) (hy2 : y < c') (f0 : dp_I M4 71 (y * 7 + 0) = kind) (f1 : dp_I M4 71 (y * 7 + 1) = 0) (f2 : dp_I M4 71 (y * 7 + 2) = -1) (f5 : dp_I M4 71 (y * 7 + 5) = 0) (hk : isBn (kind, 0, -1, []) = true) (r1 : Rp (rdF (dp_I M4 71) (dp_I M4 72)) n1 x1 l i1) (r2 : Rp (rdF (dp_I M4 71) (dp_I M4 72)) n2 x2 r i2)
    (hnd : (i1 ++ i2).Nodup) (hyn : ∀ i, i ∈ i1 ++ i2 → c0 ≤ i ∧ i < c' ∧ i ≠ y) (hu : dp_I M4 68 12 = dp_I M0 68 12 ||| umk (l ++ r)) : PtC M0 t L c0 s0 ((kind, 0, -1, []) :: (l ++ r)) q c' (dp_setI (dp_setI M4 71 (y * 7 + 3) (nI x1)) 71 (y * 7 + 4) (nI x2)) y := by
  obtain ⟨M5, hM⟩ : ∃ M5, M5 = dp_setI (dp_setI M4 71 (y * 7 + 3) (nI x1)) 71 (y * 7 + 4) (nI x2) := ⟨_, rfl⟩
  rw [← hM]
  have e71 : dp_I M5 71 = uI (uI (dp_I M4 71) (y * 7 + 3) (nI x1)) (y * 7 + 4) (nI x2) := by rw [hM, gII, if_pos rfl, gII, if_pos rfl]
  have e72 : dp_I M5 72 = dp_I M4 72 := by rw [hM, gII, if_neg (by decide), gII, if_neg (by decide)]
  have e68 : dp_I M5 68 = dp_I M4 68 := by rw [hM, gII, if_neg (by decide), gII, if_neg (by decide)]
  have ry : rdF (dp_I M5 71) (dp_I M5 72) y = ((kind, 0, -1, []), nI x1, nI x2) := rdF_mk (by rw [e71, uI_n (by omega), uI_n (by omega)]; exact f0) (by rw [e71, uI_n (by omega), uI_n (by omega)]; exact f1) (by rw [e71, uI_n (by omega), uI_n (by omega)]; exact f2) (by rw [e71, uI_n (by omega), uI_s]) (by rw [e71, uI_s]) (by rw [e71, uI_n (by omega), uI_n (by omega)]; exact f5)
  have ro : ∀ i, i ≠ y → rdF (dp_I M5 71) (dp_I M5 72) i = rdF (dp_I M4 71) (dp_I M4 72) i := fun i hi => by
    have e : ∀ k, k < 7 → dp_I M5 71 (i * 7 + k) = dp_I M4 71 (i * 7 + k) := fun k hk => by rw [e71, uI_n (by omega), uI_n (by omega)]
    rw [e72]
    unfold rdF rwF
    rw [e 0 (by omega), e 1 (by omega), e 2 (by omega), e 3 (by omega), e 4 (by omega), e 5 (by omega), e 6 (by omega)]
  refine ⟨by rw [hM]; exact (hf.f _ _).f _ _, ⟨s', by rw [hM]; exact (hs.f (by omega)).f (by omega), hss⟩, by rw [List.length_cons, List.length_append]; omega, fun i hi => by rw [e71, uI_n (by omega), uI_n (by omega)]; exact h71 i hi, fun i hi => by rw [e72]; exact h72 i hi, ⟨n1 + n2 + 1, y :: (i1 ++ i2), Or.inr ⟨by rw [ry]; exact hk, x1, x2, l, r, i1, i2, by rw [ry], ?_, ?_, by rw [ry], rfl⟩, ?_, fun i hi => ?_⟩, ?_⟩
  · exact (r1.c (fun i hi => ro i (hyn i (List.mem_append_left _ hi)).2.2)).up _ (by omega)
  · exact (r2.c (fun i hi => ro i (hyn i (List.mem_append_right _ hi)).2.2)).up _ (by omega)
  · exact List.nodup_cons.mpr ⟨fun hm => (hyn y hm).2.2 rfl, hnd⟩
  · rcases List.mem_cons.mp hi with e | e
    · omega
    · exact ⟨(hyn i e).1, (hyn i e).2.1⟩
  · rw [e68, hu]
    have k2 : ¬ kind = 2 := fun e => by
      rw [e] at hk; exact absurd hk (by decide)
    show _ = dp_I M0 68 12 ||| ((if kind = 2 then (1 : Int32) <<< ((-1 : Int32) &&& 31) else 0) ||| umk (l ++ r))
    rw [if_neg k2, Int32.zero_or]
theorem PtC.lt {c s q c' x : Nat} {l : List Nd} {M' : dp_M} (h : PtC M t L c s l q c' M' x) : c ≤ x ∧ x < c' ∧ c' ≤ 60 := by
  obtain ⟨-, ⟨s', hs, -⟩, -, -, -, ⟨n, ix, hr, -, hx⟩, -⟩ := h
  exact ⟨(hx x hr.hd).1, (hx x hr.hd).2, hs.2.2.2.2.2.1⟩
theorem PtC.pl {c s q q' c' x : Nat} {l : List Nd} {M' : dp_M} (h : PtC M t L c s l q c' M' x) (h1 : q ≤ q') (h2 : q' ≤ L) : PtC M t L c s l q' c' (plc M' q') x := by
  obtain ⟨a1, ⟨s', hs, a2⟩, a3, a4, a5, ⟨n, ix, hr, a6, a7⟩, a8⟩ := h
  exact ⟨a1.tr FrC.pl, ⟨s', hs.pl h1 h2, a2⟩, a3, fun i hi => by rw [plc_I _ _ _ (by decide)]; exact a4 i hi, fun i hi => by rw [plc_I _ _ _ (by decide)]; exact a5 i hi, ⟨n, ix, by rw [plc_I _ _ _ (by decide), plc_I _ _ _ (by decide)]; exact hr, a6, a7⟩, by rw [plc_o _ _ _ (by decide)]; exact a8⟩
theorem nd_app {i1 i2 : List Nat} {a b c : Nat} (h1 : i1.Nodup) (h2 : i2.Nodup) (r1 : ∀ i, i ∈ i1 → a ≤ i ∧ i < b) (r2 : ∀ i, i ∈ i2 → b ≤ i ∧ i < c) : (i1 ++ i2).Nodup := by
  rw [List.nodup_append]
  exact ⟨h1, h2, fun x hx y hy e => by have := r1 x hx; have := r2 y hy; omega⟩
/-- a sign between two -/
theorem PtC.sign {M0 N M4 : dp_M} {c0 s0 c q c' p1 x x2 s1 p : Nat} {l r : List Nd} {kind : Int32} (hA : PtC M0 t L c0 s0 l p c M x) (sA : Nat) (hsA : CSt M t L p c sA) (hsA0 : s0 ≤ sA) (fN : FrC M N) (n71 : dp_I N 71 = nwF (dp_I M 71) c kind) (n72 : dp_I N 72 = dp_I M 72) (nu : dp_I N 68 12 = dp_I M 68 12) (hk : isBn (kind, 0, -1, []) = true) (hC : PtC N t L (c + 1) sA r q c' M4 x2) : PtC M0 t L c0 s0 ((kind, 0, -1, []) :: (l ++ r)) q c' (dp_setI (dp_setI M4 71 (c * 7 + 3) (nI x)) 71 (c * 7 + 4) (nI x2)) c := by
  obtain ⟨a1, -, a3, a4, a5, ⟨n1, i1, r1, d1, g1⟩, a8⟩ := hA
  obtain ⟨b1, ⟨s', hs', b2⟩, b3, b4, b5, ⟨n2, i2, r2, d2, g2⟩, b8⟩ := hC
  have nf := nwF_f (dp_I M 71) c kind
  have low : ∀ i, i < c * 7 → dp_I M4 71 i = dp_I M 71 i := fun i hi => by rw [b4 i (by omega), n71, nwF_o hi]
  have slow : ∀ i, i < sA * 2 → dp_I M4 72 i = dp_I M 72 i := fun i hi => by rw [b5 i hi, n72]
  have g1' : ∀ i, i ∈ i1 → c0 ≤ i ∧ i < c := g1
  refine PtC.bin ((a1.tr fN).tr b1) hs' (by omega) (by omega) (fun i hi => by rw [low i (by omega)]; exact a4 i hi) (fun i hi => by rw [slow i (by omega)]; exact a5 i hi) (by omega) (by omega) (by rw [b4 _ (by omega), n71]; exact nf.1) (by rw [b4 _ (by omega), n71]; exact nf.2.1) (by rw [b4 _ (by omega), n71]; exact nf.2.2.1) (by rw [b4 _ (by omega), n71]; exact nf.2.2.2.2.2.1) hk (r1.c (fun i hi => ?_)) r2 ?_ (fun i hi => ?_) ?_
  · have h9 := hsA.2.2.2.2.2.2.2.2
    exact rdF_c (fun k hk => low _ (by have := g1' i hi; omega)) slow (h9 i (by have := g1' i hi; omega))
  · exact nd_app d1 d2 (b := c) (c := c') g1' (fun i hi => by have := g2 i hi; omega)
  · rcases List.mem_append.mp hi with e | e
    · have := g1' i e; omega
    · have := g2 i e; omega
  · rw [b8, nu, a8, Int32.or_assoc, umk_app]
/-- a pair -/
theorem PtC.pair {N M2 N2 M3 : dp_M} {c q0 q1 q2 c1 c2 q3 x1 x2 s : Nat} {l r : List Nd} {kind : Int32} (h : CSt M t L q0 c s) (fN : FrC M N) (n71 : dp_I N 71 = nwF (dp_I M 71) c kind) (n72 : dp_I N 72 = dp_I M 72) (nu : dp_I N 68 12 = dp_I M 68 12) (hk : isBn (kind, 0, -1, []) = true) (hA : PtC N t L (c + 1) s l q1 c1 M2 x1) (sB : Nat) (hsB : CSt M2 t L q1 c1 sB) (hsB0 : s ≤ sB) (hN2 : N2 = plc M2 q2) (hC : PtC N2 t L c1 sB r q3 c2 M3 x2) : PtC M t L c s ((kind, 0, -1, []) :: (l ++ r)) q3 c2 (dp_setI (dp_setI M3 71 (c * 7 + 3) (nI x1)) 71 (c * 7 + 4) (nI x2)) c := by
  obtain ⟨a1, -, a3, a4, a5, ⟨n1, i1, r1, d1, g1⟩, a8⟩ := hA
  obtain ⟨b1, ⟨s', hs', b2⟩, b3, b4, b5, ⟨n2, i2, r2, d2, g2⟩, b8⟩ := hC
  have nf := nwF_f (dp_I M 71) c kind
  have low : ∀ i, i < c1 * 7 → dp_I M3 71 i = dp_I M2 71 i := fun i hi => by rw [b4 i hi, hN2, plc_I _ _ _ (by decide)]
  have slow : ∀ i, i < sB * 2 → dp_I M3 72 i = dp_I M2 72 i := fun i hi => by rw [b5 i hi, hN2, plc_I _ _ _ (by decide)]
  have low2 : ∀ i, i < (c + 1) * 7 → dp_I M3 71 i = nwF (dp_I M 71) c kind i := fun i hi => by rw [low i (by omega), a4 i hi, n71]
  refine PtC.bin (((fN.tr a1).tr (by rw [hN2]; exact FrC.pl)).tr b1) hs' (by omega) (by omega) (fun i hi => by rw [low2 i (by omega), nwF_o hi]) (fun i hi => by rw [slow i (by omega), a5 i hi, n72]) (Nat.le_refl _) (by omega) (by rw [low2 _ (by omega)]; exact nf.1) (by rw [low2 _ (by omega)]; exact nf.2.1) (by rw [low2 _ (by omega)]; exact nf.2.2.1) (by rw [low2 _ (by omega)]; exact nf.2.2.2.2.2.1) hk (r1.c (fun i hi => ?_)) r2 ?_ (fun i hi => ?_) ?_
  · have h9 := hsB.2.2.2.2.2.2.2.2
    exact rdF_c (fun k hk => low _ (by have := g1 i hi; omega)) slow (h9 i (by have := g1 i hi; omega))
  · exact nd_app d1 d2 (b := c1) (c := c2) g1 g2
  · rcases List.mem_append.mp hi with e | e
    · have := g1 i e; omega
    · have := g2 i e; omega
  · have : dp_I N2 68 12 = dp_I M2 68 12 := by rw [hN2, plc_o _ _ _ (by decide)]
    rw [b8, this, a8, nu, Int32.or_assoc, umk_app]
end RJ
