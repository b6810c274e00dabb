-- needs: 71 72 73 74
/-! RATES: a Rate of the class, and readTape -/
/-- q is a Rate that holds the tree l -/
def RtO (M : dp_M) (q : Nat) (l : List Nd) : Prop := 246 ≤ q ∧ q < dp_n M ∧ dp_tag M q = 16 ∧ dp_I M q 0 = nI l.length ∧ dp_I M q 1 = umk l ∧ 1 ≤ l.length ∧ l.length ≤ 60 ∧ ∃ f s S, (246 ≤ f ∧ f < dp_n M ∧ dp_tag M f = 1 ∧ dp_len M f = l.length * 7) ∧ (246 ≤ s ∧ s < dp_n M ∧ dp_tag M s = 1 ∧ dp_len M s = S * 2 ∧ S ≤ 133) ∧ dp_R M q 2 = some f ∧ dp_R M q 3 = some s ∧ ∀ j, j < l.length → rdF (dp_I M f) (dp_I M s) j = (l.getD j v0, fL l j, fR l j) ∧ tN (dp_I M f (j * 7 + 6)) + tN (dp_I M f (j * 7 + 5)) ≤ S ∧ (isBn (l.getD j v0) = true → ∃ m, fR l j = nI m ∧ j + 1 < m ∧ m < l.length)
theorem RtO.off {M M' : dp_M} {S T : List Nat} {q : Nat} {l : List Nd} (h : RtO M q l) (o : Off S T M M') : RtO M' q l := by
  obtain ⟨h1, h2, h3, h4, h5, h6, h7, f, s, S, ⟨f1, f2, f3, f4⟩, ⟨s1, s2, s3, s4, s5⟩, r2, r3, hj⟩ := h
  obtain ⟨a1, -, a3, -, a5⟩ := o.2.2.2.1 q h1 h2
  obtain ⟨b1, -, -, b4, b5⟩ := o.2.2.2.1 f f1 f2
  obtain ⟨c1, -, -, c4, c5⟩ := o.2.2.2.1 s s1 s2
  have n := o.2.2.2.2
  refine ⟨h1, by omega, by rw [a5]; exact h3, by rw [a1]; exact h4, by rw [a1]; exact h5, h6, h7, f, s, S, ⟨f1, by omega, by rw [b5]; exact f3, by rw [b4]; exact f4⟩, ⟨s1, by omega, by rw [c5]; exact s3, by rw [c4]; exact s4, s5⟩, by rw [a3]; exact r2, by rw [a3]; exact r3, ?_⟩
  rw [b1, c1]; exact hj
section RD
variable {xs : Nat → Int32} {xl d : Nat} {M : dp_M} {t : Nat → Int32} {L : Nat}
theorem bfE_o {p2 s k : Nat} (hk : k < dp_n M) : dp_I (bfE M p2 s) k = dp_I M k ∧ dp_J (bfE M p2 s) k = dp_J M k ∧ dp_R (bfE M p2 s) k = dp_R M k ∧ dp_len (bfE M p2 s) k = dp_len M k ∧ dp_tag (bfE M p2 s) k = dp_tag M k := by
  have n1 : k < dp_n (dp_new M 0 16 (dp_nf 6)) := by rw [gnN]; omega
  unfold bfE
  refine ⟨?_, ?_, ?_, ?_, ?_⟩
  · rw [gIR, gIR, gII, if_neg (by omega), gII, if_neg (by omega)]
    funext i
    show (if k = dp_n M + 1 ∧ _ then _ else dp_I (dp_new (dp_new M 0 16 (dp_nf 6)) s 1 s) k i) = _
    rw [if_neg (fun e => by omega), gIN n1, gIN hk]
  · show dp_J (dp_new (dp_new M 0 16 (dp_nf 6)) s 1 s) k = _
    rw [gJN n1, gJN hk]
  · rw [gRR, if_neg (by omega), gRR, if_neg (by omega)]
    show dp_R (dp_new (dp_new M 0 16 (dp_nf 6)) s 1 s) k = _
    rw [gRN n1, gRN hk]
  · show dp_len (dp_new (dp_new M 0 16 (dp_nf 6)) s 1 s) k = _
    rw [glN n1, glN hk]
  · show dp_tag (dp_new (dp_new M 0 16 (dp_nf 6)) s 1 s) k = _
    rw [gtN n1, gtN hk]
theorem bfE_q {p2 s : Nat} (hn : 246 ≤ dp_n M) : dp_n (bfE M p2 s) = dp_n M + 2 ∧ dp_z (bfE M p2 s) = dp_z M + 4 + s ∧ dp_tag (bfE M p2 s) (dp_n M) = 16 ∧ dp_I (bfE M p2 s) (dp_n M) 0 = dp_I M 68 10 ∧ dp_I (bfE M p2 s) (dp_n M) 1 = dp_I M 68 12 ∧ dp_R (bfE M p2 s) (dp_n M) 2 = some p2 ∧ dp_R (bfE M p2 s) (dp_n M) 3 = some (dp_n M + 1) ∧ dp_tag (bfE M p2 s) (dp_n M + 1) = 1 ∧ dp_len (bfE M p2 s) (dp_n M + 1) = s ∧ ∀ i, i < min s 400 → dp_I (bfE M p2 s) (dp_n M + 1) i = dp_I M 72 i := by
  have n1 : dp_n (dp_new M 0 16 (dp_nf 6)) = dp_n M + 1 := rfl
  refine ⟨rfl, rfl, ?_, ?_, ?_, ?_, ?_, ?_, ?_, fun i hi => ?_⟩
  · show dp_tag (dp_new (dp_new M 0 16 (dp_nf 6)) s 1 s) (dp_n M) = 16
    rw [gtN (by rw [n1]; omega)]
    exact if_pos rfl
  · unfold bfE
    rw [gIR, gIR, gII, if_pos rfl, uI_n (by decide), gII, if_pos rfl, uI_s]
  · unfold bfE
    rw [gIR, gIR, gII, if_pos rfl, uI_s]
  · unfold bfE
    rw [gRR, if_pos rfl, uI_n (by decide), gRR, if_pos rfl, uI_s]
  · unfold bfE
    rw [gRR, if_pos rfl, uI_s]
  · exact if_pos rfl
  · exact if_pos rfl
  · unfold bfE
    rw [gIR, gIR, gII, if_neg (by omega), gII, if_neg (by omega)]
    show (if dp_n M + 1 = dp_n M + 1 ∧ 0 ≤ i ∧ i < 0 + min s 400 then dp_I (dp_new (dp_new M 0 16 (dp_nf 6)) s 1 s) 72 (0 + (i - 0)) else _) = _
    rw [if_pos ⟨rfl, by omega, by omega⟩, gIN (by rw [n1]; omega), gIN (by omega)]
    show dp_I M 72 (0 + i) = _
    rw [Nat.zero_add]
theorem FrN.r (M : dp_M) : FrN M M := ⟨Off.rr _ _ M, Cst.r M, fun _ _ => rfl⟩
/-- numberFrom -/
theorem c_numF {l : List Nd} {ix : List Nat} {n x : Nat} (hR : Rp (rdF (dp_I M 71) (dp_I M 72)) n x l ix) (hnd : ix.Nodup) (hb : ∀ i, i ∈ ix → i < l.length) (hl : l.length ≤ 60) (h10 : dp_I M 68 10 = nI l.length) : ∃ N, dp_den true xs xl (d + 2) 170 [.ref 68, .int (nI x)] M = vR N ∧ FrN M N ∧ ∀ i, i < l.length → dp_I N 73 (ix.getD i 0) = nI i := by
  obtain ⟨M2, hM2⟩ : ∃ M2, M2 = dp_setI (dp_setI (dp_setI M 68 13 0) 74 0 (nI x)) 68 13 (nI 1) := ⟨_, rfl⟩
  have f2 : FrN M M2 := by
    rw [hM2]
    refine ⟨((((Off.rr _ _ M).I 68 (by decide) _ _).I 74 (by decide) _ _).I 68 (by decide) _ _), ⟨Nat.le_refl _, Nat.le_refl _⟩, fun i hi => ?_⟩
    rw [gII, if_pos rfl, uI_n hi, gII, if_neg (by decide), gII, if_pos rfl, uI_n hi]
  have sr : SR (rdF (dp_I M 71) (dp_I M 72)) [x] l ix := ⟨l, ix, [], [], ⟨n, hR⟩, ⟨rfl, rfl⟩, (List.append_nil _).symm, (List.append_nil _).symm⟩
  obtain ⟨N, q1, q2, q3⟩ := c_num (xs := xs) (xl := xl) (d := d) (C := l.length) (v1 := nI x) (F := dp_I M 71) (S0 := dp_I M 72) l [x] ix [] M2 sr hnd (fun y hy => by have := hb y hy; omega) (by simp) hl (f2.1.1 71 (by decide) (by decide) (by decide)).1 (by rw [f2.2.2 10 (by decide)]; exact h10) (by rw [hM2, gII, if_pos rfl, uI_s]; rfl) (fun i hi => by
      have : i = 0 := by rw [List.length_singleton] at hi; omega
      subst this
      rw [hM2, gII, if_neg (by decide), gII, if_pos rfl]; exact uI_s _ _ _) (fun i hi => absurd hi (by simp))
  refine ⟨N, ?_, f2.tr q2, q3⟩
  rw [D_X7_numberFrom_0_den, D_X7_numberFrom_0_eq, dpw, c_push (h := 0) (by rw [gII, if_pos rfl, uI_s]; rfl) (by omega), rb_bv, dpw, ← hM2]
  exact q1
theorem c_built {l : List Nd} {ix : List Nat} {n x q s : Nat} (hs : CSt M t L q l.length s) (hR : Rp (rdF (dp_I M 71) (dp_I M 72)) n x l ix) (hnd : ix.Nodup) (hb : ∀ i, i ∈ ix → i < l.length) (hu : dp_I M 68 12 = umk l) (hn : 246 ≤ dp_n M) : ∃ M' o, dp_den true xs xl (d + 3) 168 [.ref 68, .int (nI x)] M = some (.inl (some (.ref o)), M') ∧ RtO M' o l ∧ Off [68, 73, 74] [] M M' ∧ Cst 3 690 M M' ∧ ∀ i, i ≠ 13 → dp_I M' 68 i = dp_I M 68 i := by
  obtain ⟨h1, h2, h3, h4, h5, h6, h7, h8, h9⟩ := hs
  have hL := h1.2.1
  have h10 : dp_I M 68 10 = nI l.length := h5
  have h11 : dp_I M 68 11 = nI s := h7
  have len := hR.len
  obtain ⟨p2, hp2⟩ : ∃ p2, p2 = dp_n M := ⟨_, rfl⟩
  obtain ⟨N1, hN1⟩ : ∃ N1, N1 = dp_new M (l.length * 7) 1 (l.length * 7) := ⟨_, rfl⟩
  have old : ∀ k, k < dp_n M → dp_I N1 k = dp_I M k := fun k hk => by rw [hN1]; exact gIN hk
  have nN1 : dp_n N1 = dp_n M + 1 := by rw [hN1]; rfl
  have zN1 : dp_z N1 = dp_z M + l.length * 7 := by rw [hN1]; rfl
  have t1 : dp_tag N1 p2 = 1 := by rw [hN1, hp2]; exact if_pos rfl
  have l1 : dp_len N1 p2 = l.length * 7 := by rw [hN1, hp2]; exact if_pos rfl
  obtain ⟨N, g1, g2, g3⟩ := c_numF (xs := xs) (xl := xl) (d := d) (M := N1) (l := l) (ix := ix) (n := n) (x := x) (by rw [old 71 (by omega), old 72 (by omega)]; exact hR) hnd hb h6 (by rw [old 68 (by omega)]; exact h10)
  have nN : dp_n N = dp_n M + 1 := by have := g2.2.1.1; have := g2.1.2.2.2.2; omega
  have i71 : dp_I N 71 = dp_I M 71 := by rw [(g2.1.1 71 (by decide) (by decide) (by decide)).1, old 71 (by omega)]
  have i72 : dp_I N 72 = dp_I M 72 := by rw [(g2.1.1 72 (by decide) (by decide) (by decide)).1, old 72 (by omega)]
  obtain ⟨-, -, -, l2, t2⟩ := g2.1.2.2.2.1 p2 (by omega) (by omega)
  have i68 : ∀ i, i ≠ 13 → dp_I N 68 i = dp_I M 68 i := fun i hi => by rw [g2.2.2 i hi, old 68 (by omega)]
  have sur := fun v (hv : v < l.length) => l_sur hnd hb len.1 hv
  have ch := fun j hj => rp_ch hR.len' (by omega) j hj
  have ixb : ∀ j, j < l.length → ix.getD j 0 < l.length := fun j hj => hb _ (by
    rw [List.getD_eq_getElem?_getD, List.getElem?_eq_getElem (by omega)]; exact List.getElem_mem (by omega))
  obtain ⟨R, hR'⟩ : ∃ R, R = bRow (dp_I N 71) (dp_I N 73) (dp_I N p2) l.length := ⟨_, rfl⟩
  obtain ⟨E, hE⟩ : ∃ E, E = bfE (rI N p2 R) p2 (s * 2) := ⟨_, rfl⟩
  have lp := c_bloop (xs := xs) (xl := xl) (d := d + 1) (C := l.length) (p2 := p2) (v1 := nI x) (N := N) (r := (.inl (some (.ref (dp_n N))), E)) (by omega) (by rw [t2]; exact t1) (by rw [l2]; exact l1) h6 (by rw [i68 10 (by decide)]; exact h10) (fun v hv => by
      obtain ⟨j, j1, j2⟩ := sur v hv
      exact ⟨j, j1, by rw [← j2]; exact g3 j j1⟩) (fun v hv k hk => by
      obtain ⟨j, j1, j2⟩ := sur v hv
      obtain ⟨c1, c2⟩ := ch j j1
      rw [j2] at c2
      rw [i71]
      rcases c2 with ⟨-, b2⟩ | ⟨-, m, m1, m2, -, -, b2⟩
      · refine Or.inl ?_
        rcases hk with rfl | rfl
        · exact congrArg Prod.fst b2
        · exact congrArg Prod.snd b2
      · refine Or.inr ?_
        rcases hk with rfl | rfl
        · exact ⟨_, by have := ixb _ m1; omega, congrArg Prod.fst b2⟩
        · exact ⟨_, by have := ixb _ m2; omega, congrArg Prod.snd b2⟩) (fun u => by
      rw [← hR', hE]
      have i2 : dp_I (rI N p2 R) 68 11 * 2 = nI (s * 2) := by rw [rI_I, if_neg (by omega), i68 11 (by decide), h11, show (2 : Int32) = nI 2 from rfl, pk_mul]
      exact c_bend (M := rI N p2 R) (by rw [rI_n]; omega) (by rw [i2, nI_cl (by omega)]) (by rw [i2]; exact r_nn (by omega)) (by omega))
  have Q := bfE_q (M := rI N p2 R) (p2 := p2) (s := s * 2) (by rw [rI_n]; omega)
  rw [← hE, rI_n] at Q
  obtain ⟨e1, e2, e3, e4, e5, e6, e7, e8, e9, e10⟩ := Q
  have O := fun k (hk : k < dp_n N) => bfE_o (M := rI N p2 R) (p2 := p2) (s := s * 2) (k := k) (by rw [rI_n]; exact hk)
  rw [← hE] at O
  obtain ⟨o1, -, -, o4, o5⟩ := O p2 (by omega)
  have row : dp_I E p2 = R := by rw [o1, rI_I, if_pos rfl]
  have j68 : dp_I (rI N p2 R) 68 = dp_I N 68 := by rw [rI_I, if_neg (by omega)]
  have j72 : dp_I (rI N p2 R) 72 = dp_I M 72 := by rw [rI_I, if_neg (by omega), i72]
  rw [j68] at e4 e5
  have inj : ∀ a b, a < l.length → b < l.length → (dp_I N 73 a).toNatClampNeg = (dp_I N 73 b).toNatClampNeg → a = b := fun a b ha hb' e => by
    obtain ⟨j, j1, j2⟩ := sur a ha
    obtain ⟨j', j1', j2'⟩ := sur b hb'
    rw [← j2, ← j2', g3 j j1, g3 j' j1', nI_cl (by omega), nI_cl (by omega)] at e
    rw [← j2, ← j2', e]
  refine ⟨E, dp_n N, ?_, ⟨by omega, by omega, e3, by rw [e4, i68 10 (by decide)]; exact h10, by rw [e5, i68 12 (by decide)]; exact hu, len.2, h6, p2, dp_n N + 1, s, ⟨by omega, by omega, by rw [o5]; show dp_tag N p2 = 1; rw [t2]; exact t1, by rw [o4]; show dp_len N p2 = _; rw [l2]; exact l1⟩, ⟨by omega, by omega, e8, e9, by omega⟩, e6, e7, fun j hj => ?_⟩, ?_, ⟨by omega, ?_⟩, fun i hi => ?_⟩
  · rw [D_X7_builtFrom_0_den, D_X7_builtFrom_0_eq, h10, show nI l.length * (7 : Int32) = nI (l.length * 7) from by rw [show (7 : Int32) = nI 7 from rfl, pk_mul], nI_cl (by omega), if_neg (by rw [nI_o (by omega) (by omega)]; exact id), bf_nk hn, ← hN1]
    unfold bf_w
    (try dsimp only)
    rw [g1, rb_bv, dpw, ← hp2]
    exact lp
  · obtain ⟨c1, c2⟩ := ch j hj
    have xb := ixb j hj
    have nj : (dp_I N 73 (ix.getD j 0)).toNatClampNeg = j := by rw [g3 j hj, nI_cl (by omega)]
    have B := fun k (hk : k < 7) => bRow_at (F := dp_I N 71) (nu := dp_I N 73) (r0 := dp_I N p2) inj l.length (Nat.le_refl _) (ix.getD j 0) xb k hk
    rw [nj, ← hR', i71] at B
    have B0 := B 0 (by decide)
    have B1 := B 1 (by decide)
    have B2 := B 2 (by decide)
    have B3 := B 3 (by decide)
    have B4 := B 4 (by decide)
    have B5 := B 5 (by decide)
    have B6 := B 6 (by decide)
    rw [if_neg (by decide), if_neg (by decide)] at B0 B1 B2 B5 B6
    rw [if_pos rfl] at B3
    rw [if_neg (by decide), if_pos rfl] at B4
    have b9 := h9 _ xb
    rw [row]
    refine ⟨?_, by rw [B5, B6]; exact b9, fun hB => ?_⟩
    case refine_2 =>
      rcases c2 with ⟨b1, -⟩ | ⟨b1, m, m1, m2, m3, m4, -⟩
      · rw [b1] at hB; cases hB
      · refine ⟨m, ?_, m3, m2⟩
        have m5 := m4 []
        rw [List.append_nil] at m5
        unfold fR
        rw [if_pos hB, ← m5]
    have rw_ : rwF R (dp_I E (dp_n N + 1)) j = rwF (dp_I M 71) (dp_I M 72) (ix.getD j 0) := by
      unfold rwF
      rw [B5, B6]
      refine List.map_congr_left (fun k hk => ?_)
      have := List.mem_range.mp hk
      have k6 := tN_ge (dp_I M 71 (ix.getD j 0 * 7 + 6))
      have k5 := tN_ge (dp_I M 71 (ix.getD j 0 * 7 + 5))
      rw [e10 _ (by omega), e10 _ (by omega), j72]
    have left : R (j * 7 + 3) = fL l j := by
      rw [B3]
      rcases c2 with ⟨b1, b2⟩ | ⟨b1, m, m1, m2, -, m4, b2⟩
      · have : dp_I M 71 (ix.getD j 0 * 7 + 3) = -1 := congrArg Prod.fst b2
        unfold nOf fL
        rw [if_pos this, if_neg (by rw [b1]; decide)]
      · have : dp_I M 71 (ix.getD j 0 * 7 + 3) = nI (ix.getD (j + 1) 0) := congrArg Prod.fst b2
        have := ixb _ m1
        unfold nOf fL
        rw [if_pos b1, ‹dp_I M 71 (ix.getD j 0 * 7 + 3) = _›, if_neg (m1n (by omega)), nI_cl (by omega), g3 _ m1]
    have right : R (j * 7 + 4) = fR l j := by
      rw [B4]
      rcases c2 with ⟨b1, b2⟩ | ⟨b1, m, m1, m2, -, m4, b2⟩
      · have : dp_I M 71 (ix.getD j 0 * 7 + 4) = -1 := congrArg Prod.snd b2
        unfold nOf fR
        rw [if_pos this, if_neg (by rw [b1]; decide)]
      · have : dp_I M 71 (ix.getD j 0 * 7 + 4) = nI (ix.getD m 0) := congrArg Prod.snd b2
        have := ixb _ m2
        have m5 := m4 []
        rw [List.append_nil] at m5
        unfold nOf fR
        rw [if_pos b1, ‹dp_I M 71 (ix.getD j 0 * 7 + 4) = _›, if_neg (m1n (by omega)), nI_cl (by omega), g3 _ m2, ← m5]
    have e : rdF R (dp_I E (dp_n N + 1)) j = ((R (j * 7 + 0), R (j * 7 + 1), R (j * 7 + 2), rwF R (dp_I E (dp_n N + 1)) j), R (j * 7 + 3), R (j * 7 + 4)) := rfl
    rw [e, left, right, rw_, B0, B1, B2, ← c1]
    rfl
  · refine ⟨fun k k1 k2 k3 => ?_, fun i _ => ?_, fun k k1 => ?_, fun k k1 k2 => ?_, by omega⟩
    · obtain ⟨a1, a2, a3, -, -⟩ := O k (by omega)
      obtain ⟨b1, b2, b3⟩ := g2.1.1 k k1 k2 k3
      rw [a1, a2, a3, rI_J, rI_R, rI_I, if_neg (by omega), b1, b2, b3, hN1]
      exact ⟨gIN (by omega), gJN (by omega), gRN (by omega)⟩
    · obtain ⟨a1, a2, -, -, -⟩ := O 114 (by omega)
      obtain ⟨b1, b2⟩ := g2.1.2.1 i (by simp)
      rw [a1, a2, rI_J, rI_I, if_neg (by omega), b1, b2, hN1, gIN (by omega), gJN (by omega)]
      exact ⟨rfl, rfl⟩
    · obtain ⟨-, -, -, a4, -⟩ := O k (by omega)
      rw [a4, rI_len, g2.1.2.2.1 k k1, hN1]
      exact glN (by omega)
    · obtain ⟨a1, a2, a3, a4, a5⟩ := O k (by omega)
      obtain ⟨b1, b2, b3, b4, b5⟩ := g2.1.2.2.2.1 k k1 (by omega)
      rw [a1, a2, a3, a4, a5, rI_J, rI_R, rI_len, rI_tag, rI_I, if_neg (by omega), b1, b2, b3, b4, b5, hN1]
      exact ⟨gIN k2, gJN k2, gRN k2, glN k2, gtN k2⟩
  · have := g2.2.1.2
    rw [e2, rI_z]
    omega
  · obtain ⟨a1, -, -, -, -⟩ := O 68 (by omega)
    rw [a1, j68, i68 i hi]
end RD
