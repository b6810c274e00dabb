-- needs: 71 72 73 74
/-! RATES: node -/
section Rl
variable {xs : Nat → Int32} {xl d : Nat} {M : dp_M}
def Nd_S : List Nat := 245 :: Rt_B
def Nd_T : List Nat := [0, 79, 80, 81, 90, 91, 92, 97]
/-- the class finds a row's rate -/
theorem c_rateOf {v1 : Int32} {R : Nat} (a1 : dp_I M 51 0 = nI R) (hR : R ≤ 300) (hr : ∀ r, r < 301 → RtR M r) : (dp_den true xs xl (d + 3) 309 [.ref 0, .int v1] M = some (.inl (some .null), M) ∧ (wi v1 1 R → ∃ r, v1 = nI r ∧ 1 ≤ r ∧ r ≤ R ∧ dp_I M 172 r = 0)) ∨ (∃ r q l L, v1 = nI r ∧ 1 ≤ r ∧ r ≤ R ∧ dp_den true xs xl (d + 3) 309 [.ref 0, .int v1] M = some (.inl (some (.ref q)), M) ∧ RtO M q l ∧ dp_I M 172 r = nI L ∧ 1 ≤ L ∧ L ≤ 400 ∧ (∀ i, i < L → 32 ≤ (dp_I M 171 (400 * r + i)).toInt ∧ (dp_I M 171 (400 * r + i)).toInt ≤ 126) ∧ rdR (msk (fun i => dp_I M 171 (400 * r + i)) L) L = .inr l) := by
  have st : dp_den true xs xl (d + 3) 309 [.ref 0, .int v1] M = if wi v1 1 R then (if v1 < 0 ∨ 301 ≤ Int32.toNatClampNeg v1 then none else dp_o (dp_R M 59 (Int32.toNatClampNeg v1)) (some (.inl (some .null), M)) (fun q3 => some (.inl (some (.ref q3)), M))) else some (.inl (some .null), M) := by
    rw [D_X11_rateOf_0_den, D_X11_rateOf_0_eq, tc_meas (d := d) a1 hR, rb_bi, ibz]
  by_cases z : wi v1 1 R
  · obtain ⟨r, r1, r2, rfl⟩ := wi_of (a := 1) z (by omega)
    rw [if_pos z, nI_cl (by omega), if_neg (by rw [nI_o (show r < 301 by omega) (by omega)]; exact id)] at st
    rcases hr r (by omega) with ⟨e1, e2⟩ | ⟨q, l, L, e1, e2, e3⟩
    · rw [e1] at st
      exact Or.inl ⟨st, fun _ => ⟨r, rfl, r1, r2, e2⟩⟩
    · rw [e1] at st
      exact Or.inr ⟨r, q, l, L, rfl, r1, r2, st, e2, e3⟩
  · rw [if_neg z] at st
    exact Or.inl ⟨st, fun w => absurd w z⟩
theorem rb_bo {M : dp_M} {A : dp_M → Option dp_Res} {B : Nat → dp_M → Option dp_Res} : dp_bo (some (.inl (some .null), M)) A B = A M := rfl
theorem rb_bo' {M : dp_M} {q : Nat} {A : dp_M → Option dp_Res} {B : Nat → dp_M → Option dp_Res} : dp_bo (some (.inl (some (.ref q)), M)) A B = B q M := rfl
theorem Nd_off {N : dp_M} (h : RelR M) (ht : RelT M) (o : Off Nd_S Nd_T M N) : RelR N ∧ RelT N := ⟨RelR_off h o (by decide) (by decide), RelT_off ht o (by decide) (by decide)⟩
theorem s_node (h : RelR M) (ht : RelT M) (v1 v2 v3 : Int32) : ∃ k b M1 M2, dp_den true xs xl (d + 11) 623 [.ref 0, .int v1, .int v2, .int v3, .ref 245] M = iR k M1 ∧ dp_den true xs xl (d + 11) 490 [.ref 114, .int v1, .int v2, .int v3] M1 = iR b M2 ∧
    dp_I M2 114 0 = k ∧ (k = 0 → dp_J M2 245 0 = b.toInt64) ∧ RelR M2 ∧ RelT M2 ∧ Off Nd_S Nd_T M M2 ∧ Cst 1 6 M M2 := by
  have h0 := h
  have ht0 := ht
  obtain ⟨hn, -, hr, -⟩ := h
  obtain ⟨R, K, hR, hK, a1, a2, -⟩ := ht
  have mm : ∀ (N : dp_M) (e : Nat), dp_I N 114 55 = nI R → dp_den true xs xl (e + 1) 451 [.ref 114, .int v1] N = iR (bI (wi v1 1 R)) N := fun N e hN => tm_meas hN hR
  have oX : Off Nd_S Nd_T M (dp_new M 0 0 6) := (Off.rr _ _ M).N hn 0 0 6
  have x2 : dp_I (dp_new M 0 0 6) 114 55 = nI R := by rw [gIN (by omega)]; exact a2
  have e62 : ∀ N, D_X12_node_62 xs xl (d + 10) v1 v2 v3 0 N = iR 0 (dp_setI N 114 0 1) := fun N => by rw [D_X12_node_62_eq, if_pos rfl, q_ref, rb_bi]
  have out : dp_den true xs xl (d + 10) 310 [.ref 0, .int v1, .int v2, .int v3] M = some (.inr 2, dp_new M 0 0 6) → ∀ N, Off Nd_S Nd_T (dp_new M 0 0 6) N → Cst 0 0 (dp_new M 0 0 6) N → dp_den true xs xl (d + 11) 490 [.ref 114, .int v1, .int v2, .int v3] (dp_new M 0 0 6) = iR 0 (dp_setI N 114 0 1) → ∃ k b M1 M2, dp_den true xs xl (d + 11) 623 [.ref 0, .int v1, .int v2, .int v3, .ref 245] M = iR k M1 ∧ dp_den true xs xl (d + 11) 490 [.ref 114, .int v1, .int v2, .int v3] M1 = iR b M2 ∧
    dp_I M2 114 0 = k ∧ (k = 0 → dp_J M2 245 0 = b.toInt64) ∧ RelR M2 ∧ RelT M2 ∧ Off Nd_S Nd_T M M2 ∧ Cst 1 6 M M2 := fun c N o cs e => by
    have oo : Off Nd_S Nd_T M (dp_setI N 114 0 1) := (oX.tr o).F 0 (by decide) _
    obtain ⟨q1, q2⟩ := Nd_off h0 ht0 oo
    refine ⟨1, 0, _, _, wL_node_x2 c, e, by rw [gII, if_pos rfl, uI_s], fun e => (by cases e), q1, q2, oo, ?_⟩
    have n1 := cs.1; have n2 := cs.2
    have n3 : dp_n (dp_new M 0 0 6) = dp_n M + 1 := rfl
    have n4 : dp_z (dp_new M 0 0 6) = dp_z M + 6 := rfl
    exact ⟨show dp_n N ≤ dp_n M + 1 by omega, show dp_z N ≤ dp_z M + 6 by omega⟩
  rcases c_rateOf (xs := xs) (xl := xl) (d := d + 6) (v1 := v1) a1 hR hr with ⟨c1, c2⟩ | ⟨r, q, l, L, rfl, r1, r2, c1, c2, c3, c4, c5, c6, c7⟩
  · refine out ?_ (dp_new M 0 0 6) (Off.rr _ _ _) (Cst.r _) ?_
    · rw [D_X11_node_0_den, D_X11_node_0_eq, c1, rb_bo, q_nk hn]
    · rw [D_X12_node_0_den, D_X12_node_0_eq, mm _ _ x2, rb_bi, ibz]
      by_cases z : wi v1 1 R
      · obtain ⟨r, rfl, r1, r2, e172⟩ := c2 z
        rw [if_pos z, mm _ _ x2, rb_bi, ibz, if_pos z, D_X12_node_25_eq, nI_cl (by omega), if_neg (by rw [nI_o (show r < 301 by omega) (by omega)]; exact id), gIN (by omega), e172, if_pos (by decide), dpw, if_pos rfl, e62]
      · rw [if_neg z, dpw, if_pos rfl, e62]
  have z : wi (nI r) 1 R := wi_mk (by omega) (by omega) (by omega)
  have q1 := c2.1
  have q3 := c2.2.2.1
  have q4 := c2.2.2.2.1
  have l1 := c2.2.2.2.2.2.1
  have l60 := c2.2.2.2.2.2.2.1
  have cl : dp_den true xs xl (d + 10) 310 [.ref 0, .int (nI r), .int v2, .int v3] M = if qin v2 l.length then (if qin v3 6 then dp_bi (dp_den true xs xl (d + 9) 135 [.ref q, .int v2, .int v3] M) (fun r9 M8 => some (.inl (some (.int r9)), M8)) else some (.inr 2, dp_new M 0 0 6)) else some (.inr 2, dp_new M 0 0 6) := by
    rw [D_X11_node_0_den, D_X11_node_0_eq, c1, rb_bo', bg_t q1, if_pos q3, q4, q_win, rb_bi, ibz]
    by_cases y : qin v2 l.length
    · rw [if_pos ((w_P (by omega)).mpr y), if_pos y, q_win, rb_bi, ibz]
      by_cases y3 : qin v3 6
      · rw [if_pos (show (0 : Int64) ≤ v3.toInt64 ∧ v3.toInt64 ≤ (5 : Int64) by rw [w_5]; exact y3), if_pos y3, bg_t q1, if_pos q3]
      · rw [if_neg (show ¬ ((0 : Int64) ≤ v3.toInt64 ∧ v3.toInt64 ≤ (5 : Int64)) by rw [w_5]; exact y3), if_neg y3, q_nk hn]
    · rw [if_neg (fun w => y ((w_P (by omega)).mp w)), if_neg y, q_nk hn]
  have ml : ∀ N, dp_I N 114 55 = nI R → dp_I N 172 r = nI L → dp_den true xs xl (d + 11) 490 [.ref 114, .int (nI r), .int v2, .int v3] N = if qin v3 6 then (if v2 < 0 then iR 0 (dp_setI N 114 0 1) else dp_bv (dp_den true xs xl (d + 10) 489 [.ref 114, .int (nI r)] N) (fun N2 => D_X12_node_62 xs xl (d + 10) (nI r) v2 v3 1 N2)) else iR 0 (dp_setI N 114 0 1) := fun N e1 e2 => by
    rw [D_X12_node_0_den, D_X12_node_0_eq, mm _ _ e1, rb_bi, ibz, if_pos z, mm _ _ e1, rb_bi, ibz, if_pos z, D_X12_node_25_eq, nI_cl (by omega), if_neg (by rw [nI_o (show r < 301 by omega) (by omega)]; exact id), e2, if_neg (show ¬ nI L ≤ (0 : Int32) from nI_nge (i := 0) (n := L) (by omega) (by omega)), q_min, rb_bi, ibz]
    by_cases y : qin v3 6
    · rw [if_pos (show (0 : Int64) ≤ v3.toInt64 ∧ v3.toInt64 ≤ (5 : Int64) by rw [w_5]; exact y), if_pos y]
      by_cases w : v2 < 0
      · rw [if_pos w, if_pos w, dpw, if_pos rfl, e62]
      · rw [if_neg w, if_neg w, dpw, if_neg (by decide)]
    · rw [if_neg (show ¬ ((0 : Int64) ≤ v3.toInt64 ∧ v3.toInt64 ≤ (5 : Int64)) by rw [w_5]; exact y), if_neg y, dpw, if_pos rfl, e62]
  by_cases y3 : qin v3 6
  case neg =>
    refine out ?_ (dp_new M 0 0 6) (Off.rr _ _ _) (Cst.r _) ?_
    · rw [cl, if_neg y3]; split <;> rfl
    · rw [ml _ x2 (by rw [gIN (by omega)]; exact c3), if_neg y3]
  by_cases y0 : v2 < 0
  · refine out ?_ (dp_new M 0 0 6) (Off.rr _ _ _) (Cst.r _) ?_
    · rw [cl, if_neg (fun w => by
        have := (qin_iff.mp w).1
        rw [Int32.lt_iff_toInt_lt] at y0
        have z0 : (0 : Int32).toInt = 0 := rfl
        omega)]
    · rw [ml _ x2 (by rw [gIN (by omega)]; exact c3), if_pos y3, if_pos y0]
  by_cases y2 : qin v2 l.length
  case neg =>
    have oX' : ∀ k, k < 246 → dp_I (dp_new M 0 0 6) k = dp_I M k := fun k hk => gIN (by omega)
    obtain ⟨N, g1, g2, g3, g4, g5⟩ := m_rr (xs := xs) (xl := xl) (d := d) (M := dp_new M 0 0 6) (r := r) (L := L) (l := l) (by omega) (by rw [oX' 172 (by decide)]; exact c3) c4 c5 (by rw [oX' 171 (by decide)]; exact c6) (by rw [oX' 171 (by decide)]; exact c7)
    refine out ?_ N (g2.mono (by decide) (by decide)) g3 ?_
    · rw [cl, if_neg y2]
    · have ge : ¬ v2 < nI l.length := fun w => y2 (qin_iff.mpr (by
        rw [Int32.lt_iff_toInt_lt] at w y0
        have z0 : (0 : Int32).toInt = 0 := rfl
        rw [nI_toInt (by omega)] at w
        omega))
      rw [ml _ x2 (by rw [oX' 172 (by decide)]; exact c3), if_pos y3, if_neg y0, g1, rb_bv, D_X12_node_62_eq, if_neg (by decide), g5, if_neg ge, q_ref, rb_bi]
  obtain ⟨j, hj, rfl⟩ : ∃ j, j < l.length ∧ v2 = nI j := by
    have z' := qin_iff.mp y2
    refine ⟨v2.toInt.toNat, by omega, Int32.toInt_inj.mp ?_⟩
    rw [nI_toInt (by omega)]; omega
  obtain ⟨k, hk, rfl⟩ : ∃ k, k < 6 ∧ v3 = nI k := by
    have z' := qin_iff.mp y3
    refine ⟨v3.toInt.toNat, by omega, Int32.toInt_inj.mp ?_⟩
    rw [nI_toInt (by omega)]; omega
  obtain ⟨M1, hM1⟩ : ∃ M1, M1 = dp_setJ M 245 0 (fc l j k).toInt64 := ⟨_, rfl⟩
  have oX' : ∀ k, dp_I M1 k = dp_I M k := fun k => by rw [hM1]; rfl
  obtain ⟨N, g1, g2, g3, g4, g5⟩ := m_rr (xs := xs) (xl := xl) (d := d) (M := M1) (r := r) (L := L) (l := l) (by omega) (by rw [oX' 172]; exact c3) c4 c5 (by rw [oX' 171]; exact c6) (by rw [oX' 171]; exact c7)
  have oo : Off Nd_S Nd_T M (dp_setI N 114 0 0) := by
    refine Off.F 0 (by decide) _ (Off.tr ?_ (g2.mono (by decide) (by decide)))
    rw [hM1]; exact (Off.rr _ _ M).J 245 (by decide) _ _
  obtain ⟨w1, w2⟩ := Nd_off h0 ht0 oo
  refine ⟨0, fc l j k, M1, dp_setI N 114 0 0, ?_, ?_, by rw [gII, if_pos rfl, uI_s], fun _ => ?_, w1, w2, oo, ?_⟩
  · rw [hM1]
    refine wL_node_ok ?_
    rw [cl, if_pos y2, if_pos y3, c_fact c2 hj hk rfl, rb_bi]
  · obtain ⟨b1, b2⟩ := g4.2.2 j hj
    have a0 : dp_I N 174 (60 + j) = (l.getD j v0).1 := congrArg (fun x => x.1.1) b1
    have a1' : dp_I N 175 (60 + j) = (l.getD j v0).2.1 := congrArg (fun x => x.1.2.1) b1
    have a2' : dp_I N 176 (60 + j) = (l.getD j v0).2.2.1 := congrArg (fun x => x.1.2.2.1) b1
    have a5 : rwN N (60 + j) = (l.getD j v0).2.2.2 := congrArg (fun x => x.1.2.2.2) b1
    have a3 : dp_I N 177 (60 + j) = fL l j := congrArg (fun x => x.2.1) b1
    have a4 : dp_I N 178 (60 + j) = fR l j := congrArg (fun x => x.2.2) b1
    have a5' : dp_I N 179 (60 + j) = nI (l.getD j v0).2.2.2.length := by
      have n5 := tN_lt (x := dp_I N 179 (60 + j)) (by omega)
      have e : (rwN N (60 + j)).length = (dp_I N 179 (60 + j)).toNatClampNeg := by unfold rwN; rw [List.length_map, List.length_range]
      have : (nI (tN (dp_I N 179 (60 + j)))).toNatClampNeg = tN (dp_I N 179 (60 + j)) := nI_cl (by omega)
      rw [← n5] at this
      rw [← a5, e, this]
      exact n5
    have ix : (60 : Int32) + nI j = nI (60 + j) := by rw [show (60 : Int32) = nI 60 from rfl, nI_add]
    have K : ∀ k', k' ≠ 114 → dp_I (dp_setI N 114 0 0) k' = dp_I N k' := fun k' h => by rw [gII, if_neg h]
    have nk : ∀ c : Nat, c < 6 → (nI k = nI c) = (k = c) := fun c hc => propext (by rw [nI_eq (by omega) (by omega)])
    rw [ml M1 (by rw [oX']; exact a2) (by rw [oX']; exact c3), if_pos y3, if_neg y0, g1, rb_bv, D_X12_node_62_eq, if_neg (by decide), g5, if_pos (show nI j < nI l.length from Int32.not_le.mp (nI_nge hj (by omega))), dpw, dpw, ix, nI_cl (by omega), K 174 (by decide), K 175 (by decide), K 176 (by decide), K 177 (by decide), K 178 (by decide), K 179 (by decide), a0, a1', a2', a3, a4, a5']
    have no : ¬ (nI (60 + j) < 0 ∨ 120 ≤ 60 + j) := by rw [nI_o (show 60 + j < 120 by omega) (by omega)]; exact id
    simp only [if_neg no]
    unfold fc
    have n0 := nk 0 (by omega); have n1 := nk 1 (by omega); have n2 := nk 2 (by omega); have n3 := nk 3 (by omega); have n4 := nk 4 (by omega)
    rw [show (0 : Int32) = nI 0 from rfl, show (1 : Int32) = nI 1 from rfl, show (2 : Int32) = nI 2 from rfl, show (3 : Int32) = nI 3 from rfl, show (4 : Int32) = nI 4 from rfl]
    simp only [n0, n1, n2, n3, n4]
    by_cases k0 : k = 0
    · simp only [k0, if_true]
    by_cases k1 : k = 1
    · simp only [k1, if_true]; rfl
    by_cases k2 : k = 2
    · simp only [k2, if_true]; rfl
    by_cases k3 : k = 3
    · simp only [k3, if_true]; rfl
    by_cases k4 : k = 4
    · simp only [k4, if_true]; rfl
    simp only [k0, k1, k2, k3, k4, if_false]
  · rw [gJI, (g2.1 245 (by decide) (by decide) (by decide)).2.1, hM1, gJJ, if_pos rfl, uI_s]
  · have n1 := g3.1; have n2 := g3.2
    have n3 : dp_n M1 = dp_n M := by rw [hM1]; rfl
    have n4 : dp_z M1 = dp_z M := by rw [hM1]; rfl
    exact ⟨show dp_n N ≤ dp_n M + 1 by omega, show dp_z N ≤ dp_z M + 6 by omega⟩
end Rl
