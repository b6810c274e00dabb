/-! SECURITIES: rows that stay; guarantee -/
theorem SRw.same {M M' : dp_M} {R R' g : Nat} (h : SRw M R g) (t : ∀ k, k < 16 → dp_J M' 95 (g * 16 + k) = dp_J M 95 (g * 16 + k)) (e1 : dp_I M' 202 g = dp_I M 202 g) (e2 : dp_I M' 204 g = dp_I M 204 g) (e3 : dp_I M' 205 g = dp_I M 205 g) (e4 : dp_J M' 203 g = dp_J M 203 g) (e5 : dp_I M' 206 g = dp_I M 206 g) (e6 : dp_I M' 207 g = dp_I M 207 g) (e7 : dp_I M' 212 g = dp_I M 212 g) (e8 : dp_I M' 208 g = dp_I M 208 g) (e9 : dp_I M' 209 g = dp_I M 209 g) (e10 : dp_J M' 210 g = dp_J M 210 g) (e11 : dp_J M' 211 g = dp_J M 211 g) (nn : nO M' g R' = nO M g R) (uu : uO M' g R' = uO M g R) : SRw M' R' g := by
  unfold SRw at h ⊢
  simp only [t 0 (by omega), t 1 (by omega), t 2 (by omega), t 5 (by omega), t 6 (by omega), t 8 (by omega), t 9 (by omega), t 10 (by omega), t 11 (by omega), t 12 (by omega), t 13 (by omega), t 14 (by omega), t 15 (by omega), e1, e2, e3, e4, e5, e6, e7, e8, e9, e10, e11, nn, uu]
  exact h
theorem SRv.same {M M' : dp_M} {G G' r : Nat} (h : SRv M G r) (hG : G ≤ G') (e1 : dp_I M' 216 r = dp_I M 216 r) (e2 : ∀ k, k < 4 → dp_I M' 217 (r * 4 + k) = dp_I M 217 (r * 4 + k)) (e3 : dp_I M' 214 r = dp_I M 214 r) (e4 : dp_I M' 215 r = dp_I M 215 r) (e5 : ∀ k, k < 4 → dp_J M' 218 (r * 4 + k) = dp_J M 218 (r * 4 + k)) (e6 : ∀ k, k < 12 → dp_J M' 96 (r * 12 + k) = dp_J M 96 (r * 12 + k)) : SRv M' G' r := by
  obtain ⟨n, c1, c2, c3, c4, c5, c6, c7⟩ := h
  refine ⟨n, c1, by rw [e1, c2], by rw [e6 0 (by omega), e3, c3], ?_, by rw [e6 2 (by omega), e4, c5], by rw [e6 3 (by omega), c6], fun k hk => ?_⟩
  · rw [e6 1 (by omega), c4]
    exact sl_c (fun i hi => by rw [e5 i (by omega)])
  · obtain ⟨d1, d2, d3, d4, d5⟩ := c7 k hk
    rw [e6 (4 + k) (by omega), e6 (8 + k) (by omega), e2 k (by omega), e5 k (by omega)]
    exact ⟨d1, d2, ⟨d3.1, by have := d3.2; omega⟩, d4, d5⟩
theorem SRv.n4 {M : dp_M} {G r : Nat} (h : SRv M G r) : (dp_I M 216 r).toNatClampNeg ≤ 4 := by
  obtain ⟨n, c1, c2, -⟩ := h
  rw [c2, nI_cl (by omega)]; exact c1
theorem nO_c {M M' : dp_M} {g R : Nat} (h1 : dp_I M' 204 g = dp_I M 204 g) (h2 : dp_I M' 205 g = dp_I M 205 g) (hn : ∀ r, 1 ≤ r → r ≤ R → (dp_I M 216 r).toNatClampNeg ≤ 4) (e1 : ∀ r, 1 ≤ r → r ≤ R → dp_I M' 216 r = dp_I M 216 r) (e2 : ∀ r k, 1 ≤ r → r ≤ R → k < 4 → dp_I M' 217 (r * 4 + k) = dp_I M 217 (r * 4 + k)) (e3 : ∀ r k, 1 ≤ r → r ≤ R → k < 4 → dp_J M' 218 (r * 4 + k) = dp_J M 218 (r * 4 + k)) : nO M' g R = nO M g R := by
  unfold nO
  refine sl_c (fun i hi => ?_)
  have := hn (i + 1) (by omega) (by omega)
  unfold ndR
  rw [e1 (i + 1) (by omega) (by omega)]
  refine sl_c (fun k hk => ?_)
  rw [e2 (i + 1) k (by omega) (by omega) (by omega), e3 (i + 1) k (by omega) (by omega) (by omega)]
  unfold ndF; rw [h1, h2]
theorem uO_p {M M' : dp_M} {g : Nat} : ∀ R, (∀ r, 1 ≤ r → r ≤ R → (dp_I M 216 r).toNatClampNeg ≤ 4) → (∀ r, 1 ≤ r → r ≤ R → dp_I M' 216 r = dp_I M 216 r) → (∀ r k, 1 ≤ r → r ≤ R → k < 4 → dp_I M' 217 (r * 4 + k) = dp_I M 217 (r * 4 + k)) → uO M' g R = uO M g R
  | 0, _, _, _ => rfl
  | R + 1, hn, e1, e2 => by
    have := hn (R + 1) (by omega) (by omega)
    rw [uO, uO, uO_p R (fun r h1 h2 => hn r h1 (by omega)) (fun r h1 h2 => e1 r h1 (by omega)) (fun r k h1 h2 => e2 r k h1 (by omega))]
    unfold usR
    rw [e1 (R + 1) (by omega) (by omega)]
    rw [ct_c (fun k hk => by rw [e2 (R + 1) k (by omega) (by omega) (by omega)])]
theorem SRv.ne {M : dp_M} {G r g k : Nat} (h : SRv M G r) (hg : G < g) (hb : g < 2147483648) (hk : k < (dp_I M 216 r).toNatClampNeg) : ¬ dp_I M 217 (r * 4 + k) = nI g := by
  obtain ⟨n, c1, c2, c3, c4, c5, c6, c7⟩ := h
  rw [c2, nI_cl (by omega)] at hk
  obtain ⟨d1, d2, d3, d4, d5⟩ := c7 k hk
  intro e
  rw [e] at d3
  have := d3.2
  rw [nI_toInt hb] at this; omega
theorem nO_0 {M : dp_M} {G g R : Nat} (a14 : ∀ r, 1 ≤ r → r ≤ R → SRv M G r) (hg : G < g) (hb : g < 2147483648) : nO M g R = 0 := by
  unfold nO ndR
  refine sl_zz (fun i hi => sl_zz (fun k hk => ?_))
  rw [if_neg ((a14 (i + 1) (by omega) (by omega)).ne hg hb hk)]
theorem uO_0 {M : dp_M} {G g : Nat} (hg : G < g) (hb : g < 2147483648) : ∀ R, (∀ r, 1 ≤ r → r ≤ R → SRv M G r) → uO M g R = 0
  | 0, _ => rfl
  | R + 1, a14 => by
    rw [uO, uO_0 hg hb R (fun r h1 h2 => a14 r h1 (by omega))]
    unfold usR
    rw [ct_0 (fun k hk => decide_eq_false ((a14 (R + 1) (by omega) (by omega)).ne hg hb hk))]
theorem SOr.add {M M' : dp_M} {G h : Nat} (s : SOr M G) (hG : G < 40) (hh : h < 8) (e1 : dp_I M' 213 = uI (dp_I M 213) G (nI (G + 1))) (e2 : dp_I M' 202 = uI (dp_I M 202) (G + 1) (nI h)) (e3 : dp_I M' 91 = uI (dp_I M 91) h (nI (ct (hp M (nI h)) G + 1))) (e4 : dp_I M' 94 = uI (dp_I M 94) (h * 40 + ct (hp M (nI h)) G) (nI (G + 1))) : SOr M' (G + 1) := by
  obtain ⟨s1, s2, s3⟩ := s
  have old : ∀ k, k < G → dp_I M' 213 k = dp_I M 213 k := fun k hk => by rw [e1, uI_n (by omega)]
  have new : dp_I M' 213 G = nI (G + 1) := by rw [e1, uI_s]
  have ex : ∀ k, k < G → ∃ g, 1 ≤ g ∧ g ≤ G ∧ dp_I M 213 k = nI g := fun k hk => wi_of (a := 1) (b := G) (s1 k hk) (by omega)
  have hpo : ∀ x k, k < G → hp M' x k = hp M x k := fun x k hk => by
    obtain ⟨g, g1, g2, eg⟩ := ex k hk
    unfold hp
    rw [old k hk, eg, nI_cl (by omega), e2, uI_n (by omega)]
  have hpn : ∀ x, hp M' x G = decide (nI h = x) := fun x => by
    unfold hp
    rw [new, nI_cl (by omega), e2, uI_s]
  have cto : ∀ x k, k ≤ G → ct (hp M' x) k = ct (hp M x) k := fun x k hk => ct_c (fun i hi => hpo x i (by omega))
  refine ⟨fun k hk => ?_, fun k l hk hl e => ?_, fun x hx => ⟨?_, fun k hk ho => ?_⟩⟩
  · by_cases z : k = G
    · subst z; rw [new]; exact wi_mk (by omega) (by omega) (by omega)
    · rw [old k (by omega)]
      have := s1 k (by omega)
      exact ⟨this.1, by have := this.2; omega⟩
  · by_cases z : k = G
    · by_cases y : l = G
      · omega
      · exfalso
        obtain ⟨g, g1, g2, eg⟩ := ex l (by omega)
        subst z
        rw [new, old l (by omega), eg, nI_eq (by omega) (by omega)] at e
        omega
    · by_cases y : l = G
      · exfalso
        obtain ⟨g, g1, g2, eg⟩ := ex k (by omega)
        subst y
        rw [new, old k (by omega), eg, nI_eq (by omega) (by omega)] at e
        omega
      · rw [old k (by omega), old l (by omega)] at e
        exact s2 k l (by omega) (by omega) e
  · show dp_I M' 91 x = nI (ct (hp M' (nI x)) (G + 1))
    rw [ct, cto _ G (Nat.le_refl _), hpn, e3]
    by_cases z : x = h
    · subst z
      rw [uI_s, if_pos (by simp)]
    · rw [uI_n z, if_neg, Nat.add_zero]
      · exact (s3 x hx).1
      · rw [decide_eq_true_eq, nI_eq (by omega) (by omega)]; omega
  · show dp_I M' 94 (x * 40 + ct (hp M' (nI x)) k) = dp_I M' 213 k
    have hk' : hp M' (nI x) k = true := decide_eq_true ho
    rw [cto _ k (by omega), e4]
    have cG := ct_le (hp M (nI x)) G
    have cGh := ct_le (hp M (nI h)) G
    have ck : ct (hp M (nI x)) k ≤ ct (hp M (nI x)) G := ct_nm2 G (by omega)
    by_cases z : k = G
    · subst z
      rw [hpn, decide_eq_true_eq, nI_eq (by omega) (by omega)] at hk'
      subst hk'
      rw [uI_s, new]
    · rw [hpo _ k (by omega)] at hk'
      have c1 : ct (hp M (nI x)) (k + 1) ≤ ct (hp M (nI x)) G := ct_nm2 G (by omega)
      rw [ct_s2 hk'] at c1
      rw [uI_n, old k (by omega)]
      · exact (s3 x hx).2 k (by omega) (by unfold hp at hk'; exact decide_eq_true_eq.mp hk')
      · by_cases y : x = h
        · subst y; omega
        · omega
/-- the class's memory, the model's -/
def gC (M : dp_M) (g h c : Nat) (v2 : Int64) (v4 v5 v6 v7 : Int32) : dp_M :=
  dp_setI (dp_setI (dp_setJ (dp_setJ (dp_setJ (dp_setJ (dp_setJ (dp_setJ (dp_setJ (dp_setI M 90 0 (nI g)) 95 (g * 16 + 0) (nI h).toInt64) 95 (g * 16 + 1) v2) 95 (g * 16 + 9) v4.toInt64) 95 (g * 16 + 10) v5.toInt64) 95 (g * 16 + 11) v6.toInt64) 95 (g * 16 + 12) v7.toInt64) 95 (g * 16 + 13) (dp_I M 90 3).toInt64) 94 (h * 40 + c) (nI g)) 91 h (nI (c + 1))
def gM (N : dp_M) (g h : Nat) (v2 : Int64) (v4 v5 v6 v7 : Int32) : dp_M :=
  dp_setI (dp_setI (dp_setI (dp_setI (dp_setI (dp_setJ (dp_setI (dp_setI (dp_setI (dp_setI N 114 0 0) 213 (g - 1) (nI g)) 114 119 (nI g)) 202 g (nI h)) 203 g v2) 204 g v4) 205 g v5) 206 g v6) 207 g v7) 212 g (dp_I N 114 120)
section SL
variable {xs : Nat → Int32} {xl d : Nat} {M : dp_M}
theorem sc_gadd {G h c : Nat} {v2 : Int64} {v4 v5 v6 v7 : Int32} (hG : G < 40) (hh : h < 8) (hc : c ≤ G) (a1 : dp_I M 90 0 = nI G) (a3 : dp_I M 91 h = nI c) (hv : v6 = 0 ∨ v6 = 1) : dp_den true xs xl (d + 2) 185 [.ref 90, .int (nI h), .long v2, .int v4, .int v5, .int v6, .int v7] M = iR (nI (G + 1)) (gC M (G + 1) h c v2 v4 v5 v6 v7) := by
  have e40 : nI h * (40 : Int32) + nI c = nI (h * 40 + c) := by rw [show (40 : Int32) = nI 40 from rfl, pk_mul, nI_add]
  have tail : ∀ x : Int64, x = v6.toInt64 → D_X8_addGuarantee_70 xs xl (d + 1) (nI h) v2 v4 v5 v6 v7 (nI (G + 1)) x 11 (nI (G + 1)) (dp_setJ (dp_setJ (dp_setJ (dp_setJ (dp_setI M 90 0 (nI (G + 1))) 95 ((G + 1) * 16 + 0) (nI h).toInt64) 95 ((G + 1) * 16 + 1) v2) 95 ((G + 1) * 16 + 9) v4.toInt64) 95 ((G + 1) * 16 + 10) v5.toInt64) = iR (nI (G + 1)) (gC M (G + 1) h c v2 v4 v5 v6 v7) := fun x hx => by
    subst hx
    rw [D_X8_addGuarantee_70_eq, sc_set (v2 := 11) (k := 11) rfl (by omega) (by omega), rb_bv, sc_set (v2 := 12) (k := 12) rfl (by omega) (by omega), rb_bv, sc_set (v2 := 13) (k := 13) rfl (by omega) (by omega), rb_bv]
    simp only [nI_cl (show h < 2147483648 by omega), nI_o (show h < 8 by omega) (by omega), if_false, gII, gIJ, Nat.reduceEqDiff, a3, e40, nI_cl (show h * 40 + c < 2147483648 by omega), nI_o (show h * 40 + c < 320 by omega) (by omega), dp_w, nI_1, if_true, uI_n (show (3 : Nat) ≠ 0 by decide)]
    rfl
  rw [D_X8_addGuarantee_0_den, D_X8_addGuarantee_0_eq]
  simp only [dp_w, a1, nI_1, gII, if_true, uI_s]
  rw [sc_set (v2 := 0) (k := 0) rfl (by omega) (by omega), rb_bv, sc_set (v2 := 1) (k := 1) rfl (by omega) (by omega), rb_bv, sc_set (v2 := 9) (k := 9) rfl (by omega) (by omega), rb_bv, sc_set (v2 := 10) (k := 10) rfl (by omega) (by omega), rb_bv]
  rcases hv with rfl | rfl
  · rw [if_pos rfl]; exact tail 0 rfl
  · rw [if_neg (by decide)]; exact tail 1 rfl
theorem gC_I (M : dp_M) (g h c : Nat) (v2 : Int64) (v4 v5 v6 v7 : Int32) (k : Nat) (h1 : k ≠ 90) (h2 : k ≠ 91) (h3 : k ≠ 94) : dp_I (gC M g h c v2 v4 v5 v6 v7) k = dp_I M k := by
  unfold gC
  simp only [gII, gIJ, if_neg h1, if_neg h2, if_neg h3]
theorem gC_J (M : dp_M) (g h c : Nat) (v2 : Int64) (v4 v5 v6 v7 : Int32) (k : Nat) (h1 : k ≠ 95) : dp_J (gC M g h c v2 v4 v5 v6 v7) k = dp_J M k := by
  unfold gC
  simp only [gJI, gJJ, if_neg h1]
theorem s_guarantee (h : RelS M) (hn : 246 ≤ dp_n M) (v1 : Int32) (v2 : Int64) (v4 v5 v6 v7 : Int32) (hv : v6 = 0 ∨ v6 = 1) : ∃ k b M1 M2, dp_den true xs xl (d + 5) 633 [.ref 0, .int v1, .long v2, .int v4, .int v5, .int v6, .int v7, .ref 245] M = iR k M1 ∧ dp_den true xs xl (d + 5) 517 [.ref 114, .int v1, .long v2, .int v4, .int v5, .int v6, .int v7] M1 = iR b M2 ∧
    dp_I M2 114 0 = k ∧ (k = 0 → dp_J M2 245 0 = b.toInt64) ∧ RelS M2 ∧ Off (245 :: RelS_W) (0 :: RelS_V) M M2 ∧ Cst 1 6 M M2 := by
  have h0 := h
  obtain ⟨G, R, hG, hR, a1, a2, a3, a4, a5, a6, a7, a8, a9, a10, a11, a12, a13, a14, a15⟩ := h
  have hv1 : v6 &&& 1 = v6 := by rcases hv with rfl | rfl <;> rfl
  have hh : ∀ N : dp_M, dp_den true xs xl (d + 3) 321 [.int v1] N = iR (bI (qin v1 8)) N := fun N => by
    rw [D_X11_isHolder_0_den, D_X11_isHolder_0_eq]; exact q_cr (by decide)
  have hm : ∀ N : dp_M, dp_den true xs xl (d + 4) 516 [.int v1] N = iR (bI (qin v1 8)) N := fun N => by
    rw [D_X12_isHolder_0_den, D_X12_isHolder_0_eq]
    exact q_mr (v := v1) (c := 8) (n := 8) rfl (by omega)
  have c0 : (0 : Int64).toInt = 0 := by decide
  have c1 : (1 : Int64).toInt = 1 := by decide
  have c100 : (100 : Int64).toInt = 100 := by decide
  have cw : ∀ v : Int32, ((0 : Int64) ≤ v.toInt64 ∧ v.toInt64 ≤ (100 : Int64)) = wi v 0 100 := fun v => wi_64 0 100 (by decide) (by decide)
  have cw1 : ∀ v : Int32, ((1 : Int64) ≤ v.toInt64 ∧ v.toInt64 ≤ (100 : Int64)) = wi v 1 100 := fun v => wi_64 1 100 (by decide) (by decide)
  have cu : ((0 : Int64) ≤ v4.toInt64 ∧ v4.toInt64 ≤ v5.toInt64) = (0 ≤ v4.toInt ∧ v4.toInt ≤ v5.toInt) := by
    rw [Int64.le_iff_toInt_le, Int64.le_iff_toInt_le, c0, Int32.toInt_toInt64, Int32.toInt_toInt64]
  by_cases g : qin v1 8 ∧ (1 ≤ v2 ∧ v2 ≤ 1000000000) ∧ wi v5 1 100 ∧ (0 ≤ v4.toInt ∧ v4.toInt ≤ v5.toInt) ∧ qin v7 1001
  case neg =>
    refine ⟨1, 0, dp_new M 0 0 6, _, wL_guarantee_x0 ?_, ?_, rfl, (fun e => by cases e), h0.refused hn 1⟩
    · rw [D_X11_guarantee_0_den, D_X11_guarantee_0_eq]
      simp only [hh, q_win, rb_bi, ibz, q_nk hn, cw1, cu, w_1000]
      by_cases z1 : qin v1 8
      case neg => rw [if_neg z1]
      rw [if_pos z1]
      by_cases z2 : (1 : Int64) ≤ v2 ∧ v2 ≤ 1000000000
      case neg => rw [if_neg z2]
      rw [if_pos z2]
      by_cases z3 : wi v5 1 100
      case neg => rw [if_neg z3]
      rw [if_pos z3]
      by_cases z4 : 0 ≤ v4.toInt ∧ v4.toInt ≤ v5.toInt
      case neg => rw [if_neg z4]
      rw [if_pos z4, if_neg (fun q => g ⟨z1, z2, z3, z4, q⟩)]
    · rw [D_X12_guarantee_0_den, D_X12_guarantee_0_eq]
      simp only [hm, q_min, q_ref, rb_bi, ibz, cw, cw1, w_1000, Int32.lt_iff_toInt_lt]
      by_cases z1 : qin v1 8
      case neg => rw [if_neg z1]
      rw [if_pos z1]
      by_cases z2 : (1 : Int64) ≤ v2 ∧ v2 ≤ 1000000000
      case neg => rw [if_neg z2]
      rw [if_pos z2]
      by_cases z5 : wi v4 0 100
      case neg => rw [if_neg z5]
      rw [if_pos z5]
      by_cases z3 : wi v5 1 100
      case neg => rw [if_neg z3]
      rw [if_pos z3]
      by_cases z4 : v5.toInt < v4.toInt
      case pos => rw [if_pos z4]
      rw [if_neg z4, if_neg (fun q => g ⟨z1, z2, z3, ⟨z5.1, by omega⟩, q⟩)]
  obtain ⟨g1, g2, g3, g4, g5⟩ := g
  have g6 : wi v4 0 100 := ⟨g4.1, by have := g3.2; omega⟩
  by_cases gG : G < 40
  case neg =>
    refine ⟨2, 0, dp_new M 0 0 6, _, wL_guarantee_x1 ?_, ?_, rfl, (fun e => by cases e), h0.refused hn 2⟩
    · rw [D_X11_guarantee_0_den, D_X11_guarantee_0_eq]
      simp only [hh, q_win, rb_bi, ibz, q_nk hn, cw1, cu, w_1000, if_pos g1, if_pos g2, if_pos g3, if_pos g4, if_pos g5, a1]
      rw [if_neg (show ¬ nI (G) < (40 : Int32) from nI_nlt (a := G) (b := 40) (by omega) (by omega))]
    · rw [D_X12_guarantee_0_den, D_X12_guarantee_0_eq]
      simp only [hm, q_min, q_ref, rb_bi, ibz, cw, cw1, w_1000, Int32.lt_iff_toInt_lt, if_pos g1, if_pos g2, if_pos g3, if_pos g5, if_pos g6, if_neg (show ¬ v5.toInt < v4.toInt by omega)]
      rw [if_pos (show dp_I (dp_new M 0 0 6) 114 119 = 40 by rw [gIN (by omega), a2, show G = 40 by omega]; rfl)]
  obtain ⟨w, hw, rfl⟩ := qin_of g1 (by omega)
  obtain ⟨c, hc⟩ : ∃ c, c = ct (hp M (nI w)) G := ⟨_, rfl⟩
  have hcG : c ≤ G := by rw [hc]; exact ct_le _ _
  have eH : dp_I M 91 w = nI c := by rw [hc]; exact (a13.2.2 w hw).1
  have hcl : dp_den true xs xl (d + 4) 320 [.ref 0, .int (nI w), .long v2, .int v4, .int v5, .int v6, .int v7] M = iR (nI (G + 1)) (gC M (G + 1) w c v2 v4 v5 v6 v7) := by
    rw [D_X11_guarantee_0_den, D_X11_guarantee_0_eq]
    simp only [hh, q_win, rb_bi, ibz, cw1, cu, w_1000, if_pos g1, if_pos g2, if_pos g3, if_pos g4, if_pos g5, a1]
    rw [if_pos (show nI (G) < (40 : Int32) from nI_lt (a := G) (b := 40) (by omega) (by omega)), sc_gadd gG hw hcG a1 eH hv, rb_bi]
  obtain ⟨N, hN⟩ : ∃ N, N = dp_setJ (gC M (G + 1) w c v2 v4 v5 v6 v7) 245 0 (nI (G + 1)).toInt64 := ⟨_, rfl⟩
  have nI' : ∀ k, k ≠ 90 → k ≠ 91 → k ≠ 94 → dp_I N k = dp_I M k := fun k h1 h2 h3 => by rw [hN, gIJ, gC_I _ _ _ _ _ _ _ _ _ k h1 h2 h3]
  have nJ' : ∀ k, k ≠ 95 → k ≠ 245 → dp_J N k = dp_J M k := fun k h1 h2 => by rw [hN, gJJ, if_neg h2, gC_J _ _ _ _ _ _ _ _ _ k h1]
  have n114 : dp_I N 114 = dp_I M 114 := nI' 114 (by decide) (by decide) (by decide)
  have hmo : dp_den true xs xl (d + 5) 517 [.ref 114, .int (nI w), .long v2, .int v4, .int v5, .int v6, .int v7] N = iR (nI (G + 1)) (gM N (G + 1) w v2 v4 v5 v6 v7) := by
    have e119 : dp_I N 114 119 = nI G := by rw [n114]; exact a2
    rw [D_X12_guarantee_0_den, D_X12_guarantee_0_eq]
    have h54 : ¬ v5 < v4 := by rw [Int32.lt_iff_toInt_lt]; omega
    simp only [hm, q_min, rb_bi, ibz, cw, cw1, w_1000, if_pos g1, if_pos g2, if_pos g3, if_pos g5, if_pos g6, if_neg h54]
    rw [if_neg (show ¬ dp_I N 114 119 = 40 from by rw [e119]; exact (show ¬ nI (G) = (40 : Int32) from fun e => absurd ((nI_eq (a := G) (b := 40) (by omega) (by omega)).mp e) (by omega)))]
    simp only [dp_w, gII, gIJ, Nat.reduceEqDiff, if_false, if_true, uI_n (show (119 : Nat) ≠ 0 by decide), e119, nI_1, nI_cl (show G < 2147483648 by omega), nI_o (show G < 40 by omega) (by omega), uI_s, nI_cl (show G + 1 < 2147483648 by omega), nI_o (show G + 1 < 41 by omega) (by omega), uI_n (show (120 : Nat) ≠ 119 by decide), uI_n (show (120 : Nat) ≠ 0 by decide), hv1]
    rfl
  obtain ⟨L, hL⟩ : ∃ L, L = gM N (G + 1) w v2 v4 v5 v6 v7 := ⟨_, rfl⟩
  have lI : ∀ k, k ≠ 114 → k ≠ 202 → k ≠ 204 → k ≠ 205 → k ≠ 206 → k ≠ 207 → k ≠ 212 → k ≠ 213 → dp_I L k = dp_I N k := fun k h1 h2 h3 h4 h5 h6 h7 h8 => by
    rw [hL]; unfold gM; simp only [gII, gIJ, if_neg h1, if_neg h2, if_neg h3, if_neg h4, if_neg h5, if_neg h6, if_neg h7, if_neg h8]
  have lJ : ∀ k, k ≠ 203 → dp_J L k = dp_J N k := fun k h1 => by
    rw [hL]; unfold gM; simp only [gJI, gJJ, if_neg h1]
  have l114 : ∀ i, i ≠ 0 → i ≠ 119 → dp_I L 114 i = dp_I M 114 i := fun i h1 h2 => by
    rw [hL]; unfold gM; simp only [gII, gIJ, Nat.reduceEqDiff, if_false, if_true, uI_n h1, uI_n h2, n114]
  have l202 : dp_I L 202 = uI (dp_I M 202) (G + 1) (nI w) := by
    rw [hL]; unfold gM; simp only [gII, gIJ, Nat.reduceEqDiff, if_false, if_true, nI' 202 (by decide) (by decide) (by decide)]
  have l203 : dp_J L 203 = uI (dp_J M 203) (G + 1) v2 := by
    rw [hL]; unfold gM; simp only [gJI, gJJ, Nat.reduceEqDiff, if_false, if_true, nJ' 203 (by decide) (by decide)]
  have l204 : dp_I L 204 = uI (dp_I M 204) (G + 1) v4 := by
    rw [hL]; unfold gM; simp only [gII, gIJ, Nat.reduceEqDiff, if_false, if_true, nI' 204 (by decide) (by decide) (by decide)]
  have l205 : dp_I L 205 = uI (dp_I M 205) (G + 1) v5 := by
    rw [hL]; unfold gM; simp only [gII, gIJ, Nat.reduceEqDiff, if_false, if_true, nI' 205 (by decide) (by decide) (by decide)]
  have l206 : dp_I L 206 = uI (dp_I M 206) (G + 1) v6 := by
    rw [hL]; unfold gM; simp only [gII, gIJ, Nat.reduceEqDiff, if_false, if_true, nI' 206 (by decide) (by decide) (by decide)]
  have l207 : dp_I L 207 = uI (dp_I M 207) (G + 1) v7 := by
    rw [hL]; unfold gM; simp only [gII, gIJ, Nat.reduceEqDiff, if_false, if_true, nI' 207 (by decide) (by decide) (by decide)]
  have l212 : dp_I L 212 = uI (dp_I M 212) (G + 1) (dp_I M 90 3) := by
    rw [hL]; unfold gM; simp only [gII, gIJ, Nat.reduceEqDiff, if_false, if_true, nI' 212 (by decide) (by decide) (by decide), n114, a5]
  have l213 : dp_I L 213 = uI (dp_I M 213) G (nI (G + 1)) := by
    rw [hL]; unfold gM; simp only [gII, gIJ, Nat.reduceEqDiff, if_false, if_true, nI' 213 (by decide) (by decide) (by decide), Nat.add_sub_cancel]
  have l119 : dp_I L 114 119 = nI (G + 1) := by
    rw [hL]; unfold gM; simp only [gII, gIJ, Nat.reduceEqDiff, if_false, if_true, uI_s]
  have lz : dp_I L 114 0 = 0 := by
    rw [hL]; unfold gM; simp only [gII, gIJ, Nat.reduceEqDiff, if_false, if_true, uI_n (show (0 : Nat) ≠ 119 by decide), uI_s]
  have lI' : ∀ k, k ≠ 90 → k ≠ 91 → k ≠ 94 → k ≠ 114 → k ≠ 202 → k ≠ 204 → k ≠ 205 → k ≠ 206 → k ≠ 207 → k ≠ 212 → k ≠ 213 → dp_I L k = dp_I M k := fun k q1 q2 q3 h1 h2 h3 h4 h5 h6 h7 h8 => by
    rw [lI k h1 h2 h3 h4 h5 h6 h7 h8, nI' k q1 q2 q3]
  have lJ' : ∀ k, k ≠ 95 → k ≠ 245 → k ≠ 203 → dp_J L k = dp_J M k := fun k h1 h2 h3 => by rw [lJ k h3, nJ' k h1 h2]
  have l90 : ∀ i, i ≠ 0 → dp_I L 90 i = dp_I M 90 i := fun i hi => by
    rw [lI 90 (by decide) (by decide) (by decide) (by decide) (by decide) (by decide) (by decide) (by decide), hN]
    unfold gC; simp only [gII, gIJ, Nat.reduceEqDiff, if_false, if_true, uI_n hi]
  have l90' : dp_I L 90 0 = nI (G + 1) := by
    rw [lI 90 (by decide) (by decide) (by decide) (by decide) (by decide) (by decide) (by decide) (by decide), hN]
    unfold gC; simp only [gII, gIJ, Nat.reduceEqDiff, if_false, if_true, uI_s]
  have l91 : dp_I L 91 = uI (dp_I M 91) w (nI (c + 1)) := by
    rw [lI 91 (by decide) (by decide) (by decide) (by decide) (by decide) (by decide) (by decide) (by decide), hN]
    unfold gC; simp only [gII, gIJ, Nat.reduceEqDiff, if_false, if_true]
  have l94 : dp_I L 94 = uI (dp_I M 94) (w * 40 + c) (nI (G + 1)) := by
    rw [lI 94 (by decide) (by decide) (by decide) (by decide) (by decide) (by decide) (by decide) (by decide), hN]
    unfold gC; simp only [gII, gIJ, Nat.reduceEqDiff, if_false, if_true]
  have l95 : dp_J L 95 = uI (uI (uI (uI (uI (uI (uI (dp_J M 95) ((G + 1) * 16 + 0) (nI w).toInt64) ((G + 1) * 16 + 1) v2) ((G + 1) * 16 + 9) v4.toInt64) ((G + 1) * 16 + 10) v5.toInt64) ((G + 1) * 16 + 11) v6.toInt64) ((G + 1) * 16 + 12) v7.toInt64) ((G + 1) * 16 + 13) (dp_I M 90 3).toInt64 := by
    rw [lJ 95 (by decide), hN]
    unfold gC; simp only [gJI, gJJ, Nat.reduceEqDiff, if_false, if_true]
  have lt : ∀ g k, g ≠ G + 1 → k < 16 → dp_J L 95 (g * 16 + k) = dp_J M 95 (g * 16 + k) := fun g k hg hk => by
    rw [l95, uI_n (by omega), uI_n (by omega), uI_n (by omega), uI_n (by omega), uI_n (by omega), uI_n (by omega), uI_n (by omega)]
  have e214 := lI' 214 (by decide) (by decide) (by decide) (by decide) (by decide) (by decide) (by decide) (by decide) (by decide) (by decide) (by decide)
  have e215 := lI' 215 (by decide) (by decide) (by decide) (by decide) (by decide) (by decide) (by decide) (by decide) (by decide) (by decide) (by decide)
  have e216 := lI' 216 (by decide) (by decide) (by decide) (by decide) (by decide) (by decide) (by decide) (by decide) (by decide) (by decide) (by decide)
  have e217 := lI' 217 (by decide) (by decide) (by decide) (by decide) (by decide) (by decide) (by decide) (by decide) (by decide) (by decide) (by decide)
  have e208 := lI' 208 (by decide) (by decide) (by decide) (by decide) (by decide) (by decide) (by decide) (by decide) (by decide) (by decide) (by decide)
  have e209 := lI' 209 (by decide) (by decide) (by decide) (by decide) (by decide) (by decide) (by decide) (by decide) (by decide) (by decide) (by decide)
  have e218 := lJ' 218 (by decide) (by decide) (by decide)
  have e210 := lJ' 210 (by decide) (by decide) (by decide)
  have e211 := lJ' 211 (by decide) (by decide) (by decide)
  have e96 := lJ' 96 (by decide) (by decide) (by decide)
  refine ⟨0, nI (G + 1), _, L, wL_guarantee_ok hcl, by rw [← hN, hL]; exact hmo, lz, fun _ => ?_, ?_, ?_, ?_⟩
  · rw [lJ 245 (by decide), hN, gJJ, if_pos rfl, uI_s]
  · have v14G : ∀ r, 1 ≤ r → r ≤ R → SRv L G r := fun r h1 h2 => (a14 r h1 h2).same (Nat.le_refl _) (by rw [e216]) (fun k _ => by rw [e217]) (by rw [e214]) (by rw [e215]) (fun k _ => by rw [e218]) (fun k _ => by rw [e96])
    have v14 : ∀ r, 1 ≤ r → r ≤ R → SRv L (G + 1) r := fun r h1 h2 => (a14 r h1 h2).same (by omega) (by rw [e216]) (fun k _ => by rw [e217]) (by rw [e214]) (by rw [e215]) (fun k _ => by rw [e218]) (fun k _ => by rw [e96])
    have n4 : ∀ r, 1 ≤ r → r ≤ R → (dp_I M 216 r).toNatClampNeg ≤ 4 := fun r h1 h2 => (a14 r h1 h2).n4
    refine ⟨G + 1, R, by omega, hR, l90', l119, by rw [l90 _ (by decide)]; exact a3, by rw [l114 _ (by decide) (by decide)]; exact a4, by rw [l90 _ (by decide), l114 _ (by decide) (by decide)]; exact a5, by rw [l90 _ (by decide)]; exact a6, ?_, ?_, ?_, fun x hx1 hx2 => ?_, fun x k hx hk => ?_, fun x hx => ?_, ?_, v14, ?_⟩
    · rw [lI' 219 (by decide) (by decide) (by decide) (by decide) (by decide) (by decide) (by decide) (by decide) (by decide) (by decide) (by decide), lI' 92 (by decide) (by decide) (by decide) (by decide) (by decide) (by decide) (by decide) (by decide) (by decide) (by decide) (by decide)]; exact a7
    · rw [lI' 92 (by decide) (by decide) (by decide) (by decide) (by decide) (by decide) (by decide) (by decide) (by decide) (by decide) (by decide)]; exact a8
    · rw [lI' 220 (by decide) (by decide) (by decide) (by decide) (by decide) (by decide) (by decide) (by decide) (by decide) (by decide) (by decide), lI' 93 (by decide) (by decide) (by decide) (by decide) (by decide) (by decide) (by decide) (by decide) (by decide) (by decide) (by decide)]; exact a9
    · by_cases z : x = G + 1
      · subst z
        obtain ⟨u, u1, u2, rfl⟩ := wi_of (a := 0) (b := 100) g6 (by omega)
        obtain ⟨n, n1, n2, rfl⟩ := wi_of (a := 1) (b := 100) g3 (by omega)
        rw [nI_toInt (by omega), nI_toInt (by omega)] at g4
        have hv2 : 1 ≤ v2.toInt ∧ v2.toInt ≤ 1000000000 := by
          have q2 : (1000000000 : Int64).toInt = 1000000000 := by decide
          rw [Int64.le_iff_toInt_le, Int64.le_iff_toInt_le, c1, q2] at g2; exact g2
        have old : ∀ k, k < 16 → k ≠ 0 → k ≠ 1 → k ≠ 9 → k ≠ 10 → k ≠ 11 → k ≠ 12 → k ≠ 13 → dp_J L 95 ((G + 1) * 16 + k) = 0 := fun k k0 k1 k2 k3 k4 k5 k6 k7 => by
          rw [l95, uI_n (by omega), uI_n (by omega), uI_n (by omega), uI_n (by omega), uI_n (by omega), uI_n (by omega), uI_n (by omega)]
          exact a11 (G + 1) k (by omega) k0
        obtain ⟨z1, z2, z3⟩ := a12 (G + 1) (by omega)
        refine ⟨w, u, n, hw, by omega, n1, n2, by rw [l202, uI_s], ?_, by rw [l204, uI_s], ?_, by rw [l205, uI_s], ?_, ?_, ?_, ?_, ?_, ?_, ?_, ?_, ?_, ?_, ?_, ?_, ?_, ?_, ?_, ?_, ?_⟩
        · rw [l95, uI_n (by omega), uI_n (by omega), uI_n (by omega), uI_n (by omega), uI_n (by omega), uI_n (by omega), uI_s]
        · rw [l95, uI_n (by omega), uI_n (by omega), uI_n (by omega), uI_n (by omega), uI_s]
        · rw [l95, uI_n (by omega), uI_n (by omega), uI_n (by omega), uI_s]
        · rw [l95, uI_n (by omega), uI_n (by omega), uI_n (by omega), uI_n (by omega), uI_n (by omega), uI_s, l203, uI_s]
        · rw [l203, uI_s]; omega
        · rw [l203, uI_s]; omega
        · rw [l95, uI_n (by omega), uI_n (by omega), uI_s, l206, uI_s]
        · rw [l206, uI_s]; exact hv
        · rw [l95, uI_n (by omega), uI_s, l207, uI_s]
        · rw [l207, uI_s]; exact g5
        · rw [l95, uI_s, l212, uI_s]
        · rw [l212, uI_s]; exact a6
        · rw [old 6 (by omega) (by omega) (by omega) (by omega) (by omega) (by omega) (by omega) (by omega), e208, z1]; rfl
        · rw [e208]; exact Or.inl z1
        · rw [e208, z1]; intro q; exact absurd q (by decide)
        · rw [old 8 (by omega) (by omega) (by omega) (by omega) (by omega) (by omega) (by omega) (by omega), e210, z2]
        · rw [old 14 (by omega) (by omega) (by omega) (by omega) (by omega) (by omega) (by omega) (by omega), e211, z3]
        · rw [old 2 (by omega) (by omega) (by omega) (by omega) (by omega) (by omega) (by omega) (by omega)]
          exact (nO_0 v14G (by omega) (by omega)).symm
        · rw [old 5 (by omega) (by omega) (by omega) (by omega) (by omega) (by omega) (by omega) (by omega), uO_c e216 e217, uO_0 (G := G) (by omega) (by omega) R a14]; rfl
      · have zx : x ≤ G := by omega
        refine (a10 x hx1 zx).same (fun k hk => lt x k z hk) (by rw [l202, uI_n z]) (by rw [l204, uI_n z]) (by rw [l205, uI_n z]) (by rw [l203, uI_n z]) (by rw [l206, uI_n z]) (by rw [l207, uI_n z]) (by rw [l212, uI_n z]) (by rw [e208]) (by rw [e209]) (by rw [e210]) (by rw [e211]) ?_ (uO_c e216 e217 x R)
        exact nO_c (by rw [l204, uI_n z]) (by rw [l205, uI_n z]) n4 (fun r _ _ => by rw [e216]) (fun r k _ _ _ => by rw [e217]) (fun r k _ _ _ => by rw [e218])
    · rw [lt x k (by omega) hk]; exact a11 x k (by omega) hk
    · rw [e208, e210, e211]; exact a12 x (by omega)
    · exact SOr.add a13 gG hw l213 l202 (by rw [l91, hc]) (by rw [l94, hc])
    · refine ⟨fun r hr => by rw [e215]; exact a15.1 r hr, ?_, ?_⟩
      · have q := a15.2.1
        unfold SLv at q ⊢
        rw [e215, l90 _ (by decide)]; exact q
      · have q := a15.2.2
        unfold SDs at q ⊢
        rw [e216, e217]; exact q
  · rw [hL, hN]; unfold gM gC
    repeat first | apply Off.F _ (by decide) | apply Off.I _ (by decide) | apply Off.J _ (by decide)
    exact Off.rr _ _ _
  · rw [hL, hN]; exact ⟨Nat.le_add_right _ _, Nat.le_add_right _ _⟩
end SL
