/-! SECURITIES: a reservation ends, side by side -/
theorem sl_ng (f : Nat → Int64) : ∀ n, sl (fun k => -(f k)) n = -(sl f n)
  | 0 => by simp [sl]
  | n + 1 => by rw [sl, sl, sl_ng f n, Int64.neg_add, Int64.sub_eq_add_neg]
theorem ct_cut {p q : Nat → Bool} {j : Nat} (h1 : p j = true) (h2 : q j = false) (h : ∀ i, i ≠ j → q i = p i) : ∀ n, ct q n + (if j < n then 1 else 0) = ct p n
  | 0 => by rw [ct, ct, if_neg (by omega)]
  | n + 1 => by
    have ih := ct_cut h1 h2 h n
    rw [ct, ct]
    by_cases z : n = j
    · subst z
      rw [if_neg (show ¬ n < n by omega)] at ih
      rw [h1, h2, if_pos rfl, if_neg (by decide), if_pos (by omega)]; omega
    · rw [h n z]
      by_cases y : j < n
      · rw [if_pos y] at ih; rw [if_pos (show j < n + 1 by omega)]; omega
      · rw [if_neg y] at ih; rw [if_neg (show ¬ j < n + 1 by omega)]; omega
theorem uO_cut {M M2 : dp_M} {g r : Nat} (hr : 1 ≤ r) (h : ∀ q, q ≠ r → usR M2 g q = usR M g q) (h0 : usR M2 g r = 0) : ∀ R, uO M2 g R + (if r ≤ R then usR M g r else 0) = uO M g R
  | 0 => by rw [uO, uO, if_neg (by omega)]
  | R + 1 => by
    have ih := uO_cut hr h h0 R
    rw [uO, uO]
    by_cases z : R + 1 = r
    · subst z
      rw [if_neg (by omega)] at ih
      rw [if_pos (Nat.le_refl _), h0]; omega
    · rw [h (R + 1) z]
      by_cases y : r ≤ R
      · rw [if_pos y] at ih; rw [if_pos (show r ≤ R + 1 by omega)]; omega
      · rw [if_neg y] at ih; rw [if_neg (show ¬ r ≤ R + 1 by omega)]; omega
def rIf : List Nat := [91, 92, 93, 94, 202, 204, 205, 206, 207, 208, 209, 213, 214, 217, 219, 220]
theorem RSb.fin {M M2 : dp_M} {G R r n : Nat} {how : Int32} (h : RSb M G R) (hr1 : 1 ≤ r) (hr : r ≤ R) (hn : n ≤ 4) (c2 : dp_I M 216 r = nI n) (hl : dp_I M 215 r = 0) (hh : ¬ how = 0) (e : ∀ k ∈ rIf, dp_I M2 k = dp_I M k) (e90 : dp_I M2 90 = uI (dp_I M 90) 2 (dp_I M 90 2 - 1)) (f : ∀ i ∈ RelS_T, dp_I M2 114 i = dp_I M 114 i) (e218 : dp_J M2 218 = dp_J M 218) (e215 : dp_I M2 215 = uI (dp_I M 215) r how) (e216 : dp_I M2 216 = uI (dp_I M 216) r 0) (e96 : dp_J M2 96 = uI (uI (uI (dp_J M 96) (r * 12 + 1) 0) (r * 12 + 2) how.toInt64) (r * 12 + 3) 0)
    (o : ∀ g k, k ∈ [0, 6, 9, 10, 11, 12, 15] → dp_J M2 95 (g * 16 + k) = dp_J M 95 (g * 16 + k)) (t25 : ∀ g k, k = 2 ∨ k = 5 → dp_J M2 95 (g * 16 + k) = tbs (-1) (ndF M) (rP M r) (rC M r) (dp_J M 95) n (g * 16 + k))
    (t1 : ∀ g, 1 ≤ g → g ≤ G → dp_J M2 95 (g * 16 + 1) = dp_J M2 203 g ∧ 0 ≤ (dp_J M2 203 g).toInt ∧ (dp_J M2 203 g).toInt ≤ 1000000000 ∧ dp_J M2 95 (g * 16 + 8) = dp_J M2 210 g ∧ dp_J M2 95 (g * 16 + 14) = dp_J M2 211 g ∧ dp_J M2 95 (g * 16 + 13) = (dp_I M2 212 g).toInt64 ∧ qin (dp_I M2 212 g) 100001)
    (t0 : ∀ g k, G < g → k < 16 → dp_J M2 95 (g * 16 + k) = dp_J M 95 (g * 16 + k)) (t0' : ∀ g, G < g → dp_J M2 210 g = dp_J M 210 g ∧ dp_J M2 211 g = dp_J M 211 g) : RSb M2 G R := by
  obtain ⟨hG, hR, a1, a2, a3, a4, a5, a6, a7, a8, a9, a10, a11, a12, a13, a14, a15, a16, a17⟩ := h
  have c7 : ∀ k, k < n → wi (rP M r k) 1 G := fun k hk => by
    obtain ⟨n', q1, q2, q3, q4, q5, q6, q7⟩ := a14 r hr1 hr
    have : n' = n := by rw [c2, nI_eq (by omega) (by omega)] at q2; exact q2.symm
    subst this
    exact (q7 k hk).2.2.1
  have pb : ∀ j, j < n → ∃ b, b < 2147483648 ∧ rP M r j = nI b := fun j hj => by
    obtain ⟨g, g1, g2, eg⟩ := wi_of (a := 1) (b := G) (c7 j hj) (by omega)
    exact ⟨g, by omega, eg⟩
  have z216 : (dp_I M2 216 r).toNatClampNeg = 0 := by rw [e216, uI_s]; rfl
  have x216 : ∀ q, q ≠ r → dp_I M2 216 q = dp_I M 216 q := fun q hq => by rw [e216, uI_n hq]
  have nF : ∀ g c, ndF M2 g c = ndF M g c := fun g c => by unfold ndF; rw [e 204 (by decide), e 205 (by decide)]
  have nR : ∀ g q, q ≠ r → ndR M2 g q = ndR M g q := fun g q hq => by
    unfold ndR; rw [x216 q hq, e 217 (by decide), e218]
    exact sl_c (fun k _ => by rw [nF])
  have nR0 : ∀ g, ndR M2 g r = 0 := fun g => by unfold ndR; rw [z216]; rfl
  have nOe : ∀ g, nO M2 g R = nO M g R + sl (fun k => if rP M r k = nI g then -1 * ndF M g (rC M r k) else 0) n := fun g => by
    have q1 : nO M2 g R = sl (uI (fun i => ndR M g (i + 1)) (r - 1) 0) R := sl_c (fun i _ => by
      by_cases z : i = r - 1
      · subst z; rw [uI_s, show r - 1 + 1 = r by omega, nR0]
      · rw [uI_n z, nR g (i + 1) (by omega)])
    have q2 : sl (fun k => if rP M r k = nI g then -1 * ndF M g (rC M r k) else 0) n = -(ndR M g r) := by
      unfold ndR
      rw [c2, nI_cl (by omega), ← sl_ng]
      refine sl_c (fun k _ => ?_)
      show (if dp_I M 217 (r * 4 + k) = nI g then -1 * ndF M g (dp_J M 218 (r * 4 + k)) else 0) = -(if dp_I M 217 (r * 4 + k) = nI g then ndF M g (dp_J M 218 (r * 4 + k)) else 0)
      by_cases z : dp_I M 217 (r * 4 + k) = nI g
      · rw [if_pos z, if_pos z, Int64.neg_mul, Int64.one_mul]
      · rw [if_neg z, if_neg z]; rfl
    rw [q1, sl_u R (by omega), q2, show r - 1 + 1 = r by omega, Int64.add_zero, Int64.sub_eq_add_neg]
    rfl
  have uR : ∀ g q, q ≠ r → usR M2 g q = usR M g q := fun g q hq => by unfold usR; rw [x216 q hq, e 217 (by decide)]
  have uR0 : ∀ g, usR M2 g r = 0 := fun g => by unfold usR; rw [z216]; rfl
  have uOe : ∀ g, uO M2 g R + usR M g r = uO M g R := fun g => by
    have := uO_cut hr1 (uR g) (uR0 g) R
    rw [if_pos hr] at this; exact this
  refine ⟨hG, hR, by rw [e90, uI_n (by decide)]; exact a1, by rw [f 119 (by decide)]; exact a2, by rw [e90, uI_n (by decide)]; exact a3, by rw [f 133 (by decide)]; exact a4, by rw [e90, uI_n (by decide), f 120 (by decide)]; exact a5, by rw [e90, uI_n (by decide)]; exact a6, by rw [e 219 (by decide), e 92 (by decide)]; exact a7, by rw [e 92 (by decide)]; exact a8, by rw [e 220 (by decide), e 93 (by decide)]; exact a9, fun g g1 g2 => ?_, fun g k hg hk => by rw [t0 g k hg hk]; exact a11 g k hg hk, fun g hg => by rw [e 208 (by decide), (t0' g hg).1, (t0' g hg).2]; exact a12 g hg, ?_, fun q q1 q2 => ?_, fun q hq => by rw [e215, uI_n (by omega)]; exact a15 q hq, ?_, fun q q1 q2 j k hj hk => ?_⟩
  · obtain ⟨h, u, m, b1, b2, b3, b4, b5, b6, b7, b8, b9, b10, b11, b12, b13, b14, b15, b16, b17, b18, b19, b20, b21, b22, b23, b24, b25, b26⟩ := a10 g g1 g2
    obtain ⟨y1, y2, y3, y4, y5, y6, y7⟩ := t1 g g1 g2
    have u4 := uO_le (g := g) a14 R (Nat.le_refl _)
    have ue := uOe g
    refine ⟨h, u, m, b1, b2, b3, b4, ?_⟩
    rw [o g 0 (by decide), o g 6 (by decide), o g 9 (by decide), o g 10 (by decide), o g 11 (by decide), o g 12 (by decide), o g 15 (by decide), e 202 (by decide), e 204 (by decide), e 205 (by decide), e 206 (by decide), e 207 (by decide), e 208 (by decide), e 209 (by decide)]
    refine ⟨b5, b6, b7, b8, b9, b10, y1, y2, y3, b14, b15, b16, b17, y6, y7, b20, b21, b22, y4, y5, ?_, ?_⟩
    · rw [t25 g 2 (Or.inl rfl), tbs_2 (by omega) n pb, b25, nOe]
    · rw [t25 g 5 (Or.inr rfl), tbs_5 (by omega) n pb, b26, ← ue, ← nJ_add (by omega)]
      have : sl (fun k => if rP M r k = nI g then (-1 : Int64) else 0) n = -((nI (usR M g r)).toInt64) := by
        unfold usR
        rw [c2, nI_cl (by omega), ← sl_ctJ n (by omega), ← sl_ng]
        refine sl_c (fun k _ => ?_)
        simp only [decide_eq_true_eq]
        show (if dp_I M 217 (r * 4 + k) = nI g then (-1 : Int64) else 0) = -(if dp_I M 217 (r * 4 + k) = nI g then 1 else 0)
        by_cases z : dp_I M 217 (r * 4 + k) = nI g
        · rw [if_pos z, if_pos z]
        · rw [if_neg z, if_neg z]; rfl
      rw [this, ← Int64.sub_eq_add_neg, Int64.add_sub_cancel]
  · unfold SOr at a13 ⊢
    rw [e 91 (by decide), e 94 (by decide), e 202 (by decide), e 213 (by decide)]; exact a13
  · by_cases z : q = r
    · subst z
      obtain ⟨n', w1, w2, w3, w4, w5, w6, w7⟩ := a14 q hr1 hr
      refine ⟨0, by omega, by rw [e216, uI_s]; rfl, ?_, ?_, ?_, ?_, fun k hk => absurd hk (by omega)⟩
      · rw [e96, e 214 (by decide), uI_n (by omega), uI_n (by omega), uI_n (by omega)]; exact w3
      · rw [e96, uI_n (by omega), uI_n (by omega), uI_s]; rfl
      · rw [e96, e215, uI_n (by omega), uI_s, uI_s]
      · rw [e96, uI_s]; rfl
    · refine (a14 q q1 q2).same (Nat.le_refl _) (x216 q z) (fun k _ => by rw [e 217 (by decide)]) (by rw [e 214 (by decide)]) (by rw [e215, uI_n z]) (fun k _ => by rw [e218]) (fun k hk => ?_)
      rw [e96, uI_n (by omega), uI_n (by omega), uI_n (by omega)]
  · have q : dp_I M 90 2 = nI (ct (lvf (dp_I M 215)) R) := a16
    show dp_I M2 90 2 = _
    have cut := ct_cut (p := lvf (dp_I M 215)) (q := lvf (dp_I M2 215)) (j := r - 1) (by unfold lvf; rw [show r - 1 + 1 = r by omega, decide_eq_true_eq]; exact hl) (by unfold lvf; rw [show r - 1 + 1 = r by omega, e215, uI_s]; exact decide_eq_false hh) (fun i hi => by unfold lvf; rw [e215, uI_n (by omega)]) R
    rw [if_pos (by omega)] at cut
    rw [e90, uI_s, q, ← cut, nI_pred]
  · by_cases z : q = r
    · subst z; rw [z216] at hj; omega
    · rw [x216 q z] at hj hk
      rw [e 217 (by decide)]
      exact a17 q q1 q2 j k hj hk
section SW
variable {xs : Nat → Int32} {xl d : Nat} {M : dp_M}
theorem finC_I (r : Nat) (how : Int32) (T : Nat → Int64) (k : Nat) (h : k ≠ 90) : dp_I (finC M r how T) k = dp_I M k := by
  unfold finC; rw [gII, if_neg h, rJ_I, rJ_I]
theorem finC_90 (r : Nat) (how : Int32) (T : Nat → Int64) : dp_I (finC M r how T) 90 = uI (dp_I M 90) 2 (dp_I M 90 2 - 1) := by
  unfold finC; rw [gII, if_pos rfl, rJ_I, rJ_I]
theorem finC_J (r : Nat) (how : Int32) (T : Nat → Int64) (k : Nat) (h1 : k ≠ 95) (h2 : k ≠ 96) : dp_J (finC M r how T) k = dp_J M k := by
  unfold finC; rw [gJI, rJ_J, if_neg h2, rJ_J, if_neg h1]
theorem finC_95 (r : Nat) (how : Int32) (T : Nat → Int64) : dp_J (finC M r how T) 95 = T := by
  unfold finC; rw [gJI, rJ_J, if_neg (by decide), rJ_J, if_pos rfl]
theorem finC_96 (r : Nat) (how : Int32) (T : Nat → Int64) : dp_J (finC M r how T) 96 = uI (uI (uI (dp_J M 96) (r * 12 + 1) 0) (r * 12 + 2) how.toInt64) (r * 12 + 3) 0 := by
  unfold finC; rw [gJI, rJ_J, if_pos rfl]
theorem finC_o (r : Nat) (how : Int32) (T : Nat → Int64) : Off [90, 95, 96] [] M (finC M r how T) := by
  unfold finC; exact (((Off.rr _ _ M).rJ 95 (by decide) _).rJ 96 (by decide) _).I 90 (by decide) _ _
theorem enM_I (N : dp_M) (r : Nat) (how : Int32) (k : Nat) (h1 : k ≠ 215) (h2 : k ≠ 216) : dp_I (enM N r how) k = dp_I N k := by
  unfold enM; rw [gII, if_neg h2, gII, if_neg h1]
theorem enM_215 (N : dp_M) (r : Nat) (how : Int32) : dp_I (enM N r how) 215 = uI (dp_I N 215) r how := by
  unfold enM; rw [gII, if_neg (by decide), gII, if_pos rfl]
theorem enM_216 (N : dp_M) (r : Nat) (how : Int32) : dp_I (enM N r how) 216 = uI (dp_I N 216) r 0 := by
  unfold enM; rw [gII, if_pos rfl, gII, if_neg (by decide)]
theorem enM_J (N : dp_M) (r : Nat) (how : Int32) (k : Nat) : dp_J (enM N r how) k = dp_J N k := by
  unfold enM; rw [gJI, gJI]
/-- finish with endsAs: released, paid -/
theorem s_fin12 {R r : Nat} {how : Int32} (h : RelS M) (hRR : dp_I M 114 133 = nI R) (hR : R ≤ 400) (hr1 : 1 ≤ r) (hr : r ≤ R) (hl : dp_I M 215 r = 0) (hh : how = 1 ∨ how = 2) :
    ∃ C, (∀ {d}, dp_den true xs xl (d + 5) 207 [.ref 90, .int (nI r), .int how] M = lR 0 C) ∧ Off [90, 95, 96] [] M C ∧ Cst 0 0 M C ∧ ∀ N, SameS N C → (∀ {d}, dp_den true xs xl (d + 1) 530 [.ref 114, .int (nI r), .int how] N = vR (enM N r how)) ∧ RelS (enM N r how) ∧ Off [215, 216] [] N (enM N r how) ∧ Cst 0 0 N (enM N r how) ∧ ∀ q i, q ≠ r → i < 12 → dp_J (enM N r how) 96 (q * 12 + i) = dp_J M 96 (q * 12 + i) := by
  obtain ⟨G, R', hb⟩ := h.b
  have hR' : R' = R := by
    have := hb.2.2.2.2.2.1
    rw [hRR, nI_eq (by omega) (by have := hb.2.1; omega)] at this; exact this.symm
  subst hR'
  have hb0 := hb
  obtain ⟨hG, hR4, a1, a2, a3, a4, a5, a6, a7, a8, a9, a10, a11, a12, a13, a14, a15, a16, a17⟩ := hb
  have h3 : ¬ how = 3 := by rcases hh with q | q <;> rw [q] <;> decide
  have h0 : ¬ how = 0 := by rcases hh with q | q <;> rw [q] <;> decide
  obtain ⟨n, c1, c2, -⟩ := sc_fin12 (xs := xs) (xl := xl) (d := 0) (how := how) hG hR hr1 hr h3 a10 (a14 r hr1 hr)
  have hc : ∀ {d}, dp_den true xs xl (d + 5) 207 [.ref 90, .int (nI r), .int how] M = lR 0 (finC M r how (tbs (-1) (ndF M) (rP M r) (rC M r) (dp_J M 95) n)) := fun {d} => by
    obtain ⟨n', q1, q2, q3⟩ := sc_fin12 (xs := xs) (xl := xl) (d := d) (how := how) hG hR hr1 hr h3 a10 (a14 r hr1 hr)
    have : n' = n := by rw [c2, nI_eq (by omega) (by omega)] at q2; exact q2.symm
    subst this
    exact q3
  obtain ⟨T, hT⟩ : ∃ T, T = tbs (-1) (ndF M) (rP M r) (rC M r) (dp_J M 95) n := ⟨_, rfl⟩
  rw [← hT] at hc
  refine ⟨finC M r how T, hc, finC_o _ _ _, ⟨Nat.le_refl _, Nat.le_refl _⟩, fun N hN => ⟨fun {d} => sm_ends (by omega) how, ?_, ?_, ⟨Nat.le_refl _, Nat.le_refl _⟩, fun q i hq hi => ?_⟩⟩
  · have sI : ∀ k ∈ rIf, k ∈ RelS_S ∧ k ≠ 90 ∧ k ≠ 215 ∧ k ≠ 216 := by decide
    have nI' : ∀ k ∈ RelS_S, k ≠ 90 → dp_I N k = dp_I M k := fun k hk q => by rw [(hN.1 k hk).1, finC_I _ _ _ k q]
    have nJ' : ∀ k ∈ RelS_S, k ≠ 95 → k ≠ 96 → dp_J (enM N r how) k = dp_J M k := fun k hk q1 q2 => by rw [enM_J, (hN.1 k hk).2, finC_J _ _ _ k q1 q2]
    have n95 : dp_J (enM N r how) 95 = T := by rw [enM_J, (hN.1 95 (by decide)).2, finC_95]
    have n212 : dp_I (enM N r how) 212 = dp_I M 212 := by rw [enM_I _ _ _ _ (by decide) (by decide), nI' 212 (by decide) (by decide)]
    refine (hb0.fin (M2 := enM N r how) (r := r) (n := n) (how := how) hr1 hr c1 c2 hl h0 (fun k hk => by rw [enM_I _ _ _ k (sI k hk).2.2.1 (sI k hk).2.2.2]; exact nI' k (sI k hk).1 (sI k hk).2.1) (by rw [enM_I _ _ _ _ (by decide) (by decide), (hN.1 90 (by decide)).1, finC_90]) (fun i hi => by rw [enM_I _ _ _ _ (by decide) (by decide), hN.2 i hi, finC_I _ _ _ _ (by decide)]) (nJ' 218 (by decide) (by decide) (by decide)) (by rw [enM_215, nI' 215 (by decide) (by decide)]) (by rw [enM_216, nI' 216 (by decide) (by decide)]) (by rw [enM_J, (hN.1 96 (by decide)).2, finC_96]) (fun g k hk => ?_) (fun g k hk => by rw [n95, hT]) (fun g g1 g2 => ?_) (fun g k hg hk => ?_) (fun g hg => by rw [nJ' 210 (by decide) (by decide) (by decide), nJ' 211 (by decide) (by decide) (by decide)]; exact ⟨rfl, rfl⟩)).r
    · have w : ∀ k ∈ [0, 6, 9, 10, 11, 12, 15], k < 16 ∧ k ≠ 2 ∧ k ≠ 5 := by decide
      rw [n95, hT, tbs_o (w k hk).1 (w k hk).2]
    · obtain ⟨h, u, m, b1, b2, b3, b4, b5, b6, b7, b8, b9, b10, b11, b12, b13, b14, b15, b16, b17, b18, b19, b20, b21, b22, b23, b24, b25, b26⟩ := a10 g g1 g2
      rw [n95, hT, tbs_o (by omega) (by omega), tbs_o (by omega) (by omega), tbs_o (by omega) (by omega), tbs_o (by omega) (by omega), nJ' 203 (by decide) (by decide) (by decide), nJ' 210 (by decide) (by decide) (by decide), nJ' 211 (by decide) (by decide) (by decide), n212]
      exact ⟨b11, b12, b13, b23, b24, b18, b19⟩
    · rw [n95, hT]
      refine tbs_g hk n (fun j hj => ?_)
      obtain ⟨n', q1, q2, q3, q4, q5, q6, q7⟩ := a14 r hr1 hr
      have : n' = n := by rw [c2, nI_eq (by omega) (by omega)] at q2; exact q2.symm
      subst this
      obtain ⟨b, b1, b2, eb⟩ := wi_of (a := 1) (b := G) (q7 j hj).2.2.1 (by omega)
      have : rP M r j = nI b := eb
      rw [this, nI_cl (by omega)]; omega
  · unfold enM; exact ((Off.rr _ _ N).I 215 (by decide) _ _).I 216 (by decide) _ _
  · rw [enM_J, (hN.1 96 (by decide)).2, finC_96, uI_n (by omega), uI_n (by omega), uI_n (by omega)]
end SW
