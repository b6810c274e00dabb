/-! HOLD: what does not touch a plan; box -/
theorem ct_ext {p q : Nat → Bool} {n : Nat} : ∀ m, (∀ i, i < n → q i = p i) → (∀ i, n ≤ i → i < n + m → q i = false) → ct q (n + m) = ct p n
  | 0, h, _ => ct_c h
  | m + 1, h, h2 => by
    rw [← Nat.add_assoc, ct, ct_ext m h (fun i h3 h4 => h2 i h3 (by omega)), h2 (n + m) (by omega) (by omega)]
    simp
theorem PV_c {bay bay' needs needs' : Nat → Int32} {n n' T b : Nat} {mb mt : Nat → Nat} (hn : n ≤ n') (hb : ∀ i, i < n → (bay' i = nI b ↔ bay i = nI b)) (hb2 : ∀ i, n ≤ i → i < n' → ¬ bay' i = nI b) (hne : ∀ x y, x < n → y < n → bay x = nI b → bay y = nI b → needs' (y * 100 + x) = needs (y * 100 + x)) : ∀ (k e : Nat) (S S' D D' : Nat → Int32), (∀ i, i < n → bay i = nI b → S' i = S i ∧ D' i = D i) → PV bay needs n T b mb mt k e S D → PV bay' needs' n' T b mb mt k e S' D'
  | 0, _, _, _, _, _, _, _ => trivial
  | k + 1, e, S, S', D, D', hS, h => by
    obtain ⟨⟨m1, m2, m3, m4, m5, m6, m7, m8⟩, hr⟩ := h
    have hc : ∀ s, ct (hbf bay' S' (nI b) s) n' = ct (hbf bay S (nI b) s) n := fun s => by
      have := ct_ext (p := hbf bay S (nI b) s) (q := hbf bay' S' (nI b) s) (n := n) (n' - n) (fun i hi => by
        unfold hbf
        by_cases z : bay i = nI b
        · rw [(hS i hi z).1]
          simp only [(hb i hi).mpr z, z]
        · have z' : ¬ bay' i = nI b := fun q => z ((hb i hi).mp q)
          simp only [z', z, false_and]) (fun i h1 h2 => by
        unfold hbf
        simp only [hb2 i h1 (by omega), false_and, decide_false])
      rwa [show n + (n' - n) = n' by omega] at this
    obtain ⟨x1, x2⟩ := hS (mb e) m1 m2
    refine ⟨⟨by omega, (hb _ m1).mpr m2, by rw [x1]; exact m3, m4, by rw [x1]; exact m5, fun ht => by rw [hc]; exact m6 ht, fun s hs hx => ?_, fun ht y hy q1 q2 => ?_⟩, PV_c hn hb hb2 hne k (e + 1) _ _ _ _ (fun i hi hbi => ?_) hr⟩
    · rw [hc, x2]; exact m7 s hs (by rw [← x1]; exact hx)
    · have hy' : y < n := Classical.byContradiction (fun z => hb2 y (by omega) hy q1)
      have yb := (hb y hy').mp q1
      rw [(hS y hy' yb).1]
      exact m8 ht y hy' yb (by rw [← hne _ _ m1 hy' m2 yb]; exact q2)
    · obtain ⟨y1, y2⟩ := hS i hi hbi
      unfold mvD uI
      by_cases z : i = mb e
      · simp only [if_pos z, hc]; exact ⟨trivial, trivial⟩
      · simp only [if_neg z]; exact ⟨y1, y2⟩
theorem HPl.mono {M M' : dp_M} {n n' T b : Nat} (h : HPl M n T b) (e1 : dp_I M' 120 b = dp_I M 120 b) (e2 : dp_I M' 25 b = dp_I M 25 b) (e3 : dp_I M' 121 b = dp_I M 121 b) (e4 : dp_I M' 26 b = dp_I M 26 b) (e5 : dp_I M' 122 b = dp_I M 122 b) (e6 : ∀ i, i < 16 → dp_I M' 27 (b * 16 + i) = dp_I M 27 (b * 16 + i)) (e7 : ∀ i, i < 16 → dp_I M' 123 (b * 40 + i) = dp_I M 123 (b * 40 + i)) (e8 : ∀ i, i < 16 → dp_I M' 124 (b * 40 + i) = dp_I M 124 (b * 40 + i)) (e9 : ∀ i, i < 16 → dp_I M' 125 (b * 40 + i) = dp_I M 125 (b * 40 + i))
    (pv : ∀ mb mt k e, PV (dp_I M 8) (dp_I M 12) n T b mb mt k e (dp_I M 9) (dp_I M 10) → PV (dp_I M' 8) (dp_I M' 12) n' T b mb mt k e (dp_I M' 9) (dp_I M' 10)) : HPl M' n' T b := by
  rcases h with ⟨p1, p2⟩ | ⟨p1, L, e, q1, q2, q3, q4, q5, q6, mb, mf, mt, q7, q8⟩
  · exact Or.inl ⟨by rw [e1, p1], by rw [e2, p2]⟩
  · refine Or.inr ⟨by rw [e1, p1], L, e, q1, q2, by rw [e2, q3], by rw [e3, q4], by rw [e4, q5], by rw [e5, q6], mb, mf, mt, fun i hi => ?_, pv _ _ _ _ q8⟩
    rw [e6 i (by omega), e7 i (by omega), e8 i (by omega), e9 i (by omega)]
    exact q7 i hi
/-- the boxes with one more -/
theorem HSt.add {n B T b s p : Nat} {port bay S D needs : Nat → Int32} (h : HSt n B T port bay S D needs) (hB : B ≤ 12) (hb : b < B) (hs : s < 3) (hp : p < 6) (hn : n < 100) (ht : ct (hbf bay S (nI b) (nI s)) n < T) (hl : ct (lyf bay S (nI b)) n < 4) : HSt (n + 1) B T (uI port n (nI p)) (uI bay n (nI b)) (uI S n (nI s)) (uI D n (nI (ct (hbf bay S (nI b) (nI s)) n))) needs := by
  obtain ⟨h1, h2, h3, h4, h5, h6, h7⟩ := h
  have o : ∀ (f : Nat → Int32) x i, i < n → uI f n x i = f i := fun f x i hi => uI_n (by omega)
  have hbo : ∀ b' s' i, i < n → hbf (uI bay n (nI b)) (uI S n (nI s)) b' s' i = hbf bay S b' s' i := fun b' s' i hi => by unfold hbf; rw [o _ _ _ hi, o _ _ _ hi]
  have hc : ∀ b' s', ct (hbf (uI bay n (nI b)) (uI S n (nI s)) b' s') (n + 1) = ct (hbf bay S b' s') n + (if nI b = b' ∧ nI s = s' then 1 else 0) := fun b' s' => by
    rw [ct, ct_c (fun i hi => hbo b' s' i hi)]
    unfold hbf
    rw [uI_s, uI_s]
    simp only [decide_eq_true_eq]
  have hcl : ∀ b', ct (lyf (uI bay n (nI b)) (uI S n (nI s)) b') (n + 1) ≤ ct (lyf bay S b') n + (if nI b = b' then 1 else 0) := fun b' => by
    rw [ct, ct_c (q := lyf bay S b') (fun i hi => by unfold lyf; rw [o _ _ _ hi, o _ _ _ hi])]
    unfold lyf
    rw [uI_s, uI_s]
    by_cases z : nI b = b'
    · rw [if_pos z]; split <;> omega
    · rw [if_neg z, if_neg]
      · omega
      · simp [z]
  have hcn := ct_le (hbf bay S (nI b) (nI s)) n
  refine ⟨fun i hi => ?_, fun i hi s' hs' e => ?_, fun i j s' hi hj hs' e1 e2 e3 e4 => ?_, fun b' s' hb' hs' => ?_, fun b' hb' => ?_, h6, fun x y hy e => ?_⟩
  · by_cases z : i = n
    · subst z; rw [uI_s, uI_s, uI_s]
      exact ⟨qin_nI hp (by omega), qin_nI hb (by omega), qin_nI (by omega) (by omega)⟩
    · rw [uI_n z, uI_n z, uI_n z]; exact h1 i (by omega)
  · by_cases z : i = n
    · subst z
      rw [uI_s] at e
      have es : s = s' := by rw [nI_eq (by omega) (by omega)] at e; exact e
      subst es
      refine ⟨fun q => by omega, fun _ => ?_⟩
      rw [uI_s, uI_s, hc, if_pos ⟨rfl, rfl⟩]
      exact qin_nI (by omega) (by omega)
    · rw [uI_n z] at e
      obtain ⟨y1, y2⟩ := h2 i (by omega) s' hs' e
      rw [uI_n z, uI_n z, hc]
      refine ⟨y1, fun q => ?_⟩
      have := qin_iff.mp (y2 q)
      rw [qin_iff]
      omega
  · by_cases z : i = n
    · by_cases y : j = n
      · omega
      · exfalso
        subst z
        rw [uI_s] at e2
        rw [uI_n y] at e3
        rw [uI_s, uI_n y] at e1
        rw [uI_s, uI_n y] at e4
        have es : s = s' := by rw [nI_eq (by omega) (by omega)] at e2; exact e2
        subst es
        have := qin_iff.mp ((h2 j (by omega) s (by omega) e3).2 hs')
        rw [← e4, ← e1, nI_toInt (by omega)] at this
        omega
    · by_cases y : j = n
      · exfalso
        subst y
        rw [uI_s] at e3
        rw [uI_n z] at e2
        rw [uI_s, uI_n z] at e1
        rw [uI_s, uI_n z] at e4
        have es : s = s' := by rw [nI_eq (by omega) (by omega)] at e3; exact e3
        subst es
        have := qin_iff.mp ((h2 i (by omega) s (by omega) e2).2 hs')
        rw [e4, e1, nI_toInt (by omega)] at this
        omega
      · rw [uI_n z] at e2
        rw [uI_n y] at e3
        rw [uI_n z, uI_n y] at e1
        rw [uI_n z, uI_n y] at e4
        exact h3 i j s' (by omega) (by omega) hs' e1 e2 e3 e4
  · rw [hc]
    by_cases z : nI b = nI b' ∧ nI s = nI s'
    · rw [if_pos z, ← z.1, ← z.2]; omega
    · rw [if_neg z]; exact h4 b' s' hb' hs'
  · have := hcl (nI b')
    by_cases z : nI b = nI b'
    · rw [if_pos z, ← z] at this; rw [← z]; omega
    · rw [if_neg z] at this
      have := h5 b' hb'; omega
  · obtain ⟨y1, y2, y3, y4⟩ := h7 x y hy e
    rw [uI_n (by omega), uI_n (by omega), uI_n (by omega), uI_n (by omega)]
    exact ⟨by omega, by omega, y3, y4⟩
section HD
variable {xs : Nat → Int32} {xl d : Nat} {M : dp_M}
def bxC (M : dp_M) (n b : Nat) (t v2 v3 v4 v5 v6 v7 : Int32) : dp_M :=
  dp_setI (dp_setI (dp_setI (dp_setI (dp_setI (dp_setI (dp_setI (dp_setI (dp_setI (dp_setI (dp_setI M 10 n t) 8 n (nI b)) 9 n v2) 2 n v3) 3 n (v4 / 3)) 4 n ((v4 - v4 / 3 * 3) + 1)) 5 n v5) 6 n v6) 7 n v7) 1 2 (nI (n + 1))) 25 b (-1)
def bxM (N : dp_M) (n b : Nat) (t v2 v3 v4 v5 v6 v7 : Int32) : dp_M :=
  dp_setI (dp_setI (dp_setI (dp_setI (dp_setI (dp_setI (dp_setI (dp_setI (dp_setI (dp_setI (dp_setI (dp_setI (dp_setI (dp_setI (dp_setI N 114 0 0) 115 n v3) 116 n (nI b)) 118 n t) 117 n v2) 135 n ((v4 - v4 / 3 * 3) + 1)) 136 n (v4 / 3)) 137 n v5) 138 n v6) 139 n v7) 140 n (-1)) 141 n (-1)) 146 n (nI n)) 114 3 (nI (n + 1))) 120 b 0
theorem q_l3 {k : Nat} (hk : k < 9) : nI k / 3 = nI (k / 3) ∧ (nI k - nI k / 3 * 3) + 1 = nI (k % 3 + 1) := by
  have : k = 0 ∨ k = 1 ∨ k = 2 ∨ k = 3 ∨ k = 4 ∨ k = 5 ∨ k = 6 ∨ k = 7 ∨ k = 8 := by omega
  rcases this with rfl | rfl | rfl | rfl | rfl | rfl | rfl | rfl | rfl <;> exact ⟨by decide, by decide⟩
theorem s_box {n B T : Nat} (h : HR M n B T) (hn : 246 ≤ dp_n M) (v1 v2 v3 v4 v5 v6 v7 : Int32) : ∃ k b M1 M2, dp_den true xs xl (d + 5) 595 [.ref 0, .int v1, .int v2, .int v3, .int v4, .int v5, .int v6, .int v7, .ref 245] M = iR k M1 ∧ dp_den true xs xl (d + 5) 374 [.ref 114, .int v1, .int v2, .int v3, .int v4, .int v5, .int v6, .int v7] M1 = iR b M2 ∧
    dp_I M2 114 0 = k ∧ (k = 0 → dp_J M2 245 0 = b.toInt64) ∧ Cst 1 6 M M2 ∧ ((HR M2 n B T ∧ Off [245] [0] M M2) ∨ (n < 100 ∧ HR M2 (n + 1) B T ∧ Off (245 :: 140 :: 141 :: 146 :: HR_S) (0 :: HR_T) M M2 ∧ dp_I M2 140 = uI (dp_I M 140) n (-1) ∧ dp_I M2 141 = uI (dp_I M 141) n (-1) ∧ dp_I M2 146 = uI (dp_I M 146) n (nI n) ∧ ∀ k i, k ∈ [2, 3, 4, 5, 6, 7, 8, 9, 10] → i < n → dp_I M2 k i = dp_I M k i)) := by
  have h0 := h
  obtain ⟨a1, a2, a3, a4, a5, a6, a7, a8, a9, a10, a11, a12, a13, a14, a15, b1, b2, b3, b4, b5, b6, b7, b8, b9, b10, c1, c2, c3⟩ := h
  have cw40 : ((1 : Int64) ≤ v5.toInt64 ∧ v5.toInt64 ≤ (40 : Int64)) = wi v5 1 40 := wi_64 1 40 (by decide) (by decide)
  have cw9 : ((1 : Int64) ≤ v7.toInt64 ∧ v7.toInt64 ≤ (9 : Int64)) = wi v7 1 9 := wi_64 1 9 (by decide) (by decide)
  have ref : ∀ k : Int32, HR (dp_setI (dp_new M 0 0 6) 114 0 k) n B T ∧ Off [245] [0] M (dp_setI (dp_new M 0 0 6) 114 0 k) := fun k => ⟨(h0.refused hn k).1, (h0.refused hn k).2.1⟩
  by_cases g : qin v1 B ∧ qin v2 3 ∧ qin v3 6 ∧ qin v4 9 ∧ wi v5 1 40 ∧ qin v6 1001 ∧ wi v7 1 9
  case neg =>
    refine ⟨1, 0, dp_new M 0 0 6, dp_setI (dp_new M 0 0 6) 114 0 1, wL_box_x0 ?_, ?_, rfl, (fun e => by cases e), (h0.refused hn 1).2.2, Or.inl (ref 1)⟩
    · rw [D_X11_box_0_den, D_X11_box_0_eq, pc_bay a8 a3]
      simp only [q_win, rb_bi, ibz, q_nk hn, w_2, w_5, w_8, w_1000, cw40, cw9]
      by_cases z1 : qin v1 B
      case neg => rw [if_neg z1]
      rw [if_pos z1]
      by_cases z2 : qin v2 3
      case neg => rw [if_neg z2]
      rw [if_pos z2]
      by_cases z3 : qin v3 6
      case neg => rw [if_neg z3]
      rw [if_pos z3]
      by_cases z4 : qin v4 9
      case neg => rw [if_neg z4]
      rw [if_pos z4]
      by_cases z5 : wi v5 1 40
      case neg => rw [if_neg z5]
      rw [if_pos z5]
      by_cases z6 : qin v6 1001
      case neg => rw [if_neg z6]
      rw [if_pos z6, if_neg (fun q => g ⟨z1, z2, z3, z4, z5, z6, q⟩)]
    · rw [D_X12_box_0_den, D_X12_box_0_eq, pm_bay (n := B) (by rw [gIN (by omega)]; exact a9) a3]
      simp only [q_min, q_ref, rb_bi, ibz, w_2, w_5, w_8, w_1000, cw40, cw9]
      by_cases z1 : qin v1 B
      case neg => rw [if_neg z1]
      rw [if_pos z1]
      by_cases z2 : qin v2 3
      case neg => rw [if_neg z2]
      rw [if_pos z2]
      by_cases z3 : qin v3 6
      case neg => rw [if_neg z3]
      rw [if_pos z3]
      by_cases z4 : qin v4 9
      case neg => rw [if_neg z4]
      rw [if_pos z4]
      by_cases z5 : wi v5 1 40
      case neg => rw [if_neg z5]
      rw [if_pos z5]
      by_cases z6 : qin v6 1001
      case neg => rw [if_neg z6]
      rw [if_pos z6, if_neg (fun q => g ⟨z1, z2, z3, z4, z5, z6, q⟩)]
  obtain ⟨g1, g2, g3, g4, g5, g6, g7⟩ := g
  obtain ⟨L, hL⟩ : ∃ L, L = ct (lyf (dp_I M 8) (dp_I M 9) v1) n := ⟨_, rfl⟩
  obtain ⟨H, hH⟩ : ∃ H, H = ct (hbf (dp_I M 8) (dp_I M 9) v1 v2) n := ⟨_, rfl⟩
  have hLn : L ≤ n := by rw [hL]; exact ct_le _ _
  have hHn : H ≤ n := by rw [hH]; exact ct_le _ _
  obtain ⟨b, hb, rfl⟩ := qin_of g1 (by omega)
  obtain ⟨s, hs, rfl⟩ := qin_of g2 (by omega)
  have hL4 : L ≤ 4 := by rw [hL]; exact c2.2.2.2.2.1 b hb
  have hHT : H ≤ T := by rw [hH]; exact c2.2.2.2.1 b s hb hs
  have mg : ∀ N : dp_M, dp_I N 114 1 = nI B → dp_den true xs xl (d + 5) 374 [.ref 114, .int (nI b), .int (nI s), .int v3, .int v4, .int v5, .int v6, .int v7] N = dp_den true xs xl (d + 5) 374 [.ref 114, .int (nI b), .int (nI s), .int v3, .int v4, .int v5, .int v6, .int v7] N := fun N _ => rfl
  by_cases gr : n < 100 ∧ L < 4 ∧ H < T
  case neg =>
    refine ⟨2, 0, dp_new M 0 0 6, dp_setI (dp_new M 0 0 6) 114 0 2, wL_box_x1 ?_, ?_, rfl, (fun e => by cases e), (h0.refused hn 2).2.2, Or.inl (ref 2)⟩
    · rw [D_X11_box_0_den, D_X11_box_0_eq, pc_bay a8 a3]
      simp only [q_win, rb_bi, ibz, q_nk hn, w_2, w_5, w_8, w_1000, cw40, cw9, if_pos g1, if_pos g2, if_pos g3, if_pos g4, if_pos g5, if_pos g6, if_pos g7, a6]
      by_cases y1 : n < 100
      case neg => rw [if_pos (show (100 : Int32) ≤ nI (n) from nI_le (a := 100) (b := n) (by omega) (by omega))]
      rw [if_neg (show ¬ (100 : Int32) ≤ nI (n) from nI_ge (a := n) (b := 100) (by omega) (by omega)), hc_ly a6 a1, rb_bi, ← hL]
      by_cases y2 : L < 4
      case neg => rw [if_pos (show (4 : Int32) ≤ nI (L) from nI_le (a := 4) (b := L) (by omega) (by omega)), q_nk hn]
      rw [if_neg (show ¬ (4 : Int32) ≤ nI (L) from nI_ge (a := L) (b := 4) (by omega) (by omega)), hc_hgt a6 a1, rb_bi, ← hH, a10, if_neg (nI_nlt (by omega) (by omega)), q_nk hn]
    · have e3 : dp_I (dp_new M 0 0 6) 114 3 = nI n := by rw [gIN (by omega)]; exact a7
      have e2 : dp_I (dp_new M 0 0 6) 114 2 = nI T := by rw [gIN (by omega)]; exact a11
      have e116 : dp_I (dp_new M 0 0 6) 116 = dp_I M 8 := by rw [gIN (by omega)]; exact b2
      have e117 : dp_I (dp_new M 0 0 6) 117 = dp_I M 9 := by rw [gIN (by omega)]; exact b3
      rw [D_X12_box_0_den, D_X12_box_0_eq, pm_bay (n := B) (by rw [gIN (by omega)]; exact a9) a3]
      simp only [q_min, q_ref, rb_bi, ibz, w_2, w_5, w_8, w_1000, cw40, cw9, if_pos g1, if_pos g2, if_pos g3, if_pos g4, if_pos g5, if_pos g6, if_pos g7, e3]
      by_cases y1 : n < 100
      case neg => rw [if_pos (show nI n = 100 by rw [show n = 100 by omega]; rfl)]
      rw [if_neg (show ¬ nI (n) = (100 : Int32) from fun e => absurd ((nI_eq (a := n) (b := 100) (by omega) (by omega)).mp e) (by omega)), hm_ly e3 a1, rb_bi, e116, e117, ← hL]
      by_cases y2 : L < 4
      case neg => rw [if_pos (show nI L = 4 by rw [show L = 4 by omega]; rfl)]
      rw [if_neg (show ¬ nI (L) = (4 : Int32) from fun e => absurd ((nI_eq (a := L) (b := 4) (by omega) (by omega)).mp e) (by omega)), hm_hgt e3 a1, rb_bi, e116, e117, ← hH, e2, if_pos (show nI H = nI T by rw [show H = T by omega])]
  obtain ⟨y1, y2, y3⟩ := gr
  obtain ⟨p, hp, rfl⟩ := qin_of g3 (by omega)
  obtain ⟨so, hso, rfl⟩ := qin_of g4 (by omega)
  have hcl : dp_den true xs xl (d + 4) 264 [.ref 0, .int (nI b), .int (nI s), .int (nI p), .int (nI so), .int v5, .int v6, .int v7] M = iR (nI n) (bxC M n b (nI H) (nI s) (nI p) (nI so) v5 v6 v7) := by
    rw [D_X11_box_0_den, D_X11_box_0_eq, pc_bay a8 a3]
    simp only [q_win, rb_bi, ibz, w_2, w_5, w_8, w_1000, cw40, cw9, if_pos g1, if_pos g2, if_pos g3, if_pos g4, if_pos g5, if_pos g6, if_pos g7, a6]
    rw [if_neg (show ¬ (100 : Int32) ≤ nI (n) from nI_ge (a := n) (b := 100) (by omega) (by omega)), hc_ly a6 a1, rb_bi, ← hL, if_neg (show ¬ (4 : Int32) ≤ nI (L) from nI_ge (a := L) (b := 4) (by omega) (by omega)), hc_hgt a6 a1, rb_bi, ← hH, a10, if_pos (nI_lt y3 (by omega)), D_X2_add_0_den, D_X2_add_0_eq, a6]
    simp only [dp_w]
    rw [hc_hgt a6 a1, rb_bi, ← hH]
    simp only [nI_cl (show n < 2147483648 by omega), nI_o (show n < 100 by omega) (by omega), if_false, gII, glI, Nat.reduceEqDiff, a6, nI_1, a13, nI_cl (show b < 2147483648 by omega), nI_o hb (by omega), rb_bi]
    rfl
  obtain ⟨N, hN⟩ : ∃ N, N = dp_setJ (bxC M n b (nI H) (nI s) (nI p) (nI so) v5 v6 v7) 245 0 (nI n).toInt64 := ⟨_, rfl⟩
  have nI' : ∀ k, 11 ≤ k → k ≠ 25 → dp_I N k = dp_I M k := fun k h1 h2 => by
    rw [hN, gIJ]; unfold bxC; simp only [gII, if_neg h2, if_neg (show ¬ k = 1 by omega), if_neg (show ¬ k = 2 by omega), if_neg (show ¬ k = 3 by omega), if_neg (show ¬ k = 4 by omega), if_neg (show ¬ k = 5 by omega), if_neg (show ¬ k = 6 by omega), if_neg (show ¬ k = 7 by omega), if_neg (show ¬ k = 8 by omega), if_neg (show ¬ k = 9 by omega), if_neg (show ¬ k = 10 by omega)]
  have n114 := nI' 114 (by decide) (by decide)
  have n116 : dp_I N 116 = dp_I M 8 := by rw [nI' 116 (by decide) (by decide), b2]
  have n117 : dp_I N 117 = dp_I M 9 := by rw [nI' 117 (by decide) (by decide), b3]
  have hmo : dp_den true xs xl (d + 5) 374 [.ref 114, .int (nI b), .int (nI s), .int (nI p), .int (nI so), .int v5, .int v6, .int v7] N = iR (nI n) (bxM N n b (nI H) (nI s) (nI p) (nI so) v5 v6 v7) := by
    have e3 : dp_I N 114 3 = nI n := by rw [n114]; exact a7
    have e2 : dp_I N 114 2 = nI T := by rw [n114]; exact a11
    rw [D_X12_box_0_den, D_X12_box_0_eq, pm_bay (n := B) (by rw [n114]; exact a9) a3]
    simp only [q_min, rb_bi, ibz, w_2, w_5, w_8, w_1000, cw40, cw9, if_pos g1, if_pos g2, if_pos g3, if_pos g4, if_pos g5, if_pos g6, if_pos g7, e3]
    rw [if_neg (show ¬ nI (n) = (100 : Int32) from fun e => absurd ((nI_eq (a := n) (b := 100) (by omega) (by omega)).mp e) (by omega)), hm_ly e3 a1, rb_bi, n116, n117, ← hL, if_neg (show ¬ nI (L) = (4 : Int32) from fun e => absurd ((nI_eq (a := L) (b := 4) (by omega) (by omega)).mp e) (by omega)), hm_hgt e3 a1, rb_bi, n116, n117, ← hH, e2, if_neg (fun q => by rw [nI_eq (by omega) (by omega)] at q; omega)]
    simp only [dp_w, gII, Nat.reduceEqDiff, if_true, if_false, uI_n (show (3 : Nat) ≠ 0 by decide), e3, nI_cl (show n < 2147483648 by omega), nI_o (show n < 100 by omega) (by omega)]
    have eH : ct (hbf (uI (dp_I M 8) n (nI b)) (dp_I M 9) (nI b) (nI s)) n = H := by
      rw [hH]; exact ct_c (fun i hi => by unfold hbf; rw [uI_n (by omega)])
    rw [hm_hgt (n := n) (by simp [gII, gIJ, gIR, gJI, gJJ, gJR, gRI, gRJ, glI, glJ, glR, uI]; exact e3) a1, rb_bi]
    simp only [gII, Nat.reduceEqDiff, if_true, if_false, n116, n117, eH, uI_n (show (3 : Nat) ≠ 0 by decide), e3, nI_1, nI_cl (show b < 2147483648 by omega), nI_o (show b < 12 by omega) (by omega)]
    rfl
  obtain ⟨K, hK⟩ : ∃ K, K = bxM N n b (nI H) (nI s) (nI p) (nI so) v5 v6 v7 := ⟨_, rfl⟩
  obtain ⟨l3a, l3b⟩ := q_l3 hso
  rw [l3a] at l3b
  have row : ∀ k, dp_I K k = if k = 114 then uI (uI (dp_I M 114) 0 0) 3 (nI (n + 1)) else if k = 115 then uI (dp_I M 115) n (nI p) else if k = 116 then uI (dp_I M 116) n (nI b) else if k = 117 then uI (dp_I M 117) n (nI s) else if k = 118 then uI (dp_I M 118) n (nI H) else if k = 120 then uI (dp_I M 120) b 0 else if k = 135 then uI (dp_I M 135) n (nI (so % 3 + 1)) else if k = 136 then uI (dp_I M 136) n (nI (so / 3)) else if k = 137 then uI (dp_I M 137) n v5 else if k = 138 then uI (dp_I M 138) n v6 else if k = 139 then uI (dp_I M 139) n v7 else if k = 140 then uI (dp_I M 140) n (-1) else if k = 141 then uI (dp_I M 141) n (-1) else if k = 146 then uI (dp_I M 146) n (nI n) else if k = 1 then uI (dp_I M 1) 2 (nI (n + 1)) else if k = 2 then uI (dp_I M 2) n (nI p) else if k = 3 then uI (dp_I M 3) n (nI (so / 3)) else if k = 4 then uI (dp_I M 4) n (nI (so % 3 + 1)) else if k = 5 then uI (dp_I M 5) n v5 else if k = 6 then uI (dp_I M 6) n v6 else if k = 7 then uI (dp_I M 7) n v7 else if k = 8 then uI (dp_I M 8) n (nI b) else if k = 9 then uI (dp_I M 9) n (nI s) else if k = 10 then uI (dp_I M 10) n (nI H) else if k = 25 then uI (dp_I M 25) b (-1) else dp_I M k := fun k => by
    rw [hK, hN]; unfold bxM bxC
    simp only [gII, gIJ, l3b, l3a, Nat.reduceEqDiff, if_false]
    by_cases q : k ∈ [114, 115, 116, 117, 118, 120, 135, 136, 137, 138, 139, 140, 141, 146, 1, 2, 3, 4, 5, 6, 7, 8, 9, 10, 25]
    · simp only [List.mem_cons, List.not_mem_nil, or_false] at q
      rcases q with rfl | rfl | rfl | rfl | rfl | rfl | rfl | rfl | rfl | rfl | rfl | rfl | rfl | rfl | rfl | rfl | rfl | rfl | rfl | rfl | rfl | rfl | rfl | rfl | rfl <;> rfl
    · simp only [List.mem_cons, List.not_mem_nil, or_false, not_or] at q
      obtain ⟨q1, q2, q3, q4, q5, q6, q7, q8, q9, q10, q11, q12, q13, q14, q15, q16, q17, q18, q19, q20, q21, q22, q23, q24, q25⟩ := q
      simp only [if_neg q1, if_neg q2, if_neg q3, if_neg q4, if_neg q5, if_neg q6, if_neg q7, if_neg q8, if_neg q9, if_neg q10, if_neg q11, if_neg q12, if_neg q13, if_neg q14, if_neg q15, if_neg q16, if_neg q17, if_neg q18, if_neg q19, if_neg q20, if_neg q21, if_neg q22, if_neg q23, if_neg q24, if_neg q25]
  have len : dp_len K = dp_len M := by rw [hK, hN]; rfl
  refine ⟨0, nI n, _, K, wL_box_ok hcl, by rw [← hN, hK]; exact hmo, ?_, fun _ => ?_, ?_, Or.inr ⟨y1, ?_, ?_, ?_, ?_, ?_, ?_⟩⟩
  · rw [row 114]; rfl
  · rw [hK, hN]; unfold bxM; simp only [gJI, gJJ, if_true, uI_s]
  · rw [hK, hN]; exact ⟨Nat.le_add_right _ _, Nat.le_add_right _ _⟩
  · have r1 : dp_I K 1 = uI (dp_I M 1) 2 (nI (n + 1)) := row 1
    have r114 : dp_I K 114 = uI (uI (dp_I M 114) 0 0) 3 (nI (n + 1)) := row 114
    have r2 : dp_I K 2 = uI (dp_I M 2) n (nI p) := row 2
    have r3 : dp_I K 3 = uI (dp_I M 3) n (nI (so / 3)) := row 3
    have r4 : dp_I K 4 = uI (dp_I M 4) n (nI (so % 3 + 1)) := row 4
    have r5 : dp_I K 5 = uI (dp_I M 5) n v5 := row 5
    have r6 : dp_I K 6 = uI (dp_I M 6) n v6 := row 6
    have r7 : dp_I K 7 = uI (dp_I M 7) n v7 := row 7
    have r8 : dp_I K 8 = uI (dp_I M 8) n (nI b) := row 8
    have r9 : dp_I K 9 = uI (dp_I M 9) n (nI s) := row 9
    have r10 : dp_I K 10 = uI (dp_I M 10) n (nI H) := row 10
    have r12 : dp_I K 12 = dp_I M 12 := row 12
    have r25 : dp_I K 25 = uI (dp_I M 25) b (-1) := row 25
    have r26 : dp_I K 26 = dp_I M 26 := row 26
    have r27 : dp_I K 27 = dp_I M 27 := row 27
    have r120 : dp_I K 120 = uI (dp_I M 120) b 0 := row 120
    refine ⟨by omega, a2, a3, a4, a5, by rw [r1, uI_s], by rw [r114, uI_s], by rw [r1, uI_n (by decide)]; exact a8, by rw [r114, uI_n (by decide), uI_n (by decide)]; exact a9, by rw [r1, uI_n (by decide)]; exact a10, by rw [r114, uI_n (by decide), uI_n (by decide)]; exact a11, by rw [r1, r114, uI_n (by decide), uI_n (by decide), uI_n (by decide)]; exact a12, by rw [len]; exact a13, by rw [len]; exact a14, by rw [len]; exact a15, ?_, ?_, ?_, ?_, ?_, ?_, ?_, ?_, ?_, ?_, fun i hi => ?_, ?_, fun b' hb' => ?_⟩
    · rw [r2, ← b1]; exact row 115
    · rw [r8, ← b2]; exact row 116
    · rw [r9, ← b3]; exact row 117
    · rw [r10, ← b4]; exact row 118
    · rw [r12, ← b5]; exact row 119
    · rw [r3, ← b6]; exact row 136
    · rw [r4, ← b7]; exact row 135
    · rw [r5, ← b8]; exact row 137
    · rw [r6, ← b9]; exact row 138
    · rw [r7, ← b10]; exact row 139
    · rw [r3, r4, r5, r6, r7]
      by_cases z : i = n
      · subst z
        rw [uI_s, uI_s, uI_s, uI_s, uI_s]
        exact ⟨qin_nI (by omega) (by omega), wi_mk (by omega) (by omega) (by omega), g5, g6, g7⟩
      · rw [uI_n z, uI_n z, uI_n z, uI_n z, uI_n z]; exact c1 i (by omega)
    · rw [r2, r8, r9, r10, r12, hH]
      exact c2.add a3 hb hs hp y1 (by rw [← hH]; exact y3) (by rw [← hL]; exact y2)
    · by_cases z : b' = b
      · subst z
        exact Or.inl ⟨by rw [r120, uI_s], by rw [r25, uI_s]⟩
      · refine (c3 b' hb').mono (by rw [r120, uI_n z]) (by rw [r25, uI_n z]) (by rw [show dp_I K 121 = dp_I M 121 from row 121]) (by rw [r26]) (by rw [show dp_I K 122 = dp_I M 122 from row 122]) (fun i _ => by rw [r27]) (fun i _ => by rw [show dp_I K 123 = dp_I M 123 from row 123]) (fun i _ => by rw [show dp_I K 124 = dp_I M 124 from row 124]) (fun i _ => by rw [show dp_I K 125 = dp_I M 125 from row 125]) (fun mb mt k e => ?_)
        rw [r8, r9, r10, r12]
        refine PV_c (by omega) (fun i hi => by rw [uI_n (by omega)]) (fun i h1 h2 => ?_) (fun _ _ _ _ _ _ => rfl) k e _ _ _ _ (fun i hi _ => ⟨uI_n (by omega), uI_n (by omega)⟩)
        rw [show i = n by omega, uI_s, nI_eq (by omega) (by omega)]; omega
  · rw [hK, hN]; unfold bxM bxC
    repeat first | apply Off.F _ (by decide) | apply Off.I _ (by decide) | apply Off.J _ (by decide)
    exact Off.rr _ _ _
  · exact row 140
  · exact row 141
  · exact row 146
  · intro k i hk hi
    simp only [List.mem_cons, List.not_mem_nil, or_false] at hk
    have := row k
    rcases hk with rfl | rfl | rfl | rfl | rfl | rfl | rfl | rfl | rfl <;> (rw [this]; exact uI_n (by omega))
end HD
