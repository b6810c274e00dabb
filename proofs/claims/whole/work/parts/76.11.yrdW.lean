-- needs: 75
/-! HOLD and YARD: work -/
theorem HSt.move {n B T b x t : Nat} {port bay S D needs : Nat → Int32} (h : HSt n B T port bay S D needs) (hn : n ≤ 100) (hB : B ≤ 12) (hb : b < B) (hm : mvo bay needs n T b S D x t) : HSt n B T port bay (uI S x (nI t)) (mvD bay n b S D x t) needs := by
  obtain ⟨h1, h2, h3, h4, h5, h6, h7⟩ := h
  obtain ⟨m1, m2, m3, m4, m5, m6, m7, m8⟩ := hm
  have hc : ∀ b' s', ct (hbf bay (uI S x (nI t)) b' s') n + (if nI b = b' ∧ S x = s' then 1 else 0) = ct (hbf bay S b' s') n + (if nI b = b' ∧ nI t = s' then 1 else 0) := fun b' s' => by
    have e : hbf bay (uI S x (nI t)) b' s' = uI (hbf bay S b' s') x (decide (bay x = b' ∧ nI t = s')) := by
      funext i; unfold hbf uI; by_cases w : i = x <;> simp [w]
    have := ct_u (p := hbf bay S b' s') (v := decide (bay x = b' ∧ nI t = s')) n m1
    rw [e]
    simp only [hbf_t, decide_eq_true_eq, m2] at this ⊢
    exact this
  have hl : ∀ b', ct (lyf bay (uI S x (nI t)) b') n ≤ ct (lyf bay S b') n := fun b' => by
    refine ct_mono n (fun i hi q => ?_)
    obtain ⟨q1, q2⟩ := lyf_t.mp q
    rw [lyf_t]
    refine ⟨q1, ?_⟩
    by_cases w : i = x
    · subst w; exact m3
    · rw [uI_n w] at q2; exact q2
  have hcn : ∀ b' s', ct (hbf bay S b' s') n ≤ n := fun b' s' => ct_le _ _
  have dx : t < 3 → mvD bay n b S D x t x = nI (ct (hbf bay S (nI b) (nI t)) n) := fun q => by unfold mvD; rw [uI_s, if_pos q]
  have do' : ∀ i, i ≠ x → mvD bay n b S D x t i = D i := fun i q => uI_n q
  have lev : ∀ i s, i < n → i ≠ x → s < 3 → S i = nI s → bay i = nI b → S x = nI s → qin (D i) (ct (hbf bay S (nI b) (nI s)) n - 1) := fun i s hi hix hs e1 e2 e3 => by
    have q1 := qin_iff.mp ((h2 i hi s (by omega) e1).2 hs)
    rw [e2] at q1
    have q2 := m7 s hs e3
    have q3 : D i ≠ D x := fun q => hix (h3 i x s hi m1 hs (by rw [e2, m2]) e1 e3 q)
    have : (D i).toInt ≠ (ct (hbf bay S (nI b) (nI s)) n : Int) - 1 := fun q => by
      apply q3
      rw [q2, ← Int32.toInt_inj, q, q_pre (by have := hcn (nI b) (nI s); omega)]
    rw [qin_iff]
    omega
  refine ⟨fun i hi => ?_, fun i hi s hs e => ?_, fun i j s hi hj hs e1 e2 e3 e4 => ?_, fun b' s' hb' hs' => ?_, fun b' hb' => Nat.le_trans (hl _) (h5 b' hb'), h6, fun u v hv q => ?_⟩
  · by_cases w : i = x
    · subst w; rw [uI_s]; exact ⟨(h1 i hi).1, (h1 i hi).2.1, qin_nI m4 (by omega)⟩
    · rw [uI_n w]; exact h1 i hi
  · by_cases w : i = x
    · subst w
      rw [uI_s] at e
      have es : t = s := by rw [nI_eq (by omega) (by omega)] at e; exact e
      subst es
      refine ⟨fun q => by unfold mvD; rw [uI_s, if_neg (by omega)], fun q => ?_⟩
      rw [dx q, m2]
      have := hc (nI b) (nI t)
      rw [if_neg (fun z => m5 z.2), if_pos ⟨rfl, rfl⟩] at this
      have := hcn (nI b) (nI t)
      exact qin_nI (by omega) (by omega)
    · rw [uI_n w] at e
      rw [do' i w]
      refine ⟨(h2 i hi s hs e).1, fun q => ?_⟩
      have q1 := (h2 i hi s hs e).2 q
      have := hc (bay i) (nI s)
      by_cases z : nI b = bay i ∧ S x = nI s
      · rw [if_pos z, if_neg (fun y => m5 (by rw [y.2]; exact z.2))] at this
        have q2 := qin_iff.mp (lev i s hi w q e z.1.symm z.2)
        rw [z.1] at q2
        rw [qin_iff]; omega
      · rw [if_neg z] at this
        have q2 := qin_iff.mp q1
        rw [qin_iff]
        split at this <;> omega
  · have key : ∀ k, k < n → k ≠ x → bay k = nI b → S k = nI t → t < 3 → D k ≠ nI (ct (hbf bay S (nI b) (nI t)) n) := fun k hk kx e5 e6 ht q => by
      have := qin_iff.mp ((h2 k hk t (by omega) e6).2 ht)
      rw [e5, q, nI_toInt (by have := hcn (nI b) (nI t); omega)] at this
      omega
    by_cases w : i = x
    · by_cases y : j = x
      · omega
      · exfalso
        subst w
        rw [uI_s] at e2
        rw [uI_n y] at e3
        have es : t = s := by rw [nI_eq (by omega) (by omega)] at e2; exact e2
        subst es
        rw [dx hs, do' j y] at e4
        exact key j hj y (by rw [← e1, m2]) e3 hs e4.symm
    · by_cases y : j = x
      · exfalso
        subst y
        rw [uI_s] at e3
        rw [uI_n w] at e2
        have es : t = s := by rw [nI_eq (by omega) (by omega)] at e3; exact e3
        subst es
        rw [dx hs, do' i w] at e4
        exact key i hi w (by rw [e1, m2]) e2 hs e4
      · rw [uI_n w] at e2
        rw [uI_n y] at e3
        rw [do' i w, do' j y] at e4
        exact h3 i j s hi hj hs e1 e2 e3 e4
  · have := hc (nI b') (nI s')
    have q := h4 b' s' hb' hs'
    by_cases z : nI b = nI b' ∧ nI t = nI s'
    · rw [if_pos z] at this
      have e1 : t = s' := by have := z.2; rw [nI_eq (by omega) (by omega)] at this; exact this
      subst e1
      have := m6 hs'
      rw [z.1] at this
      omega
    · rw [if_neg z] at this; omega
  · obtain ⟨y1, y2, y3, y4⟩ := h7 u v hv q
    refine ⟨y1, y2, y3, fun w => ?_⟩
    by_cases z : u = x
    · subst z
      by_cases vx : v = u
      · subst vx; exact w
      · rw [uI_n vx] at w
        exact absurd (y4 w) m3
    · rw [uI_n z]
      by_cases vx : v = x
      · subst vx
        rw [uI_s] at w
        have t3 : t = 3 := by rw [show (3 : Int32) = nI 3 from rfl, nI_eq (by omega) (by omega)] at w; exact w
        exact m8 t3 u y1 (by rw [y3, m2]) q
      · rw [uI_n vx] at w; exact y4 w
theorem YI.stk {n W H G : Nat} {R L : Nat → Int32} {h : List (Nat × Int32)} {S S' st : Nat → Int32} (y : YI n W H G R L h S st) (e : ∀ i, i < n → S i = 3 → S' i = 3) : YI n W H G R L h S' st := by
  obtain ⟨a1, a2, a3, a4, a5, a6, a7, a8, a9, a10, a11, a12⟩ := y
  exact ⟨a1, a2, a3, a4, a5, a6, a7, a8, a9, a10, fun i hi q => ⟨e i hi (a11 i hi q).1, (a11 i hi q).2⟩, fun q hq => ⟨(a12 q hq).1, e _ (a12 q hq).1 (a12 q hq).2⟩⟩
/-- who is not ashore has not gone -/
def ZR (M : dp_M) (n : Nat) : Prop := ∀ i, i < 100 → (n ≤ i ∨ ¬ dp_I M 9 i = 3) → dp_I M 11 i = 0
theorem ZR_off {S T : List Nat} {M M' : dp_M} {n : Nat} (z : ZR M n) (o : Off S T M M') (h1 : 9 ∉ S) (h2 : 11 ∉ S) : ZR M' n := by
  unfold ZR at z ⊢
  rw [(o.1 9 (by decide) h1 (by decide)).1, (o.1 11 (by decide) h2 (by decide)).1]; exact z
def wkC (M : dp_M) (b x e : Nat) (t d : Int32) : dp_M := dp_setI (dp_setI (dp_setI (dp_setI M 10 x d) 9 x t) 26 b (nI (e + 1))) 1 3 (dp_I M 1 3 + 1)
def WK_S : List Nat := [245, 1, 9, 10, 26, 28, 29, 30, 31, 32, 33, 36, 117, 118, 122, 140, 141, 142, 143]
def WK_T : List Nat := [0, 9, 25, 26, 27, 37, 38]
section WA
variable {xs : Nat → Int32} {xl d : Nat} {C M : dp_M}
theorem hc_left {B b L e : Nat} (hB : B ≤ 12) (hb : b < B) (l25 : dp_len M 25 = B) (l26 : dp_len M 26 = B) (hL : L ≤ 16) (h1 : dp_I M 25 b = nI L) (h2 : dp_I M 26 b = nI e) (he : e ≤ L) : dp_den true xs xl (d + 1) 69 [.ref 1, .int (nI b)] M = iR (nI (L - e)) M := by
  rw [D_X2_movesLeft_0_den, D_X2_movesLeft_0_eq]
  simp only [nI_cl (show b < 2147483648 by omega), l25, l26, nI_o hb (by omega), if_false, h1, h2]
  rw [if_neg (m1_ne (by omega))]
  have : nI L - nI e = nI (L - e) := by
    have q : nI L = nI (L - e) + nI e := by rw [nI_add]; congr 1; omega
    rw [q, Int32.add_sub_cancel]
  rw [this]
theorem hc_wnext {n B T b L e x f t : Nat} (hn : n ≤ 100) (a6 : dp_I M 1 2 = nI n) (hB : B ≤ 12) (hb : b < B) (l26 : dp_len M 26 = B) (l27 : dp_len M 27 = B * 16) (hL : L ≤ 16) (he : e < L) (hx : x < 100) (hf : f < 7) (ht : t < 5) (h1 : dp_I M 27 (b * 16 + e) = nI (x * 64 + f * 8 + t)) (h2 : dp_I M 26 b = nI e) : dp_den true xs xl (d + 2) 70 [.ref 1, .int (nI b)] M = vR (wkC M b x e (nI t) (if t < 3 then nI (ct (hbf (dp_I M 8) (dp_I M 9) (nI b) (nI t)) n) else -1)) := by
  have p0 := hc_pm (xs := xs) (xl := xl) (d := d) (M := M) (B := B) (b := b) (i := e) (w := 0) (x := x) (f := f) (t := t) (e := e) hB hb (by omega) (by omega) hx hf ht (by omega) l26 l27 h1 h2
  have p2 := hc_pm (xs := xs) (xl := xl) (d := d) (M := M) (B := B) (b := b) (i := e) (w := 2) (x := x) (f := f) (t := t) (e := e) hB hb (by omega) (by omega) hx hf ht (by omega) l26 l27 h1 h2
  have p0' : dp_den true xs xl (d + 1) 68 [.ref 1, .int (nI b), .int (nI e), .int 0] M = iR (nI x) M := p0
  have p2' : dp_den true xs xl (d + 1) 68 [.ref 1, .int (nI b), .int (nI e), .int 2] M = iR (nI t) M := p2
  have t46 : ∀ v : Int32, D_X2_workNext_46 xs xl (d + 1) (nI b) (nI x) (nI t) v (nI x) M = vR (wkC M b x e (nI t) v) := fun v => by
    rw [D_X2_workNext_46_eq]
    simp only [nI_cl (show x < 2147483648 by omega), nI_o hx (by omega), nI_cl (show b < 2147483648 by omega), glI, l26, nI_o hb (by omega), if_false, dp_w, gII, Nat.reduceEqDiff, h2, nI_1]
    rfl
  rw [D_X2_workNext_0_den, D_X2_workNext_0_eq]
  simp only [nI_cl (show b < 2147483648 by omega), l26, nI_o hb (by omega), if_false, h2, p0', p2', rb_bi]
  by_cases z : t < 3
  · rw [if_neg (show ¬ (3 : Int32) ≤ nI (t) from nI_ge (a := t) (b := 3) (by omega) (by omega)), hc_hgt a6 hn, rb_bi, t46, if_pos z]
  · rw [if_pos (show (3 : Int32) ≤ nI (t) from nI_le (a := 3) (b := t) (by omega) (by omega)), t46, if_neg z]
theorem s_work {n B T : Nat} (hy : HY M n B T) (zr : ZR M n) (hn : 246 ≤ dp_n M) (v1 : Int32) : ∃ k b M1 M2, dp_den true xs xl (d + 7) 598 [.ref 0, .int v1, .ref 245] M = iR k M1 ∧ dp_den true xs xl (d + 7) 389 [.ref 114, .int v1] M1 = iR b M2 ∧
    dp_I M2 114 0 = k ∧ (k = 0 → dp_J M2 245 0 = b.toInt64) ∧ HY M2 n B T ∧ ZR M2 n ∧ Off WK_S WK_T M M2 ∧ Cst 1 6 M M2 := by
  obtain ⟨hr, W, H, G, R, L, h, m, cy, my, yi, e144, ygr⟩ := hy
  have hy : HY M n B T := ⟨hr, W, H, G, R, L, h, m, cy, my, yi, e144, ygr⟩
  have yi0 := yi
  obtain ⟨i1, i2, i3, i4, i5, i6, i7, i8, i9, i10, i11, i12⟩ := yi
  obtain ⟨r1, r2, r3, r4, r5, r6⟩ := hr.rows
  have hr0 := hr
  obtain ⟨a1, a2, a3, a4, a5, a6, a7, a8, a9, a10, a11, a12, a13, a14, a15, b1, b2, b3, b4, b5, b6, b7, b8, b9, b10, f1, f2, f3⟩ := hr
  have rfs : ∀ k : Int32, HY (dp_setI (dp_new M 0 0 6) 114 0 k) n B T ∧ ZR (dp_setI (dp_new M 0 0 6) 114 0 k) n ∧ Off WK_S WK_T M (dp_setI (dp_new M 0 0 6) 114 0 k) ∧ Cst 1 6 M (dp_setI (dp_new M 0 0 6) 114 0 k) := fun k => by
    obtain ⟨q1, q2, q3⟩ := hy.refused hn k
    exact ⟨q1, ZR_off zr q2 (by decide) (by decide), q2.mono (by decide) (by decide), q3⟩
  by_cases g : qin v1 B
  case neg =>
    refine ⟨1, 0, dp_new M 0 0 6, _, wL_work_x0 ?_, ?_, rfl, (fun e => by cases e), rfs 1⟩
    · rw [D_X11_work_0_den, D_X11_work_0_eq, pc_bay a8 a3, rb_bi, ibz, if_neg g, q_nk hn]
    · rw [D_X12_work_0_den, D_X12_work_0_eq, pm_bay (n := B) (by rw [gIN (by omega)]; exact a9) a3, rb_bi, ibz, if_neg g, q_ref, rb_bi]
  have g' := g
  obtain ⟨b, hb, rfl⟩ := qin_of g (by omega)
  rcases f3 b hb with ⟨p1, p2⟩ | ⟨p1, LL, e, q1, q2, q3, q4, q5, q6, mb, mf, mt, q7, q8⟩
  · refine ⟨2, 0, dp_new M 0 0 6, _, wL_work_x1 ?_, ?_, rfl, (fun e => by cases e), rfs 2⟩
    · rw [D_X11_work_0_den, D_X11_work_0_eq, pc_bay a8 a3, rb_bi, ibz, if_pos g', D_X2_movesLeft_0_den, D_X2_movesLeft_0_eq]
      simp only [nI_cl (show b < 2147483648 by omega), a13, nI_o hb (by omega), if_false, p2, if_true, rb_bi]
      rw [if_neg (by decide), q_nk hn]
    · rw [D_X12_work_0_den, D_X12_work_0_eq, pm_bay (n := B) (by rw [gIN (by omega)]; exact a9) a3, rb_bi, ibz, if_pos g']
      simp only [nI_cl (show b < 2147483648 by omega), nI_o (show b < 12 by omega) (by omega), if_false, gIN (show 120 < dp_n M by omega), p1, if_true, q_ref, rb_bi]
  by_cases ge : e < LL
  case neg =>
    refine ⟨2, 0, dp_new M 0 0 6, _, wL_work_x1 ?_, ?_, rfl, (fun e => by cases e), rfs 2⟩
    · rw [D_X11_work_0_den, D_X11_work_0_eq, pc_bay a8 a3, rb_bi, ibz, if_pos g', hc_left a3 hb a13 a14 q2 q3 q5 q1, rb_bi, show LL - e = 0 by omega, if_neg (by decide), q_nk hn]
    · rw [D_X12_work_0_den, D_X12_work_0_eq, pm_bay (n := B) (by rw [gIN (by omega)]; exact a9) a3, rb_bi, ibz, if_pos g']
      simp only [nI_cl (show b < 2147483648 by omega), nI_o (show b < 12 by omega) (by omega), if_false, gIN (show 120 < dp_n M by omega), gIN (show 121 < dp_n M by omega), gIN (show 122 < dp_n M by omega), p1, if_neg one_ne, q4, q6, q_ref, rb_bi]
      rw [if_pos (show nI e = nI LL by rw [show e = LL by omega])]
  obtain ⟨u1, u2, u3, u4, u5, u6, u7⟩ := q7 e ge
  obtain ⟨x, hx0⟩ : ∃ x, x = mb e := ⟨_, rfl⟩
  obtain ⟨t, ht0⟩ : ∃ t, t = mt e := ⟨_, rfl⟩
  rw [← hx0] at u1 u4 u5
  rw [← ht0] at u3 u4 u7
  have hpv : PV (dp_I M 8) (dp_I M 12) n T b mb mt (LL - (e + 1) + 1) e (dp_I M 9) (dp_I M 10) := by rw [show LL - (e + 1) + 1 = LL - e by omega]; exact q8
  obtain ⟨pm, pr⟩ := hpv
  rw [← hx0, ← ht0] at pm pr
  have hx := pm.1
  have sx : ¬ dp_I M 9 x = 3 := pm.2.2.1
  have Rx : R x = -1 := Classical.byContradiction (fun q => sx (i11 x hx q).1)
  have stx : dp_I M 11 x = 0 := zr x (by omega) (Or.inr sx)
  have c0 := hc_pm (xs := xs) (xl := xl) (d := d + 4) (M := M) (B := B) (b := b) (i := e) (w := 0) (x := x) (f := mf e) (t := t) (e := e) a3 hb (by omega) (by omega) u1 u2 u3 (by omega) a14 a15 u4 q5
  have c2 := hc_pm (xs := xs) (xl := xl) (d := d + 4) (M := M) (B := B) (b := b) (i := e) (w := 2) (x := x) (f := mf e) (t := t) (e := e) a3 hb (by omega) (by omega) u1 u2 u3 (by omega) a14 a15 u4 q5
  have c0' : dp_den true xs xl (d + 5) 68 [.ref 1, .int (nI b), .int (nI e), .int 0] M = iR (nI x) M := c0
  have c2' : dp_den true xs xl (d + 5) 68 [.ref 1, .int (nI b), .int (nI e), .int 2] M = iR (nI t) M := c2
  obtain ⟨w, w1, w2⟩ := yc_best (xs := xs) (xl := xl) (d := d + 1) cy i9 i7 hx i2 i4 i6 r6
  obtain ⟨v, hv⟩ : ∃ v : Int32, v = if t = 3 then w else 0 := ⟨_, rfl⟩
  have hc1 : dp_den true xs xl (d + 6) 268 [.ref 0, .int (nI b)] M = D_X11_work_90 xs xl (d + 5) (nI b) (nI e) (nI x) (nI t) v M := by
    rw [D_X11_work_0_den, D_X11_work_0_eq, pc_bay a8 a3, rb_bi, ibz, if_pos g', hc_left a3 hb a13 a14 q2 q3 q5 q1, rb_bi, if_pos (show (0 : Int32) < nI (LL - e) from nI_lt (a := 0) (by omega) (by omega))]
    simp only [nI_cl (show b < 2147483648 by omega), a14, nI_o hb (by omega), if_false, q5, dp_w, c0', c2', rb_bi]
    rw [hv]
    by_cases z : t = 3
    · rw [if_pos (show nI t = 3 by rw [z]; rfl), if_pos z, w1, rb_bi]
    · rw [if_neg (show ¬ nI (t) = (3 : Int32) from fun e => absurd ((nI_eq (a := t) (b := 3) (by omega) (by omega)).mp e) (by omega)), if_neg z]
  -- the model to the same place
  have hm1 : ∀ N : dp_M, Off HY_S HY_T M N ∨ Off WK_S WK_T M N → MY N n W H G R L h m → (∀ k, k ∈ [116, 117, 120, 121, 122, 123, 125, 133, 134, 135, 136, 137, 138, 139] → dp_I N k = dp_I M k) → dp_I N 114 1 = nI B → dp_I N 114 3 = nI n → dp_den true xs xl (d + 7) 389 [.ref 114, .int (nI b)] N = D_X12_work_91 xs xl (d + 6) (nI b) (nI (b * 40 + e)) (nI x) (nI t) v (dp_setI N 114 0 0) := fun N _ mn ek eb en => by
    have mn2 : MY (dp_setI N 114 0 0) n W H G R L h m := MY_off mn ((Off.rr [] [0] N).F 0 (by decide) 0) (by decide) (by decide)
    have n3' : dp_I (dp_setI N 114 0 0) 114 3 = nI n := by rw [gII, if_pos rfl, uI_n (by decide)]; exact en
    have ek2 : ∀ k, k ∈ [116, 117, 120, 121, 122, 123, 125, 133, 134, 135, 136, 137, 138, 139] → dp_I (dp_setI N 114 0 0) k = dp_I M k := fun k hk => by
      rw [gII, if_neg (by simp only [List.mem_cons, List.not_mem_nil, or_false] at hk; omega)]; exact ek k hk
    rw [D_X12_work_0_den, D_X12_work_0_eq, pm_bay eb a3, rb_bi, ibz, if_pos g']
    simp only [nI_cl (show b < 2147483648 by omega), nI_o (show b < 12 by omega) (by omega), if_false, ek 120 (by decide), ek 121 (by decide), ek 122 (by decide), p1, if_neg one_ne, q4, q6, dp_w, ek2 122 (by decide), t_40', nI_cl (show b * 40 + e < 2147483648 by omega), nI_o (show b * 40 + e < 480 by omega) (by omega), ek2 123 (by decide), ek2 125 (by decide), u5, u7]
    rw [if_neg (fun q => by rw [nI_eq (by omega) (by omega)] at q; omega), hv]
    by_cases z : t = 3
    · obtain ⟨w', w1', w2'⟩ := ym_best (xs := xs) (xl := xl) (d := d + 2) mn2 i9 n3' i7 hx i2 i4 i6 (fun r hr1 => by rw [ek2 134 (by decide), (ygr r hr1).2.1]; exact (ygr r hr1).2.2) (fun r hr1 => cy.lvl hr1) (by rw [ek2 137 (by decide), r1]; exact r6)
      rw [ek2 137 (by decide), ek2 135 (by decide), ek2 139 (by decide), ek2 136 (by decide), ek2 133 (by decide), ek2 134 (by decide), ek2 138 (by decide), r1, r2, r3, r4, r5] at w2'
      have ew : w' = w := bsV_u (bsV_c (fun r hr1 => ok1_c (ygr r hr1).1 (ygr r hr1).2.1) (fun r hr1 => scr_c (ygr r hr1).2.1) w2') w2
      rw [if_pos (show nI t = 3 by rw [z]; rfl), if_pos z, w1', rb_bi, ew]
    · rw [if_neg (show ¬ nI (t) = (3 : Int32) from fun e => absurd ((nI_eq (a := t) (b := 3) (by omega) (by omega)).mp e) (by omega)), if_neg z]
  by_cases gv : v = -1
  · obtain ⟨l1, l2, l3⟩ := hy.looked ((-1 : Int32).toInt64)
    refine ⟨0, -1, _, dp_setI (dp_setJ M 245 0 (-1 : Int32).toInt64) 114 0 0, wL_work_ok (by rw [hc1, D_X11_work_90_eq, if_pos gv]), ?_, by simp [gII, uI], fun _ => by simp [gJI, gJJ, uI], l1, ZR_off zr l2 (by decide) (by decide), l2.mono (by decide) (by decide), l3⟩
    have oN : Off HY_S HY_T M (dp_setJ M 245 0 (-1 : Int32).toInt64) := (Off.rr _ _ M).J 245 (by decide) 0 _
    rw [hm1 _ (Or.inl oN) (MY_off my ((Off.rr [245] [] M).J 245 (by decide) 0 _) (by decide) (by decide)) (fun k _ => by rw [gIJ]) (by rw [gIJ]; exact a9) (by rw [gIJ]; exact a7), D_X12_work_91_eq, gv, if_neg (by decide)]
  obtain ⟨dv, hdv⟩ : ∃ dv : Int32, dv = if t < 3 then nI (ct (hbf (dp_I M 8) (dp_I M 9) (nI b) (nI t)) n) else -1 := ⟨_, rfl⟩
  obtain ⟨C1, hC1⟩ : ∃ C1, C1 = wkC M b x e (nI t) dv := ⟨_, rfl⟩
  have hwn := hc_wnext (xs := xs) (xl := xl) (d := d + 3) (M := M) (T := T) a1 a6 a3 hb a14 a15 q2 ge u1 u2 u3 u4 q5
  rw [← hdv, ← hC1] at hwn
  have oC1 : Off WK_S WK_T M C1 := by rw [hC1]; exact ((((Off.rr _ _ M).I 10 (by decide) _ _).I 9 (by decide) _ _).I 26 (by decide) _ _).I 1 (by decide) _ _
  have oC1' : Off [1, 9, 10, 26] [] M C1 := by rw [hC1]; exact ((((Off.rr _ _ M).I 10 (by decide) _ _).I 9 (by decide) _ _).I 26 (by decide) _ _).I 1 (by decide) _ _
  have k9 : dp_I C1 9 = uI (dp_I M 9) x (nI t) := by rw [hC1]; unfold wkC; simp only [gII, Nat.reduceEqDiff, if_false, if_true]
  have k10 : dp_I C1 10 = uI (dp_I M 10) x dv := by rw [hC1]; unfold wkC; simp only [gII, Nat.reduceEqDiff, if_false, if_true]
  have k26 : dp_I C1 26 = uI (dp_I M 26) b (nI (e + 1)) := by rw [hC1]; unfold wkC; simp only [gII, Nat.reduceEqDiff, if_false, if_true]
  have k1 : dp_I C1 1 = uI (dp_I M 1) 3 (dp_I M 1 3 + 1) := by rw [hC1]; unfold wkC; simp only [gII, Nat.reduceEqDiff, if_false, if_true]
  have yi1 : YI n W H G R L h (uI (dp_I M 9) x (nI t)) (dp_I M 11) := yi0.stk (fun i hi q => by rw [uI_n (fun z => by subst z; exact sx q)]; exact q)
  -- the answer
  have ans : ∀ N : dp_M, dp_len N 25 = B → dp_len N 26 = B → dp_I N 25 b = nI LL → dp_I N 26 b = nI (e + 1) → dp_den true xs xl (d + 5) 69 [.ref 1, .int (nI b)] N = iR (nI (LL - (e + 1))) N := fun N n1 n2 n3 n4 => hc_left a3 hb n1 n2 q2 n3 n4 (by omega)
  -- the class's way, the model's way
  have both : ∃ C', (∀ rr, dp_bi (dp_den true xs xl (d + 5) 69 [.ref 1, .int (nI b)] C') (fun r4 M3 => iR r4 M3) = some rr → D_X11_work_90 xs xl (d + 5) (nI b) (nI e) (nI x) (nI t) v M = some rr) ∧ Off CY_S [] C1 C' ∧ Cst 0 0 C1 C' ∧ ∃ (R' L' : Nat → Int32) (h' : List (Nat × Int32)) (m' : Int32), CY C' n W H G R' L' h' m' ∧ YI n W H G R' L' h' (uI (dp_I M 9) x (nI t)) (dp_I M 11) ∧
      ∀ N : dp_M, MY N n W H G R L h m → dp_I N 114 3 = nI n → ∃ N', (∀ rr, D_X12_work_144 xs xl (d + 6) (nI b) (nI (b * 40 + e)) (nI x) (nI t) v N' = some rr → (if nI t = 3 then dp_bv (dp_den true xs xl (d + 6) 409 [.ref 114, .int (nI x), .int v] N) (fun M3 => D_X12_work_144 xs xl (d + 6) (nI b) (nI (b * 40 + e)) (nI x) (nI t) v M3) else D_X12_work_144 xs xl (d + 6) (nI b) (nI (b * 40 + e)) (nI x) (nI t) v N) = some rr) ∧ MY N' n W H G R' L' h' m' ∧ Off MY_S MY_T N N' ∧ Cst 0 0 N N' := by
    have cy1 : CY C1 n W H G R L h m := CY_off cy oC1' (by decide)
    by_cases z : t = 3
    · have ev : v = w := by rw [hv, if_pos z]
      obtain ⟨r, e1, -, e2, e3⟩ := (bsV_ok w2).resolve_left (fun q => gv (by rw [ev, q]))
      have gg : goO n W H R L x (nI r) := goO.of0 i9 hx i2 Rx e2 (brk_0 (ok1_t.mp e3)).1
      have z3 : nI t = (3 : Int32) := by rw [z]; rfl
      obtain ⟨C', c1, c2, c3, c4⟩ := yc_bring (xs := xs) (xl := xl) (d := d + 3) cy1 yi1 gg
      refine ⟨C', fun rr hrr => ?_, c3, c4, _, _, _, _, c2, yi1.go gg (by rw [uI_s]; exact z3) stx, fun N mn en => ?_⟩
      · rw [D_X11_work_90_eq, if_neg gv, hwn, rb_bv, if_pos z3, ev, e1, c1, rb_bv]; exact hrr
      · obtain ⟨N', s1, s2, s3, s4⟩ := ym_goes (xs := xs) (xl := xl) (d := d + 3) mn en i7 i2 i8 gg (Or.inr (by rw [Rx]; exact fun q => m1_ne (r := r) (by omega) q.symm))
        refine ⟨N', fun rr hrr => ?_, s2, s3, s4⟩
        rw [if_pos z3]
        rw [ev, e1] at hrr ⊢
        rw [s1, rb_bv]; exact hrr
    · have z3 : ¬ nI t = (3 : Int32) := (show ¬ nI (t) = (3 : Int32) from fun e => absurd ((nI_eq (a := t) (b := 3) (by omega) (by omega)).mp e) (by omega))
      refine ⟨C1, fun rr hrr => ?_, Off.rr _ _ _, Cst.r _, R, L, h, m, cy1, yi1, fun N mn en => ⟨N, fun rr hrr => ?_, mn, Off.rr _ _ _, Cst.r _⟩⟩
      · rw [D_X11_work_90_eq, if_neg gv, hwn, rb_bv, if_neg z3]; exact hrr
      · rw [if_neg z3]; exact hrr
  obtain ⟨C', cA, cO, cC, R', L', h', m', cy2, yi2, mdl⟩ := both
  have oC : Off WK_S WK_T M C' := oC1.tr (cO.mono (by decide) (by decide))
  have kk : ∀ k, k < 246 → k ∉ CY_S → k ≠ 114 → dp_I C' k = dp_I C1 k := fun k h1 h2 h3 => (cO.1 k h1 h2 h3).1
  have k25 : dp_I C' 25 = dp_I M 25 := (oC.1 25 (by decide) (by decide) (by decide)).1
  have hcl : dp_den true xs xl (d + 6) 268 [.ref 0, .int (nI b)] M = iR (nI (LL - (e + 1))) C' := by
    rw [hc1]
    refine cA _ ?_
    rw [ans C' (by rw [oC.2.2.1 25 (by decide)]; exact a13) (by rw [oC.2.2.1 26 (by decide)]; exact a14) (by rw [k25]; exact q3) (by rw [kk 26 (by decide) (by decide) (by decide), k26, uI_s]), rb_bi]
  obtain ⟨N0, hN0⟩ : ∃ N0, N0 = dp_setI (dp_setJ C' 245 0 (nI (LL - (e + 1))).toInt64) 114 0 0 := ⟨_, rfl⟩
  have oN0 : Off [245] [0] C' N0 := by rw [hN0]; exact ((Off.rr _ _ C').J 245 (by decide) 0 _).F 0 (by decide) 0
  have oJ : Off WK_S WK_T M (dp_setJ C' 245 0 (nI (LL - (e + 1))).toInt64) := oC.J 245 (by decide) 0 _
  have o0 : Off WK_S WK_T M N0 := oC.tr (oN0.mono (by decide) (by decide))
  have m0 : ∀ k, k < 246 → 100 < k → k ≠ 114 → k ≠ 245 → dp_I N0 k = dp_I M k := fun k h1 h2 h3 h4 => by
    rw [(oN0.1 k h1 (by simp only [List.mem_cons, List.not_mem_nil, or_false]; exact h4) h3).1, (cO.1 k h1 (by simp only [CY_S, List.mem_cons, List.not_mem_nil, or_false]; omega) h3).1, (oC1'.1 k h1 (by simp only [List.mem_cons, List.not_mem_nil, or_false]; omega) h3).1]
  have my0 : MY N0 n W H G R L h m := MY_off (MY_off (MY_off my oC1' (by decide) (by decide)) cO (by decide) (by decide)) oN0 (by decide) (by decide)
  have myJ : MY (dp_setJ C' 245 0 (nI (LL - (e + 1))).toInt64) n W H G R L h m := MY_off (MY_off (MY_off my oC1' (by decide) (by decide)) cO (by decide) (by decide)) ((Off.rr [245] [] C').J 245 (by decide) 0 _) (by decide) (by decide)
  have f0 : ∀ i, i ≠ 0 → dp_I N0 114 i = dp_I M 114 i := fun i hi => by
    rw [(oN0.2.1 i (by simp only [List.mem_cons, List.not_mem_nil, or_false]; exact hi)).1, (cO.2.1 i (by simp)).1, (oC1'.2.1 i (by simp)).1]
  obtain ⟨N1, hN1⟩ : ∃ N1, N1 = dp_setI (dp_setI N0 118 x dv) 117 x (nI t) := ⟨_, rfl⟩
  have oN1 : Off [117, 118] [] N0 N1 := by rw [hN1]; exact ((Off.rr _ _ N0).I 118 (by decide) _ _).I 117 (by decide) _ _
  obtain ⟨N2, n1, n2, n3, n4⟩ := mdl N1 (MY_off my0 oN1 (by decide) (by decide)) (by rw [(oN1.2.1 3 (by simp)).1, f0 3 (by decide)]; exact a7)
  obtain ⟨K, hK⟩ : ∃ K, K = dp_setI (dp_setI N2 122 b (nI (e + 1))) 114 9 (dp_I M 1 3 + 1) := ⟨_, rfl⟩
  have n122 : dp_I N2 122 = dp_I M 122 := by rw [(n3.1 122 (by decide) (by decide) (by decide)).1, (oN1.1 122 (by decide) (by decide) (by decide)).1]; exact m0 122 (by decide) (by decide) (by decide) (by decide)
  have n121 : dp_I N2 121 = dp_I M 121 := by rw [(n3.1 121 (by decide) (by decide) (by decide)).1, (oN1.1 121 (by decide) (by decide) (by decide)).1]; exact m0 121 (by decide) (by decide) (by decide) (by decide)
  have n9 : dp_I N2 114 9 = dp_I M 1 3 := by rw [(n3.2.1 9 (by decide)).1, (oN1.2.1 9 (by simp)).1, f0 9 (by decide)]; exact a12
  have hsub : nI LL - nI (e + 1) = nI (LL - (e + 1)) := by
    have q : nI LL = nI (LL - (e + 1)) + nI (e + 1) := by rw [nI_add]; congr 1; omega
    rw [q, Int32.add_sub_cancel]
  have h144 : D_X12_work_144 xs xl (d + 6) (nI b) (nI (b * 40 + e)) (nI x) (nI t) v N2 = iR (nI (LL - (e + 1))) K := by
    rw [D_X12_work_144_eq]
    simp only [nI_cl (show b < 2147483648 by omega), nI_o (show b < 12 by omega) (by omega), if_false, dp_w, gII, Nat.reduceEqDiff, if_true, n122, n121, q6, q4, nI_1, uI_s, n9, hsub, hK]
  have v0 : (0 : Int32) ≤ v := by
    rw [hv]
    by_cases z : t = 3
    · rw [if_pos z]
      obtain ⟨r, e1, -, e2, e3⟩ := (bsV_ok w2).resolve_left (fun q => gv (by rw [hv, if_pos z, q]))
      rw [e1]; exact nI_le (a := 0) (b := r) (by omega) (by omega)
    · rw [if_neg z]; decide
  have hmo : dp_den true xs xl (d + 7) 389 [.ref 114, .int (nI b)] (dp_setJ C' 245 0 (nI (LL - (e + 1))).toInt64) = iR (nI (LL - (e + 1))) K := by
    rw [hm1 _ (Or.inr oJ) myJ (fun k hk => by
      simp only [List.mem_cons, List.not_mem_nil, or_false] at hk
      have := m0 k (by omega) (by omega) (by omega) (by omega)
      rw [hN0, gII, if_neg (by omega)] at this
      exact this) (by have := f0 1 (by decide); rw [hN0, gII, if_pos rfl, uI_n (by decide)] at this; rw [this]; exact a9) (by have := f0 3 (by decide); rw [hN0, gII, if_pos rfl, uI_n (by decide)] at this; rw [this]; exact a7), ← hN0, D_X12_work_91_eq, if_pos v0]
    have n144 := n1 _ h144
    by_cases z : t < 3
    · rw [if_neg (show ¬ (3 : Int32) ≤ nI (t) from nI_ge (a := t) (b := 3) (by omega) (by omega)), hm_hgt (n := n) (by rw [f0 3 (by decide)]; exact a7) a1, rb_bi, m0 116 (by decide) (by decide) (by decide) (by decide), m0 117 (by decide) (by decide) (by decide) (by decide), b2, b3]
      simp only [nI_cl (show x < 2147483648 by omega), nI_o (show x < 100 by omega) (by omega), if_false, dp_w]
      rw [if_pos z] at hdv
      rw [← hdv, ← hN1]
      exact n144
    · rw [if_pos (show (3 : Int32) ≤ nI (t) from nI_le (a := 3) (b := t) (by omega) (by omega))]
      simp only [nI_cl (show x < 2147483648 by omega), nI_o (show x < 100 by omega) (by omega), if_false, dp_w]
      rw [if_neg z] at hdv
      rw [← hdv, ← hN1]
      exact n144
  have oN2 : Off WK_S WK_T M N2 := (o0.tr (oN1.mono (by decide) (by decide))).tr (n3.mono (by decide) (by decide))
  have oK : Off WK_S WK_T M K := by rw [hK]; exact (oN2.I 122 (by decide) _ _).F 9 (by decide) _
  have ko : ∀ k, k < 246 → k ∉ WK_S → k ≠ 114 → dp_I K k = dp_I M k := fun k h1 h2 h3 => (oK.1 k h1 h2 h3).1
  have kc : ∀ k, k < 100 → k ∉ CY_S → dp_I K k = dp_I C1 k := fun k h1 h2 => by
    have e1 : dp_I K k = dp_I N2 k := by rw [hK, gII, if_neg (by omega), gII, if_neg (by omega)]
    rw [e1, (n3.1 k (by omega) (by simp only [MY_S, List.mem_cons, List.not_mem_nil, or_false]; omega) (by omega)).1, (oN1.1 k (by omega) (by simp only [List.mem_cons, List.not_mem_nil, or_false]; omega) (by omega)).1, (oN0.1 k (by omega) (by simp only [List.mem_cons, List.not_mem_nil, or_false]; omega) (by omega)).1, (cO.1 k (by omega) h2 (by omega)).1]
  have K9 : dp_I K 9 = uI (dp_I M 9) x (nI t) := by rw [kc 9 (by decide) (by decide), k9]
  have K10 : dp_I K 10 = uI (dp_I M 10) x dv := by rw [kc 10 (by decide) (by decide), k10]
  have K26 : dp_I K 26 = uI (dp_I M 26) b (nI (e + 1)) := by rw [kc 26 (by decide) (by decide), k26]
  have K1 : dp_I K 1 = uI (dp_I M 1) 3 (dp_I M 1 3 + 1) := by rw [kc 1 (by decide) (by decide), k1]
  have K117 : dp_I K 117 = uI (dp_I M 117) x (nI t) := by
    rw [hK]; simp only [gII, Nat.reduceEqDiff, if_false]
    rw [(n3.1 117 (by decide) (by decide) (by decide)).1, hN1, gII, if_pos rfl, gII, if_neg (by decide), m0 117 (by decide) (by decide) (by decide) (by decide)]
  have K118 : dp_I K 118 = uI (dp_I M 118) x dv := by
    rw [hK]; simp only [gII, Nat.reduceEqDiff, if_false]
    rw [(n3.1 118 (by decide) (by decide) (by decide)).1, hN1, gII, if_neg (by decide), gII, if_pos rfl, m0 118 (by decide) (by decide) (by decide) (by decide)]
  have K122 : dp_I K 122 = uI (dp_I M 122) b (nI (e + 1)) := by rw [hK]; simp only [gII, Nat.reduceEqDiff, if_false, if_true, n122]
  have Kw : dp_I K 114 9 = dp_I M 1 3 + 1 := by rw [hK]; simp only [gII, if_true, uI_s]
  have Kf : ∀ i, i ∈ [1, 2, 3] → dp_I K 114 i = dp_I M 114 i := fun i hi => (oK.2.1 i (by simp only [WK_T, List.mem_cons, List.not_mem_nil, or_false] at hi ⊢; omega)).1
  have Kl : ∀ k, k < 246 → dp_len K k = dp_len M k := oK.2.2.1
  have edv : uI (dp_I M 10) x dv = mvD (dp_I M 8) n b (dp_I M 9) (dp_I M 10) x t := by rw [hdv]; rfl
  have hrK : HR K n B T := by
    refine ⟨a1, a2, a3, a4, a5, by rw [K1, uI_n (by decide)]; exact a6, by rw [Kf 3 (by decide)]; exact a7, by rw [K1, uI_n (by decide)]; exact a8, by rw [Kf 1 (by decide)]; exact a9, by rw [K1, uI_n (by decide)]; exact a10, by rw [Kf 2 (by decide)]; exact a11, by rw [Kw, K1, uI_s], by rw [Kl 25 (by decide)]; exact a13, by rw [Kl 26 (by decide)]; exact a14, by rw [Kl 27 (by decide)]; exact a15, ?_, ?_, by rw [K117, K9, b3], by rw [K118, K10, b4], ?_, ?_, ?_, ?_, ?_, ?_, ?_, ?_, fun b' hb' => ?_⟩
    · rw [ko 115 (by decide) (by decide) (by decide), ko 2 (by decide) (by decide) (by decide)]; exact b1
    · rw [ko 116 (by decide) (by decide) (by decide), ko 8 (by decide) (by decide) (by decide)]; exact b2
    · rw [ko 119 (by decide) (by decide) (by decide), ko 12 (by decide) (by decide) (by decide)]; exact b5
    · rw [ko 136 (by decide) (by decide) (by decide), ko 3 (by decide) (by decide) (by decide)]; exact b6
    · rw [ko 135 (by decide) (by decide) (by decide), ko 4 (by decide) (by decide) (by decide)]; exact b7
    · rw [ko 137 (by decide) (by decide) (by decide), ko 5 (by decide) (by decide) (by decide)]; exact b8
    · rw [ko 138 (by decide) (by decide) (by decide), ko 6 (by decide) (by decide) (by decide)]; exact b9
    · rw [ko 139 (by decide) (by decide) (by decide), ko 7 (by decide) (by decide) (by decide)]; exact b10
    · rw [ko 3 (by decide) (by decide) (by decide), ko 4 (by decide) (by decide) (by decide), ko 5 (by decide) (by decide) (by decide), ko 6 (by decide) (by decide) (by decide), ko 7 (by decide) (by decide) (by decide)]; exact f1
    · rw [K9, K10, ko 2 (by decide) (by decide) (by decide), ko 8 (by decide) (by decide) (by decide), ko 12 (by decide) (by decide) (by decide), edv]
      exact f2.move a1 a3 hb pm
    · by_cases z : b' = b
      · subst z
        refine Or.inr ⟨by rw [ko 120 (by decide) (by decide) (by decide)]; exact p1, LL, e + 1, by omega, q2, by rw [ko 25 (by decide) (by decide) (by decide)]; exact q3, by rw [ko 121 (by decide) (by decide) (by decide)]; exact q4, by rw [K26, uI_s], by rw [K122, uI_s], mb, mf, mt, fun i hi => ?_, ?_⟩
        · rw [ko 27 (by decide) (by decide) (by decide), ko 123 (by decide) (by decide) (by decide), ko 124 (by decide) (by decide) (by decide), ko 125 (by decide) (by decide) (by decide)]; exact q7 i hi
        · rw [K9, K10, ko 8 (by decide) (by decide) (by decide), ko 12 (by decide) (by decide) (by decide), edv]; exact pr
      · refine (f3 b' hb').mono (by rw [ko 120 (by decide) (by decide) (by decide)]) (by rw [ko 25 (by decide) (by decide) (by decide)]) (by rw [ko 121 (by decide) (by decide) (by decide)]) (by rw [K26, uI_n z]) (by rw [K122, uI_n z]) (fun i _ => by rw [ko 27 (by decide) (by decide) (by decide)]) (fun i _ => by rw [ko 123 (by decide) (by decide) (by decide)]) (fun i _ => by rw [ko 124 (by decide) (by decide) (by decide)]) (fun i _ => by rw [ko 125 (by decide) (by decide) (by decide)]) (fun mb' mt' k' e' => ?_)
        rw [K9, K10, ko 8 (by decide) (by decide) (by decide), ko 12 (by decide) (by decide) (by decide)]
        refine PV_c (Nat.le_refl _) (fun i hi => Iff.rfl) (fun i h1 h2 => by omega) (fun _ _ _ _ _ _ => rfl) k' e' _ _ _ _ (fun i hi q => ?_)
        have ix : i ≠ x := fun w => by
          subst w
          have := pm.2.1
          rw [q, nI_eq (by omega) (by omega)] at this
          exact z this
        exact ⟨uI_n ix, uI_n ix⟩
  have oCK : Off [117, 118, 122, 140, 141, 142, 143, 245] WK_T C' K := by
    have s1 : Off [117, 118, 122, 140, 141, 142, 143, 245] WK_T C' N0 := oN0.mono (by decide) (by decide)
    have s2 : Off [117, 118, 122, 140, 141, 142, 143, 245] WK_T N0 N1 := oN1.mono (by decide) (by decide)
    have s3 : Off [117, 118, 122, 140, 141, 142, 143, 245] WK_T N1 N2 := n3.mono (by decide) (by decide)
    rw [hK]; exact (((s1.tr s2).tr s3).I 122 (by decide) _ _).F 9 (by decide) _
  refine ⟨0, nI (LL - (e + 1)), _, K, wL_work_ok hcl, hmo, ?_, fun _ => ?_, ⟨hrK, W, H, G, R', L', h', m', CY_off cy2 oCK (by decide), MY_off n2 (show Off [122] [9] N2 K from by rw [hK]; exact ((Off.rr _ _ N2).I 122 (by decide) _ _).F 9 (by decide) _) (by decide) (by decide), ?_, ?_, ?_⟩, ?_, oK, ?_⟩
  · rw [hK]
    simp only [gII, Nat.reduceEqDiff, if_false, if_true, uI_n (show (0 : Nat) ≠ 9 by decide)]
    rw [(n3.2.1 0 (by decide)).1, (oN1.2.1 0 (by simp)).1, hN0]; simp [gII, uI]
  · rw [hK, gJI, gJI, (n3.1 245 (by decide) (by decide) (by decide)).2.1, (oN1.1 245 (by decide) (by decide) (by decide)).2.1, hN0]; simp [gJI, gJJ, uI]
  · rw [K9, ko 11 (by decide) (by decide) (by decide)]; exact yi2
  · rw [ko 144 (by decide) (by decide) (by decide), ko 11 (by decide) (by decide) (by decide)]; exact e144
  · intro r hr1
    rw [ko 133 (by decide) (by decide) (by decide), ko 134 (by decide) (by decide) (by decide), ko 34 (by decide) (by decide) (by decide), ko 35 (by decide) (by decide) (by decide)]; exact ygr r hr1
  · intro i hi q
    rw [ko 11 (by decide) (by decide) (by decide)]
    rw [K9] at q
    by_cases w : i = x
    · subst w; exact stx
    · rw [uI_n w] at q; exact zr i hi q
  · have q0 : Cst 0 0 M C1 := by rw [hC1]; exact ⟨Nat.le_refl _, Nat.le_refl _⟩
    have q1 : Cst 0 0 C' N0 := by rw [hN0]; exact ⟨Nat.le_refl _, Nat.le_refl _⟩
    have q2 : Cst 0 0 N0 N1 := by rw [hN1]; exact ⟨Nat.le_refl _, Nat.le_refl _⟩
    have q3 : Cst 0 0 N2 K := by rw [hK]; exact ⟨Nat.le_refl _, Nat.le_refl _⟩
    exact (((((q0.tr0 cC).tr0 q1).tr0 q2).tr0 n4).tr0 q3).mono (by omega) (by omega)
end WA
