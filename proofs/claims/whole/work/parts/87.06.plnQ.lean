-- needs: 71 72 73 74 75 76 77 78 79 80 81 85 86
/-! PLAN: class and model side by side -/
def PlS : List Nat := [13, 14, 15, 16, 17, 18, 19, 20, 21, 22, 23, 24, 25, 26, 27, 120, 121, 122, 123, 124, 125, 126, 127, 128, 129, 130, 131, 245]
def PlT : List Nat := [0, 19, 23]
theorem ahm_tb {needs : Nat → Int32} {lo : Nat → Nat} {i j : Nat} (hj : j < 32) : ∀ m, m ≤ 32 → (tb (ahm needs lo i m) j = true ↔ j < m ∧ ¬ needs (lo j * 100 + lo i) = 0)
  | 0, _ => by rw [ahm, tb_0]; simp
  | m + 1, hm => by
    rw [ahm, tb_or, Bool.or_eq_true, ahm_tb hj m (by omega)]
    by_cases z : needs (lo m * 100 + lo i) = 0
    · rw [if_pos z, tb_0]
      constructor
      · rintro (⟨h1, h2⟩ | h)
        · exact ⟨by omega, h2⟩
        · cases h
      · rintro ⟨h1, h2⟩
        left
        refine ⟨?_, h2⟩
        by_cases e : j = m
        · subst e; exact absurd z h2
        · omega
    · rw [if_neg z, tb_one (by omega) hj, decide_eq_true_eq]
      constructor
      · rintro (⟨h1, h2⟩ | h)
        · exact ⟨by omega, h2⟩
        · subst h; exact ⟨by omega, z⟩
      · rintro ⟨h1, h2⟩
        by_cases e : j = m
        · exact Or.inr e
        · exact Or.inl ⟨by omega, h2⟩
theorem tb_cpl (a : Int32) {j : Nat} (hj : j < 32) : tb (a ^^^ (-1 : Int32)) j = !(tb a j) := by
  have m1 : ∀ j, j < 32 → tb (-1 : Int32) j = true := by decide
  have := m1 j hj
  unfold tb at this ⊢
  rw [Int32.toBitVec_xor, BitVec.getLsbD_xor, this, Bool.xor_true]
/-- who may go ashore has those ahead of it ashore -/
theorem ah_ok {needs : Nat → Int32} {lo : Nat → Nat} {c k m : Nat} (hm : m ≤ 4) (h : (ahm needs lo k m &&& (nI (ash c m) ^^^ (-1 : Int32))) = 0) (j : Nat) (hj : j < m) (hn : needs (lo j * 100 + lo k) = 1) : pl c j = 12 := by
  refine Classical.byContradiction (fun z => ?_)
  have e := congrArg (fun v => tb v j) h
  (try dsimp only at e)
  rw [tb_and, (ahm_tb (by omega) m (by omega)).mpr ⟨hj, by rw [hn]; decide⟩, tb_cpl _ (by omega), tb_n (by omega), ash_tb c m j hj, decide_eq_false z, tb_0] at e
  cases e
section PlQ
variable {xs : Nat → Int32} {xl d : Nat} {M M' : dp_M}
theorem HR_plan {n B T : Nat} (h : HR M n B T) (o : Off PlS PlT M M') (hp : ∀ b, b < B → HPl M' n T b) : HR M' n B T := by
  obtain ⟨a1, a2, a3, a4, a5, a6, a7, a8, a9, a10, a11, a12, a13, a14, a15, b1, b2, b3, b4, b5, b6, b7, b8, b9, b10, c1, c2, -⟩ := h
  have e : ∀ k, k < 246 → k ∉ PlS → k ≠ 114 → dp_I M' k = dp_I M k := fun k h1 h2 h3 => (o.1 k h1 h2 h3).1
  have f : ∀ i, i ∉ PlT → dp_I M' 114 i = dp_I M 114 i := fun i hi => (o.2.1 i hi).1
  have l := o.2.2.1
  refine ⟨a1, a2, a3, a4, a5, ?_⟩
  simp only [e 1 (by decide) (by decide) (by decide), e 2 (by decide) (by decide) (by decide), e 3 (by decide) (by decide) (by decide), e 4 (by decide) (by decide) (by decide), e 5 (by decide) (by decide) (by decide), e 6 (by decide) (by decide) (by decide), e 7 (by decide) (by decide) (by decide), e 8 (by decide) (by decide) (by decide), e 9 (by decide) (by decide) (by decide), e 10 (by decide) (by decide) (by decide), e 12 (by decide) (by decide) (by decide), e 115 (by decide) (by decide) (by decide), e 116 (by decide) (by decide) (by decide), e 117 (by decide) (by decide) (by decide), e 118 (by decide) (by decide) (by decide), e 119 (by decide) (by decide) (by decide), e 135 (by decide) (by decide) (by decide), e 136 (by decide) (by decide) (by decide), e 137 (by decide) (by decide) (by decide), e 138 (by decide) (by decide) (by decide), e 139 (by decide) (by decide) (by decide), f 1 (by decide), f 2 (by decide), f 3 (by decide), f 9 (by decide), l 25 (by decide), l 26 (by decide), l 27 (by decide)]
  exact ⟨a6, a7, a8, a9, a10, a11, a12, a13, a14, a15, b1, b2, b3, b4, b5, b6, b7, b8, b9, b10, c1, c2, hp⟩
theorem ar_plan {n B T c : Nat} (h : AR M n B T c) (hc : c + 1 < 1073741824) (o : Off PlS PlT M M') (hr : HR M' n B T) (hp : PlN M' (c + 1)) : AR M' n B T (c + 1) := by
  obtain ⟨⟨⟨⟨-, hy⟩, hz⟩, g1, g2, g3, g4, g5, g6⟩, hl, hq, ht, hrr, hs, hd, -⟩ := h
  have pr : PR M' n B T c := ⟨⟨⟨hr, YR_off hy o (by decide) (by decide)⟩, ZR_off hz o (by decide) (by decide)⟩, GTl_off g1 o (by decide) (by decide), GGd_off g2 o (by decide) (by decide), GBr_off g3 o (by decide), GLd_off g4 o (by decide), GRl_off g5 o (by decide), GRu_off g6 o (by decide)⟩
  exact ⟨pr.up (Nat.le_succ c) hc, RelL_off hl o (by decide) (by decide), RelQ_off hq o (by decide) (by decide), RelT_off ht o (by decide) (by decide), RelR_off hrr o (by decide) (by decide), RelS_off hs o (by decide) (by decide), RelD_off hd o (by decide) (by decide), hp⟩
theorem HPl_other {n T b b' : Nat} (h : HPl M n T b') (ne : b' ≠ b) (o : Off PlS PlT M M') (h25 : dp_I M' 25 b' = dp_I M 25 b') (h26 : dp_I M' 26 b' = dp_I M 26 b') (h120 : dp_I M' 120 b' = dp_I M 120 b') (h121 : dp_I M' 121 b' = dp_I M 121 b') (h122 : dp_I M' 122 b' = dp_I M 122 b')
    (h27 : ∀ j, (j < b * 16 ∨ b * 16 + 16 ≤ j) → dp_I M' 27 j = dp_I M 27 j) (h123 : ∀ j, (j < b * 40 ∨ b * 40 + 40 ≤ j) → dp_I M' 123 j = dp_I M 123 j ∧ dp_I M' 124 j = dp_I M 124 j ∧ dp_I M' 125 j = dp_I M 125 j) : HPl M' n T b' := by
  have e : ∀ k, k < 246 → k ∉ PlS → k ≠ 114 → dp_I M' k = dp_I M k := fun k h1 h2 h3 => (o.1 k h1 h2 h3).1
  rcases h with ⟨h1, h2⟩ | ⟨h1, L, s, h3, h4, h5, h6, h7, h8, mb, mf, mt, h9, h10⟩
  · exact Or.inl ⟨by rw [h120]; exact h1, by rw [h25]; exact h2⟩
  · refine Or.inr ⟨by rw [h120]; exact h1, L, s, h3, h4, by rw [h25]; exact h5, by rw [h121]; exact h6, by rw [h26]; exact h7, by rw [h122]; exact h8, mb, mf, mt, fun i hi => ?_, ?_⟩
    · obtain ⟨q1, q2, q3, q4, q5, q6, q7⟩ := h9 i hi
      obtain ⟨r1, r2, r3⟩ := h123 (b' * 40 + i) (by omega)
      exact ⟨q1, q2, q3, by rw [h27 _ (by omega)]; exact q4, by rw [r1]; exact q5, by rw [r2]; exact q6, by rw [r3]; exact q7⟩
    · rw [e 8 (by decide) (by decide) (by decide), e 12 (by decide) (by decide) (by decide), e 9 (by decide) (by decide) (by decide), e 10 (by decide) (by decide) (by decide)]; exact h10
/-- what the class's plan does up to its search's answer -/
def CpS : List Nat := [13, 14, 15, 16, 17, 18, 19, 20, 21, 22, 23, 24]
theorem c_plan {n B T b m c0 r : Nat} (h : HR M n B T) (hb : b < B) (hm : m = ct (lyf (dp_I M 8) (dp_I M 9) (nI b)) n) (ec : c0 = cod (fun k => pcl (dp_I M 9) (dp_I M 10) (lob (lyf (dp_I M 8) (dp_I M 9) (nI b)) n k)) m)
    (hr : dp_I M 14 10 = nI r) (hr1 : r + 1 < 2147483648) (h16 : ∀ a, ∃ x : Nat, x ≤ r ∧ dp_I M 16 a = nI x) :
    ∃ v N i l ah, cAn m T l ah [(c0, 0, 0)] (QG m T) N v i ∧ (∀ k, k < m → l k = lvo (dp_I M 2) (lob (lyf (dp_I M 8) (dp_I M 9) (nI b)) n k)) ∧ (∀ k, k < m → ah k = ahm (dp_I M 12) (lob (lyf (dp_I M 8) (dp_I M 9) (nI b)) n) k m) ∧
      (∀ k, k < m → dp_I N 13 k = nI (lob (lyf (dp_I M 8) (dp_I M 9) (nI b)) n k)) ∧ Rf CpS [] M N ∧ dp_I N 14 10 = nI (r + 1) ∧
      ∀ res, D_X2_makePlan_109 xs xl (d + 6) (nI b) (nI m) v 0 N = some res → dp_den true xs xl (d + 7) 67 [.ref 1, .int (nI b)] M = some res := by
  obtain ⟨a1, a2, a3, a4, a5, a6, a7, a8, a9, a10, a11, a12, a13, a14, a15, b1, b2, b3, b4, b5, b6, b7, b8, b9, b10, c1, hs, -⟩ := h
  obtain ⟨vv, ht, -⟩ := st_code hs hb a1 a5 hm
  have x := st_bx hs hb hm
  have m4 := x.2.1
  rw [← ec] at vv ht
  have gt := hc_gth (xs := xs) (xl := xl) (d := d + 5) (b := b) a6 a1 (hs.2.2.2.2.1 b hb)
  rw [← hm] at gt
  obtain ⟨p, ep⟩ : ∃ p, p = lyf (dp_I M 8) (dp_I M 9) (nI b) := ⟨_, rfl⟩
  rw [← ep] at hm ec gt x ⊢
  obtain ⟨M1, e1⟩ : ∃ M1, M1 = rI M 13 (gth p (dp_I M 13) n) := ⟨_, rfl⟩
  rw [← e1] at gt
  have f1 : Rf [13] [] M M1 := by rw [e1]; exact ⟨(Off.rr _ _ M).rI 13 (by decide) _, rfl, rfl⟩
  have rw1 : ∀ k, k < 246 → k ≠ 13 → k ≠ 114 → dp_I M1 k = dp_I M k := fun k q1 q2 q3 => f1.row q1 (by simp [q2]) q3
  have lo1 : ∀ j, j < m → dp_I M1 13 j = nI (lob p n j) := fun j hj => by
    obtain ⟨y1, -, y3, y4⟩ := x.lo hj
    have := gth_at (f := dp_I M 13) y3 n y1
    rw [y4] at this
    rw [e1, rI_I, if_pos rfl]; exact this
  have hlo : ∀ j, j < m → lob p n j < n ∧ dp_I M1 8 (lob p n j) = nI b ∧ ¬ dp_I M1 9 (lob p n j) = 3 := fun j hj => by
    obtain ⟨y1, y2, y3, -⟩ := x.lo hj
    rw [rw1 8 (by decide) (by decide) (by decide), rw1 9 (by decide) (by decide) (by decide)]
    rw [ep] at y3
    have := (lyf_t.mp y3).2
    rw [← ep] at this
    exact ⟨y1, y2, this⟩
  obtain ⟨M2, k1, k2, k3⟩ := c_mk1 (xs := xs) (xl := xl) (d := d) (M := M1) (m := m) (b := b) (T := T) (N := n) (B := B) (lo := lob p n) (by rw [rw1 2 (by decide) (by decide) (by decide), rw1 8 (by decide) (by decide) (by decide), rw1 9 (by decide) (by decide) (by decide), rw1 10 (by decide) (by decide) (by decide), rw1 12 (by decide) (by decide) (by decide)]; exact hs) a5 hb a1 m4 (by rw [rw1 1 (by decide) (by decide) (by decide)]; exact a10) (fun j hj => ⟨hlo j hj, lo1 j hj⟩)
  rw [rw1 2 (by decide) (by decide) (by decide), rw1 9 (by decide) (by decide) (by decide), rw1 10 (by decide) (by decide) (by decide), rw1 12 (by decide) (by decide) (by decide)] at k1
  have f2 : Rf [13, 20, 21, 22] [] M M2 := (f1.mono (by decide) (by decide)).tr (k2.mono (by decide) (by decide))
  have p16' : 16 ^ m ≤ 16 ^ 4 := Nat.pow_le_pow_right (by decide) m4
  rw [show (16 : Nat) ^ 4 = 65536 from rfl] at p16'
  have c16 := vv.1
  have cpl : ∀ k, k < m → pl c0 k = pcl (dp_I M 9) (dp_I M 10) (lob p n k) := fun k hk => by
    rw [ec]
    refine cod_pl (f := fun k => pcl (dp_I M 9) (dp_I M 10) (lob p n k)) m k (fun i hi => ?_) hk
    obtain ⟨y1, y2, y3, -⟩ := x.lo hi
    rw [ep] at y3
    have y5 := (lyf_t.mp y3).2
    rw [← ep] at y5
    (try dsimp only)
    rcases pcl_i hs a5 hb y1 y2 y5 with ⟨-, e⟩ | ⟨s, t, q1, -, -, q4, -, e⟩ <;> omega
  have q0 : QG m T [(c0, 0, 0)] := by
    have h1 : ∀ j, j < ([(c0, 0, 0)] : List qE).length → j = 0 := fun j hj => by rw [show ([(c0, 0, 0)] : List qE).length = 1 from rfl] at hj; omega
    refine ⟨⟨⟨fun j hj => ?_, fun i j hi hj _ => ?_⟩, fun j h0 hj => ?_⟩, fun j hj => ?_⟩
    · rw [h1 j hj]; exact vv
    · rw [h1 i hi, h1 j hj]
    · have := h1 j hj; omega
    · rw [h1 j hj]; exact ht
  obtain ⟨v, N, i, s1, s2, s3, s4⟩ := c_srch (xs := xs) (xl := xl) (d := d) (M := M2) (n := m) (T := T) (c0 := c0) (r := r) (l := dp_I M2 21) (ah := dp_I M2 22) (G := QG m T) m4 a5 (gi_g m4 a5) (hD_t m4 a4 a5 vv) (by omega) (Nat.mod_eq_of_lt c16) (fun k hk => by rw [(k1 k hk).1, cpl k hk]) rfl rfl (by rw [f2.row (by decide) (by decide) (by decide)]; exact hr) hr1 (fun a => by rw [f2.row (by decide) (by decide) (by decide)]; exact h16 a) q0
  have f3 : Rf CpS [] M2 N := ⟨s3.1.mono (by decide) (by decide), s3.2.1, s3.2.2.1⟩
  refine ⟨v, N, i, dp_I M2 21, dp_I M2 22, s2, fun k hk => (k1 k hk).2.1, fun k hk => (k1 k hk).2.2, fun k hk => ?_, (f2.mono (by decide) (by decide)).tr f3, s4, fun res hres => ?_⟩
  · rw [(s3.row (by decide) (by decide) (by decide)), k2.row (by decide) (by decide) (by decide)]; exact lo1 k hk
  · rw [D_X2_makePlan_0_den, D_X2_makePlan_0_eq, gt, rb_bi]
    simp only [dp_w]
    refine k3 res ?_
    rw [s1, rb_bi]; exact hres
end PlQ
