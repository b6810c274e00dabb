-- needs: 71 72 73 74
/-! RATES: the class reckons -/
/-- the cents of the first k steps -/
def stF (a : List (Int32 × Int32)) (x : Int64) : Nat → Int64
  | 0 => 0
  | k + 1 => if x < (a.getD k (0, 0)).1.toInt64 then stF a x k else (a.getD k (0, 0)).2.toInt64
def stc (v : Nd) (pr : Int64) : Int64 := if 0 < pr then stF v.2.2.2 (v.2.1.toInt64 * 100 / pr) v.2.2.2.length else (v.2.2.2.getD (v.2.2.2.length - 1) (0, 0)).2.toInt64
/-- the value of node j, by those behind it -/
def nvl (l : List Nd) (pr : Int64) (am w : Nat → Int64) (j : Nat) : Int64 :=
  if isBn (l.getD j v0) = true then (if (l.getD j v0).1 = 3 then w (fL l j).toNatClampNeg + w (fR l j).toNatClampNeg else if (l.getD j v0).1 = 4 then w (fL l j).toNatClampNeg - w (fR l j).toNatClampNeg else if (l.getD j v0).1 = 5 then (if w (fR l j).toNatClampNeg < w (fL l j).toNatClampNeg then w (fR l j).toNatClampNeg else w (fL l j).toNatClampNeg) else (if w (fR l j).toNatClampNeg < w (fL l j).toNatClampNeg then w (fL l j).toNatClampNeg else w (fR l j).toNatClampNeg))
  else if (l.getD j v0).1 = 1 then pr * (l.getD j v0).2.1.toInt64 * 10 else if (l.getD j v0).1 = 2 then am (l.getD j v0).2.2.1.toNatClampNeg * (l.getD j v0).2.1.toInt64 else if (l.getD j v0).1 = 7 then stc (l.getD j v0) pr * 1000000 else 0
section Rn
variable {xs : Nat → Int32} {xl d : Nat} {M : dp_M} {q : Nat} {l : List Nd}
theorem rb_o {s : Nat} {A : Option dp_Res} {B : Nat → Option dp_Res} : dp_o (some s) A B = B s := rfl
theorem c_kind {j : Nat} (h : RtO M q l) (hj : j < l.length) : dp_den true xs xl (d + 2) 136 [.ref q, .int (nI j)] M = iR (l.getD j v0).1 M := by
  rw [D_X6_kindOf_0_den, D_X6_kindOf_0_eq, bg_t h.1, if_pos h.2.2.1, c_fact (d := d) (v := 0) h hj (k := 0) (by decide) rfl, rb_bi]
  rfl
theorem c_stF {j k w : Nat} {v : Int32} (h : RtO M q l) (hj : j < l.length) (hk : k < (l.getD j v0).2.2.2.length) (hw : w < 2) (hv : v = nI w) : dp_den true xs xl (d + 2) 137 [.ref q, .int (nI j), .int (nI k), .int v] M = iR (if w = 0 then ((l.getD j v0).2.2.2.getD k (0, 0)).1 else ((l.getD j v0).2.2.2.getD k (0, 0)).2) M := by
  have q1 := h.1
  have q3 := h.2.2.1
  have l60 := h.2.2.2.2.2.2.1
  obtain ⟨f, s, S, ⟨f1, f3, f4⟩, ⟨s1, s3, s4, s5⟩, r2, r3, g⟩ := h.fv
  obtain ⟨-, -, b, b1, b2, b3⟩ := g j hj
  have cf : dp_den true xs xl (d + 1) 135 [.ref q, .int (nI j), .int (6 : Int32)] M = iR (nI b) M := by
    rw [D_X6_fact_0_den, D_X6_fact_0_eq, bg_t q1, if_pos q3, bg_rf q1, r2]
    show (if dp_t true M f = 1 then _ else none) = _
    rw [bg_t f1, if_pos f3, show (6 : Int32) = nI 6 from rfl, t_7, bg_ln f1, f4, nI_cl (by omega), if_neg (by rw [nI_o (show j * 7 + 6 < l.length * 7 by omega) (by omega)]; exact id), b1]
  subst hv
  have ix : ((nI b + nI k) * (2 : Int32)) + nI w = nI ((b + k) * 2 + w) := by rw [nI_add, show (2 : Int32) = nI 2 from rfl, pk_mul, nI_add]
  rw [D_X6_stepFact_0_den, D_X6_stepFact_0_eq, bg_t q1, if_pos q3, bg_rf q1, r3, rb_o, if_pos q3, cf, rb_bi, bg_t s1, if_pos s3, ix, bg_ln s1, s4, nI_cl (by omega), if_neg (by rw [nI_o (show (b + k) * 2 + w < S * 2 by omega) (by omega)]; exact id), b3 k hk]
  by_cases w0 : w = 0
  · subst w0; rw [if_pos rfl]; rfl
  · rw [if_neg w0, show w = 1 by omega]
theorem c_stc {j : Nat} {pr : Int64} (h : RtO M q l) (hj : j < l.length) (h1 : 1 ≤ (l.getD j v0).2.2.2.length) (h6 : (l.getD j v0).2.2.2.length ≤ 6) : dp_den true xs xl (d + 3) 141 [.ref q, .int (nI j), .long pr] M = lR (stc (l.getD j v0) pr) M := by
  have q1 := h.1
  have q3 := h.2.2.1
  have T : dp_t true M q = 16 := by rw [bg_t q1]; exact q3
  obtain ⟨N, hN⟩ : ∃ N, N = (l.getD j v0).2.2.2.length := ⟨_, rfl⟩
  have f5 : dp_den true xs xl (d + 2) 135 [.ref q, .int (nI j), .int (5 : Int32)] M = iR (nI N) M := by rw [c_fact (d := d + 1) (v := 5) h hj (k := 5) (by decide) rfl, hN]; rfl
  have f1 : dp_den true xs xl (d + 2) 135 [.ref q, .int (nI j), .int (1 : Int32)] M = iR (l.getD j v0).2.1 M := by rw [c_fact (d := d + 1) (v := 1) h hj (k := 1) (by decide) rfl]; rfl
  rw [D_X6_stepCents_0_den, D_X6_stepCents_0_eq, if_pos T, f5, rb_bi]
  unfold stc
  by_cases z : 0 < pr
  · rw [if_pos (show 0 < lg_cmp pr 0 by rw [lg_cmp_gt]; exact z), if_pos T, f1, rb_bi, if_neg (fun e => by rw [e] at z; exact absurd z (by decide)), dpw, dpw, dpw, if_pos z, ← hN]
    obtain ⟨x, hx⟩ : ∃ x, x = (l.getD j v0).2.1.toInt64 * 100 / pr := ⟨_, rfl⟩
    rw [← hx]
    have key := lpb (F := fun (_ : Nat) k => D_X6_stepCents_47 xs xl (d + 2) q (nI j) pr (nI N) x (stF (l.getD j v0).2.2.2 x k) (nI k) M) (s := fun _ => 0) (N := N) (r := (.inl (some (.long (stF (l.getD j v0).2.2.2 x N))), M)) ?_ (fun k hk hr => ?_)
    · exact key
    · (try dsimp only)
      rw [D_X6_stepCents_47_eq, if_pos (nI_lle (Nat.le_refl _) (by omega))]
    · (try dsimp only at hr); (try dsimp only)
      rw [D_X6_stepCents_47_eq, if_neg (nI_nge hk (by omega)), if_pos T, c_stF (d := d) (v := 0) h hj (k := k) (by omega) (w := 0) (by decide) rfl, rb_bi, if_pos rfl]
      rw [show stF (l.getD j v0).2.2.2 x (k + 1) = if x < ((l.getD j v0).2.2.2.getD k (0, 0)).1.toInt64 then stF (l.getD j v0).2.2.2 x k else ((l.getD j v0).2.2.2.getD k (0, 0)).2.toInt64 from rfl] at hr
      by_cases y : x < ((l.getD j v0).2.2.2.getD k (0, 0)).1.toInt64
      · rw [if_pos y] at hr
        rw [if_pos (by rw [lg_cmp_gt]; exact y), dpw, nI_1]; exact hr
      · rw [if_neg y] at hr
        rw [if_neg (by rw [lg_cmp_gt]; exact y), if_pos T, c_stF (d := d) (v := 1) h hj (k := k) (by omega) (w := 1) (by decide) rfl, rb_bi, dpw, dpw, nI_1, if_neg (show ¬ 1 = 0 by decide)]; exact hr
  · obtain ⟨a, ha⟩ : ∃ a, N = a + 1 := ⟨N - 1, by omega⟩
    rw [if_neg (show ¬ 0 < lg_cmp pr 0 by rw [lg_cmp_gt]; exact z), if_pos T, ha, nI_pr, c_stF (d := d) (v := 1) h hj (k := a) (by omega) (w := 1) (by decide) rfl, rb_bi, if_neg z, ← hN, ha]
    rfl
theorem c_single {j : Nat} {pr : Int64} (h : RtO M q l) (hj : j < l.length) (hk : ndk (l.getD j v0)) (hb : isBn (l.getD j v0) = false) (w : Nat → Int64) : dp_den true xs xl (d + 4) 140 [.ref q, .int (nI j), .long pr, .ref 112] M = lR (nvl l pr (dp_J M 112) w j) M := by
  have T : dp_t true M q = 16 := by rw [bg_t h.1]; exact h.2.2.1
  have f1 : dp_den true xs xl (d + 3) 135 [.ref q, .int (nI j), .int (1 : Int32)] M = iR (l.getD j v0).2.1 M := by rw [c_fact (d := d + 2) (v := 1) h hj (k := 1) (by decide) rfl]; rfl
  have f2 : dp_den true xs xl (d + 3) 135 [.ref q, .int (nI j), .int (2 : Int32)] M = iR (l.getD j v0).2.2.1 M := by rw [c_fact (d := d + 2) (v := 2) h hj (k := 2) (by decide) rfl]; rfl
  rw [D_X6_single_0_den, D_X6_single_0_eq, if_pos T, c_kind (d := d + 1) h hj, rb_bi]
  unfold nvl
  rw [if_neg (show ¬ isBn (l.getD j v0) = true by rw [hb]; decide)]
  have nb : ¬ ((l.getD j v0).1 = 3 ∨ (l.getD j v0).1 = 4 ∨ (l.getD j v0).1 = 5 ∨ (l.getD j v0).1 = 6) := by unfold isBn at hb; exact of_decide_eq_false hb
  rcases hk with k0 | k1 | ⟨k2, u, u8, hu⟩ | kb | ⟨k7, n1, n6⟩
  · rw [k0, if_neg (by decide), if_neg (by decide), if_neg (by decide), if_neg (by decide), if_neg (by decide), if_neg (by decide)]
  · rw [k1, if_pos rfl, if_pos rfl, if_pos T, f1, rb_bi]
  · rw [k2, if_neg (by decide), if_pos rfl, if_pos T, f2, rb_bi, hu, nI_cl (by omega), if_pos (show dp_t true M 112 = 2 from rfl), if_neg (by rw [show dp_ln true M 112 = 8 from rfl, nI_o (show u < 8 by omega) (by omega)]; exact id), if_pos T, f1, rb_bi, if_neg (by decide), if_pos rfl]
  · exact absurd kb nb
  · rw [k7, if_neg (by decide), if_neg (by decide), if_pos rfl, if_pos T, c_stc (d := d) h hj n1 n6, rb_bl, if_neg (by decide), if_neg (by decide), if_pos rfl]
theorem c_joined {j : Nat} {pr : Int64} {am : Nat → Int64} (h : RtO M q l) (hj : j < l.length) (hb : isBn (l.getD j v0) = true) : dp_den true xs xl (d + 3) 139 [.ref q, .int (nI j), .ref 113] M = lR (nvl l pr am (dp_J M 113) j) M := by
  have T : dp_t true M q = 16 := by rw [bg_t h.1]; exact h.2.2.1
  have l60 := h.2.2.2.2.2.2.1
  obtain ⟨f, s, S, -, -, -, -, g⟩ := h.fv
  obtain ⟨-, g2, -⟩ := g j hj
  obtain ⟨m, m1, m2, m3⟩ := g2 hb
  have eL : fL l j = nI (j + 1) := by unfold fL; rw [if_pos hb]
  have f3 : dp_den true xs xl (d + 2) 135 [.ref q, .int (nI j), .int (3 : Int32)] M = iR (fL l j) M := by rw [c_fact (d := d + 1) (v := 3) h hj (k := 3) (by decide) rfl]; rfl
  have f4 : dp_den true xs xl (d + 2) 135 [.ref q, .int (nI j), .int (4 : Int32)] M = iR (fR l j) M := by rw [c_fact (d := d + 1) (v := 4) h hj (k := 4) (by decide) rfl]; rfl
  have T2 : dp_t true M 113 = 2 := rfl
  have L2 : dp_ln true M 113 = 60 := rfl
  rw [D_X6_joined_0_den, D_X6_joined_0_eq, if_pos T, f3, rb_bi, if_pos T2, L2, eL, nI_cl (by omega), if_neg (by rw [nI_o (show j + 1 < 60 by omega) (by omega)]; exact id), dpw, if_pos T, f4, rb_bi, if_pos T2, L2, m1, nI_cl (by omega), if_neg (by rw [nI_o (show m < 60 by omega) (by omega)]; exact id), dpw, if_pos T, c_kind (d := d) h hj, rb_bi]
  unfold nvl
  rw [if_pos hb, eL, m1, nI_cl (by omega), nI_cl (by omega)]
  by_cases k3 : (l.getD j v0).1 = 3
  · rw [if_pos k3, if_pos k3]
  rw [if_neg k3, if_neg k3]
  by_cases k4 : (l.getD j v0).1 = 4
  · rw [if_pos k4, if_pos k4]
  rw [if_neg k4, if_neg k4]
  by_cases k5 : (l.getD j v0).1 = 5
  · rw [if_pos k5, if_pos k5]
  rw [if_neg k5, if_neg k5]
end Rn
