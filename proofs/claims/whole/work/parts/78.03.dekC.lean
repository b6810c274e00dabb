-- needs: 71 72 73 74 75 76 77
/-! DECLARATIONS: declare -/
theorem an_x {p : Nat → Bool} {i : Nat} : ∀ {n}, i < n → p i = true → an p n = true
  | n + 1, h, q => by
    rw [an]
    by_cases z : i = n
    · subst z; rw [q, Bool.or_true]
    · rw [an_x (show i < n by omega) q, Bool.true_or]
section DD
variable {xs : Nat → Int32} {xl d : Nat} {M : dp_M}
def adT (T : Nat → Int64) (D : Nat) (a b c e l y : Int32) (p : Int64) : Nat → Int64 := uI (uI (uI (uI (uI (uI (uI (uI T (D * 23 + 0) a.toInt64) (D * 23 + 1) b.toInt64) (D * 23 + 2) c.toInt64) (D * 23 + 3) e.toInt64) (D * 23 + 4) l.toInt64) (D * 23 + 5) y.toInt64) (D * 23 + 6) p) (D * 23 + 10) (-1)
def adR (T : Nat → Int64) (D : Nat) (a b c e l y : Int32) (p : Int64) : Nat → Int64 := ovP (adT T D a b c e l y p) (D * 23 + 15) 8 (fun _ => -1)
theorem adR_o {T : Nat → Int64} {D : Nat} {a b c e l y : Int32} {p : Int64} {i k : Nat} (hk : k < 23) (h : i ≠ D ∨ (k = 7 ∨ k = 8 ∨ k = 9)) : adR T D a b c e l y p (i * 23 + k) = T (i * 23 + k) := by
  unfold adR ovP
  rw [if_neg (by omega)]; unfold adT
  rw [uI_n (by omega), uI_n (by omega), uI_n (by omega), uI_n (by omega), uI_n (by omega), uI_n (by omega), uI_n (by omega), uI_n (by omega)]
theorem adR_u {T : Nat → Int64} {D : Nat} {a b c e l y : Int32} {p : Int64} {u : Nat} (hu : u < 8) : adR T D a b c e l y p (D * 23 + (15 + u)) = -1 := by
  unfold adR ovP; rw [if_pos (by omega)]
theorem adR_f {T : Nat → Int64} {D : Nat} {a b c e l y : Int32} {p : Int64} : adR T D a b c e l y p (D * 23 + 0) = a.toInt64 ∧ adR T D a b c e l y p (D * 23 + 1) = b.toInt64 ∧ adR T D a b c e l y p (D * 23 + 2) = c.toInt64 ∧ adR T D a b c e l y p (D * 23 + 3) = e.toInt64 ∧ adR T D a b c e l y p (D * 23 + 4) = l.toInt64 ∧ adR T D a b c e l y p (D * 23 + 5) = y.toInt64 ∧ adR T D a b c e l y p (D * 23 + 6) = p ∧ adR T D a b c e l y p (D * 23 + 10) = -1 := by
  have o : ∀ k, k < 15 → adR T D a b c e l y p (D * 23 + k) = adT T D a b c e l y p (D * 23 + k) := fun k hk => by unfold adR ovP; rw [if_neg (by omega)]
  rw [o 0 (by omega), o 1 (by omega), o 2 (by omega), o 3 (by omega), o 4 (by omega), o 5 (by omega), o 6 (by omega), o 10 (by omega)]
  unfold adT
  refine ⟨?_, ?_, ?_, ?_, ?_, ?_, ?_, ?_⟩
  · rw [uI_n (by omega), uI_n (by omega), uI_n (by omega), uI_n (by omega), uI_n (by omega), uI_n (by omega), uI_n (by omega), uI_s]
  · rw [uI_n (by omega), uI_n (by omega), uI_n (by omega), uI_n (by omega), uI_n (by omega), uI_n (by omega), uI_s]
  · rw [uI_n (by omega), uI_n (by omega), uI_n (by omega), uI_n (by omega), uI_n (by omega), uI_s]
  · rw [uI_n (by omega), uI_n (by omega), uI_n (by omega), uI_n (by omega), uI_s]
  · rw [uI_n (by omega), uI_n (by omega), uI_n (by omega), uI_s]
  · rw [uI_n (by omega), uI_n (by omega), uI_s]
  · rw [uI_n (by omega), uI_s]
  · rw [uI_s]
def adC (M : dp_M) (D g : Nat) (b c e l y : Int32) (p : Int64) : dp_M := dp_setI (dp_setI (dp_setI (rJ M 111 (adR (dp_J M 111) D (nI g) b c e l y p)) 109 D (-1)) 110 g 1) 108 5 (nI (D + 1))
theorem dc_add {D g : Nat} {b c e l y : Int32} {p : Int64} (hD : D < 400) (hg : g < 300) (h : dp_I M 108 5 = nI D) : dp_den true xs xl (d + 2) 4 [.ref 108, .int (nI g), .int b, .int c, .int e, .int l, .int y, .long p] M = iR (nI D) (adC M D g b c e l y p) := by
  have e8 : ∀ f : Nat → Int64, dp_J (rJ M 111 f) 111 = f := fun f => by rw [rJ_J, if_pos rfl]
  have loop : D_X0_add_87 xs xl (d + 1) (nI g) b c e l y p (nI D) 0 (rJ M 111 (adT (dp_J M 111) D (nI g) b c e l y p)) = iR (nI D) (adC M D g b c e l y p) := by
    have key := lpb (F := fun (_ : Nat) u => D_X0_add_87 xs xl (d + 1) (nI g) b c e l y p (nI D) (nI u) (rJ M 111 (ovP (adT (dp_J M 111) D (nI g) b c e l y p) (D * 23 + 15) u (fun _ => -1)))) (s := fun _ => 0) (N := 8) (r := (.inl (some (.int (nI D))), adC M D g b c e l y p)) ?_ (fun u hu hr => ?_)
    · (try dsimp only at key)
      rw [ovP_0] at key; exact key
    · (try dsimp only)
      rw [D_X0_add_87_eq, if_pos (by decide)]
      simp only [nI_cl (show D < 2147483648 by omega), nI_o hD (by omega), nI_cl (show g < 2147483648 by omega), nI_o hg (by omega), if_false, dp_w]
      rw [show dp_I (dp_setI (dp_setI (rJ M 111 (ovP (adT (dp_J M 111) D (nI g) b c e l y p) (D * 23 + 15) 8 (fun _ => -1))) 109 D (-1)) 110 g ((1 : Int32) &&& 1)) 108 5 = nI D by rw [gII, if_neg (by decide), gII, if_neg (by decide), rJ_I]; exact h, nI_1]
      rfl
    · (try dsimp only at hr); (try dsimp only)
      rw [D_X0_add_87_eq, if_neg (show ¬ (8 : Int32) ≤ nI (u) from nI_ge (a := u) (b := 8) (by omega) (by omega)), dc_set (k := 15 + u) (by rw [show (15 : Int32) = nI 15 from rfl, nI_add]) hD (by omega), rb_bv, rJ_set]
      simp only [dp_w, nI_1]
      rw [show D * 23 + (15 + u) = (D * 23 + 15) + u by omega, ovP_s, show uI (fun _ => (-1 : Int64)) u (-1) = (fun _ => -1) from by
        funext q
        by_cases z : q = u
        · subst z; rw [uI_s]
        · rw [uI_n z]]
      exact hr
  rw [D_X0_add_0_den, D_X0_add_0_eq, h]
  simp only [dp_w]
  rw [dc_set (v2 := 0) (k := 0) rfl hD (by omega), rb_bv, rJ_of, dc_set (v2 := 1) (k := 1) rfl hD (by omega), rb_bv, rJ_set, dc_set (v2 := 2) (k := 2) rfl hD (by omega), rb_bv, rJ_set, dc_set (v2 := 3) (k := 3) rfl hD (by omega), rb_bv, rJ_set, dc_set (v2 := 4) (k := 4) rfl hD (by omega), rb_bv, rJ_set, dc_set (v2 := 5) (k := 5) rfl hD (by omega), rb_bv, rJ_set, dc_set (v2 := 6) (k := 6) rfl hD (by omega), rb_bv, rJ_set, dc_set (v2 := 10) (k := 10) rfl hD (by omega), rb_bv, rJ_set]
  exact loop
theorem DBd.decl {K : dp_M} {D A R g : Nat} {b c e l y : Int32} {p : Int64} (h : DBd M D A R) (hD : D < 400) (hb : qin b 8) (hc : qin c 4) (he : wi e 100000 999999) (hl : qin l 16) (hy : qin y 10001) (hp1 : 0 ≤ p.toInt) (hp2 : p.toInt ≤ 100000000) (hg : g < 300) (hfr : ¬ an (tkf (dp_I M 233) (dp_I M 241) g) D = true) (k108 : dp_I K 108 5 = nI (D + 1)) (k160 : dp_I K 114 160 = nI (D + 1)) (f1 : dp_I K 114 111 = dp_I M 114 111) (f2 : dp_I K 114 133 = dp_I M 114 133) (k111 : dp_J K 111 = adR (dp_J M 111) D (nI g) b c e l y p) (k109 : dp_I K 109 = uI (dp_I M 109) D (-1)) (k110 : dp_I K 110 = uI (dp_I M 110) g 1) (k233 : dp_I K 233 = uI (dp_I M 233) D (nI g)) (k234 : dp_I K 234 = uI (dp_I M 234) D b) (k235 : dp_I K 235 = uI (dp_I M 235) D c) (k236 : dp_I K 236 = uI (dp_I M 236) D e) (k237 : dp_I K 237 = uI (dp_I M 237) D l) (k238 : dp_I K 238 = uI (dp_I M 238) D y) (k239 : dp_J K 239 = uI (dp_J M 239) D p) (k244 : dp_I K 244 = uI (dp_I M 244) D (-1)) (s1 : ∀ k ∈ [196, 215, 241, 243], dp_I K k = dp_I M k) (s2 : ∀ k ∈ [96, 240, 242], dp_J K k = dp_J M k) : DBd K (D + 1) A R := by
  obtain ⟨h1, h2, h3, h4, h5, h6, h7, h8, h9, h10, h11, h12, h13⟩ := h
  obtain ⟨w1, w2, w3, w4, w5, w6, w7⟩ := h9 D (Nat.le_refl _) hD
  have t : ∀ i k, i ≠ D → k < 23 → dp_J K 111 (i * 23 + k) = dp_J M 111 (i * 23 + k) := fun i k hi hk => by rw [k111]; exact adR_o hk (Or.inl hi)
  refine ⟨by omega, k108, k160, by rw [f1]; exact h4, h5, by rw [f2]; exact h6, h7, fun i hi => ?_, fun i hi1 hi2 => ?_, fun a ha => ?_, fun x hx => ?_, fun i j hi hj => ?_, ?_⟩
  · by_cases z : i = D
    · subst z
      obtain ⟨q0, q1, q2, q3, q4, q5, q6, q10⟩ := adR_f (T := dp_J M 111) (D := i) (a := nI g) (b := b) (c := c) (e := e) (l := l) (y := y) (p := p)
      refine ⟨?_, ?_, fun u hu => ?_, Or.inl ⟨by rw [k109, uI_s], fun a ha q => ?_⟩⟩
      · unfold DFa
        rw [k111, q0, q1, q2, q3, q4, q5, q6, k233, k234, k235, k236, k237, k238, k239, uI_s, uI_s, uI_s, uI_s, uI_s, uI_s, uI_s]
        exact ⟨rfl, rfl, hb, rfl, hc, rfl, he, rfl, hl, rfl, hy, rfl, hp1, hp2⟩
      · unfold DSt
        rw [k111, adR_o (by omega) (Or.inr (Or.inl rfl)), adR_o (by omega) (Or.inr (Or.inr (Or.inl rfl))), adR_o (by omega) (Or.inr (Or.inr (Or.inr rfl))), q10, k244, uI_s, s1 241 (by decide), s1 243 (by decide), s2 242 (by decide), w1, w2, w3, w4, w5, w6]
        exact ⟨rfl, by decide, rfl, by decide, by decide, rfl, ⟨rfl, fun _ => rfl⟩, fun _ => ⟨rfl, rfl⟩, fun q => absurd q (by decide)⟩
      · rw [k111, adR_u hu, s2 240 (by decide), w7 u hu]
        exact ⟨rfl, by decide, by decide⟩
      · rw [s1 196 (by decide)] at q
        have := qin_iff.mp (h10 a ha)
        rw [q, nI_toInt (by omega)] at this; omega
    · obtain ⟨k1, k2, k3, k4⟩ := h8 i (by omega)
      refine ⟨?_, ?_, fun u hu => ?_, k4.c (by rw [k109, uI_n z]) (fun a _ => by rw [s1 196 (by decide)])⟩
      · unfold DFa at k1 ⊢
        rw [t i 0 z (by omega), t i 1 z (by omega), t i 2 z (by omega), t i 3 z (by omega), t i 4 z (by omega), t i 5 z (by omega), t i 6 z (by omega), k233, k234, k235, k236, k237, k238, k239, uI_n z, uI_n z, uI_n z, uI_n z, uI_n z, uI_n z, uI_n z]; exact k1
      · unfold DSt at k2 ⊢
        rw [t i 7 z (by omega), t i 8 z (by omega), t i 9 z (by omega), t i 10 z (by omega), k244, uI_n z, s1 241 (by decide), s1 243 (by decide), s1 215 (by decide), s2 242 (by decide), s2 96 (by decide)]; exact k2
      · rw [t i _ z (by omega), s2 240 (by decide)]; exact k3 u hu
  · obtain ⟨x1, x2, x3, x4, x5, x6, x7⟩ := h9 i (by omega) hi2
    unfold DNw
    rw [t i 7 (by omega) (by omega), t i 8 (by omega) (by omega), t i 9 (by omega) (by omega), s1 241 (by decide), s1 243 (by decide), s2 242 (by decide), s2 240 (by decide)]
    exact ⟨x1, x2, x3, x4, x5, x6, x7⟩
  · rw [s1 196 (by decide)]
    have := h10 a ha
    rw [qin_iff] at this ⊢; omega
  · have ea : an (tkf (dp_I K 233) (dp_I K 241) x) (D + 1) = (an (tkf (dp_I M 233) (dp_I M 241) x) D || decide (g = x)) := by
      rw [an]
      have e1 : tkf (dp_I K 233) (dp_I K 241) x D = decide (g = x) := by
        unfold tkf
        rw [k233, uI_s, s1 241 (by decide), w4]
        by_cases q : g = x
        · rw [decide_eq_true q, decide_eq_true ⟨by rw [q], by decide⟩]
        · rw [decide_eq_false q, decide_eq_false (fun r => q (by have := r.1; rw [nI_eq (by omega) (by omega)] at this; exact this))]
      rw [e1, an_c (fun i hi => show tkf (dp_I K 233) (dp_I K 241) x i = tkf (dp_I M 233) (dp_I M 241) x i by unfold tkf; rw [k233, uI_n (by omega), s1 241 (by decide)])]
    rw [k110]
    by_cases z : x = g
    · subst z
      rw [uI_s, bI_t (by rw [ea, decide_eq_true rfl, Bool.or_true])]
    · rw [uI_n z, h11 x hx]
      by_cases w : an (tkf (dp_I M 233) (dp_I M 241) x) D = true
      · rw [bI_t w, bI_t (by rw [ea, w, Bool.true_or])]
      · rw [bI_f w, bI_f (by rw [ea, decide_eq_false (fun q => z q.symm), Bool.or_false]; exact w)]
  · rw [s1 241 (by decide), s1 243 (by decide)]
    intro q1 q2 q3 q4
    by_cases z : i = D
    · subst z; rw [w4] at q1; exact absurd q1 (by decide)
    · by_cases z2 : j = D
      · subst z2; rw [w4] at q2; exact absurd q2 (by decide)
      · exact h12 i j (by omega) (by omega) q1 q2 q3 q4
  · rw [s1 241 (by decide), ct, k233]
    refine ⟨Nat.le_trans h13.1 (Nat.le_add_right _ _), fun i j hi hj q1 q2 q3 => ?_⟩
    by_cases z : i = D
    · by_cases z2 : j = D
      · omega
      · rw [z, uI_s, uI_n z2] at q3
        exact absurd (an_x (show j < D by omega) (tkf_t.mpr ⟨q3.symm, q2⟩)) hfr
    · by_cases z2 : j = D
      · rw [z2, uI_s, uI_n z] at q3
        exact absurd (an_x (show i < D by omega) (tkf_t.mpr ⟨q3, q1⟩)) hfr
      · rw [uI_n z, uI_n z2] at q3
        exact h13.2 i j (by omega) (by omega) q1 q2 q3
end DD
