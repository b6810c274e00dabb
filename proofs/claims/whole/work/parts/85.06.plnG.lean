-- needs: 71 72 73 74 75 76
/-! PLAN: the class goes on from a state (2) -/
theorem CS.off {M M' : dp_M} {l : Nat → Int32} {n : Nat} {Q : List qE} (h : CS M l n Q) (p : Pf [20, 23, 24] [14] M M') : CS M' l n Q := by
  obtain ⟨h1, h2, h3, h4, h5, r, h6, h7⟩ := h
  refine ⟨by rw [p.2.2.2 11 (by decide)]; exact h1, by rw [p.2.2.2 15 (by decide)]; exact h2, fun j hj => ?_, fun q c hc => ?_, h5, r, ⟨h6.1, by rw [p.2.2.2 10 (by decide)]; exact h6.2⟩, fun a => ?_⟩
  · rw [p.row (k := 17) (by decide) (by decide) (by decide), p.row (k := 18) (by decide) (by decide) (by decide), p.row (k := 19) (by decide) (by decide) (by decide)]; exact h3 j hj
  · rw [p.row (k := 16) (by decide) (by decide) (by decide), p.2.2.2 10 (by decide)]; exact h4 q c hc
  · rw [p.row (k := 16) (by decide) (by decide) (by decide)]; exact h7 a
theorem qsF_e {c n T : Nat} {l ah : Nat → Int32} {i : Nat} {Q : List qE} (a : Nat) (ha : 3 ≤ a) (hc : ct (fun i => decide (pl c i = 13)) n + 3 ≤ a) : ∀ m, qsF c n T l ah i (a + m) Q = qsF c n T l ah i a Q
  | 0 => rfl
  | m + 1 => by
    rw [show a + (m + 1) = (a + m) + 1 from rfl, qsF, qsT_n (by unfold tkn; rw [if_neg (by omega)]; exact (asd_ct c _ n).mpr (by omega)) 5]
    exact qsF_e a ha hc m
theorem qsT_35 {c n T : Nat} {l ah : Nat → Int32} {i f k : Nat} {Q : List qE} (hf : 3 ≤ f) (ek : tkn c n f = some k) : qsT c n T l ah i f 5 Q = qsT c n T l ah i f 3 Q := by
  rw [qsT, qst_m ek (by unfold mvt; rw [if_neg (by decide), if_neg (by decide), if_neg (by omega)]), qsT, qst_m ek (by unfold mvt; rw [if_neg (by decide), if_pos rfl, if_neg (fun q => by omega)])]
section PnG
variable {xs : Nat → Int32} {xl d : Nat} {M : dp_M}
theorem c_on {c n T i : Nat} {l ah : Nat → Int32} {Q : List qE} {P : List qE → Prop} (hn : n ≤ 4) (hT : T ≤ 4) (hP : QI P c n T l ah i) (x1 : dp_I M 14 12 = nI n) (x2 : dp_I M 14 13 = nI T) (x3 : dp_I M 21 = l) (x4 : dp_I M 22 = ah) (ht : dp_t true M 23 = 1) (hl : dp_ln true M 23 = 3) (h : CS M l n Q) (hq : P Q) (hg : Q.length ≤ qfe l n Q) :
    ∃ M', dp_den true xs xl (d + 5) 109 [.ref 14, .int (nI i)] M = vR M' ∧ CS M' l n (qsF c n T l ah i 7 Q) ∧ P (qsF c n T l ah i 7 Q) ∧ Pf [16, 17, 18, 19, 20, 23, 24] [11, 14, 15] M M' := by
  obtain ⟨q1, q2, q3⟩ := hP.1 Q hq
  have hc : c < 65536 := by rw [← q3]; exact h.2.2.2.2.1 i q2
  have ec : dp_I M 17 i = nI c := by rw [← q3]; exact (h.2.2.1 i (by omega)).1
  obtain ⟨M1, r1, r2, r3⟩ := c_read' (xs := xs) (xl := xl) (d := d + 2) hn x1 hc ht hl
  have hx : CX M1 c n T l ah := ⟨by rw [r3.2.2.2 12 (by decide)]; exact x1, by rw [r3.2.2.2 13 (by decide)]; exact x2, by rw [r3.row (by decide) (by decide) (by decide)]; exact x3, by rw [r3.row (by decide) (by decide) (by decide)]; exact x4, r2⟩
  have k1 := lpt (F := fun f N => D_X4_goOnFrom_12 xs xl (d + 4) (nI i) (nI f) N) (a := 0) (N := 3)
    (Inv := fun f N => CS N l n (qsF c n T l ah i f Q) ∧ P (qsF c n T l ah i f Q) ∧ CX N c n T l ah ∧ Pf [16, 17, 18, 19] [11, 15] M1 N) (Nat.zero_le _) ?_ M1 ⟨h.off r3, hq, hx, Pf.r _ _ _⟩
  · obtain ⟨M2, ⟨b1, b2, b3, b4⟩, b5⟩ := k1
    have k2 := lpi (F := fun k N => D_X4_goOnFrom_42 xs xl (d + 4) (nI i) (nI (3 + ct (fun i => decide (pl c i = 13)) k)) (nI k) N) (a := 0) (N := n)
      (Inv := fun k N => CS N l n (qsF c n T l ah i (3 + ct (fun i => decide (pl c i = 13)) k) Q) ∧ P (qsF c n T l ah i (3 + ct (fun i => decide (pl c i = 13)) k) Q) ∧ CX N c n T l ah ∧ Pf [16, 17, 18, 19] [11, 15] M1 N)
      (Post := fun r => ∃ M', r = (.inl none, M') ∧ CS M' l n (qsF c n T l ah i 7 Q) ∧ P (qsF c n T l ah i 7 Q) ∧ Pf [16, 17, 18, 19] [11, 15] M1 M') (Nat.zero_le _) ?_ ?_ M2 ⟨b1, b2, b3, b4⟩
    · obtain ⟨r, hr, M', rfl, c1, c2, c3⟩ := k2
      refine ⟨M', ?_, c1, c2, (r3.mono (by decide) (by decide)).tr (c3.mono (by decide) (by decide))⟩
      rw [D_X4_goOnFrom_0_den, D_X4_goOnFrom_0_eq]
      simp only [nI_cl (show i < 2147483648 by omega), nI_o (show i < 1300 by omega) (by omega), if_false]
      rw [ec, r1, rb_bv]
      refine b5 _ ?_
      (try dsimp only)
      rw [D_X4_goOnFrom_12_eq, if_pos (show (3 : Int32) ≤ nI 3 by decide)]
      exact hr
    · rintro N ⟨h1, h2, h3, h4⟩
      have := ct_le (fun i => decide (pl c i = 13)) n
      have e := qsF_e (c := c) (n := n) (T := T) (l := l) (ah := ah) (i := i) (Q := Q) (3 + ct (fun i => decide (pl c i = 13)) n) (by omega) (by omega) (4 - ct (fun i => decide (pl c i = 13)) n)
      rw [show 3 + ct (fun i => decide (pl c i = 13)) n + (4 - ct (fun i => decide (pl c i = 13)) n) = 7 by omega] at e
      refine ⟨(.inl none, N), ?_, N, rfl, by rw [e]; exact h1, by rw [e]; exact h2, h4⟩
      (try dsimp only)
      rw [D_X4_goOnFrom_42_eq, h3.1, if_pos (nI_lle (Nat.le_refl _) (by omega))]
    · rintro k N - hk ⟨h1, h2, h3, h4⟩
      have hct := ct_le (fun i => decide (pl c i = 13)) k
      have e20 := h3.2.2.2.2.1 k hk
      have hp := pl_lt c k
      by_cases z : pl c k = 13
      · have ek : tkn c n (3 + ct (fun i => decide (pl c i = 13)) k) = some k := by
          unfold tkn
          rw [if_neg (by omega), Nat.add_sub_cancel_left]; exact asd_at hk z
        have ect : ct (fun i => decide (pl c i = 13)) (k + 1) = ct (fun i => decide (pl c i = 13)) k + 1 := by rw [ct, if_pos (decide_eq_true z)]
        obtain ⟨M', m1, m2, m3, m4, m5⟩ := c_to (xs := xs) (xl := xl) (d := d + 1) (own := -1) hn hT hP h3 h1 h2 (show 3 + ct (fun i => decide (pl c i = 13)) k < 7 by omega) (show k < 4 by omega) ek (fun t ht => ⟨fun q => absurd q (m1_ne (by omega)), fun q => by omega⟩)
        refine ⟨M', ⟨?_, ?_, m4, h4.tr m5⟩, fun r hr => ?_⟩
        · rw [ect, ← Nat.add_assoc, qsF, qsT_35 (by omega) ek]; exact m2
        · rw [ect, ← Nat.add_assoc, qsF, qsT_35 (by omega) ek]; exact m3
        · (try dsimp only at hr); (try dsimp only)
          rw [D_X4_goOnFrom_42_eq, h3.1, if_neg (nI_nge hk (by omega))]
          simp only [dp_w, nI_cl (show k < 2147483648 by omega), nI_o (show k < 4 by omega) (by omega), if_false, nI_1]
          rw [e20, if_pos (show nI (pl c k) = 13 by rw [z]; rfl), m1, rb_bv]
          rw [ect, ← Nat.add_assoc] at hr; exact hr
      · have ect : ct (fun i => decide (pl c i = 13)) (k + 1) = ct (fun i => decide (pl c i = 13)) k := by rw [ct, if_neg (fun q => z (of_decide_eq_true q))]; rfl
        refine ⟨N, ⟨by rw [ect]; exact h1, by rw [ect]; exact h2, h3, h4⟩, fun r hr => ?_⟩
        (try dsimp only at hr); (try dsimp only)
        rw [D_X4_goOnFrom_42_eq, h3.1, if_neg (nI_nge hk (by omega))]
        simp only [dp_w, nI_cl (show k < 2147483648 by omega), nI_o (show k < 4 by omega) (by omega), if_false, nI_1]
        rw [e20, if_neg (show ¬ nI (pl c k) = 13 from fun q => z ((nI_eq (by omega) (by omega)).mp (show nI (pl c k) = nI 13 from q)))]
        rw [ect] at hr; exact hr
  · rintro f N - hf ⟨h1, h2, h3, h4⟩
    have e23 := h3.2.2.2.2.2.1 f hf
    have hh := hgt_le c n f
    by_cases z : hgt c n f = 0
    · have ek : tkn c n f = none := by unfold tkn; rw [if_pos hf, if_pos z]
      refine ⟨N, ⟨by rw [qsF, qsT_n ek]; exact h1, by rw [qsF, qsT_n ek]; exact h2, h3, h4⟩, fun r hr => ?_⟩
      (try dsimp only at hr); (try dsimp only)
      rw [D_X4_goOnFrom_12_eq, if_neg (show ¬ (3 : Int32) ≤ nI f from nI_nge (n := 3) hf (by omega))]
      simp only [dp_w, nI_cl (show f < 2147483648 by omega), nI_o (show f < 3 by omega) (by omega), if_false, nI_1]
      rw [e23, z, if_pos (show nI 0 ≤ 0 by decide)]; exact hr
    · obtain ⟨M', m1, m2, m3, m4, m5⟩ := c_frm (xs := xs) (xl := xl) (d := d) hn hT hP h3 h1 h2 hf (by omega)
      refine ⟨M', ⟨m2, m3, m4, h4.tr m5⟩, fun r hr => ?_⟩
      (try dsimp only at hr); (try dsimp only)
      rw [D_X4_goOnFrom_12_eq, if_neg (show ¬ (3 : Int32) ≤ nI f from nI_nge (n := 3) hf (by omega))]
      simp only [dp_w, nI_cl (show f < 2147483648 by omega), nI_o (show f < 3 by omega) (by omega), if_false, nI_1]
      rw [e23, if_neg (show ¬ nI (hgt c n f) ≤ (0 : Int32) from nI_nge (n := hgt c n f) (i := 0) (by omega) (by omega)), m1, rb_bv]; exact hr
end PnG
