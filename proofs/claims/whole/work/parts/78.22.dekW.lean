-- needs: 71 72 73 74 75 76 77
/-! DECLARATIONS: claim: the booking -/
section DX
variable {xs : Nat → Int32} {xl d : Nat} {M : dp_M}
def b2p (fs : Int64) : Nat := if fs = 0 then 0 else 1
def b3p (fs fh : Int64) : Nat := b2p fs + b2p fh
def b3n (fs fh : Int64) : Nat := b3p fs fh + 1
def b3Ac (w : Int32) (fs fh : Int64) (k : Nat) : Int32 := if k = b3p fs fh then 8 else if k = b2p fs ∧ ¬ fh = 0 then w else 9
def b3Ce (fs fh : Int64) (k : Nat) : Int32 := if k = b3p fs fh then (fs + fh).toInt32 else if k = b2p fs ∧ ¬ fh = 0 then (-fh).toInt32 else (-fs).toInt32
theorem b2p_0 {x : Int64} (h : x = 0) : b2p x = 0 := if_pos h
theorem b2p_1 {x : Int64} (h : ¬ x = 0) : b2p x = 1 := if_neg h
theorem b3_last {w : Int32} {fs fh : Int64} {k : Nat} (h : k = b3p fs fh) : b3Ac w fs fh k = 8 ∧ b3Ce fs fh k = (fs + fh).toInt32 := by unfold b3Ac b3Ce; rw [if_pos h, if_pos h]; exact ⟨rfl, rfl⟩
theorem b3_mid {w : Int32} {fs fh : Int64} {k : Nat} (h : ¬ fh = 0) (hk : k = b2p fs) : b3Ac w fs fh k = w ∧ b3Ce fs fh k = (-fh).toInt32 := by
  have q : ¬ k = b3p fs fh := by unfold b3p; rw [b2p_1 h]; omega
  unfold b3Ac b3Ce; rw [if_neg q, if_neg q, if_pos ⟨hk, h⟩, if_pos ⟨hk, h⟩]; exact ⟨rfl, rfl⟩
theorem b3_fst {w : Int32} {fs fh : Int64} (h : ¬ fs = 0) : b3Ac w fs fh 0 = 9 ∧ b3Ce fs fh 0 = (-fs).toInt32 := by
  have q : ¬ 0 = b3p fs fh := by unfold b3p; rw [b2p_1 h]; omega
  have q2 : ¬ (0 = b2p fs ∧ ¬ fh = 0) := by rw [b2p_1 h]; omega
  unfold b3Ac b3Ce; rw [if_neg q, if_neg q, if_neg q2, if_neg q2]; exact ⟨rfl, rfl⟩
/-- the class books what comes from securities and from the holder -/
theorem dc_book3 {B E i : Nat} {fs fh : Int64} {v2 : Int32} (hl : RelL M) (hi : i < 400) (k1 : DFa M i) (hB : dp_I M 114 141 = nI B) (hB8 : B < 800) (hE : dp_I M 114 142 = nI E) (hE4 : E + b3n fs fh ≤ 4000) : ∃ C, dp_den true xs xl (d + 4) 19 [.ref 108, .int (nI i), .int v2, .long fs, .long fh] M = iR (nI B) (dp_setJ C 111 (i * 23 + 10) (nI B).toInt64) ∧ CEk M C B (b3n fs fh) E (dp_I M 238 i) v2 (b3Ac (dp_I M 234 i) fs fh) (b3Ce fs fh) := by
  obtain ⟨B', E', hB8', hE4', a1, a2, a3, a4, a5, a6, a7, a8, a9, a10, a11, a12, a13, a14, a15, a16⟩ := hl
  have eB : B' = B := by rw [hB, nI_eq (by omega) (by omega)] at a2; exact a2.symm
  have eE : E' = E := by rw [hE, nI_eq (by omega) (by omega)] at a4; exact a4.symm
  subst eB eE
  obtain ⟨f0, f1, -, f2, -, f3, -, f4, -, f5, -⟩ := k1
  obtain ⟨N1, b1, b2⟩ := cbk_begin (xs := xs) (xl := xl) (M := M) (B := B') (va := dp_I M 238 i) (kn := v2) (ac := b3Ac (dp_I M 234 i) fs fh) (ce := b3Ce fs fh) a1 hB8 (fun k hk => a15 B' k (Nat.le_refl _) hB8 hk)
  have p1 : b2p fs ≤ 1 := by unfold b2p; split <;> omega
  have p2 : b2p fh ≤ 1 := by unfold b2p; split <;> omega
  have st1 : ∃ N2, (if fs = 0 then D_X0_book_36 xs xl (d + 3) (nI i) v2 fs fh (nI B') N1 else (dp_bi (dp_den true xs xl (d + 3) 83 [.ref 97, .int (nI B'), .int (9 : Int32), .long (-fs)] N1) (fun r6 M5 => D_X0_book_36 xs xl (d + 3) (nI i) v2 fs fh (nI B') M5))) = D_X0_book_36 xs xl (d + 3) (nI i) v2 fs fh (nI B') N2 ∧ CBk M N2 B' (b2p fs) (dp_I M 238 i) v2 (b3Ac (dp_I M 234 i) fs fh) (b3Ce fs fh) := by
    by_cases z : fs = 0
    · exact ⟨N1, by rw [if_pos z], by rw [b2p_0 z]; exact b2⟩
    · obtain ⟨N2, c1, c2⟩ := b2.add (xs := xs) (xl := xl) (v2 := 9) (v3 := -fs) hB8 (by omega) (b3_fst z).1 (b3_fst (w := 0) z).2
      exact ⟨N2, by rw [if_neg z, c1, rb_bi], by rw [b2p_1 z]; exact c2⟩
  obtain ⟨N2, c1, c2⟩ := st1
  have e1 : dp_J N2 111 (i * 23 + 1) = (dp_I M 234 i).toInt64 := by rw [(c2.1.1 111 (by decide) (by decide) (by decide)).2.1]; exact f1
  have st2 : ∃ N3, D_X0_book_36 xs xl (d + 3) (nI i) v2 fs fh (nI B') N2 = D_X0_book_62 xs xl (d + 3) (nI i) v2 fs fh (nI B') N3 ∧ CBk M N3 B' (b3p fs fh) (dp_I M 238 i) v2 (b3Ac (dp_I M 234 i) fs fh) (b3Ce fs fh) := by
    rw [D_X0_book_36_eq]
    simp only [lg_cmp_eq]
    by_cases z : fh = 0
    · refine ⟨N2, by rw [if_pos z], ?_⟩
      unfold b3p; rw [b2p_0 z]; exact c2
    · obtain ⟨N3, d1, d2⟩ := c2.add (xs := xs) (xl := xl) (v2 := dp_I M 234 i) (v3 := -fh) hB8 (by omega) (b3_mid z rfl).1 (b3_mid (w := 0) z rfl).2
      refine ⟨N3, by rw [if_neg z, dc_small (v2 := 1) (k := 1) rfl hi (by omega) e1, rb_bi, d1, rb_bi], ?_⟩
      unfold b3p; rw [b2p_1 z]; exact d2
  obtain ⟨N3, d1, d2⟩ := st2
  have q3 : b3p fs fh < 20 := by unfold b3p; omega
  obtain ⟨N4, g1, g2⟩ := d2.add (xs := xs) (xl := xl) (v2 := 8) (v3 := fs + fh) hB8 q3 (b3_last rfl).1 (b3_last (w := 0) rfl).2
  obtain ⟨C, g3, g4⟩ := g2.enter (xs := xs) (xl := xl) (d := d) hB8 (by omega) a3 hE4
  refine ⟨C, ?_, g4⟩
  rw [D_X0_book_0_den, D_X0_book_0_eq, dc_small (v2 := 5) (k := 5) rfl hi (by omega) f5, rb_bi, b1, rb_bi]
  simp only [lg_cmp_eq]
  rw [c1, d1, D_X0_book_62_eq, g1, rb_bi, g3, rb_bv, dc_set (v2 := 10) (k := 10) rfl hi (by omega), rb_bv]
theorem q_ng {x : Int64} (h1 : -2000000000 ≤ x.toInt) (h2 : x.toInt ≤ 2000000000) : (-x).toInt = -(x.toInt) := by
  rw [Int64.toInt_neg]
  apply Int.bmod_eq_of_le <;> omega
theorem q_z {x : Int64} : x = 0 ↔ x.toInt = 0 := by
  rw [← Int64.toInt_inj]
  have : (0 : Int64).toInt = 0 := rfl
  rw [this]
theorem b3_ce {fs fh : Int64} (s1 : 0 ≤ fs.toInt) (s2 : 0 ≤ fh.toInt) (s3 : 1 ≤ fs.toInt + fh.toInt) (s4 : fs.toInt + fh.toInt ≤ 1000000000) : (∀ k, k < b3n fs fh → -1000000000 ≤ (b3Ce fs fh k).toInt ∧ (b3Ce fs fh k).toInt ≤ 1000000000 ∧ b3Ce fs fh k ≠ 0) ∧ sl (fun k => (b3Ce fs fh k).toInt64) (b3n fs fh) = 0 ∧ (b3Ce fs fh (b3p fs fh)).toInt64 = fs + fh ∧ (¬ fh = 0 → (b3Ce fs fh (b2p fs)).toInt64 = -fh) ∧ (¬ fs = 0 → (b3Ce fs fh 0).toInt64 = -fs) := by
  have ea : (fs + fh).toInt = fs.toInt + fh.toInt := by
    rw [Int64.toInt_add]
    apply Int.bmod_eq_of_le <;> omega
  have e1 := q_ng (x := fs) (by omega) (by omega)
  have e2 := q_ng (x := fh) (by omega) (by omega)
  obtain ⟨n1, n1'⟩ := q_narrow (x := fs + fh) (by omega) (by omega)
  obtain ⟨n2, n2'⟩ := q_narrow (x := -fs) (by omega) (by omega)
  obtain ⟨n3, n3'⟩ := q_narrow (x := -fh) (by omega) (by omega)
  have nz : ∀ x : Int32, x.toInt ≠ 0 → x ≠ 0 := fun x q e => q (by rw [e]; rfl)
  have l := b3_last (w := 0) (fs := fs) (fh := fh) rfl
  have c3 : (b3Ce fs fh (b3p fs fh)).toInt64 = fs + fh := by rw [l.2, n1']
  have c2 : ¬ fh = 0 → (b3Ce fs fh (b2p fs)).toInt64 = -fh := fun z => by rw [(b3_mid (w := 0) z rfl).2, n3']
  have c1 : ¬ fs = 0 → (b3Ce fs fh 0).toInt64 = -fs := fun z => by rw [(b3_fst (w := 0) z).2, n2']
  have kl : -1000000000 ≤ (b3Ce fs fh (b3p fs fh)).toInt ∧ (b3Ce fs fh (b3p fs fh)).toInt ≤ 1000000000 ∧ b3Ce fs fh (b3p fs fh) ≠ 0 := by rw [l.2]; exact ⟨by omega, by omega, nz _ (by omega)⟩
  have km : ¬ fh = 0 → -1000000000 ≤ (b3Ce fs fh (b2p fs)).toInt ∧ (b3Ce fs fh (b2p fs)).toInt ≤ 1000000000 ∧ b3Ce fs fh (b2p fs) ≠ 0 := fun z => by
    rw [(b3_mid (w := 0) z rfl).2]
    have := mt q_z.mpr z
    exact ⟨by omega, by omega, nz _ (by omega)⟩
  have kf : ¬ fs = 0 → -1000000000 ≤ (b3Ce fs fh 0).toInt ∧ (b3Ce fs fh 0).toInt ≤ 1000000000 ∧ b3Ce fs fh 0 ≠ 0 := fun z => by
    rw [(b3_fst (w := 0) z).2]
    have := mt q_z.mpr z
    exact ⟨by omega, by omega, nz _ (by omega)⟩
  refine ⟨fun k hk => ?_, ?_, c3, c2, c1⟩
  · by_cases z1 : fs = 0
    · by_cases z2 : fh = 0
      · rw [z1, z2] at s3; exact absurd s3 (by decide)
      · have h2p := b2p_0 z1
        have h3p : b3p fs fh = 1 := by unfold b3p; rw [h2p, b2p_1 z2]
        have : k = 0 ∨ k = 1 := by unfold b3n at hk; omega
        rcases this with rfl | rfl
        · have := km z2; rw [h2p] at this; exact this
        · rw [← h3p]; exact kl
    · have h2p := b2p_1 z1
      by_cases z2 : fh = 0
      · have h3p : b3p fs fh = 1 := by unfold b3p; rw [h2p, b2p_0 z2]
        have : k = 0 ∨ k = 1 := by unfold b3n at hk; omega
        rcases this with rfl | rfl
        · exact kf z1
        · rw [← h3p]; exact kl
      · have h3p : b3p fs fh = 2 := by unfold b3p; rw [h2p, b2p_1 z2]
        have : k = 0 ∨ k = 1 ∨ k = 2 := by unfold b3n at hk; omega
        rcases this with rfl | rfl | rfl
        · exact kf z1
        · have := km z2; rw [h2p] at this; exact this
        · rw [← h3p]; exact kl
  · have sums : ∀ x y : Int64, -x + (-y + (x + y)) = 0 := fun x y => by
      rw [Int64.add_comm x y, ← Int64.add_assoc (-y), Int64.add_comm (-y) y, Int64.add_right_neg, Int64.zero_add, Int64.add_comm, Int64.add_right_neg]
    by_cases z1 : fs = 0
    · by_cases z2 : fh = 0
      · rw [z1, z2] at s3; exact absurd s3 (by decide)
      · have h2p := b2p_0 z1
        have h3p : b3p fs fh = 1 := by unfold b3p; rw [h2p, b2p_1 z2]
        have k0 := c2 z2
        rw [h2p] at k0
        rw [h3p] at c3
        unfold b3n
        rw [h3p]
        show (0 + (b3Ce fs fh 0).toInt64) + (b3Ce fs fh 1).toInt64 = 0
        rw [k0, c3, Int64.zero_add, z1, Int64.zero_add, Int64.add_comm, Int64.add_right_neg]
    · have h2p := b2p_1 z1
      have k0 := c1 z1
      by_cases z2 : fh = 0
      · have h3p : b3p fs fh = 1 := by unfold b3p; rw [h2p, b2p_0 z2]
        rw [h3p] at c3
        unfold b3n
        rw [h3p]
        show (0 + (b3Ce fs fh 0).toInt64) + (b3Ce fs fh 1).toInt64 = 0
        rw [k0, c3, Int64.zero_add, z2, Int64.add_zero, Int64.add_comm, Int64.add_right_neg]
      · have h3p : b3p fs fh = 2 := by unfold b3p; rw [h2p, b2p_1 z2]
        have k1 := c2 z2
        rw [h2p] at k1
        rw [h3p] at c3
        unfold b3n
        rw [h3p]
        show ((0 + (b3Ce fs fh 0).toInt64) + (b3Ce fs fh 1).toInt64) + (b3Ce fs fh 2).toInt64 = 0
        rw [k0, k1, c3, Int64.zero_add, Int64.add_assoc]; exact sums fs fh
theorem b3_ac {w : Int32} {fs fh : Int64} (hw : qin w 8) : ∀ k, qin (b3Ac w fs fh k) 12 := fun k => by
  unfold b3Ac
  by_cases z : k = b3p fs fh
  · rw [if_pos z]; decide
  · rw [if_neg z]
    by_cases y : k = b2p fs ∧ ¬ fh = 0
    · rw [if_pos y]
      obtain ⟨q, hq, eq⟩ := qin_of hw (by omega)
      rw [eq]; exact qin_nI (by omega) (by omega)
    · rw [if_neg y]; decide
/-- the model enters the three -/
theorem bk3_ents {N P0 : dp_M} {B i : Nat} {va v2 w : Int32} {fs du : Int64} (s1 : 0 ≤ fs.toInt) (s2 : fs.toInt ≤ du.toInt) (s3 : 1 ≤ du.toInt) (s4 : du.toInt ≤ 1000000000) (hB : B < 800) (n1 : dp_I N 234 i = w) (n2 : dp_J N 242 i = du) (n3 : dp_I N 114 141 = nI B) (mb : MBk N P0 B 0 va v2 (b3Ac w fs (du - fs)) (b3Ce fs (du - fs))) : ∃ P2, MBk N P2 B (b3n fs (du - fs)) va v2 (b3Ac w fs (du - fs)) (b3Ce fs (du - fs)) ∧
    ∀ {d} {Y : dp_M → Option dp_Res}, dp_bv (dp_den true xs xl (d + 1) 545 [.ref 114, .int (dp_I P0 114 141), .int (9 : Int32), .long (-fs)] P0) (fun M13 => dp_bv (dp_den true xs xl (d + 1) 545 [.ref 114, .int (dp_I M13 114 141), .int (dp_I M13 234 i), .long (fs - (dp_J M13 242 i))] M13) (fun M14 => dp_bv (dp_den true xs xl (d + 1) 545 [.ref 114, .int (dp_I M14 114 141), .int (8 : Int32), .long (dp_J M14 242 i)] M14) Y)) = Y P2 := by
  have ed : (du - fs).toInt = du.toInt - fs.toInt := by
    rw [Int64.toInt_sub]
    apply Int.bmod_eq_of_le <;> omega
  have ed' : (fs - du).toInt = fs.toInt - du.toInt := by
    rw [Int64.toInt_sub]
    apply Int.bmod_eq_of_le <;> omega
  have en : fs - du = -(du - fs) := by
    rw [← Int64.toInt_inj, q_ng (by omega) (by omega), ed, ed']; omega
  have ea : fs + (du - fs) = du := by
    rw [← Int64.toInt_inj, Int64.toInt_add, ed]
    rw [Int.bmod_eq_of_le (by omega) (by omega)]; omega
  obtain ⟨ce1, ce2, ce3, ce4, ce5⟩ := b3_ce (fs := fs) (fh := du - fs) s1 (by omega) (by omega) (by omega)
  rw [ea] at ce3
  have p1 : b2p fs ≤ 1 := by unfold b2p; split <;> omega
  have p2 : b2p (du - fs) ≤ 1 := by unfold b2p; split <;> omega
  have g1 : ∀ P m, MBk N P B m va v2 (b3Ac w fs (du - fs)) (b3Ce fs (du - fs)) → dp_I P 114 141 = nI B ∧ dp_I P 234 i = w ∧ dp_J P 242 i = du := fun P m hm => ⟨by rw [(hm.1.2.1 141 (by decide)).1]; exact n3, by rw [(hm.1.1 234 (by decide) (by decide) (by decide)).1, n1], by rw [(hm.1.1 242 (by decide) (by decide) (by decide)).2.1, n2]⟩
  have st1 : ∃ P1, (∀ {d}, dp_den true xs xl (d + 1) 545 [.ref 114, .int (nI B), .int (9 : Int32), .long (-fs)] P0 = vR P1) ∧ MBk N P1 B (b2p fs) va v2 (b3Ac w fs (du - fs)) (b3Ce fs (du - fs)) := by
    by_cases z : fs = 0
    · refine ⟨P0, fun {d} => ?_, by rw [b2p_0 z]; exact mb⟩
      rw [z, show -(0 : Int64) = 0 from rfl]; exact lm_enters0
    · obtain ⟨P1, c1, c2⟩ := mb.ent (xs := xs) (xl := xl) (v2 := 9) (v3 := -fs) (by omega) (by omega) (b3_fst z).1 (ce5 z) (fun q => z (by
        rw [q_z] at q ⊢; rw [q_ng (by omega) (by omega)] at q; omega))
      exact ⟨P1, c1, by rw [b2p_1 z]; exact c2⟩
  obtain ⟨P1, c1, c2⟩ := st1
  have st2 : ∃ P2, (∀ {d}, dp_den true xs xl (d + 1) 545 [.ref 114, .int (nI B), .int w, .long (fs - du)] P1 = vR P2) ∧ MBk N P2 B (b3p fs (du - fs)) va v2 (b3Ac w fs (du - fs)) (b3Ce fs (du - fs)) := by
    by_cases z : du - fs = 0
    · refine ⟨P1, fun {d} => ?_, by unfold b3p; rw [b2p_0 z]; exact c2⟩
      rw [en, z, show -(0 : Int64) = 0 from rfl]; exact lm_enters0
    · obtain ⟨P2, d1, d2⟩ := c2.ent (xs := xs) (xl := xl) (v2 := w) (v3 := fs - du) (by omega) (by omega) (b3_mid z rfl).1 (by rw [ce4 z, en]) (fun q => z (by
        rw [q_z] at q ⊢; omega))
      exact ⟨P2, d1, by unfold b3p; rw [b2p_1 z]; exact d2⟩
  obtain ⟨P2, d1, d2⟩ := st2
  have q3 : b3p fs (du - fs) < 20 := by unfold b3p; omega
  obtain ⟨P3, e1, e2⟩ := d2.ent (xs := xs) (xl := xl) (v2 := 8) (v3 := du) (by omega) q3 (b3_last rfl).1 ce3 (fun q => by rw [q_z] at q; omega)
  refine ⟨P3, e2, fun {d} {Y} => ?_⟩
  rw [(g1 P0 0 mb).1, c1, rb_bv, (g1 P1 _ c2).1, (g1 P1 _ c2).2.1, (g1 P1 _ c2).2.2, d1, rb_bv, (g1 P2 _ d2).1, (g1 P2 _ d2).2.2, e1, rb_bv]
/-- what would be taken, before it is -/
theorem sm_wouldN {N : dp_M} {R r : Nat} {tk : Int64} (h : RelS M) (hRR : dp_I M 114 133 = nI R) (hR : R ≤ 400) (hr1 : 1 ≤ r) (hr : r ≤ R) (hc : dp_den true xs xl 3 206 [.ref 90, .int (nI r)] M = lR tk M) (e : ∀ k ∈ [216, 217], dp_I N k = dp_I M k) (eJ : ∀ k ∈ [203, 218], dp_J N k = dp_J M k) : dp_den true xs xl (d + 1) 532 [.ref 114, .int (nI r)] N = lR tk N := by
  obtain ⟨G, R', hG, hR4, a1, a2, a3, a4, a5, a6, a7, a8, a9, a10, a11, a12, a13, a14, a15, a16, a17⟩ := h
  have hR' : R' = R := by rw [hRR, nI_eq (by omega) (by omega)] at a4; exact a4.symm
  subst hR'
  obtain ⟨n, c1, c2, c3⟩ := sc_clm (xs := xs) (xl := xl) (d := 0) hG hR hr a10 (a14 r hr1 hr)
  rw [hc] at c3
  have et : tk = sl (rX M r) n := by
    injection c3 with c3
    injection c3 with c3 _
    injection c3 with c3
    injection c3 with c3
    injection c3
  obtain ⟨n', q1, q2, q3, q4, q5, q6, q7⟩ := a14 r hr1 hr
  have en : n' = n := by rw [c2, nI_eq (by omega) (by omega)] at q2; exact q2.symm
  subst en
  have eP : ∀ k, rP N r k = rP M r k := fun k => by
    show dp_I N 217 (r * 4 + k) = dp_I M 217 (r * 4 + k)
    rw [e 217 (by decide)]
  have eX : sl (rX N r) n' = sl (rX M r) n' := sl_c (fun k _ => by
    show mnJ (dp_J N 218 (r * 4 + k)) (dp_J N 203 (rP N r k).toNatClampNeg) = mnJ (dp_J M 218 (r * 4 + k)) (dp_J M 203 (rP M r k).toNatClampNeg)
    rw [eJ 218 (by decide), eJ 203 (by decide), eP])
  rw [sm_would (G := G) hG (by omega) c1 (by rw [e 216 (by decide)]; exact c2) (fun k hk => by rw [eP]; exact (q7 k hk).2.2.1), eX, et]
end DX
