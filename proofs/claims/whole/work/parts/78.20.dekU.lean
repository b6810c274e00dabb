-- needs: 71 72 73 74 75 76 77
/-! DECLARATIONS: one is paid or claimed -/
section DV
variable {xs : Nat → Int32} {xl d : Nat} {M : dp_M}
theorem GGd.st {K : dp_M} {n : Nat} (h : GGd M n) (e : ∀ k ∈ [37, 42, 44, 45, 46, 47, 147, 148, 233], dp_I K k = dp_I M k) (f : ∀ i ∈ [44, 160], dp_I K 114 i = dp_I M 114 i) (fr : ∀ q j, frf (dp_I M 233) (dp_I K 241) q j = frf (dp_I M 233) (dp_I M 241) q j) : GGd K n := by
  obtain ⟨G, D, hG, hD, g1, g2, g3, g4, g5, g6, g7, g8⟩ := h
  have fe : ∀ q, frf (dp_I M 233) (dp_I K 241) q = frf (dp_I M 233) (dp_I M 241) q := fun q => funext (fr q)
  refine ⟨G, D, hG, hD, by rw [e 37 (by decide)]; exact g1, by rw [f 44 (by decide)]; exact g2, by rw [f 160 (by decide)]; exact g3, fun g hg => by rw [e 46 (by decide), e 147 (by decide)]; exact g4 g hg, fun x hx => ?_, fun g hg => ?_, fun g q1 q2 => by rw [e 47 (by decide)]; exact g7 g q1 q2, fun i hi => by rw [e 233 (by decide)]; exact g8 i hi⟩
  · obtain ⟨k1, k2, k3⟩ := g5 x hx
    rw [e 42 (by decide), e 44 (by decide), e 45 (by decide), e 147 (by decide), e 148 (by decide), e 233 (by decide)]
    refine ⟨k1, k2, ?_⟩
    rw [k3]; unfold mnf; simp only [fe]
  · rw [e 47 (by decide), e 233 (by decide), fe]; exact g6 g hg
theorem DBd.step {K : dp_M} {D A R i : Nat} {s : Int32} (h : DBd M D A R) (hi : i < D) (hst : dp_I M 241 i = 1) (hs : s = 2 ∨ s = 3) (k7 : dp_J K 111 (i * 23 + 7) = s.toInt64) (k10 : dp_J K 111 (i * 23 + 10) = (dp_I K 244 i).toInt64) (t : ∀ j k, k < 23 → (j ≠ i ∨ (k ≠ 7 ∧ k ≠ 10)) → dp_J K 111 (j * 23 + k) = dp_J M 111 (j * 23 + k)) (k241 : dp_I K 241 = uI (dp_I M 241) i s) (k244 : ∀ j, j ≠ i → dp_I K 244 j = dp_I M 244 j) (sI : ∀ k ∈ [109, 110, 196, 233, 234, 235, 236, 237, 238, 243], dp_I K k = dp_I M k) (sJ : ∀ k ∈ [239, 240, 242], dp_J K k = dp_J M k) (k108 : dp_I K 108 5 = dp_I M 108 5) (f : ∀ q ∈ RelD_T, dp_I K 114 q = dp_I M 114 q)
    (hr : ∀ j, j < D → j ≠ i → dp_I M 241 j = 1 → ∀ q : Nat, dp_I M 243 j = nI q → 1 ≤ q → q ≤ R → dp_I K 215 q = dp_I M 215 q ∧ dp_J K 96 (q * 12 + 1) = dp_J M 96 (q * 12 + 1)) : DBd K D A R := by
  obtain ⟨h1, h2, h3, h4, h5, h6, h7, h8, h9, h10, h11, h12, h13, h14⟩ := h
  have hst' : dp_I M 241 i = 1 := hst
  have n4 : ∀ j, dp_I K 241 j = 4 ↔ dp_I M 241 j = 4 := fun j => by
    rw [k241]
    by_cases z : j = i
    · subst z; rw [uI_s, hst']; rcases hs with q | q <;> rw [q] <;> decide
    · rw [uI_n z]
  have n0 : ∀ j, dp_I K 241 j = 0 ↔ dp_I M 241 j = 0 := fun j => by
    rw [k241]
    by_cases z : j = i
    · subst z; rw [uI_s, hst']; rcases hs with q | q <;> rw [q] <;> decide
    · rw [uI_n z]
  have n1 : ∀ j, dp_I K 241 j = 1 → j ≠ i ∧ dp_I M 241 j = 1 := fun j q => by
    rw [k241] at q
    by_cases z : j = i
    · subst z; rw [uI_s] at q; rcases hs with w | w <;> rw [w] at q <;> exact absurd q (by decide)
    · rw [uI_n z] at q; exact ⟨z, q⟩
  have tk : ∀ g, tkf (dp_I M 233) (dp_I K 241) g = tkf (dp_I M 233) (dp_I M 241) g := fun g => funext (fun j => by
    unfold tkf
    exact decide_eq_decide.mpr ⟨fun q => ⟨q.1, fun w => q.2 ((n4 j).mpr w)⟩, fun q => ⟨q.1, fun w => q.2 ((n4 j).mp w)⟩⟩)
  refine ⟨h1, by rw [k108]; exact h2, by rw [f 160 (by decide)]; exact h3, by rw [f 111 (by decide)]; exact h4, h5, by rw [f 133 (by decide)]; exact h6, h7, fun j hj => ?_, fun j hj1 hj2 => ?_, fun a ha => by rw [sI 196 (by decide)]; exact h10 a ha, fun x hx => ?_, fun j k hj hk q1 q2 => ?_, ?_, fun j k hj hk q1 q2 => ?_⟩
  · obtain ⟨k1, k2, k3, k4⟩ := h8 j hj
    refine ⟨?_, ?_, fun u hu => ?_, k4.c (by rw [sI 109 (by decide)]) (fun a _ => by rw [sI 196 (by decide)])⟩
    · unfold DFa at k1 ⊢
      rw [t j 0 (by omega) (by omega), t j 1 (by omega) (by omega), t j 2 (by omega) (by omega), t j 3 (by omega) (by omega), t j 4 (by omega) (by omega), t j 5 (by omega) (by omega), t j 6 (by omega) (by omega), sI 233 (by decide), sI 234 (by decide), sI 235 (by decide), sI 236 (by decide), sI 237 (by decide), sI 238 (by decide), sJ 239 (by decide)]; exact k1
    · obtain ⟨m1, m2, m3, m4, m5, m6, m7, m8, m9⟩ := k2
      by_cases z : j = i
      · subst z
        unfold DSt
        rw [k7, k10, t j 8 (by omega) (by omega), t j 9 (by omega) (by omega), k241, uI_s, sJ 242 (by decide), sI 243 (by decide)]
        refine ⟨rfl, ?_, m3, m4, m5, m6, ⟨rfl, fun q => ?_⟩, fun q => ?_, fun q => ?_⟩
        · rcases hs with q | q <;> rw [q] <;> decide
        · rcases hs with w | w <;> rw [w] at q <;> exact absurd q (by decide)
        · rcases hs with w | w <;> rw [w] at q <;> exact absurd q (by decide)
        · rcases hs with w | w <;> rw [w] at q <;> exact absurd q (by decide)
      · unfold DSt
        rw [t j 7 (by omega) (Or.inl z), t j 8 (by omega) (by omega), t j 9 (by omega) (by omega), t j 10 (by omega) (Or.inl z), k241, uI_n z, sJ 242 (by decide), sI 243 (by decide), k244 j z]
        refine ⟨m1, m2, m3, m4, m5, m6, m7, m8, fun q => ?_⟩
        rcases m9 q with w | ⟨w1, r, r1, r2, r3, r4, r5⟩
        · exact Or.inl w
        · obtain ⟨y1, y2⟩ := hr j hj z q r r3 r1 r2
          exact Or.inr ⟨w1, r, r1, r2, r3, by rw [y1]; exact r4, by rw [y2]; exact r5⟩
    · rw [t j _ (by omega) (by omega), sJ 240 (by decide)]; exact k3 u hu
  · obtain ⟨x1, x2, x3, x4, x5, x6, x7⟩ := h9 j hj1 hj2
    unfold DNw
    rw [t j 7 (by omega) (by omega), t j 8 (by omega) (by omega), t j 9 (by omega) (by omega), k241, uI_n (by omega), sI 243 (by decide), sJ 242 (by decide), sJ 240 (by decide)]
    exact ⟨x1, x2, x3, x4, x5, x6, x7⟩
  · rw [sI 110 (by decide), sI 233 (by decide), tk]; exact h11 x hx
  · rw [sI 243 (by decide)]
    exact h12 j k hj hk (n1 j q1).2 (n1 k q2).2
  · refine Nat.le_trans h13 (ct_mono _ (fun j _ q => ?_))
    rw [decide_eq_true_eq] at q ⊢
    exact fun w => q ((n0 j).mp w)
  · rw [sI 233 (by decide)]
    exact h14 j k hj hk (fun w => q1 ((n4 j).mpr w)) (fun w => q2 ((n4 k).mpr w))
/-- another has another reservation -/
theorem DBd.res {D A R i j q : Nat} (h : DBd M D A R) (hi : i < D) (hst : dp_I M 241 i = 1) (hj : j < D) (hne : j ≠ i) (hj1 : dp_I M 241 j = 1) (hq : dp_I M 243 j = nI q) (hq1 : 1 ≤ q) (hq2 : q ≤ R) : ¬ dp_I M 243 i = nI q := fun w => by
  obtain ⟨h1, h2, h3, h4, h5, h6, h7, h8, h9, h10, h11, h12, -⟩ := h
  exact hne (h12 i j hi hj hst hj1 (by rw [w]; exact nI_n0' (by omega) (by omega)) (by rw [w, hq])).symm
def bkAc (w : Int32) (k : Nat) : Int32 := if k = 0 then w else 8
def bkCe (v : Int64) (k : Nat) : Int32 := if k = 0 then (-v).toInt32 else v.toInt32
/-- the class books two entries: the holder pays -/
theorem dc_book2 {B E i : Nat} {v : Int64} {v2 : Int32} (hl : RelL M) (hi : i < 400) (k1 : DFa M i) (hv : ¬ v = 0) (hB : dp_I M 114 141 = nI B) (hB8 : B < 800) (hE : dp_I M 114 142 = nI E) (hE4 : E + 2 ≤ 4000) : ∃ C, dp_den true xs xl (d + 4) 19 [.ref 108, .int (nI i), .int v2, .long (0 : Int64), .long v] M = iR (nI B) (dp_setJ C 111 (i * 23 + 10) (nI B).toInt64) ∧ CEk M C B 2 E (dp_I M 238 i) v2 (bkAc (dp_I M 234 i)) (bkCe v) := by
  obtain ⟨B', E', hB8', hE4', a1, a2, a3, a4, a5, a6, a7, a8, a9, a10, a11, a12, a13, a14, a15, a16⟩ := hl
  have eB : B' = B := by rw [hB, nI_eq (by omega) (by omega)] at a2; exact a2.symm
  have eE : E' = E := by rw [hE, nI_eq (by omega) (by omega)] at a4; exact a4.symm
  subst eB eE
  obtain ⟨f0, f1, -, f2, -, f3, -, f4, -, f5, -⟩ := k1
  obtain ⟨N1, b1, b2⟩ := cbk_begin (xs := xs) (xl := xl) (M := M) (B := B') (va := dp_I M 238 i) (kn := v2) (ac := bkAc (dp_I M 234 i)) (ce := bkCe v) a1 hB8 (fun k hk => a15 B' k (Nat.le_refl _) hB8 hk)
  obtain ⟨N2, c1, c2⟩ := b2.add (xs := xs) (xl := xl) (v2 := dp_I M 234 i) (v3 := -v) hB8 (by omega) rfl rfl
  obtain ⟨N3, d1, d2⟩ := c2.add (xs := xs) (xl := xl) (v2 := 8) (v3 := v) hB8 (by omega) rfl rfl
  obtain ⟨C, g1, g2⟩ := d2.enter (xs := xs) (xl := xl) (d := d) hB8 (by omega) a3 hE4
  refine ⟨C, ?_, g2⟩
  have e1 : dp_J N1 111 (i * 23 + 1) = (dp_I M 234 i).toInt64 := by rw [(b2.1.1 111 (by decide) (by decide) (by decide)).2.1]; exact f1
  rw [D_X0_book_0_den, D_X0_book_0_eq, dc_small (v2 := 5) (k := 5) rfl hi (by omega) f5, rb_bi, b1, rb_bi]
  simp only [lg_cmp_eq]
  rw [if_pos trivial, D_X0_book_36_eq]
  simp only [lg_cmp_eq]
  rw [if_neg hv, dc_small (v2 := 1) (k := 1) rfl hi (by omega) e1, rb_bi, c1, rb_bi, D_X0_book_62_eq, Int64.zero_add, d1, rb_bi, g1, rb_bv, dc_set (v2 := 10) (k := 10) rfl hi (by omega), rb_bv]
theorem bk2_ce {v : Int64} (h0 : ¬ v = 0) (h1 : -1000000000 ≤ v.toInt) (h2 : v.toInt ≤ 1000000000) : (∀ k, k < 2 → -1000000000 ≤ (bkCe v k).toInt ∧ (bkCe v k).toInt ≤ 1000000000 ∧ bkCe v k ≠ 0) ∧ sl (fun k => (bkCe v k).toInt64) 2 = 0 ∧ (bkCe v 0).toInt64 = -v ∧ (bkCe v 1).toInt64 = v := by
  have en : (-v).toInt = -(v.toInt) := by
    rw [Int64.toInt_neg]
    apply Int.bmod_eq_of_le <;> omega
  obtain ⟨p1, p2⟩ := q_narrow (x := v) (by omega) (by omega)
  obtain ⟨n1, n2⟩ := q_narrow (x := -v) (by omega) (by omega)
  have v0 : v.toInt ≠ 0 := fun q => h0 (by rw [← Int64.toInt_inj, q]; rfl)
  have nz : ∀ x : Int32, x.toInt ≠ 0 → x ≠ 0 := fun x q e => q (by rw [e]; rfl)
  have c0 : bkCe v 0 = (-v).toInt32 := rfl
  have c1 : bkCe v 1 = v.toInt32 := rfl
  refine ⟨fun k hk => ?_, ?_, by rw [c0, n2], by rw [c1, p2]⟩
  · have : k = 0 ∨ k = 1 := by omega
    rcases this with rfl | rfl
    · rw [c0]; exact ⟨by omega, by omega, nz _ (by omega)⟩
    · rw [c1]; exact ⟨by omega, by omega, nz _ (by omega)⟩
  · show (0 + (bkCe v 0).toInt64) + (bkCe v 1).toInt64 = 0
    rw [c0, c1, n2, p2, Int64.zero_add, Int64.add_comm, ← Int64.sub_eq_add_neg, Int64.sub_self]
theorem dm_begin {B : Nat} {i : Nat} {v2 : Int32} {ac ce : Nat → Int32} (hi : i < 400) (hB : dp_I M 114 141 = nI B) (hB8 : B ≤ 800) : (B = 800 → dp_den true xs xl (d + 2) 578 [.ref 114, .int (nI i), .int v2] M = iR 0 M) ∧ (B < 800 → ∃ N, (∀ {d}, dp_den true xs xl (d + 2) 578 [.ref 114, .int (nI i), .int v2] M = iR 1 N) ∧ MBk M N B 0 (dp_I M 238 i) v2 ac ce) := by
  constructor
  · intro h
    subst h
    rw [D_X12_beginsFor_0_den, D_X12_beginsFor_0_eq, hB, if_pos (by decide), D_X12_beginsFor_15_eq, if_pos rfl, if_pos (Or.inl rfl)]
  · intro h
    obtain ⟨N, n1, n2⟩ := mbk_begin (xs := xs) (xl := xl) (M := M) (B := B) (va := dp_I M 238 i) (kn := v2) (ac := ac) (ce := ce) (by omega)
    refine ⟨N, fun {d} => ?_, n2⟩
    rw [D_X12_beginsFor_0_den, D_X12_beginsFor_0_eq, hB, if_neg (show ¬ (800 : Int32) ≤ nI (B) from nI_ge (a := B) (b := 800) (by omega) (by omega)), D_X12_beginsFor_15_eq, if_neg (by decide), hB]
    simp only [nI_cl (show i < 2147483648 by omega), nI_o (show i < 400 by omega) (by omega), if_false]
    rw [n1, rb_bv, if_pos (Or.inr trivial)]
end DV
