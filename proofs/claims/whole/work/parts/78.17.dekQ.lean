-- needs: 71 72 73 74 75 76 77
/-! DECLARATIONS: ask, side by side -/
section DS
variable {xs : Nat → Int32} {xl d : Nat} {M : dp_M}
theorem qc_span {o f e : Nat} {v : Int32} (ho : o < 16) (q5 : dp_I M 77 o = nI f) (q6 : dp_I M 78 o = nI e) : dp_den true xs xl (d + 1) 117 [.ref 75, .int (nI o), .int v] M = iR (bI (¬ v < nI f ∧ ¬ nI e < v)) M := by
  rw [D_X5_isInSpan_0_den, D_X5_isInSpan_0_eq]
  simp only [nI_cl (show o < 2147483648 by omega), nI_o (show o < 16 by omega) (by omega), if_false, q5, q6]
  by_cases z : v < nI f
  · rw [if_pos z, bI_f (fun q => q.1 z)]
  · rw [if_neg z]
    by_cases y : nI e < v
    · rw [if_pos y, bI_f (fun q => q.2 y)]
    · rw [if_neg y, bI_t ⟨z, y⟩]
theorem dm_af0 {A i : Nat} (hA : A ≤ 400) (h : dp_I M 114 111 = nI A) (h2 : ∀ a, a < A → ¬ dp_I M 196 a = nI i) : dp_den true xs xl (d + 1) 570 [.ref 114, .int (nI i)] M = iR (-1) M := by
  rw [D_X12_askFor_0_den, D_X12_askFor_0_eq]
  simp only [dp_w]
  refine lpb (F := fun (_ : Nat) k => D_X12_askFor_4 xs xl d (nI i) (-1) (nI k) M) (s := fun _ => 0) (N := A) ?_ (fun k hk hr => ?_)
  · (try dsimp only)
    rw [D_X12_askFor_4_eq, h, if_pos (nI_lle (Nat.le_refl _) (by omega))]
  · (try dsimp only at hr); (try dsimp only)
    rw [D_X12_askFor_4_eq, h, if_neg (nI_nge hk (by omega))]
    simp only [nI_cl (show k < 2147483648 by omega), nI_o (show k < 400 by omega) (by omega), if_false, dp_w, nI_1]
    rw [if_neg (h2 k hk)]; exact hr
/-- one ask a declaration: there is room for one more -/
theorem DBd.room {D A R i : Nat} (h : DBd M D A R) (hi : i < D) (hk : ∀ a, a < A → ¬ dp_I M 196 a = nI i) : A + 1 ≤ D := by
  obtain ⟨h1, h2, h3, h4, h5, h6, h7, h8, h9, h10, -⟩ := h
  have val : ∀ a, a < A → ∃ j, j < D ∧ dp_I M 196 a = nI j := fun a ha => qin_of (h10 a ha) (by omega)
  have cl : ∀ a j, j < 400 → dp_I M 196 a = nI j → (dp_I M 196 a).toNatClampNeg = j := fun a j hj e => by rw [e, nI_cl (by omega)]
  refine pig D (A + 1) (fun a => if a < A then (dp_I M 196 a).toNatClampNeg else i) (fun a ha => ?_) (fun a b ha hb e => ?_)
  · (try dsimp only)
    by_cases z : a < A
    · obtain ⟨j, hj, ej⟩ := val a z
      rw [if_pos z, cl a j (by omega) ej]; exact hj
    · rw [if_neg z]; exact hi
  · (try dsimp only at e)
    by_cases z : a < A
    · obtain ⟨j, hj, ej⟩ := val a z
      by_cases y : b < A
      · obtain ⟨j', hj', ej'⟩ := val b y
        rw [if_pos z, if_pos y, cl a j (by omega) ej, cl b j' (by omega) ej'] at e
        subst e
        rcases (h8 j hj).2.2.2 with ⟨-, w⟩ | ⟨c, w1, w2, w3, w4⟩
        · exact absurd ej (w a z)
        · rw [w4 a z ej, w4 b y ej']
      · rw [if_pos z, if_neg y, cl a j (by omega) ej] at e
        subst e
        exact absurd ej (hk a z)
    · by_cases y : b < A
      · obtain ⟨j', hj', ej'⟩ := val b y
        rw [if_neg z, if_pos y, cl b j' (by omega) ej'] at e
        subst e
        exact absurd ej' (hk b y)
      · omega
def As_S : List Nat := [245, 75, 81, 82, 83, 84, 85, 86, 87, 89, 109, 196, 197, 198]
theorem DBd.ask {K : dp_M} {D A R i : Nat} (h : DBd M D A R) (hi : i < D) (hk : ∀ a, a < A → ¬ dp_I M 196 a = nI i) (o : Off As_S [0, 111] M K) (k111 : dp_I K 114 111 = nI (A + 1)) (k109 : dp_I K 109 = uI (dp_I M 109) i (nI A)) (k196 : dp_I K 196 = uI (dp_I M 196) A (nI i)) : DBd K D (A + 1) R := by
  have room := h.room hi hk
  obtain ⟨h1, h2, h3, h4, h5, h6, h7, h8, h9, h10, h11, h12, h13, h14⟩ := h
  have q : ∀ k ∈ [96, 108, 110, 111, 215, 233, 234, 235, 236, 237, 238, 239, 240, 241, 242, 243, 244], k < 246 ∧ k ∉ As_S ∧ k ≠ 114 := by decide
  have e : ∀ k ∈ [96, 108, 110, 111, 215, 233, 234, 235, 236, 237, 238, 239, 240, 241, 242, 243, 244], dp_I K k = dp_I M k ∧ dp_J K k = dp_J M k := fun k hk => ⟨(o.1 k (q k hk).1 (q k hk).2.1 (q k hk).2.2).1, (o.1 k (q k hk).1 (q k hk).2.1 (q k hk).2.2).2.1⟩
  refine ⟨h1, by rw [(e 108 (by decide)).1]; exact h2, by rw [(o.2.1 160 (by decide)).1]; exact h3, k111, by omega, by rw [(o.2.1 133 (by decide)).1]; exact h6, h7, fun j hj => ?_, fun j hj1 hj2 => ?_, fun a ha => ?_, fun g hg => ?_, ?_, ?_, ?_⟩
  · obtain ⟨k1, k2, k3, k4⟩ := h8 j hj
    refine ⟨?_, ?_, ?_, ?_⟩
    · unfold DFa at k1 ⊢
      rw [(e 111 (by decide)).2, (e 233 (by decide)).1, (e 234 (by decide)).1, (e 235 (by decide)).1, (e 236 (by decide)).1, (e 237 (by decide)).1, (e 238 (by decide)).1, (e 239 (by decide)).2]; exact k1
    · unfold DSt at k2 ⊢
      rw [(e 111 (by decide)).2, (e 241 (by decide)).1, (e 242 (by decide)).2, (e 243 (by decide)).1, (e 244 (by decide)).1, (e 215 (by decide)).1, (e 96 (by decide)).2]; exact k2
    · unfold DUn at k3 ⊢
      rw [(e 111 (by decide)).2, (e 240 (by decide)).2]; exact k3
    · by_cases z : j = i
      · subst z
        refine Or.inr ⟨A, by omega, by rw [k109, uI_s], by rw [k196, uI_s], fun b hb eb => ?_⟩
        rw [k196] at eb
        by_cases w : b = A
        · exact w
        · rw [uI_n w] at eb
          exact absurd eb (hk b (by omega))
      · rcases k4 with ⟨w1, w2⟩ | ⟨a, w1, w2, w3, w4⟩
        · refine Or.inl ⟨by rw [k109, uI_n z]; exact w1, fun a ha => ?_⟩
          rw [k196]
          by_cases w : a = A
          · subst w; rw [uI_s, nI_eq (by omega) (by omega)]; omega
          · rw [uI_n w]; exact w2 a (by omega)
        · refine Or.inr ⟨a, by omega, by rw [k109, uI_n z]; exact w2, by rw [k196, uI_n (by omega)]; exact w3, fun b hb eb => ?_⟩
          rw [k196] at eb
          by_cases w : b = A
          · subst w; rw [uI_s, nI_eq (by omega) (by omega)] at eb; omega
          · rw [uI_n w] at eb; exact w4 b (by omega) eb
  · have k := h9 j hj1 hj2
    unfold DNw at k ⊢
    rw [(e 111 (by decide)).2, (e 241 (by decide)).1, (e 242 (by decide)).2, (e 243 (by decide)).1, (e 240 (by decide)).2]; exact k
  · rw [k196]
    by_cases w : a = A
    · subst w; rw [uI_s]; exact qin_nI hi (by omega)
    · rw [uI_n w]; exact h10 a (by omega)
  · rw [(e 110 (by decide)).1, (e 233 (by decide)).1, (e 241 (by decide)).1]; exact h11 g hg
  · rw [(e 241 (by decide)).1, (e 243 (by decide)).1]; exact h12
  · rw [(e 241 (by decide)).1]; exact h13
  · rw [(e 233 (by decide)).1, (e 241 (by decide)).1]; exact h14
theorem s_ask (hq : RelQ M) (hd : RelD M) (hn : 246 ≤ dp_n M) (v1 v2 : Int32) (v3 : Int64) : ∃ k b M1 M2, dp_den true xs xl (d + 7) 646 [.ref 0, .int v1, .int v2, .long v3, .ref 245] M = iR k M1 ∧ dp_den true xs xl (d + 7) 572 [.ref 114, .int v1, .int v2, .long v3] M1 = iR b M2 ∧
    dp_I M2 114 0 = k ∧ (k = 0 → dp_J M2 245 0 = b.toInt64) ∧ (RelQ M2 ∧ RelD M2) ∧ Off As_S [0, 111] M M2 ∧ Cst 1 6 M M2 := by
  have hd0 := hd
  have hq0 := hq
  obtain ⟨D, A, R, hb⟩ := hd
  have hb0 := hb
  obtain ⟨h1, h2, h3, h4, h5, h6, h7, h8, h9, h10, h11, h12, h13, h14⟩ := hb
  obtain ⟨O, A', hO, hA', a1, a2, a3, a4, b1, b2, b3, b4, b5, b6, b7, b8, b9, b10⟩ := hq
  have eA : A' = A := by rw [h4, nI_eq (by omega) (by omega)] at a4; exact a4.symm
  subst eA
  have res : ∀ k : Int32, (RelQ (dp_setI (dp_new M 0 0 6) 114 0 k) ∧ RelD (dp_setI (dp_new M 0 0 6) 114 0 k)) ∧ Off As_S [0, 111] M (dp_setI (dp_new M 0 0 6) 114 0 k) ∧ Cst 1 6 M (dp_setI (dp_new M 0 0 6) 114 0 k) := fun k => ⟨⟨(hq0.refused hn k).1, (hd0.refused hn k).1⟩, ((Off.rr _ _ M).N hn 0 0 6).F 0 (by decide) k, ⟨Nat.le_refl _, Nat.le_refl _⟩⟩
  have st : ∀ i, i < D → dp_J M 111 (i * 23 + 7) = (dp_I M 241 i).toInt64 := fun i hi => (h8 i hi).2.1.1
  have n114 : ∀ q, dp_I (dp_new M 0 0 6) 114 q = dp_I M 114 q := fun q => by rw [gIN (by omega)]
  have n241 : dp_I (dp_new M 0 0 6) 241 = dp_I M 241 := gIN (by omega)
  by_cases z1 : qin v1 D ∧ dp_I M 241 v1.toNatClampNeg = 0
  case neg =>
    obtain ⟨r1, r2, r3⟩ := res 1
    refine ⟨1, 0, dp_new M 0 0 6, _, wL_ask_x0 ?_, ?_, rfl, (fun e => by cases e), r1, r2, r3⟩
    · rw [D_X11_ask_0_den, D_X11_ask_0_eq, dc_in h2 h1 st, rb_bi, ibz, if_neg z1, q_nk hn]
    · rw [D_X12_ask_0_den, D_X12_ask_0_eq, dm_in (by rw [n114]; exact h3) h1, n241, rb_bi, ibz, if_neg z1, q_ref, rb_bi]
  have z1' := z1
  obtain ⟨z, zs⟩ := z1
  obtain ⟨i, hi, rfl⟩ := qin_of z (by omega)
  by_cases z2 : (1 : Int64) ≤ v3 ∧ v3 ≤ 1000000
  case neg =>
    obtain ⟨r1, r2, r3⟩ := res 1
    refine ⟨1, 0, dp_new M 0 0 6, _, wL_ask_x0 ?_, ?_, rfl, (fun e => by cases e), r1, r2, r3⟩
    · rw [D_X11_ask_0_den, D_X11_ask_0_eq, dc_in h2 h1 st, rb_bi, ibz, if_pos z1', q_win, rb_bi, ibz, if_neg z2, q_nk hn]
    · rw [D_X12_ask_0_den, D_X12_ask_0_eq, dm_in (by rw [n114]; exact h3) h1, n241, rb_bi, ibz, if_pos z1', dm_asked, rb_bi, ibz, if_neg z2, q_ref, rb_bi]
  by_cases z3 : qin v2 O
  case neg =>
    obtain ⟨r1, r2, r3⟩ := res 2
    refine ⟨2, 0, dp_new M 0 0 6, _, wL_ask_x2 ?_, ?_, rfl, (fun e => by cases e), r1, r2, r3⟩
    · rw [D_X11_ask_0_den, D_X11_ask_0_eq, dc_in h2 h1 st, rb_bi, ibz, if_pos z1', q_win, rb_bi, ibz, if_pos z2, qc_ord a1 hO, rb_bi, ibz, if_neg z3, q_nk hn]
    · rw [D_X12_ask_0_den, D_X12_ask_0_eq, dm_in (by rw [n114]; exact h3) h1, n241, rb_bi, ibz, if_pos z1', dm_asked, rb_bi, ibz, if_pos z2, qm_ord (by rw [n114]; exact a2) hO, rb_bi, ibz, if_neg z3, q_ref, rb_bi]
  have z3' := z3
  obtain ⟨o, ho, rfl⟩ := qin_of z3 (by omega)
  obtain ⟨f, e, r, q1, q2, q3, q4, q5, q6, q7, q8, q9, q10, q11⟩ := b10 o ho
  have hk := (h8 i hi).2.2.2
  have af : ∀ N d, dp_I N 109 = dp_I M 109 → dp_I N 196 = dp_I M 196 → dp_I N 114 111 = nI A' → dp_den true xs xl (d + 1) 570 [.ref 114, .int (nI i)] N = iR (dp_I M 109 i) N := fun N d n1 n2 n3 => by
    rw [dm_af h5 n3 (hk.c (by rw [n1]) (fun a _ => by rw [n2])), n1]
  by_cases z4 : dp_I M 109 i = -1
  case neg =>
    obtain ⟨r1, r2, r3⟩ := res 3
    have nn : ¬ dp_I M 109 i < 0 := by
      rcases hk with ⟨w, -⟩ | ⟨a, w1, w2, -⟩
      · exact absurd w z4
      · have w' : dp_I M 109 i = nI a := w2
        rw [w']; exact nI_nn (by omega)
    refine ⟨3, 0, dp_new M 0 0 6, _, wL_ask_x1 ?_, ?_, rfl, (fun e => by cases e), r1, r2, r3⟩
    · rw [D_X11_ask_0_den, D_X11_ask_0_eq, dc_in h2 h1 st, rb_bi, ibz, if_pos z1', q_win, rb_bi, ibz, if_pos z2, qc_ord a1 hO, rb_bi, ibz, if_pos z3']
      simp only [nI_cl (show i < 2147483648 by omega), nI_o (show i < 400 by omega) (by omega), if_false]
      rw [if_neg z4, q_nk hn]
    · rw [D_X12_ask_0_den, D_X12_ask_0_eq, dm_in (by rw [n114]; exact h3) h1, n241, rb_bi, ibz, if_pos z1', dm_asked, rb_bi, ibz, if_pos z2, qm_ord (by rw [n114]; exact a2) hO, rb_bi, ibz, if_pos z3', af _ _ (gIN (by omega)) (gIN (by omega)) (by rw [n114]; exact h4), rb_bi, if_neg nn, q_ref, rb_bi]
  have hno : ∀ a, a < A' → ¬ dp_I M 196 a = nI i := by
    rcases hk with ⟨-, w⟩ | ⟨a, w1, w2, -⟩
    · exact w
    · have w' : dp_I M 109 i = nI a := w2
      rw [w'] at z4
      exact absurd z4 (m1_ne' (by omega))
  have room := hb0.room hi hno
  have hdy : dp_J M 111 (i * 23 + 5) = (dp_I M 238 i).toInt64 := (h8 i hi).1.2.2.2.2.2.2.2.2.2.1
  have hdk : dp_J M 111 (i * 23 + 2) = (dp_I M 235 i).toInt64 := (h8 i hi).1.2.2.2.1
  -- class and model up to the span
  have cl : dp_den true xs xl (d + 6) 350 [.ref 0, .int (nI i), .int (nI o), .long v3] M = if ¬ dp_I M 238 i < nI f ∧ ¬ nI e < dp_I M 238 i then dp_bi (dp_bi (dp_den true xs xl (d + 4) 119 [.ref 75, .int (nI o), .int (dp_I M 235 i), .int (dp_I M 238 i), .long v3] M) (fun r10 M9 => some (.inl (some (.int (1 : Int32))), dp_setI M9 109 i r10))) (fun r8 M7 => if r8 = 0 then (some (.inl (some (.int (0 : Int32))), M7)) else (some (.inl (some (.int (1 : Int32))), M7))) else iR 0 M := by
    rw [D_X11_ask_0_den, D_X11_ask_0_eq, dc_in h2 h1 st, rb_bi, ibz, if_pos z1', q_win, rb_bi, ibz, if_pos z2, qc_ord a1 hO, rb_bi, ibz, if_pos z3']
    simp only [nI_cl (show i < 2147483648 by omega), nI_o (show i < 400 by omega) (by omega), if_false]
    rw [if_pos z4, D_X0_addAsk_0_den, D_X0_addAsk_0_eq, dc_small (v2 := 5) (k := 5) rfl (by omega) (by omega) hdy, rb_bi, qc_span (by omega) q5 q6, rb_bi, ibz]
    by_cases w : ¬ dp_I M 238 i < nI f ∧ ¬ nI e < dp_I M 238 i
    · rw [if_pos w, if_pos w, dc_small (v2 := 2) (k := 2) rfl (by omega) (by omega) hdk, rb_bi, dc_small (v2 := 5) (k := 5) rfl (by omega) (by omega) hdy, rb_bi]
      simp only [nI_cl (show i < 2147483648 by omega), nI_o (show i < 400 by omega) (by omega), if_false, dp_w]
    · rw [if_neg w, if_neg w, rb_bi, if_pos rfl]
  have ml : ∀ N, dp_I N 114 160 = nI D → dp_I N 241 = dp_I M 241 → dp_I N 114 105 = nI O → dp_I N 196 = dp_I M 196 → dp_I N 114 111 = nI A' → dp_I N 238 = dp_I M 238 → dp_I N 192 = dp_I M 192 → dp_I N 193 = dp_I M 193 → dp_den true xs xl (d + 7) 572 [.ref 114, .int (nI i), .int (nI o), .long v3] N = if ¬ dp_I M 238 i < nI f ∧ ¬ nI e < dp_I M 238 i then iR 1 (dp_setI (dp_setJ (dp_setI (dp_setI (dp_setI N 114 0 0) 196 A' (nI i)) 197 A' (nI o)) 198 A' v3) 114 111 (nI (A' + 1))) else iR 0 (dp_setI N 114 0 0) := fun N n1 n2 n3 n5 n6 n7 n8 n9 => by
    have afN : ∀ {d}, dp_den true xs xl (d + 1) 570 [.ref 114, .int (nI i)] N = iR (-1) N := fun {d} => dm_af0 h5 n6 (fun a ha => by rw [n5]; exact hno a ha)
    have f1 : dp_I M 192 o = nI f := by have w : dp_I M 192 = dp_I M 77 := b2; rw [w]; exact q5
    have f2 : dp_I M 193 o = nI e := by have w : dp_I M 193 = dp_I M 78 := b3; rw [w]; exact q6
    have win : ((nI f).toInt64 ≤ (dp_I M 238 i).toInt64 ∧ (dp_I M 238 i).toInt64 ≤ (nI e).toInt64) ↔ (¬ dp_I M 238 i < nI f ∧ ¬ nI e < dp_I M 238 i) := by
      rw [Int64.le_iff_toInt_le, Int64.le_iff_toInt_le, Int32.toInt_toInt64, Int32.toInt_toInt64, Int32.toInt_toInt64, Int32.lt_iff_toInt_lt, Int32.lt_iff_toInt_lt]; omega
    rw [D_X12_ask_0_den, D_X12_ask_0_eq, dm_in n1 h1, n2, rb_bi, ibz, if_pos z1', dm_asked, rb_bi, ibz, if_pos z2, qm_ord n3 hO, rb_bi, ibz, if_pos z3', afN, rb_bi, if_pos (by decide)]
    simp only [dp_w, nI_cl (show i < 2147483648 by omega), nI_o (show i < 400 by omega) (by omega), if_false, nI_cl (show o < 2147483648 by omega), nI_o (show o < 16 by omega) (by omega), q_min, rb_bi, ibz]
    have g0 : dp_I (dp_setI N 114 0 0) 114 111 = nI A' := by rw [gII, if_pos rfl, uI_n (by decide)]; exact n6
    have g1 : dp_I (dp_setI N 114 0 0) 238 i = dp_I M 238 i := by rw [gII, if_neg (by decide), n7]
    have g2 : dp_I (dp_setI N 114 0 0) 192 o = nI f := by rw [gII, if_neg (by decide), n8, f1]
    have g3 : dp_I (dp_setI N 114 0 0) 193 o = nI e := by rw [gII, if_neg (by decide), n9, f2]
    rw [g1, g2, g3]
    by_cases w : ¬ dp_I M 238 i < nI f ∧ ¬ nI e < dp_I M 238 i
    · rw [if_pos w, if_pos (win.mpr w)]
      have s1 : dp_I (dp_setI (dp_setI N 114 0 0) 196 A' (nI i)) 114 111 = nI A' := by rw [gII, if_neg (by decide)]; exact g0
      have s2 : dp_I (dp_setI (dp_setI (dp_setI N 114 0 0) 196 A' (nI i)) 197 A' (nI o)) 114 111 = nI A' := by rw [gII, if_neg (by decide)]; exact s1
      have s3 : dp_I (dp_setJ (dp_setI (dp_setI (dp_setI N 114 0 0) 196 A' (nI i)) 197 A' (nI o)) 198 A' v3) 114 111 = nI A' := by rw [gIJ]; exact s2
      simp only [g0, nI_cl (show A' < 2147483648 by omega), nI_o (show A' < 400 by omega) (by omega), if_false, s1, s2, s3, nI_1]
    · rw [if_neg w, if_neg (fun q => w (win.mp q))]
  by_cases y : ¬ dp_I M 238 i < nI f ∧ ¬ nI e < dp_I M 238 i
  case neg =>
    refine ⟨0, 0, dp_setJ M 245 0 (0 : Int32).toInt64, dp_setI (dp_setJ M 245 0 (0 : Int32).toInt64) 114 0 0, wL_ask_ok (by rw [cl, if_neg y]), ?_, rfl, (fun _ => rfl), ⟨(hq0.looked _).1, (hd0.looked _).1⟩, ((Off.rr _ _ M).J 245 (by decide) _ _).F 0 (by decide) _, ⟨Nat.le_add_right _ _, Nat.le_add_right _ _⟩⟩
    rw [ml _ (by rw [gIJ]; exact h3) (by rw [gIJ]) (by rw [gIJ]; exact a2) (by rw [gIJ]) (by rw [gIJ]; exact h4) (by rw [gIJ]) (by rw [gIJ]) (by rw [gIJ]), if_neg y]
  have vb : 0 ≤ v3.toInt ∧ v3.toInt ≤ 1000000 := by
    have w1 := z2.1
    have w2 := z2.2
    rw [Int64.le_iff_toInt_le] at w1 w2
    have e1 : (1 : Int64).toInt = 1 := rfl
    have e2 : (1000000 : Int64).toInt = 1000000 := rfl
    omega
  obtain ⟨C, c1, c2, c3, c4, c5, c6, c7, c8, c9, c10⟩ := qc_new (xs := xs) (xl := xl) (d := d) (M := M) (A := A') (o := o) (v2 := dp_I M 235 i) (v3 := dp_I M 238 i) (v := v3) hO (by omega) ho a3 b8 vb.1 vb.2 b10
  obtain ⟨N0, hN0⟩ : ∃ N0, N0 = dp_setJ (dp_setI C 109 i (nI A')) 245 0 (1 : Int32).toInt64 := ⟨_, rfl⟩
  obtain ⟨K, hK⟩ : ∃ K, K = dp_setI (dp_setJ (dp_setI (dp_setI (dp_setI N0 114 0 0) 196 A' (nI i)) 197 A' (nI o)) 198 A' v3) 114 111 (nI (A' + 1)) := ⟨_, rfl⟩
  have nI0 : ∀ k, k ≠ 109 → dp_I N0 k = dp_I C k := fun k w => by rw [hN0, gIJ, gII, if_neg w]
  have kI : ∀ k, k ≠ 114 → k ≠ 196 → k ≠ 197 → k ≠ 109 → dp_I K k = dp_I C k := fun k w1 w2 w3 w4 => by rw [hK, gII, if_neg w1, gIJ, gII, if_neg w3, gII, if_neg w2, gII, if_neg w1, nI0 k w4]
  have kJ : ∀ k, k ≠ 198 → k ≠ 245 → dp_J K k = dp_J C k := fun k w1 w2 => by rw [hK, gJI, gJJ, if_neg w1, gJI, gJI, gJI, hN0, gJJ, if_neg w2, gJI]
  have k109 : dp_I K 109 = uI (dp_I M 109) i (nI A') := by rw [hK, gII, if_neg (by decide), gIJ, gII, if_neg (by decide), gII, if_neg (by decide), gII, if_neg (by decide), hN0, gIJ, gII, if_pos rfl, (c2.1 109 (by decide) (by decide) (by decide)).1]
  have k196 : dp_I K 196 = uI (dp_I M 196) A' (nI i) := by rw [hK, gII, if_neg (by decide), gIJ, gII, if_neg (by decide), gII, if_pos rfl, gII, if_neg (by decide), nI0 196 (by decide), (c2.1 196 (by decide) (by decide) (by decide)).1]
  have k197 : dp_I K 197 = uI (dp_I M 197) A' (nI o) := by rw [hK, gII, if_neg (by decide), gIJ, gII, if_pos rfl, gII, if_neg (by decide), gII, if_neg (by decide), nI0 197 (by decide), (c2.1 197 (by decide) (by decide) (by decide)).1]
  have k198 : dp_J K 198 = uI (dp_J M 198) A' v3 := by rw [hK, gJI, gJJ, if_pos rfl, gJI, gJI, gJI, hN0, gJJ, if_neg (by decide), gJI, (c2.1 198 (by decide) (by decide) (by decide)).2.1]
  have oN0 : Off As_S [0, 111] M N0 := by rw [hN0]; exact ((c2.mono (by decide) (by decide)).I 109 (by decide) _ _).J 245 (by decide) _ _
  have oK : Off As_S [0, 111] M K := by rw [hK]; exact ((((oN0.F 0 (by decide) _).I 196 (by decide) _ _).I 197 (by decide) _ _).J 198 (by decide) _ _).F 111 (by decide) _
  have k114 : ∀ q, q ≠ 0 → q ≠ 111 → dp_I K 114 q = dp_I M 114 q := fun q w1 w2 => (oK.2.1 q (by simp [w1, w2])).1
  have k111 : dp_I K 114 111 = nI (A' + 1) := by rw [hK, gII, if_pos rfl, uI_s]
  have cM' : ∀ k ∈ [76, 77, 78, 79, 80, 191, 192, 193, 194, 195, 235, 238], dp_I K k = dp_I M k ∧ dp_J K k = dp_J M k := fun k hk => by
    have w : ∀ k ∈ [76, 77, 78, 79, 80, 191, 192, 193, 194, 195, 235, 238], k < 246 ∧ k ∉ As_S ∧ k ≠ 114 := by decide
    exact ⟨(oK.1 k (w k hk).1 (w k hk).2.1 (w k hk).2.2).1, (oK.1 k (w k hk).1 (w k hk).2.1 (w k hk).2.2).2.1⟩
  have n0 : ∀ k, k < 246 → k ∉ As_S → k ≠ 114 → dp_I N0 k = dp_I M k := fun k w1 w2 w3 => (oN0.1 k w1 w2 w3).1
  have t0 : ∀ q, q ≠ 0 → q ≠ 111 → dp_I N0 114 q = dp_I M 114 q := fun q w1 w2 => (oN0.2.1 q (by simp [w1, w2])).1
  have c114 : dp_I N0 114 111 = nI A' := by rw [nI0 114 (by decide), (c2.2.1 111 (by decide)).1]; exact h4
  refine ⟨0, 1, N0, K, ?_, ?_, ?_, fun _ => ?_, ⟨?_, ⟨D, A' + 1, R, hb0.ask hi hno oK k111 k109 k196⟩⟩, oK, ?_⟩
  · rw [hN0]
    refine wL_ask_ok ?_
    rw [cl, if_pos y, c1, rb_bi, rb_bi, if_neg one_ne]
  · rw [ml N0 (by rw [t0 160 (by decide) (by decide)]; exact h3) (n0 241 (by decide) (by decide) (by decide)) (by rw [t0 105 (by decide) (by decide)]; exact a2) (by rw [nI0 196 (by decide), (c2.1 196 (by decide) (by decide) (by decide)).1]) c114 (n0 238 (by decide) (by decide) (by decide)) (n0 192 (by decide) (by decide) (by decide)) (n0 193 (by decide) (by decide) (by decide)), if_pos y, hK]
  · rw [hK, gII, if_pos rfl, uI_n (by decide), gIJ, gII, if_neg (by decide), gII, if_neg (by decide), gII, if_pos rfl, uI_s]
  · rw [hK, gJI, gJJ, if_neg (by decide), gJI, gJI, gJI, hN0, gJJ, if_pos rfl, uI_s]
  · refine ⟨O, A' + 1, hO, by omega, ?_, by rw [k114 105 (by decide) (by decide)]; exact a2, ?_, k111, by rw [(cM' 191 (by decide)).2, (cM' 76 (by decide)).2]; exact b1, by rw [(cM' 192 (by decide)).1, (cM' 77 (by decide)).1]; exact b2, by rw [(cM' 193 (by decide)).1, (cM' 78 (by decide)).1]; exact b3, by rw [(cM' 194 (by decide)).1, (cM' 79 (by decide)).1]; exact b4, by rw [(cM' 195 (by decide)).1, (cM' 80 (by decide)).1]; exact b5, ?_, by rw [(cM' 80 (by decide)).1]; exact b7, fun x => ?_, fun x hx => ?_, fun o' ho' => ?_⟩
    · rw [kI 75 (by decide) (by decide) (by decide) (by decide), c9]; exact a1
    · rw [kI 75 (by decide) (by decide) (by decide) (by decide), c10]
    · rw [k198, kJ 85 (by decide) (by decide), c8]
      have w : dp_J M 198 = dp_J M 85 := b6
      rw [w]
    · rw [kJ 85 (by decide) (by decide), c8]
      by_cases w : x = A'
      · subst w; rw [uI_s]; exact vb
      · rw [uI_n w]; exact b8 x
    · rw [kI 82 (by decide) (by decide) (by decide) (by decide), kI 83 (by decide) (by decide) (by decide) (by decide), kI 84 (by decide) (by decide) (by decide) (by decide), c5, c6, c7]
      unfold mdy mdk
      rw [k196, k197, (cM' 235 (by decide)).1, (cM' 238 (by decide)).1]
      by_cases w : x = A'
      · subst w
        simp only [uI_s]
        rw [nI_cl (by omega)]
        exact ⟨trivial, z3', qin_nI (by omega) (by omega), rfl, rfl⟩
      · simp only [uI_n w]
        exact b9 x (by omega)
    · exact (c4 o' ho').same (by omega) (kI 82 (by decide) (by decide) (by decide) (by decide)) (kI 84 (by decide) (by decide) (by decide) (by decide)) (kI 83 (by decide) (by decide) (by decide) (by decide)) (kJ 85 (by decide) (by decide)) (fun x _ => by rw [kI 80 (by decide) (by decide) (by decide) (by decide)]) (by rw [kJ 76 (by decide) (by decide)]) (by rw [kI 77 (by decide) (by decide) (by decide) (by decide)]) (by rw [kI 78 (by decide) (by decide) (by decide) (by decide)]) (by rw [kI 79 (by decide) (by decide) (by decide) (by decide)]) (fun x _ => by rw [kI 87 (by decide) (by decide) (by decide) (by decide), kJ 86 (by decide) (by decide)]; exact ⟨rfl, rfl⟩) (fun x _ => by rw [kJ 81 (by decide) (by decide)])
  · have cs : Cst 0 0 C K := by rw [hK, hN0]; exact ⟨Nat.le_refl _, Nat.le_refl _⟩
    exact (c3.tr0 cs).mono (by omega) (by omega)
end DS
