-- needs: 75 76
/-! GATE: gate -/
section GL
variable {xs : Nat → Int32} {xl d : Nat} {M : dp_M}
theorem s_gate {n B t c : Nat} (h : PR M n B t c) (hc : c + 1 < 1073741824) (hn : 246 ≤ dp_n M) (v1 : Int32) : ∃ k b M1 M2, dp_den true xs xl (d + 7) 617 [.ref 0, .int v1, .ref 245] M = iR k M1 ∧ dp_den true xs xl (d + 7) 439 [.ref 114, .int v1] M1 = iR b M2 ∧
    dp_I M2 114 0 = k ∧ (k = 0 → dp_J M2 245 0 = b.toInt64) ∧ PR M2 n B t (c + 1) ∧ Off (245 :: PR_W) (0 :: PR_V) M M2 ∧ Cst 1 6 M M2 := by
  have h0 := h
  obtain ⟨p1, p2, p3, p4, p5, p6, p7⟩ := h0.bx
  obtain ⟨K, D, gk, gm⟩ := h0.gk
  obtain ⟨h1, h2, h3, h4, h5, ⟨u1, u2, u3⟩, h7⟩ := h
  by_cases g : qin v1 n
  case neg =>
    obtain ⟨r1, r2, r3⟩ := h0.refused hn 1
    refine ⟨1, 0, dp_new M 0 0 6, _, wL_gate_x0 ?_, ?_, rfl, (fun e => by cases e), r1.up (by omega) hc, r2, r3⟩
    · rw [D_X11_gate_0_den, D_X11_gate_0_eq, pc_box p2 p1, rb_bi, ibz, q_nk hn, if_neg g]
    · rw [D_X12_gate_0_den, D_X12_gate_0_eq, pm_box (n := n) (by rw [gIN (by omega)]; exact p3) p1, rb_bi, ibz]
      simp only [q_ref, rb_bi]
      rw [if_neg g]
  have g' := g
  obtain ⟨x, hx, rfl⟩ := qin_of g (by omega)
  obtain ⟨w1, w2⟩ := h0.row hx
  have pw := p5 x hx
  obtain ⟨F, hF⟩ : ∃ F, F = fy (grf (dp_I M 43) x) (vdF M K) (dp_I M 40) n := ⟨_, rfl⟩
  obtain ⟨v, hv⟩ : ∃ v : Int32, v = bI (ttb (grf (dp_I M 43) x) (nbF M K D) n = 0) := ⟨_, rfl⟩
  have ask : ∀ {e : Nat}, dp_den true xs xl (e + 4) 39 [.ref 37, .int (nI x)] M = iR v (rI M 40 F) := by rw [hv, hF]; exact gc_ask gk p2 p1 hx
  obtain ⟨A, hA⟩ : ∃ A, A = rI M 40 F := ⟨_, rfl⟩
  rw [← hA] at ask
  have ak : ∀ k, k ≠ 40 → dp_I A k = dp_I M k := fun k q => by rw [hA, rI_I, if_neg q]
  have mask : ∀ N, (∀ k ∈ [147, 149, 151, 152, 137, 146, 233, 241], dp_I N k = dp_I M k) → (∀ i ∈ [3, 44, 160], dp_I N 114 i = dp_I M 114 i) → dp_I N 153 = dp_I M 153 → ∀ {e : Nat}, dp_den true xs xl (e + 6) 434 [.ref 114, .int (nI x)] N = iR v (rI N 153 F) := by
    intro N a1 a2 a3 e
    rw [gm_ask (gm N a1 a2) hx, a3, show dp_I M 153 = dp_I M 40 from h7.2.2, hv, hF]
  obtain ⟨L, hL⟩ : ∃ L : Prop, L = ((dp_I M 9 x = 3 ∧ dp_I M 11 x = 0) ∧ dp_I M 29 x = -1) := ⟨_, rfl⟩
  have c1 : dp_den true xs xl (d + 6) 292 [.ref 0, .int (nI x)] M = dp_bi (dp_den true xs xl (d + 5) 48 [.ref 37, .int (nI x)] M) (fun r4 M3 => if r4 = 0 then iR 0 M3 else iR 1 M3) := by
    rw [D_X11_gate_0_den, D_X11_gate_0_eq, pc_box p2 p1, rb_bi, ibz, if_pos g']
  have c2a : ¬ L → dp_den true xs xl (d + 5) 48 [.ref 37, .int (nI x)] M = iR 0 M := fun q => by
    rw [hL] at q
    rw [D_X1_letOut_0_den, D_X1_letOut_0_eq, gc_may hx p1, rb_bi, ibz, if_neg q]
  have c2 : L → dp_den true xs xl (d + 5) 48 [.ref 37, .int (nI x)] M = if v = 0 then iR 0 A else (if dp_I M 41 x = 1000 * dp_I M 5 x then dp_bv (dp_den true xs xl (d + 4) 50 [.ref 37, .int (nI x), .int 3] (dp_setI A 11 x 1)) (fun M6 => iR 1 M6) else iR 0 A) := fun q => by
    rw [hL] at q
    rw [D_X1_letOut_0_den, D_X1_letOut_0_eq, gc_may hx p1, rb_bi, ibz, if_pos q, ask, rb_bi]
    simp only [nI_cl (show x < 2147483648 by omega), nI_o (show x < 100 by omega) (by omega), if_false, gc_kg (show x < 100 by omega), rb_bi, dp_w, ak 41 (by decide), ak 5 (by decide)]
  have hp : ∀ C : dp_M, dp_I C 114 = dp_I M 114 → dp_I C 144 = dp_I M 144 → dp_I C 117 = dp_I M 117 → dp_I C 140 = dp_I M 140 → dp_den true xs xl (d + 7) 439 [.ref 114, .int (nI x)] C = dp_bi (dp_den true xs xl (d + 6) 402 [.ref 114, .int (nI x)] (dp_setI C 114 0 0)) (fun r7 M6 => if r7 = 0 then iR 0 M6 else (if dp_I M6 140 x < 0 then (dp_bi (dp_den true xs xl (d + 6) 434 [.ref 114, .int (nI x)] M6) (fun r9 M8 => if r9 = 0 then iR 0 M8 else (dp_bi (dp_den true xs xl (d + 6) 421 [.ref 114, .int (nI x)] M8) (fun r11 M10 => if dp_I M8 145 x = r11 then dp_bv (dp_den true xs xl (d + 6) 422 [.ref 114, .int (nI x), .int 3] (dp_setI M10 144 x 1)) (fun M13 => iR 1 M13) else iR 0 M10)))) else iR 0 M6)) := fun C a1 a2 a3 a4 => by
    rw [D_X12_gate_0_den, D_X12_gate_0_eq, pm_box (n := n) (by rw [a1]; exact p3) p1, rb_bi, ibz, if_pos g']
    simp only [dp_w, nI_cl (show x < 2147483648 by omega), nI_o (show x < 100 by omega) (by omega), if_false]
  have hr : ∀ C : dp_M, dp_I C 114 = dp_I M 114 → dp_I C 144 = dp_I M 144 → dp_I C 117 = dp_I M 117 → dp_I C 140 = dp_I M 140 → (¬ L → dp_den true xs xl (d + 7) 439 [.ref 114, .int (nI x)] C = iR 0 (dp_setI C 114 0 0)) ∧ (L → dp_den true xs xl (d + 7) 439 [.ref 114, .int (nI x)] C = dp_bi (dp_den true xs xl (d + 6) 434 [.ref 114, .int (nI x)] (dp_setI C 114 0 0)) (fun r9 M8 => if r9 = 0 then iR 0 M8 else (dp_bi (dp_den true xs xl (d + 6) 421 [.ref 114, .int (nI x)] M8) (fun r11 M10 => if dp_I M8 145 x = r11 then dp_bv (dp_den true xs xl (d + 6) 422 [.ref 114, .int (nI x), .int 3] (dp_setI M10 144 x 1)) (fun M13 => iR 1 M13) else iR 0 M10)))) := fun C a1 a2 a3 a4 => by
    have b : ∀ k, k ≠ 114 → dp_I (dp_setI C 114 0 0) k = dp_I C k := fun k q => by rw [gII, if_neg q]
    rw [hp C a1 a2 a3 a4, hm_here hx p1, rb_bi, ibz, b 117 (by decide), b 144 (by decide), b 140 (by decide), a2, a3, a4, p6, p7, hL]
    constructor
    · intro q
      by_cases z : dp_I M 9 x = 3 ∧ dp_I M 11 x = 0
      · rw [if_pos z, if_neg (fun e => q ⟨z, w2.mp e⟩)]
      · rw [if_neg z]
    · intro q
      rw [if_pos q.1, if_pos (w2.mpr q.2)]
  by_cases zL : L
  case neg =>
    obtain ⟨r1, r2, r3⟩ := h0.looked ((0 : Int32).toInt64)
    refine ⟨0, 0, _, dp_setI (dp_setJ M 245 0 (0 : Int32).toInt64) 114 0 0, wL_gate_ok (M1 := M) (x := 0) (by rw [c1, c2a zL, rb_bi, if_pos rfl]), ?_, by simp [gII, uI], fun _ => by simp [gJI, gJJ, uI], r1.up (by omega) hc, r2, r3⟩
    exact (hr (dp_setJ M 245 0 (0 : Int32).toInt64) (by rw [gIJ]) (by rw [gIJ]) (by rw [gIJ]) (by rw [gIJ])).1 zL
  have m1 : ∀ C : dp_M, (∀ k ∈ [147, 149, 151, 152, 137, 146, 233, 241, 144, 145, 153, 117, 140], dp_I C k = dp_I M k) → dp_I C 114 = dp_I M 114 → ∀ N, N = rI (dp_setI C 114 0 0) 153 F → dp_den true xs xl (d + 7) 439 [.ref 114, .int (nI x)] C = if v = 0 then iR 0 N else (if dp_I M 41 x = 1000 * dp_I M 5 x then dp_bv (dp_den true xs xl (d + 6) 422 [.ref 114, .int (nI x), .int 3] (dp_setI N 144 x 1)) (fun M6 => iR 1 M6) else iR 0 N) := fun C a1 a2 N hN => by
    have b : ∀ k, k ≠ 114 → dp_I (dp_setI C 114 0 0) k = dp_I C k := fun k q => by rw [gII, if_neg q]
    have sub : ∀ k ∈ [147, 149, 151, 152, 137, 146, 233, 241], k ≠ 114 ∧ k ∈ [147, 149, 151, 152, 137, 146, 233, 241, 144, 145, 153, 117, 140] := by decide
    rw [(hr C a2 (a1 _ (by decide)) (a1 _ (by decide)) (a1 _ (by decide))).2 zL]
    rw [mask (dp_setI C 114 0 0) (fun k hk => by rw [b k (sub k hk).1, a1 k (sub k hk).2]) (fun i hi => by rw [gII, if_pos rfl, uI_n (fun q => by subst q; revert hi; decide), a2]) (by rw [b 153 (by decide), a1 153 (by decide)]), rb_bi, ← hN]
    have w : ∀ k, k ≠ 114 → k ≠ 153 → k ∈ [147, 149, 151, 152, 137, 146, 233, 241, 144, 145, 153, 117, 140] → dp_I N k = dp_I M k := fun k q1 q2 q3 => by rw [hN, rI_I, if_neg q2, b k q1, a1 k q3]
    simp only [gm_kg (show x < 100 by omega), rb_bi, w 145 (by decide) (by decide) (by decide), w 137 (by decide) (by decide) (by decide), p4, u1]
  by_cases z : ¬ v = 0 ∧ dp_I M 41 x = 1000 * dp_I M 5 x
  case neg =>
    have ce : dp_den true xs xl (d + 5) 48 [.ref 37, .int (nI x)] M = iR 0 A := by
      rw [c2 zL]
      by_cases z1 : v = 0
      · rw [if_pos z1]
      · rw [if_neg z1, if_neg (fun q => z ⟨z1, q⟩)]
    have a114 : dp_I (dp_setJ A 245 0 (0 : Int32).toInt64) 114 = dp_I M 114 := by rw [gIJ, ak 114 (by decide)]
    have oK : Off [245, 40, 153] [0] M (rI (dp_setI (dp_setJ A 245 0 (0 : Int32).toInt64) 114 0 0) 153 F) := by rw [hA]; exact ((((Off.rr _ _ M).rI 40 (by decide) _).J 245 (by decide) 0 _).F 0 (by decide) 0).rI 153 (by decide) _
    refine ⟨0, 0, _, rI (dp_setI (dp_setJ A 245 0 (0 : Int32).toInt64) 114 0 0) 153 F, wL_gate_ok (M1 := A) (x := 0) (by rw [c1, ce, rb_bi, if_pos rfl]), ?_, ?_, fun _ => ?_, (h0.ask oK ?_).up (by omega) hc, oK.mono (by decide) (by decide), ?_⟩
    · rw [m1 _ (fun k hk => by rw [gIJ]; exact ak k (fun q => by subst q; revert hk; decide)) a114 _ rfl]
      by_cases z1 : v = 0
      · rw [if_pos z1]
      · rw [if_neg z1, if_neg (fun q => z ⟨z1, q⟩)]
    · rw [rI_I, if_neg (by decide), gII, if_pos rfl, uI_s]
    · rw [rI_J]; simp [gJI, gJJ, uI]
    · rw [rI_I, if_pos rfl, rI_I, if_neg (by decide), gII, if_neg (by decide), gIJ, hA, rI_I, if_pos rfl]
    · rw [hA]; exact ⟨Nat.le_add_right _ _, Nat.le_add_right _ _⟩
  obtain ⟨z1, z3⟩ := z
  have zL' := zL
  rw [hL] at zL'
  obtain ⟨tt, t1, t2⟩ := h2.tell (xs := xs) (xl := xl) (d := d + 3) hc (nI x) 3
  obtain ⟨C0, hC0⟩ : ∃ C0, C0 = dp_setI A 11 x 1 := ⟨_, rfl⟩
  have c0 : ∀ k, k ≠ 40 → k ≠ 11 → dp_I C0 k = dp_I M k := fun k q q2 => by rw [hC0, gII, if_neg q2, ak k q]
  obtain ⟨C, hC⟩ : ∃ C, C = tlC C0 tt (10 * nI x + 3) := ⟨_, rfl⟩
  have ck : ∀ k, k ≠ 37 → k ≠ 50 → k ≠ 40 → k ≠ 11 → dp_I C k = dp_I M k := fun k a b e f => by rw [hC, tlC_I _ _ _ k a b, c0 k e f]
  have oC : Off [245, 11, 37, 40, 50, 144, 153, 154] [0, 52] M C := by rw [hC, hC0, hA]; unfold tlC; exact ((((Off.rr _ _ M).rI 40 (by decide) _).I 11 (by decide) _ _).I 50 (by decide) _ _).I 37 (by decide) _ _
  obtain ⟨N, hN⟩ : ∃ N, N = rI (dp_setI (dp_setJ C 245 0 (1 : Int32).toInt64) 114 0 0) 153 F := ⟨_, rfl⟩
  have nk : ∀ k, k ≠ 114 → k ≠ 153 → dp_I N k = dp_I C k := fun k q q' => by rw [hN, rI_I, if_neg q', gII, if_neg q, gIJ]
  obtain ⟨N1, hN1⟩ : ∃ N1, N1 = dp_setI N 144 x 1 := ⟨_, rfl⟩
  have nk1 : ∀ k, k ≠ 114 → k ≠ 144 → k ≠ 153 → dp_I N1 k = dp_I C k := fun k q q' q2 => by rw [hN1, gII, if_neg q', nk k q q2]
  obtain ⟨M2, q1, q2, q3, q4⟩ := t2 C0 N1 (c0 37 (by decide) (by decide)) (c0 50 (by decide) (by decide)) (by rw [nk1 37 (by decide) (by decide) (by decide), hC]) (by rw [nk1 50 (by decide) (by decide) (by decide), hC]) (by rw [hN1, gII, if_neg (by decide), hN, rI_I, if_neg (by decide), gII, if_pos rfl, uI_n (by decide), gIJ, ck 114 (by decide) (by decide) (by decide) (by decide)]) (by rw [nk1 154 (by decide) (by decide) (by decide), ck 154 (by decide) (by decide) (by decide) (by decide)]) (d + 5)
  have oN : Off [245, 11, 37, 40, 50, 144, 153, 154] [0, 52] M N1 := by rw [hN1, hN]; exact (((oC.J 245 (by decide) 0 _).F 0 (by decide) 0).rI 153 (by decide) _).I 144 (by decide) _ _
  have oK := oN.tr (q3.mono (by decide) (by decide) : Off [245, 11, 37, 40, 50, 144, 153, 154] [0, 52] N1 M2)
  have e37 : dp_I M2 37 2 = dp_I M 37 2 := by rw [(q3.1 37 (by decide) (by decide) (by decide)).1, nk1 37 (by decide) (by decide) (by decide), hC, tlC_g, c0 37 (by decide) (by decide)]
  have r11 : dp_I M2 11 = uI (dp_I M 11) x 1 := by rw [(q3.1 11 (by decide) (by decide) (by decide)).1, nk1 11 (by decide) (by decide) (by decide), hC, tlC_I _ _ _ 11 (by decide) (by decide), hC0, gII, if_pos rfl, ak 11 (by decide)]
  have r144 : dp_I M2 144 = uI (dp_I M 144) x 1 := by rw [(q3.1 144 (by decide) (by decide) (by decide)).1, hN1, gII, if_pos rfl, nk 144 (by decide) (by decide), ck 144 (by decide) (by decide) (by decide) (by decide)]
  have r40 : dp_I M2 40 = F := by rw [(q3.1 40 (by decide) (by decide) (by decide)).1, nk1 40 (by decide) (by decide) (by decide), hC, tlC_I _ _ _ 40 (by decide) (by decide), hC0, gII, if_neg (by decide), hA, rI_I, if_pos rfl]
  have r153 : dp_I M2 153 = F := by rw [(q3.1 153 (by decide) (by decide) (by decide)).1, hN1, gII, if_neg (by decide), hN, rI_I, if_pos rfl]
  refine ⟨0, 1, _, M2, wL_gate_ok (M1 := C) (x := 1) (by rw [c1, c2 zL, if_neg z1, if_pos z3, ← hC0, t1 C0 (c0 37 (by decide) (by decide)) (c0 50 (by decide) (by decide)), rb_bv, ← hC, rb_bi, if_neg one_ne]), ?_, ?_, fun _ => ?_, ⟨PHY.stay h1 oK (by decide) (by decide) hx r11 r144 (Or.inr ⟨zL'.1.1, zL'.2⟩), q2, GGd_37 h3 e37 (fun k hk => (oK.1 k (by simp only [List.mem_cons, List.not_mem_nil, or_false] at hk; omega) (by simp only [List.mem_cons, List.not_mem_nil, or_false] at hk ⊢; omega) (by simp only [List.mem_cons, List.not_mem_nil, or_false] at hk; omega)).1) (fun i hi => (oK.2.1 i (by simp only [List.mem_cons, List.not_mem_nil, or_false] at hi ⊢; omega)).1), (GBr_off h4 oK (by decide)).up (by omega), GLd_off h5 oK (by decide), ⟨?_, fun y hy => ?_, fun y q1 q2 => ?_⟩, h7.ask oK (by decide) (by rw [r40, r153])⟩, oK.mono (by decide) (by decide), ?_⟩
  · rw [m1 (dp_setJ C 245 0 (1 : Int32).toInt64) (fun k hk => by rw [gIJ]; exact ck k (fun q => by subst q; revert hk; decide) (fun q => by subst q; revert hk; decide) (fun q => by subst q; revert hk; decide) (fun q => by subst q; revert hk; decide)) (by rw [gIJ]; exact ck 114 (by decide) (by decide) (by decide) (by decide)) N hN, if_neg z1, if_pos z3, ← hN1, q1, rb_bv]
  · rw [(q3.2.1 0 (by decide)).1, hN1, gII, if_neg (by decide), hN, rI_I, if_neg (by decide)]; simp [gII, uI]
  · rw [(q3.1 245 (by decide) (by decide) (by decide)).2.1, hN1, hN, gJI, rI_J]; simp [gJI, gJJ, uI]
  · rw [(oK.1 145 (by decide) (by decide) (by decide)).1, (oK.1 41 (by decide) (by decide) (by decide)).1]; exact u1
  · rw [(oK.1 41 (by decide) (by decide) (by decide)).1, (oK.1 5 (by decide) (by decide) (by decide)).1, r11]
    refine ⟨(u2 y hy).1, (u2 y hy).2.1, fun q => ?_⟩
    by_cases w : y = x
    · subst w; exact z3
    · rw [uI_n w] at q; exact (u2 y hy).2.2 q
  · rw [(oK.1 41 (by decide) (by decide) (by decide)).1]; exact u3 y q1 q2
  · have q5 : Cst 0 0 M N1 := by rw [hN1, hN, hC, hC0, hA]; exact ⟨Nat.le_refl _, Nat.le_refl _⟩
    exact (q5.tr0 q4).mono (by omega) (by omega)
end GL
