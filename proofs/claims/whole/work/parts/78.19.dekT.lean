-- needs: 71 72 73 74 75 76 77
/-! DECLARATIONS: a batch booked for one -/
section DU
variable {xs : Nat → Int32} {xl d : Nat} {M : dp_M}
/-- the class's batch B begun, n entries in it -/
def CBk (M N : dp_M) (B n : Nat) (va kn : Int32) (ac ce : Nat → Int32) : Prop := Off [97, 100, 101, 102] [] M N ∧ Cst 0 0 M N ∧ dp_I N 97 = uI (dp_I M 97) 0 (nI (B + 1)) ∧ (∀ b k, k < 7 → b ≠ B → dp_I N 100 (b * 7 + k) = dp_I M 100 (b * 7 + k)) ∧
  dp_I N 100 (B * 7 + 0) = 0 ∧ dp_I N 100 (B * 7 + 1) = nI n ∧ dp_I N 100 (B * 7 + 2) = -1 ∧ dp_I N 100 (B * 7 + 3) = -1 ∧ dp_I N 100 (B * 7 + 4) = 0 ∧ dp_I N 100 (B * 7 + 5) = va ∧ dp_I N 100 (B * 7 + 6) = kn ∧ (∀ i, i < B * 20 → dp_I N 101 i = dp_I M 101 i ∧ dp_I N 102 i = dp_I M 102 i) ∧ ∀ k, k < n → dp_I N 101 (B * 20 + k) = ac k ∧ dp_I N 102 (B * 20 + k) = ce k
theorem cbk_begin {B : Nat} {va kn : Int32} {ac ce : Nat → Int32} (hB : dp_I M 97 0 = nI B) (h : B < 800) (hz : ∀ k, k < 7 → dp_I M 100 (B * 7 + k) = 0) : ∃ N, (∀ {d}, dp_den true xs xl (d + 2) 82 [.ref 97, .int va, .int kn] M = iR (nI B) N) ∧ CBk M N B 0 va kn ac ce := by
  obtain ⟨N, hN⟩ : ∃ N, N = dp_setI (dp_setI (dp_setI (dp_setI (dp_setI M 100 (B * 7 + 2) (-1)) 100 (B * 7 + 3) (-1)) 100 (B * 7 + 5) va) 100 (B * 7 + 6) kn) 97 0 (nI (B + 1)) := ⟨_, rfl⟩
  have m97 : dp_I N 97 = uI (dp_I M 97) 0 (nI (B + 1)) := by rw [hN]; simp only [gII, Nat.reduceEqDiff, if_true, if_false]
  have m100 : dp_I N 100 = uI (uI (uI (uI (dp_I M 100) (B * 7 + 2) (-1)) (B * 7 + 3) (-1)) (B * 7 + 5) va) (B * 7 + 6) kn := by rw [hN]; simp only [gII, Nat.reduceEqDiff, if_true, if_false]
  have hz' : ∀ k, k < 7 → dp_I M 100 (B * 7 + k) = 0 := hz
  refine ⟨N, fun {d} => by rw [lc_begin hB h, hN], ?_, ?_, m97, fun b k hk hb => ?_, ?_, ?_, ?_, ?_, ?_, ?_, ?_, fun i hi => ?_, fun k hk => absurd hk (by omega)⟩
  · rw [hN]
    exact (((((Off.rr _ _ M).I 100 (by decide) _ _).I 100 (by decide) _ _).I 100 (by decide) _ _).I 100 (by decide) _ _).I 97 (by decide) _ _
  · rw [hN]; exact ⟨Nat.le_refl _, Nat.le_refl _⟩
  · rw [m100, u2 hk (by omega), if_neg (by omega), u2 hk (by omega), if_neg (by omega), u2 hk (by omega), if_neg (by omega), u2 hk (by omega), if_neg (by omega)]
  · rw [m100, uI_n (by omega), uI_n (by omega), uI_n (by omega), uI_n (by omega)]; exact hz' 0 (by omega)
  · rw [m100, uI_n (by omega), uI_n (by omega), uI_n (by omega), uI_n (by omega)]; exact hz' 1 (by omega)
  · rw [m100, uI_n (by omega), uI_n (by omega), uI_n (by omega), uI_s]
  · rw [m100, uI_n (by omega), uI_n (by omega), uI_s]
  · rw [m100, uI_n (by omega), uI_n (by omega), uI_n (by omega), uI_n (by omega)]; exact hz' 4 (by omega)
  · rw [m100, uI_n (by omega), uI_s]
  · rw [m100, uI_s]
  · rw [hN]; simp only [gII, Nat.reduceEqDiff, if_false]; exact ⟨trivial, trivial⟩
theorem CBk.add {N : dp_M} {B n : Nat} {va kn v2 : Int32} {v3 : Int64} {ac ce : Nat → Int32} (h : CBk M N B n va kn ac ce) (hB : B < 800) (hn : n < 20) (h2 : ac n = v2) (h3 : ce n = v3.toInt32) : ∃ K, (∀ {d}, dp_den true xs xl (d + 3) 83 [.ref 97, .int (nI B), .int v2, .long v3] N = iR 1 K) ∧ CBk M K B (n + 1) va kn ac ce := by
  obtain ⟨o, c, m97, mb, t0, t1, t2, t3, t4, t5, t6, e1, e2⟩ := h
  obtain ⟨K, hK⟩ : ∃ K, K = dp_setI (dp_setI (dp_setI N 101 (B * 20 + n) v2) 102 (B * 20 + n) v3.toInt32) 100 (B * 7 + 1) (nI (n + 1)) := ⟨_, rfl⟩
  have k100 : dp_I K 100 = uI (dp_I N 100) (B * 7 + 1) (nI (n + 1)) := by rw [hK]; simp only [gII, Nat.reduceEqDiff, if_true, if_false]
  have k101 : dp_I K 101 = uI (dp_I N 101) (B * 20 + n) v2 := by rw [hK]; simp only [gII, Nat.reduceEqDiff, if_true, if_false]
  have k102 : dp_I K 102 = uI (dp_I N 102) (B * 20 + n) v3.toInt32 := by rw [hK]; simp only [gII, Nat.reduceEqDiff, if_true, if_false]
  refine ⟨K, fun {d} => by rw [lc_add rfl hB t1 hn, hK], ?_, ?_, ?_, fun b k hk hb => ?_, ?_, ?_, ?_, ?_, ?_, ?_, ?_, fun i hi => ?_, fun k hk => ?_⟩
  · rw [hK]
    exact ((o.I 101 (by decide) _ _).I 102 (by decide) _ _).I 100 (by decide) _ _
  · rw [hK]; exact c.tr0 ⟨Nat.le_refl _, Nat.le_refl _⟩
  · rw [hK]; simp only [gII, Nat.reduceEqDiff, if_false]; exact m97
  · rw [k100, u2 hk (by omega), if_neg (by omega)]; exact mb b k hk hb
  · rw [k100, uI_n (by omega)]; exact t0
  · rw [k100, uI_s]
  · rw [k100, uI_n (by omega)]; exact t2
  · rw [k100, uI_n (by omega)]; exact t3
  · rw [k100, uI_n (by omega)]; exact t4
  · rw [k100, uI_n (by omega)]; exact t5
  · rw [k100, uI_n (by omega)]; exact t6
  · rw [k101, k102, uI_n (by omega), uI_n (by omega)]; exact e1 i hi
  · rw [k101, k102]
    by_cases z : k = n
    · subst z; rw [uI_s, uI_s]; exact ⟨h2.symm, h3.symm⟩
    · rw [uI_n (by omega), uI_n (by omega)]; exact e2 k (by omega)
/-- the class's batch B entered -/
def CEk (M N : dp_M) (B n E : Nat) (va kn : Int32) (ac ce : Nat → Int32) : Prop := Off [97, 100, 101, 102, 103, 104] [] M N ∧ Cst 0 0 M N ∧ dp_I N 97 = uI (uI (uI (dp_I M 97) 0 (nI (B + 1))) 1 (nI (E + n))) 3 kn ∧ (∀ b k, k < 7 → b ≠ B → dp_I N 100 (b * 7 + k) = dp_I M 100 (b * 7 + k)) ∧
  dp_I N 100 (B * 7 + 0) = 1 ∧ dp_I N 100 (B * 7 + 1) = nI n ∧ dp_I N 100 (B * 7 + 2) = -1 ∧ dp_I N 100 (B * 7 + 3) = -1 ∧ dp_I N 100 (B * 7 + 4) = 0 ∧ dp_I N 100 (B * 7 + 5) = va ∧ dp_I N 100 (B * 7 + 6) = kn ∧ (∀ i, i < B * 20 → dp_I N 101 i = dp_I M 101 i ∧ dp_I N 102 i = dp_I M 102 i) ∧ (∀ k, k < n → dp_I N 101 (B * 20 + k) = ac k ∧ dp_I N 102 (B * 20 + k) = ce k) ∧
  dp_I N 103 = fN (dp_I M 103) E n (fun _ => nI B) ∧ dp_I N 104 = fN (dp_I M 104) E n (fun k => nI (B * 20 + k))
theorem CBk.enter {N : dp_M} {B n E : Nat} {va kn : Int32} {ac ce : Nat → Int32} (h : CBk M N B n va kn ac ce) (hB : B < 800) (hn : n ≤ 20) (hE : dp_I M 97 1 = nI E) (hE4 : E + n ≤ 4000) : ∃ K, dp_den true xs xl (d + 3) 93 [.ref 97, .int (nI B)] N = vR K ∧ CEk M K B n E va kn ac ce := by
  obtain ⟨o, c, m97, mb, t0, t1, t2, t3, t4, t5, t6, e1, e2⟩ := h
  obtain ⟨K, f1, f2, f3, f4, f5, f6, f7, f8⟩ := lc_enter (xs := xs) (xl := xl) (d := d) (M := N) (v1 := nI B) (b := B) (n := n) (E := E) rfl hB t1 hn (by rw [m97, uI_n (by decide)]; exact hE) hE4
  have k101 : dp_I K 101 = dp_I N 101 := (f2.1 101 (by decide) (by decide) (by decide)).1
  have k102 : dp_I K 102 = dp_I N 102 := (f2.1 102 (by decide) (by decide) (by decide)).1
  have f6' : dp_I K 100 = uI (dp_I N 100) (B * 7 + 0) 1 := f6
  have t6' : dp_I N 100 (B * 7 + 6) = kn := t6
  refine ⟨K, f1, (o.mono (by decide) (by decide)).tr (f2.mono (by decide) (by decide)), c.tr0 ⟨by rw [f3]; exact Nat.le_refl _, by rw [f4]; exact Nat.le_refl _⟩, by rw [f5, m97, t6'], fun b k hk hb => ?_, ?_, ?_, ?_, ?_, ?_, ?_, ?_, fun i hi => ?_, fun k hk => ?_, ?_, ?_⟩
  · rw [f6', u2 hk (by omega), if_neg (by omega)]; exact mb b k hk hb
  · rw [f6', uI_s]
  · rw [f6', uI_n (by omega)]; exact t1
  · rw [f6', uI_n (by omega)]; exact t2
  · rw [f6', uI_n (by omega)]; exact t3
  · rw [f6', uI_n (by omega)]; exact t4
  · rw [f6', uI_n (by omega)]; exact t5
  · rw [f6', uI_n (by omega)]; exact t6
  · rw [k101, k102]; exact e1 i hi
  · rw [k101, k102]; exact e2 k hk
  · have w : dp_I N 103 = dp_I M 103 := (o.1 103 (by decide) (by decide) (by decide)).1
    have f7' : dp_I K 103 = fN (dp_I N 103) E n (fun _ => nI B) := f7
    rw [f7', w]
  · have w : dp_I N 104 = dp_I M 104 := (o.1 104 (by decide) (by decide) (by decide)).1
    have f8' : dp_I K 104 = fN (dp_I N 104) E n (fun k => nI (B * 20 + k)) := f8
    rw [f8', w]
/-- the model's batch B begun, n entries in it -/
def MBk_S : List Nat := [221, 222, 223, 224, 225, 226, 227, 228, 229]
def MBk (M N : dp_M) (B n : Nat) (va kn : Int32) (ac ce : Nat → Int32) : Prop := Off MBk_S [] M N ∧ Cst 0 0 M N ∧ (∀ k ∈ [221, 222, 223, 224, 225, 226, 227], ∀ b, b ≠ B → dp_I N k b = dp_I M k b) ∧
  dp_I N 221 B = 0 ∧ dp_I N 222 B = va ∧ dp_I N 223 B = kn ∧ dp_I N 224 B = -1 ∧ dp_I N 225 B = -1 ∧ dp_I N 226 B = 0 ∧ dp_I N 227 B = nI n ∧ (∀ i, i < B * 20 → dp_I N 228 i = dp_I M 228 i ∧ dp_J N 229 i = dp_J M 229 i) ∧ ∀ k, k < n → dp_I N 228 (B * 20 + k) = ac k ∧ dp_J N 229 (B * 20 + k) = (ce k).toInt64
theorem mbk_begin {B : Nat} {va kn : Int32} {ac ce : Nat → Int32} (h : B < 801) : ∃ N, (∀ {d}, dp_den true xs xl (d + 1) 544 [.ref 114, .int (nI B), .int va, .int kn] M = vR N) ∧ MBk M N B 0 va kn ac ce := by
  obtain ⟨N, hN⟩ : ∃ N, N = dp_setI (dp_setI (dp_setI (dp_setI (dp_setI (dp_setI (dp_setI M 221 B 0) 222 B va) 223 B kn) 224 B (-1)) 225 B (-1)) 226 B 0) 227 B 0 := ⟨_, rfl⟩
  refine ⟨N, fun {d} => by rw [lm_begins rfl h, hN], ?_, ?_, fun k hk b hb => ?_, ?_, ?_, ?_, ?_, ?_, ?_, ?_, fun i hi => ?_, fun k hk => absurd hk (by omega)⟩
  · rw [hN]
    exact (((((((Off.rr _ _ M).I 221 (by decide) _ _).I 222 (by decide) _ _).I 223 (by decide) _ _).I 224 (by decide) _ _).I 225 (by decide) _ _).I 226 (by decide) _ _).I 227 (by decide) _ _
  · rw [hN]; exact ⟨Nat.le_refl _, Nat.le_refl _⟩
  · simp only [List.mem_cons, List.not_mem_nil, or_false] at hk
    rcases hk with rfl | rfl | rfl | rfl | rfl | rfl | rfl <;> (rw [hN]; simp only [gII, Nat.reduceEqDiff, if_true, if_false]; rw [uI_n hb])
  · rw [hN]; simp only [gII, Nat.reduceEqDiff, if_true, if_false]; rw [uI_s]
  · rw [hN]; simp only [gII, Nat.reduceEqDiff, if_true, if_false]; rw [uI_s]
  · rw [hN]; simp only [gII, Nat.reduceEqDiff, if_true, if_false]; rw [uI_s]
  · rw [hN]; simp only [gII, Nat.reduceEqDiff, if_true, if_false]; rw [uI_s]
  · rw [hN]; simp only [gII, Nat.reduceEqDiff, if_true, if_false]; rw [uI_s]
  · rw [hN]; simp only [gII, Nat.reduceEqDiff, if_true, if_false]; rw [uI_s]
  · rw [hN]; simp only [gII, Nat.reduceEqDiff, if_true, if_false]; rw [uI_s]; rfl
  · rw [hN]; simp only [gII, gJI, Nat.reduceEqDiff, if_false]; exact ⟨trivial, trivial⟩
theorem MBk.ent {N : dp_M} {B n : Nat} {va kn v2 : Int32} {v3 : Int64} {ac ce : Nat → Int32} (h : MBk M N B n va kn ac ce) (hB : B < 801) (hn : n < 20) (h2 : ac n = v2) (h3 : (ce n).toInt64 = v3) (hv : v3 ≠ 0) : ∃ K, (∀ {d}, dp_den true xs xl (d + 1) 545 [.ref 114, .int (nI B), .int v2, .long v3] N = vR K) ∧ MBk M K B (n + 1) va kn ac ce := by
  obtain ⟨o, c, mb, t1, t2, t3, t4, t5, t6, t7, e1, e2⟩ := h
  obtain ⟨K, hK⟩ : ∃ K, K = dp_setI (dp_setJ (dp_setI N 228 (B * 20 + n) v2) 229 (B * 20 + n) v3) 227 B (nI (n + 1)) := ⟨_, rfl⟩
  have k227 : dp_I K 227 = uI (dp_I N 227) B (nI (n + 1)) := by rw [hK]; simp only [gII, gIJ, Nat.reduceEqDiff, if_true, if_false]
  have k228 : dp_I K 228 = uI (dp_I N 228) (B * 20 + n) v2 := by rw [hK]; simp only [gII, gIJ, Nat.reduceEqDiff, if_true, if_false]
  have k229 : dp_J K 229 = uI (dp_J N 229) (B * 20 + n) v3 := by rw [hK]; simp only [gJI, gJJ, Nat.reduceEqDiff, if_true, if_false]
  have kk : ∀ k, k ≠ 227 → k ≠ 228 → dp_I K k = dp_I N k := fun k w1 w2 => by rw [hK, gII, if_neg w1, gIJ, gII, if_neg w2]
  refine ⟨K, fun {d} => by rw [lm_enters rfl hB t7 hn hv, hK], ?_, ?_, fun k hk b hb => ?_, by rw [kk 221 (by decide) (by decide)]; exact t1, by rw [kk 222 (by decide) (by decide)]; exact t2, by rw [kk 223 (by decide) (by decide)]; exact t3, by rw [kk 224 (by decide) (by decide)]; exact t4, by rw [kk 225 (by decide) (by decide)]; exact t5, by rw [kk 226 (by decide) (by decide)]; exact t6, by rw [k227, uI_s], fun i hi => ?_, fun k hk => ?_⟩
  · rw [hK]
    exact ((o.I 228 (by decide) _ _).J 229 (by decide) _ _).I 227 (by decide) _ _
  · rw [hK]; exact c.tr0 ⟨Nat.le_refl _, Nat.le_refl _⟩
  · have w : ∀ k ∈ [221, 222, 223, 224, 225, 226, 227], k ≠ 228 := by decide
    by_cases z : k = 227
    · subst z; rw [k227, uI_n hb]; exact mb 227 (by decide) b hb
    · rw [kk k z (w k hk)]; exact mb k hk b hb
  · rw [k228, k229, uI_n (by omega), uI_n (by omega)]; exact e1 i hi
  · rw [k228, k229]
    by_cases z : k = n
    · subst z; rw [uI_s, uI_s]; exact ⟨h2.symm, h3.symm⟩
    · rw [uI_n (by omega), uI_n (by omega)]; exact e2 k (by omega)
/-- the model posts it, or finds something wrong with it -/
theorem bk_wrong {N : dp_M} {B n E : Nat} {va kn : Int32} {ac ce : Nat → Int32} (h : MBk M N B n va kn ac ce) (hB : B < 801) (hn : n ≤ 20) (hE : dp_I M 114 142 = nI E) (hE4 : E ≤ 4000) (hs : sl (fun k => (ce k).toInt64) n = 0) : dp_den true xs xl (d + 4) 550 [.ref 114, .int (nI B)] N = iR (wrg n 0 kn (dp_I M 114 143) (dp_I M 114 144) E) N := by
  obtain ⟨o, c, mb, t1, t2, t3, t4, t5, t6, t7, e1, e2⟩ := h
  have t3' : dp_I N 223 B = kn := t3
  have es : sl (fun i => dp_J N 229 (B * 20 + i)) n = 0 := by
    rw [← hs]; exact sl_c (fun k hk => (e2 k hk).2)
  rw [lm_wrong rfl hB t7 hn (by rw [(o.2.1 142 (by decide)).1]; exact hE) hE4, es, t3', (o.2.1 143 (by decide)).1, (o.2.1 144 (by decide)).1]
theorem wrg_ok {n E : Nat} {kn cl la : Int32} (hn : n ≠ 0) : wrg n 0 kn cl la E = 0 ↔ cl < kn ∧ la ≤ kn ∧ E + n ≤ 4000 := by
  constructor
  · intro h
    obtain ⟨-, -, q1, q2, q3⟩ := wrg_0 h
    exact ⟨q1, q2, q3⟩
  · rintro ⟨q1, q2, q3⟩
    unfold wrg
    rw [if_neg hn, if_neg (fun q => q rfl), if_neg (Int32.not_le.mpr q1), if_neg (Int32.not_lt.mpr q2), if_pos q3]
theorem bk_no {N : dp_M} {B n E : Nat} {va kn v1 : Int32} {ac ce : Nat → Int32} (h : MBk M N B n va kn ac ce) (hBB : dp_I M 114 141 = nI B) (hB : B < 801) (hn : n ≤ 20) (hn0 : n ≠ 0) (hE : dp_I M 114 142 = nI E) (hE4 : E ≤ 4000) (hs : sl (fun k => (ce k).toInt64) n = 0) (hw : ¬ (dp_I M 114 143 < kn ∧ dp_I M 114 144 ≤ kn ∧ E + n ≤ 4000)) : dp_den true xs xl (d + 5) 579 [.ref 114, .int v1] N = iR 0 N := by
  have e : dp_I N 114 141 = nI B := by rw [(h.1.2.1 141 (by decide)).1]; exact hBB
  rw [D_X12_postsFor_0_den, D_X12_postsFor_0_eq, e, bk_wrong h hB hn hE hE4 hs, rb_bi, if_neg (wrg_pos (fun q => hw ((wrg_ok hn0).mp q)))]
/-- refused: nothing but what no batch is has changed -/
theorem RelL.bkno {N K : dp_M} {S T : List Nat} {B n : Nat} {va kn : Int32} {ac ce : Nat → Int32} (hl : RelL M) (hBB : dp_I M 114 141 = nI B) (hB : B ≤ 800) (h : MBk M N B n va kn ac ce) (o : Off S T N K) (hS : ∀ k ∈ RelL_S, k ∉ S) (hT : ∀ i ∈ RelL_T, i ∉ T) : RelL K := by
  obtain ⟨oN, c, mb, t1, t2, t3, t4, t5, t6, t7, e1, e2⟩ := h
  refine RelL_off (hl.beyond hBB hB (fun k hk => ?_) (fun i _ => (oN.2.1 i (by simp)).1) (fun b hb => ?_) e1) o hS hT
  · have w : ∀ k ∈ [97, 98, 99, 100, 101, 102, 103, 104, 230, 231, 232], k < 246 ∧ k ∉ MBk_S ∧ k ≠ 114 := by decide
    have hk' : k ∈ [97, 98, 99, 100, 101, 102, 103, 104, 230, 231, 232] := by simp only [List.mem_cons, List.not_mem_nil, or_false]; exact hk
    exact (oN.1 k (w k hk').1 (w k hk').2.1 (w k hk').2.2).1
  · exact ⟨mb 221 (by decide) b (by omega), mb 222 (by decide) b (by omega), mb 223 (by decide) b (by omega), mb 224 (by decide) b (by omega), mb 225 (by decide) b (by omega), mb 226 (by decide) b (by omega), mb 227 (by decide) b (by omega)⟩
def Bk_S : List Nat := [221, 222, 223, 224, 225, 226, 227, 228, 229, 230, 244]
/-- posted: both have it -/
theorem bk_yes {C N P : dp_M} {S T : List Nat} {B n E i : Nat} {va kn : Int32} {ac ce : Nat → Int32} (hl : RelL M) (hc : CEk M C B n E va kn ac ce) (o : Off S T C N) (hS : ∀ k ∈ RelL_S, k ∉ S) (hT : ∀ i ∈ RelL_T, i ∉ T) (h : MBk N P B n va kn ac ce) (hBB : dp_I M 114 141 = nI B) (hB : B < 800) (hn : n ≤ 20) (hn0 : n ≠ 0) (hE : dp_I M 114 142 = nI E) (hE4 : E ≤ 4000) (hs : sl (fun k => (ce k).toInt64) n = 0) (hi : i < 400)
    (hac : ∀ k, k < n → qin (ac k) 12) (hce : ∀ k, k < n → -1000000000 ≤ (ce k).toInt ∧ (ce k).toInt ≤ 1000000000 ∧ ce k ≠ 0)
    (hw : dp_I M 114 143 < kn ∧ dp_I M 114 144 ≤ kn ∧ E + n ≤ 4000) : ∃ K, dp_den true xs xl (d + 5) 579 [.ref 114, .int (nI i)] P = iR 1 K ∧ RelL K ∧ Off Bk_S [141, 142, 144] N K ∧ Cst 0 0 N K ∧ dp_I K 244 = uI (dp_I N 244) i (nI B) := by
  have h0 := h
  obtain ⟨oP, cP, mb, t1, t2, t3, t4, t5, t6, t7, e1, e2⟩ := h
  obtain ⟨oC, cC', m97, cb, c0, c1, c2, c3, c4, c5, c6, f1, f2, f103, f104⟩ := hc
  have q : ∀ k ∈ RelL_S, k < 246 ∧ k ≠ 114 := by decide
  have nC : ∀ k ∈ RelL_S, dp_I N k = dp_I C k ∧ dp_J N k = dp_J C k := fun k hk => ⟨(o.1 k (q k hk).1 (hS k hk) (q k hk).2).1, (o.1 k (q k hk).1 (hS k hk) (q k hk).2).2.1⟩
  have nT : ∀ i ∈ RelL_T, dp_I N 114 i = dp_I M 114 i := fun i hi => by rw [(o.2.1 i (hT i hi)).1, (oC.2.1 i (by simp)).1]
  have eNM : ∀ k ∈ [221, 222, 223, 224, 225, 226, 227, 228, 229, 230, 231, 232, 98, 99], dp_I N k = dp_I M k ∧ dp_J N k = dp_J M k := fun k hk => by
    have w : ∀ k ∈ [221, 222, 223, 224, 225, 226, 227, 228, 229, 230, 231, 232, 98, 99], k ∈ RelL_S ∧ k ∉ [97, 100, 101, 102, 103, 104] := by decide
    obtain ⟨w1, w2⟩ := w k hk
    rw [(nC k w1).1, (nC k w1).2]
    exact ⟨(oC.1 k (q k w1).1 w2 (q k w1).2).1, (oC.1 k (q k w1).1 w2 (q k w1).2).2.1⟩
  have eB : dp_I P 114 141 = nI B := by rw [(oP.2.1 141 (by decide)).1, nT 141 (by decide)]; exact hBB
  have eE : dp_I N 114 142 = nI E := by rw [nT 142 (by decide)]; exact hE
  have ew : wrg n 0 kn (dp_I N 114 143) (dp_I N 114 144) E = 0 := by
    rw [nT 143 (by decide), nT 144 (by decide)]
    exact (wrg_ok hn0).mpr hw
  obtain ⟨Q, p1, p2, p3, p4, p5, p6, p7, p8⟩ := lm_posts (xs := xs) (xl := xl) (d := d + 3) (M := P) (v1 := nI B) (b := B) (n := n) (E := E) rfl (by omega) t7 hn (by rw [(oP.2.1 142 (by decide)).1]; exact eE) hw.2.2
  obtain ⟨K, hK⟩ : ∃ K, K = dp_setI (dp_setI Q 244 i (nI B)) 114 141 (nI (B + 1)) := ⟨_, rfl⟩
  have q141 : dp_I Q 114 141 = nI B := by rw [(p2.2.1 141 (by decide)).1]; exact eB
  have kI : ∀ k, k ≠ 114 → k ≠ 244 → dp_I K k = dp_I Q k := fun k w1 w2 => by rw [hK, gII, if_neg w1, gII, if_neg w2]
  have kJ : ∀ k, dp_J K k = dp_J Q k := fun k => by rw [hK, gJI, gJI]
  have k114 : ∀ z, z ≠ 141 → dp_I K 114 z = dp_I Q 114 z := fun z w => by rw [hK, gII, if_pos rfl, uI_n w, gII, if_neg (by decide)]
  have qP : ∀ k, k < 246 → k ≠ 221 → k ≠ 230 → k ≠ 114 → dp_I Q k = dp_I P k ∧ dp_J Q k = dp_J P k := fun k w1 w2 w3 w4 => ⟨(p2.1 k w1 (by simp [w2, w3]) w4).1, (p2.1 k w1 (by simp [w2, w3]) w4).2.1⟩
  have kP : ∀ k, k < 246 → k ≠ 221 → k ≠ 230 → k ≠ 244 → k ≠ 114 → dp_I K k = dp_I P k := fun k w1 w2 w3 w4 w5 => by rw [kI k w5 w4, (qP k w1 w2 w3 w5).1]
  have PN : ∀ k, k < 246 → k ∉ MBk_S → k ≠ 114 → dp_I P k = dp_I N k := fun k w1 w2 w3 => (oP.1 k w1 w2 w3).1
  have kC : ∀ k ∈ [97, 98, 99, 100, 101, 102, 103, 104, 231, 232], dp_I K k = dp_I C k := fun k hk => by
    have w : ∀ k ∈ [97, 98, 99, 100, 101, 102, 103, 104, 231, 232], k < 246 ∧ k ≠ 221 ∧ k ≠ 230 ∧ k ≠ 244 ∧ k ≠ 114 ∧ k ∉ MBk_S ∧ k ∈ RelL_S := by decide
    obtain ⟨w1, w2, w3, w4, w5, w6, w7⟩ := w k hk
    rw [kP k w1 w2 w3 w4 w5, PN k w1 w6 w5, (nC k w7).1]
  have p7' : dp_I Q 221 = uI (dp_I P 221) B 1 := p7
  have p8' : dp_I Q 230 = fN (dp_I P 230) E n (fun k => nI (B * 20 + k)) := p8
  refine ⟨K, ?_, ?_, ?_, ?_, ?_⟩
  · rw [D_X12_postsFor_0_den, D_X12_postsFor_0_eq, eB, bk_wrong h0 (by omega) hn eE hE4 hs, rb_bi, ew, if_pos (by decide), eB, p1, rb_bv]
    have g2 : dp_I (dp_setI Q 244 i (nI B)) 114 141 = nI B := by rw [gII, if_neg (by decide)]; exact q141
    simp only [q141, nI_cl (show i < 2147483648 by omega), nI_o (show i < 400 by omega) (by omega), if_false, dp_w, g2, nI_1]
    rw [hK]
  · have k97 : dp_I K 97 = uI (uI (uI (dp_I M 97) 0 (nI (B + 1))) 1 (nI (E + n))) 3 kn := by rw [kC 97 (by decide)]; exact m97
    have same7 : ∀ k ∈ [222, 223, 224, 225, 226, 227], ∀ b, b ≠ B → dp_I K k b = dp_I M k b := fun k hk b hb => by
      have w : ∀ k ∈ [222, 223, 224, 225, 226, 227], k < 246 ∧ k ≠ 221 ∧ k ≠ 230 ∧ k ≠ 244 ∧ k ≠ 114 ∧ k ∈ [221, 222, 223, 224, 225, 226, 227] ∧ k ∈ [221, 222, 223, 224, 225, 226, 227, 228, 229, 230, 231, 232, 98, 99] := by decide
      obtain ⟨w1, w2, w3, w4, w5, w6, w7⟩ := w k hk
      rw [kP k w1 w2 w3 w4 w5, mb k w6 b hb, (eNM k w7).1]
    have k221 : dp_I K 221 = uI (dp_I P 221) B 1 := by rw [kI 221 (by decide) (by decide), p7']
    refine hl.book (B := B) (E := E) (n := n) (rb := B) (va := va) (kn := kn) (rv := -1) (ac := ac) (ce := ce) hBB hB hE hE4 hn hn0 hw.2.2 hac hce hs (Or.inl rfl) (by rw [k97, uI_n (by decide), uI_n (by decide), uI_s]) (by rw [k97, uI_n (by decide), uI_s]) (by rw [k97, uI_s]) (fun z z0 z1 z3 => by rw [k97, uI_n z3, uI_n z1, uI_n z0]) (fun b k hb hk _ => by rw [kC 100 (by decide)]; exact cb b k hk (by omega)) (fun w => absurd w (by omega)) (by rw [kC 100 (by decide)]; exact c0) (by rw [kC 100 (by decide)]; exact c1) (by rw [kC 100 (by decide)]; exact c2) (by rw [kC 100 (by decide)]; exact c3) (by rw [kC 100 (by decide)]; exact c4) (by rw [kC 100 (by decide)]; exact c5) (by rw [kC 100 (by decide)]; exact c6) (fun b k hb hb8 hk => by rw [kC 100 (by decide)]; exact cb b k hk (by omega)) (fun z hz => ?_) (fun k hk => ?_) (by rw [kC 103 (by decide)]; exact f103) (by rw [kC 104 (by decide)]; exact f104) ?_ ?_ ?_ ?_ (fun z hz => ?_) (fun b hb => ?_) ?_ (fun k hk => ?_)
    · rw [kC 101 (by decide), kC 102 (by decide), kP 228 (by decide) (by decide) (by decide) (by decide) (by decide), kJ, (qP 229 (by decide) (by decide) (by decide) (by decide)).2, (e1 z hz).1, (e1 z hz).2, (eNM 228 (by decide)).1, (eNM 229 (by decide)).2]
      exact ⟨(f1 z hz).1, (f1 z hz).2, rfl, rfl⟩
    · rw [kC 101 (by decide), kC 102 (by decide), kP 228 (by decide) (by decide) (by decide) (by decide) (by decide), kJ, (qP 229 (by decide) (by decide) (by decide) (by decide)).2]
      exact ⟨(f2 k hk).1, (f2 k hk).2, (e2 k hk).1, (e2 k hk).2⟩
    · rw [kI 230 (by decide) (by decide), p8', PN 230 (by decide) (by decide) (by decide), (eNM 230 (by decide)).1]
    · rw [hK, gII, if_pos rfl, uI_s]
    · rw [k114 142 (by decide)]; exact p5
    · rw [k114 144 (by decide)]
      have t3' : dp_I P 223 B = kn := t3
      rw [p6, t3']
    · have w : ∀ z ∈ [143, 145, 146, 147], z ≠ 141 ∧ z ∉ [142, 144] ∧ z ∈ RelL_T := by decide
      have hz' : z ∈ [143, 145, 146, 147] := by simp only [List.mem_cons, List.not_mem_nil, or_false]; exact hz
      obtain ⟨w1, w2, w3⟩ := w z hz'
      rw [k114 z w1, (p2.2.1 z w2).1, (oP.2.1 z (by simp)).1, nT z w3]
    · refine ⟨?_, same7 222 (by decide) b (by omega), same7 223 (by decide) b (by omega), same7 224 (by decide) b (by omega), fun _ => same7 225 (by decide) b (by omega), same7 226 (by decide) b (by omega), same7 227 (by decide) b (by omega)⟩
      rw [k221, uI_n (by omega), mb 221 (by decide) b (by omega), (eNM 221 (by decide)).1]
    · refine ⟨by rw [k221, uI_s], ?_, ?_, ?_, ?_, ?_, ?_⟩
      · rw [kP 222 (by decide) (by decide) (by decide) (by decide) (by decide)]; exact t2
      · rw [kP 223 (by decide) (by decide) (by decide) (by decide) (by decide)]; exact t3
      · rw [kP 224 (by decide) (by decide) (by decide) (by decide) (by decide)]; exact t4
      · rw [kP 225 (by decide) (by decide) (by decide) (by decide) (by decide)]; exact t5
      · rw [kP 226 (by decide) (by decide) (by decide) (by decide) (by decide)]; exact t6
      · rw [kP 227 (by decide) (by decide) (by decide) (by decide) (by decide)]; exact t7
    · have w : ∀ k ∈ [98, 99, 231, 232], k ∈ [97, 98, 99, 100, 101, 102, 103, 104, 231, 232] ∧ k ∉ [97, 100, 101, 102, 103, 104] ∧ k < 246 ∧ k ≠ 114 := by decide
      have hk' : k ∈ [98, 99, 231, 232] := by simp only [List.mem_cons, List.not_mem_nil, or_false]; exact hk
      obtain ⟨w1, w2, w3, w4⟩ := w k hk'
      rw [kC k w1, (oC.1 k w3 w2 w4).1]
  · rw [hK]
    exact (((oP.mono (by decide) (by decide)).tr (p2.mono (by decide) (by decide))).I 244 (by decide) _ _).F 141 (by decide) _
  · rw [hK]; exact cP.tr0 ⟨by show dp_n Q ≤ _; rw [p3]; exact Nat.le_refl _, by show dp_z Q ≤ _; rw [p4]; exact Nat.le_refl _⟩
  · rw [hK, gII, if_neg (by decide), gII, if_pos rfl, (qP 244 (by decide) (by decide) (by decide) (by decide)).1, PN 244 (by decide) (by decide) (by decide)]
end DU
