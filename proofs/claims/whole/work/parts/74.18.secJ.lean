/-! SECURITIES: cover and reservesAt side by side -/
theorem nI_n0' {k : Nat} (h : k < 2147483648) (h0 : k ≠ 0) : ¬ nI k = 0 := fun e => h0 (by rw [show (0 : Int32) = nI 0 from rfl, nI_eq h (by omega)] at e; exact e)
theorem m1_ne' {k : Nat} (h : k < 2147483648) : ¬ nI k = -1 := fun e => by
  have := congrArg Int32.toInt e
  rw [nI_toInt h] at this
  have e2 : (-1 : Int32).toInt = -1 := rfl
  omega
def SameS (N C : dp_M) : Prop := (∀ k ∈ RelS_S, dp_I N k = dp_I C k ∧ dp_J N k = dp_J C k) ∧ ∀ i ∈ RelS_T, dp_I N 114 i = dp_I C 114 i
theorem SameS.off {S T : List Nat} {C N : dp_M} (o : Off S T C N) (hS : ∀ k ∈ RelS_S, k ∉ S) (hT : ∀ i ∈ RelS_T, i ∉ T) : SameS N C := by
  have q : ∀ k ∈ RelS_S, k < 246 ∧ k ≠ 114 := by decide
  exact ⟨fun k hk => ⟨(o.1 k (q k hk).1 (hS k hk) (q k hk).2).1, (o.1 k (q k hk).1 (hS k hk) (q k hk).2).2.1⟩, fun i hi => (o.2.1 i (hT i hi)).1⟩
theorem ly_e {M N : dp_M} {G w R : Nat} {cn : Int64} (h1 : ∀ k, k < G → hp N (nI w) k = hp M (nI w) k) (h2 : dp_I N 213 = dp_I M 213) (h3 : ∀ g, mc N g R = mc M g R) : ∀ k, k ≤ G → ly N w R cn k = ly M w R cn k
  | 0, _ => rfl
  | k + 1, hk => by rw [ly, ly, ly_e h1 h2 h3 k (by omega), h1 k (by omega), h2, h3]
theorem tgt_e {M N : dp_M} {G w R : Nat} (h1 : dp_I N 202 = dp_I M 202) (h3 : ∀ g, mc N g R = mc M g R) : tgt N w G R = tgt M w G R := by
  unfold tgt; rw [h1]; exact sl_c (fun i _ => by rw [h3])
section SR
variable {xs : Nat → Int32} {xl d : Nat} {M : dp_M}
def mcc (t : Int64) : Int64 := if 2000000000 < t then 2000000000 else t
/-- what the model does, its rows being those of M -/
theorem sm_res {N : dp_M} {G R w k : Nat} {cn : Int64} (h : RSb M G R) (hk : k < 4) (c0 : 0 ≤ cn.toInt) (e : ∀ k ∈ rIk, dp_I N k = dp_I M k) (eJ : ∀ k ∈ rJk, dp_J N k = dp_J M k) (f : ∀ i ∈ RelS_T, dp_I N 114 i = dp_I M 114 i) (e96 : ∀ i, i < (R + 1) * 12 → dp_J N 96 i = dp_J M 96 i) (e214 : dp_I N 214 = dp_I M 214) (e216 : dp_I N 216 = dp_I M 216) (e217 : dp_I N 217 = dp_I M 217) (e218 : dp_J N 218 = dp_J M 218) (e219 : dp_I N 219 = dp_I M 219) :
    ∀ s, s = ly M w R cn G →
    (s.1 = true ∨ ¬ s.2.2.1 = 0 → dp_den true xs xl (d + 6) 529 [.ref 114, .int (nI k), .int (nI w), .long cn] N = lR (-2 - mcc (tgt M w G R)) (lyM N (R + 1) s)) ∧
    (s.1 = false → s.2.2.1 = 0 → ¬ dp_I M 219 k = 0 → dp_den true xs xl (d + 6) 529 [.ref 114, .int (nI k), .int (nI w), .long cn] N = lR (-1) (dp_setI (dp_setI (dp_setI (dp_setI (lyM N (R + 1) s) 216 (R + 1) (nI s.2.1)) 219 k 0) 220 k (dp_I N 220 k + 1)) 216 (R + 1) 0)) ∧
    (s.1 = false → s.2.2.1 = 0 → dp_I M 219 k = 0 → dp_den true xs xl (d + 6) 529 [.ref 114, .int (nI k), .int (nI w), .long cn] N = lR (nI (R + 1)).toInt64 (dp_setI (dp_setI (dp_setI (lyM N (R + 1) s) 216 (R + 1) (nI s.2.1)) 114 133 (nI (R + 1))) 214 (R + 1) (nI w))) := by
  intro s hs
  obtain ⟨hG, hR, a1, a2, a3, a4, a5, a6, a7, a8, a9, a10, a11, a12, a13, a14, a15, a16, a17⟩ := h
  have n4 : ∀ r, 1 ≤ r → r ≤ R → (dp_I M 216 r).toNatClampNeg ≤ 4 := fun r h1 h2 => (a14 r h1 h2).n4
  have mce : ∀ g, mc N g R = mc M g R := fun g => mc_e (by rw [e 208 (by decide)]) (by rw [e 206 (by decide)]) (by rw [e 204 (by decide)]) (by rw [e 205 (by decide)]) (by rw [eJ 203 (by decide)]) (nO_c (by rw [e 204 (by decide)]) (by rw [e 205 (by decide)]) n4 (fun r _ _ => by rw [e216]) (fun r k _ _ _ => by rw [e217]) (fun r k _ _ _ => by rw [e218])) (uO_p R n4 (fun r _ _ => by rw [e216]) (fun r k _ _ _ => by rw [e217]))
  have lye : ly N w R cn G = s := by
    rw [hs]
    exact ly_e (fun k _ => by unfold hp; rw [e 202 (by decide), e 213 (by decide)]) (e 213 (by decide)) mce G (Nat.le_refl _)
  have v14 : ∀ r, 1 ≤ r → r ≤ R → SRv N G r := fun r r1 r2 => (a14 r r1 r2).same (Nat.le_refl _) (by rw [e216]) (fun k _ => by rw [e217]) (by rw [e214]) (by rw [e 215 (by decide)]) (fun k _ => by rw [e218]) (fun k hk => e96 _ (by omega))
  have v10 : ∀ g, 1 ≤ g → g ≤ G → SRm N g := fun g g1 g2 => by
    have := (a10 g g1 g2).m
    unfold SRm at this ⊢
    rw [e 204 (by decide), e 205 (by decide)]; exact this
  have lay := sm_lays (xs := xs) (xl := xl) (d := d) (M := N) (w := w) (cn := cn) hG hR c0 (by rw [f 119 (by decide)]; exact a2) (by rw [f 133 (by decide)]; exact a4) v10 (by rw [e 213 (by decide)]; exact a13.1) (by rw [e 213 (by decide)]; exact a13.2.1) v14
  rw [lye] at lay
  have e133 : dp_I (lyM N (R + 1) s) 114 133 = nI R := by rw [lyM_I _ _ 114 (by decide) (by decide), f 133 (by decide)]; exact a4
  refine ⟨fun z => ?_, fun z y x => ?_, fun z y x => ?_⟩
  · have l0 : dp_den true xs xl (d + 5) 527 [.ref 114, .int (nI w), .long cn] N = iR 0 (lyM N (R + 1) s) := by
      rw [lay]
      by_cases z1 : s.1 = true
      · rw [if_pos z1]
      · rw [if_neg z1, if_neg (z.resolve_left z1)]
    obtain ⟨b1, b2, b3⟩ := klM (M := N) (G := G) (R := R) (q := R + 1) (by omega) s
    rw [D_X12_reservesAt_0_den, D_X12_reservesAt_0_eq, l0, rb_bi, if_pos rfl, sm_tgt hG hR (by rw [lyM_I _ _ 114 (by decide) (by decide), f 119 (by decide)]; exact a2) e133 (fun g g1 g2 => b1 g (v10 g g1 g2)) (fun r r1 r2 => b2 r r2 (v14 r r1 r2)), rb_bl]
    rw [tgt_e (M := N) (by rw [lyM_I _ _ 202 (by decide) (by decide)]) (b3 v14), tgt_e (M := M) (by rw [e 202 (by decide)]) mce]
    rfl
  · rw [D_X12_reservesAt_0_den, D_X12_reservesAt_0_eq, lay, if_neg (by rw [z]; decide), if_pos y, rb_bi, if_neg (by decide)]
    simp only [nI_cl (show k < 2147483648 by omega), nI_o hk (by omega), if_false, dp_w]
    rw [show dp_I (dp_setI (lyM N (R + 1) s) 216 (R + 1) (nI s.2.1)) 219 = dp_I M 219 by rw [gII, if_neg (by decide), lyM_I _ _ 219 (by decide) (by decide), e219], if_neg x]
    simp only [gII, Nat.reduceEqDiff, if_false, e133, nI_1, nI_cl (show R + 1 < 2147483648 by omega), nI_o (show R + 1 < 402 by omega) (by omega), lyM_I (M := N) (R + 1) s 220 (by decide) (by decide)]
    rfl
  · rw [D_X12_reservesAt_0_den, D_X12_reservesAt_0_eq, lay, if_neg (by rw [z]; decide), if_pos y, rb_bi, if_neg (by decide)]
    simp only [nI_cl (show k < 2147483648 by omega), nI_o hk (by omega), if_false, dp_w]
    rw [show dp_I (dp_setI (lyM N (R + 1) s) 216 (R + 1) (nI s.2.1)) 219 = dp_I M 219 by rw [gII, if_neg (by decide), lyM_I _ _ 219 (by decide) (by decide), e219], if_pos x]
    simp only [gII, Nat.reduceEqDiff, if_false, if_true, uI_s, e133, nI_1, nI_cl (show R + 1 < 2147483648 by omega), nI_o (show R + 1 < 402 by omega) (by omega)]
/-- cover and reservesAt -/
theorem s_cover {R w k : Nat} {cn : Int64} (h : RelS M) (hRR : dp_I M 114 133 = nI R) (hR : R < 400) (hw : w < 8) (hk : k < 4) (c1 : 0 ≤ cn.toInt) (c2 : cn.toInt ≤ 1000000000) :
    ∃ (v : Int32) (C : dp_M) (f : Int64), (∀ {d}, dp_den true xs xl (d + 5) 200 [.ref 90, .int (nI w), .int (nI k), .long cn] M = iR v C) ∧ Off [90, 92, 93, 95, 96] [] M C ∧ Cst 0 0 M C ∧ (v = 0 → ∀ {d}, dp_den true xs xl (d + 4) 195 [.ref 90, .int (nI w)] C = lR f C) ∧ (v = 0 ∨ v = -1 ∨ v = nI (R + 1)) ∧ f ≤ 2000000000 ∧
    ∀ N, SameS N C → ∃ M2, (∀ {d}, dp_den true xs xl (d + 6) 529 [.ref 114, .int (nI k), .int (nI w), .long cn] N = lR (if v = 0 then -2 - f else v.toInt64) M2) ∧ RelS M2 ∧ Off [214, 216, 217, 218, 219, 220] [133] N M2 ∧ Cst 0 0 N M2 ∧ (∀ r i, r ≤ R → i < 12 → dp_J M2 96 (r * 12 + i) = dp_J M 96 (r * 12 + i)) ∧
      dp_I M2 114 133 = (if v = 0 ∨ v = -1 then nI R else nI (R + 1)) ∧ (v = nI (R + 1) → dp_J M2 96 ((R + 1) * 12 + 1) = cn ∧ dp_I M2 215 (R + 1) = 0) := by
  obtain ⟨G, R', hb⟩ := h.b
  have hR' : R' = R := by
    have := hb.2.2.2.2.2.1
    rw [hRR, nI_eq (by omega) (by have := hb.2.1; omega)] at this; exact this.symm
  subst hR'
  have hb0 := hb
  obtain ⟨hG, hR4, a1, a2, a3, a4, a5, a6, a7, a8, a9, a10, a11, a12, a13, a14, a15, a16, a17⟩ := hb
  obtain ⟨s, hs⟩ : ∃ s, s = ly M w R' cn G := ⟨_, rfl⟩
  have ls := ly_I (M := M) (G := G) (w := w) (R := R') (cn := cn) c1 a13.2.1 G (Nat.le_refl _)
  rw [← hs] at ls
  obtain ⟨H0, hH0⟩ : ∃ H0, H0 = ovC (dp_J M 96) ((R' + 1) * 12) s.2.1 s.2.2.2.1 s.2.2.2.2 := ⟨_, rfl⟩
  obtain ⟨H, hH⟩ : ∃ H, H = ovH H0 ((R' + 1) * 12) w cn s.2.1 := ⟨_, rfl⟩
  have b0 : ∀ i, i < (R' + 1) * 12 → H0 i = dp_J M 96 i := fun i hi => by rw [hH0]; exact ovC_b (by omega)
  have bH : ∀ i, i < (R' + 1) * 12 → H i = dp_J M 96 i := fun i hi => by
    rw [hH]; unfold ovH
    rw [uI_n (by omega), uI_n (by omega), uI_n (by omega), uI_n (by omega)]; exact b0 i hi
  have cc := fun {d : Nat} => sc_cover (xs := xs) (xl := xl) (d := d) (M := M) (w := w) (k := k) (cn := cn) hG hR hw hk c1 a3 a10 a13 a14 s hs H (by rw [hH, hH0])
  have mm := fun {d : Nat} (N : dp_M) => sm_res (xs := xs) (xl := xl) (d := d) (M := M) (N := N) (w := w) (k := k) (cn := cn) hb0 hk c1
  have tb : mcc (tgt M w G R') ≤ 2000000000 := by
    unfold mcc
    split
    · exact Int64.le_refl _
    · rename_i q; exact Int64.not_lt.mp q
  have sI : ∀ k ∈ rIk, k ∈ RelS_S ∧ k ≠ 90 ∧ k ≠ 92 ∧ k ≠ 93 ∧ k ≠ 216 ∧ k ≠ 217 ∧ k ≠ 219 ∧ k ≠ 220 ∧ k ≠ 214 ∧ k ≠ 114 := by decide
  have sJ : ∀ k ∈ rJk, k ∈ RelS_S ∧ k ≠ 95 ∧ k ≠ 96 ∧ k ≠ 218 := by decide
  -- no reservation, no trace
  have none1 : ∀ F : Nat → Int64, (∀ i, i < (R' + 1) * 12 → F i = dp_J M 96 i) → (s.1 = true ∨ ¬ s.2.2.1 = 0) → (∀ {d}, dp_den true xs xl (d + 5) 200 [.ref 90, .int (nI w), .int (nI k), .long cn] M = iR 0 (rJ M 96 F)) → ∃ (v : Int32) (C : dp_M) (f : Int64), (∀ {d}, dp_den true xs xl (d + 5) 200 [.ref 90, .int (nI w), .int (nI k), .long cn] M = iR v C) ∧ Off [90, 92, 93, 95, 96] [] M C ∧ Cst 0 0 M C ∧ (v = 0 → ∀ {d}, dp_den true xs xl (d + 4) 195 [.ref 90, .int (nI w)] C = lR f C) ∧ (v = 0 ∨ v = -1 ∨ v = nI (R' + 1)) ∧ f ≤ 2000000000 ∧
    ∀ N, SameS N C → ∃ M2, (∀ {d}, dp_den true xs xl (d + 6) 529 [.ref 114, .int (nI k), .int (nI w), .long cn] N = lR (if v = 0 then -2 - f else v.toInt64) M2) ∧ RelS M2 ∧ Off [214, 216, 217, 218, 219, 220] [133] N M2 ∧ Cst 0 0 N M2 ∧ (∀ r i, r ≤ R' → i < 12 → dp_J M2 96 (r * 12 + i) = dp_J M 96 (r * 12 + i)) ∧
      dp_I M2 114 133 = (if v = 0 ∨ v = -1 then nI R' else nI (R' + 1)) ∧ (v = nI (R' + 1) → dp_J M2 96 ((R' + 1) * 12 + 1) = cn ∧ dp_I M2 215 (R' + 1) = 0) := by
    intro F bF hz hc
    obtain ⟨k1, k2, k3⟩ := k96 (M := M) (F := F) (G := G) (R := R') (q := R' + 1) (by omega) bF
    refine ⟨0, rJ M 96 F, mcc (tgt M w G R'), hc, (Off.rr _ _ M).rJ 96 (by decide) _, ⟨Nat.le_refl _, Nat.le_refl _⟩, fun _ {d} => ?_, Or.inl rfl, tb, fun N hN => ?_⟩
    · rw [sc_freeOf hG (by omega) hw (fun g g1 g2 => k1 g (a10 g g1 g2)) (by unfold SOr at a13 ⊢; rw [rJ_I]; exact a13) (fun r r1 r2 => k2 r r2 (a14 r r1 r2)), tgt_e (M := M) (by rw [rJ_I]) k3]
      rfl
    · have nI' : ∀ k ∈ RelS_S, dp_I N k = dp_I M k := fun k hk => by rw [(hN.1 k hk).1, rJ_I]
      have nJ' : ∀ k ∈ RelS_S, k ≠ 96 → dp_J N k = dp_J M k := fun k hk q => by rw [(hN.1 k hk).2, rJ_J, if_neg q]
      have n96 : ∀ i, i < (R' + 1) * 12 → dp_J N 96 i = dp_J M 96 i := fun i hi => by rw [(hN.1 96 (by decide)).2, rJ_J, if_pos rfl]; exact bF i hi
      have nf : ∀ i ∈ RelS_T, dp_I N 114 i = dp_I M 114 i := fun i hi => by rw [hN.2 i hi, rJ_I]
      refine ⟨lyM N (R' + 1) s, fun {d} => ?_, ?_, ?_, ⟨Nat.le_refl _, Nat.le_refl _⟩, fun r i hr hi => by rw [lyM_J _ _ 96 (by decide), n96 _ (by omega)], by rw [if_pos (Or.inl rfl), lyM_I _ _ 114 (by decide) (by decide), nf 133 (by decide)]; exact a4, fun q => absurd q (fun q => nI_n0' (show R' + 1 < 2147483648 by omega) (by omega) q.symm)⟩
      · exact (mm N (fun k hk => nI' k (sI k hk).1) (fun k hk => nJ' k (sJ k hk).1 (sJ k hk).2.2.1) nf n96 (nI' 214 (by decide)) (nI' 216 (by decide)) (nI' 217 (by decide)) (nJ' 218 (by decide) (by decide)) (nI' 219 (by decide)) s hs).1 hz
      · refine (hb0.lay (fun k hk => by rw [lyM_I _ _ k (sI k hk).2.2.2.2.1 (sI k hk).2.2.2.2.2.1]; exact nI' k (sI k hk).1) (by rw [lyM_I _ _ 90 (by decide) (by decide)]; exact nI' 90 (by decide)) (by rw [lyM_I _ _ 214 (by decide) (by decide)]; exact nI' 214 (by decide)) (fun k hk => by rw [lyM_J _ _ k (sJ k hk).2.2.2]; exact nJ' k (sJ k hk).1 (sJ k hk).2.2.1) (by rw [lyM_J _ _ 95 (by decide)]; exact nJ' 95 (by decide) (by decide)) (fun i hi => by rw [lyM_I _ _ 114 (by decide) (by decide)]; exact nf i hi) (fun i hi => by rw [lyM_J _ _ 96 (by decide)]; exact n96 i hi) (fun r hr => by rw [lyM_216, uI_n (by omega), nI' 216 (by decide)]) (fun i hi => by rw [lyM_217, ovP_b hi, nI' 217 (by decide)]) (fun i hi => by rw [lyM_218, ovP_b hi, nJ' 218 (by decide) (by decide)]) (by rw [lyM_I _ _ 219 (by decide) (by decide), lyM_I _ _ 92 (by decide) (by decide), nI' 219 (by decide), nI' 92 (by decide)]; exact a7) (by rw [lyM_I _ _ 92 (by decide) (by decide), nI' 92 (by decide)]; exact a8) (by rw [lyM_I _ _ 220 (by decide) (by decide), lyM_I _ _ 93 (by decide) (by decide), nI' 220 (by decide), nI' 93 (by decide)]; exact a9)).r
      · unfold lyM; exact (((Off.rr _ _ N).I 216 (by decide) _ _).rI 217 (by decide) _).rJ 218 (by decide) _
  by_cases z1 : s.1 = true
  · exact none1 H0 b0 (Or.inl z1) (fun {d} => by rw [(cc (d := d)).1 z1, hH0])
  have z1' : s.1 = false := Bool.eq_false_iff.mpr z1
  by_cases z2 : s.2.2.1 = 0
  case neg => exact none1 H bH (Or.inr z2) (fun {d} => (cc (d := d)).2.1 z1' z2)
  by_cases z3 : dp_I M 92 k = 0
  case neg =>
    have z3' : dp_I M 92 k = 1 := (a8 k).resolve_left z3
    refine ⟨-1, _, 0, fun {d} => (cc (d := d)).2.2.1 z1' z2 z3, ((((Off.rr _ _ M).rJ 96 (by decide) _).I 92 (by decide) _ _).I 93 (by decide) _ _), ⟨Nat.le_refl _, Nat.le_refl _⟩, fun q => absurd q (by decide), Or.inr (Or.inl rfl), by decide, fun N hN => ?_⟩
    obtain ⟨C, hC⟩ : ∃ C, C = dp_setI (dp_setI (rJ M 96 H) 92 k 0) 93 k (dp_I M 93 k + 1) := ⟨_, rfl⟩
    rw [← hC] at hN
    have cI : ∀ k', k' ≠ 92 → k' ≠ 93 → dp_I C k' = dp_I M k' := fun k' q1 q2 => by rw [hC, gII, if_neg q2, gII, if_neg q1, rJ_I]
    have cJ : ∀ k', k' ≠ 96 → dp_J C k' = dp_J M k' := fun k' q1 => by rw [hC, gJI, gJI, rJ_J, if_neg q1]
    have c96 : dp_J C 96 = H := by rw [hC, gJI, gJI, rJ_J, if_pos rfl]
    have c92 : dp_I C 92 = uI (dp_I M 92) k 0 := by rw [hC, gII, if_neg (by decide), gII, if_pos rfl, rJ_I]
    have c93 : dp_I C 93 = uI (dp_I M 93) k (dp_I M 93 k + 1) := by rw [hC, gII, if_pos rfl, gII, if_neg (by decide), rJ_I]
    have nI' : ∀ k' ∈ RelS_S, k' ≠ 92 → k' ≠ 93 → dp_I N k' = dp_I M k' := fun k' hk' q1 q2 => by rw [(hN.1 k' hk').1, cI k' q1 q2]
    have nJ' : ∀ k' ∈ RelS_S, k' ≠ 96 → dp_J N k' = dp_J M k' := fun k' hk' q => by rw [(hN.1 k' hk').2, cJ k' q]
    have n96 : ∀ i, i < (R' + 1) * 12 → dp_J N 96 i = dp_J M 96 i := fun i hi => by rw [(hN.1 96 (by decide)).2, c96]; exact bH i hi
    have nf : ∀ i ∈ RelS_T, dp_I N 114 i = dp_I M 114 i := fun i hi => by rw [hN.2 i hi, cI 114 (by decide) (by decide)]
    obtain ⟨K, hK⟩ : ∃ K, K = dp_setI (dp_setI (dp_setI (dp_setI (lyM N (R' + 1) s) 216 (R' + 1) (nI s.2.1)) 219 k 0) 220 k (dp_I N 220 k + 1)) 216 (R' + 1) 0 := ⟨_, rfl⟩
    have kI : ∀ k', k' ≠ 216 → k' ≠ 217 → k' ≠ 219 → k' ≠ 220 → dp_I K k' = dp_I N k' := fun k' q1 q2 q3 q4 => by rw [hK, gII, if_neg q1, gII, if_neg q4, gII, if_neg q3, gII, if_neg q1, lyM_I _ _ k' q1 q2]
    have kJ : ∀ k', dp_J K k' = dp_J (lyM N (R' + 1) s) k' := fun k' => by rw [hK, gJI, gJI, gJI, gJI]
    have k216 : ∀ r, r ≤ R' → dp_I K 216 r = dp_I N 216 r := fun r hr => by rw [hK, gII, if_pos rfl, uI_n (by omega), gII, if_neg (by decide), gII, if_neg (by decide), gII, if_pos rfl, uI_n (by omega), lyM_216, uI_n (by omega)]
    have k217 : dp_I K 217 = dp_I (lyM N (R' + 1) s) 217 := by rw [hK, gII, if_neg (by decide), gII, if_neg (by decide), gII, if_neg (by decide), gII, if_neg (by decide)]
    have k219 : dp_I K 219 = uI (dp_I M 219) k 0 := by rw [hK, gII, if_neg (by decide), gII, if_neg (by decide), gII, if_pos rfl, gII, if_neg (by decide), lyM_I _ _ 219 (by decide) (by decide), nI' 219 (by decide) (by decide) (by decide)]
    have k220 : dp_I K 220 = uI (dp_I M 220) k (dp_I M 220 k + 1) := by rw [hK, gII, if_neg (by decide), gII, if_pos rfl, gII, if_neg (by decide), gII, if_neg (by decide), lyM_I _ _ 220 (by decide) (by decide), nI' 220 (by decide) (by decide) (by decide)]
    have k92 : dp_I K 92 = uI (dp_I M 92) k 0 := by rw [kI 92 (by decide) (by decide) (by decide) (by decide), (hN.1 92 (by decide)).1, c92]
    have k93 : dp_I K 93 = uI (dp_I M 93) k (dp_I M 93 k + 1) := by rw [kI 93 (by decide) (by decide) (by decide) (by decide), (hN.1 93 (by decide)).1, c93]
    refine ⟨K, fun {d} => ?_, ?_, ?_, by rw [hK]; exact ⟨Nat.le_refl _, Nat.le_refl _⟩, fun r i hr hi => by rw [kJ, lyM_J _ _ 96 (by decide), n96 _ (by omega)], by rw [if_pos (Or.inr rfl), kI 114 (by decide) (by decide) (by decide) (by decide), nf 133 (by decide)]; exact a4, fun q => absurd q (fun q => m1_ne' (show R' + 1 < 2147483648 by omega) q.symm)⟩
    · rw [hK]
      exact (mm N (fun k hk => nI' k (sI k hk).1 (sI k hk).2.2.1 (sI k hk).2.2.2.1) (fun k hk => nJ' k (sJ k hk).1 (sJ k hk).2.2.1) nf n96 (nI' 214 (by decide) (by decide) (by decide)) (nI' 216 (by decide) (by decide) (by decide)) (nI' 217 (by decide) (by decide) (by decide)) (nJ' 218 (by decide) (by decide)) (nI' 219 (by decide) (by decide) (by decide)) s hs).2.1 z1' z2 (by rw [a7]; exact z3)
    · refine (hb0.lay (M2 := K) (fun k hk => by rw [kI k (sI k hk).2.2.2.2.1 (sI k hk).2.2.2.2.2.1 (sI k hk).2.2.2.2.2.2.1 (sI k hk).2.2.2.2.2.2.2.1]; exact nI' k (sI k hk).1 (sI k hk).2.2.1 (sI k hk).2.2.2.1) (by rw [kI 90 (by decide) (by decide) (by decide) (by decide)]; exact nI' 90 (by decide) (by decide) (by decide)) (by rw [kI 214 (by decide) (by decide) (by decide) (by decide)]; exact nI' 214 (by decide) (by decide) (by decide)) (fun k hk => by rw [kJ, lyM_J _ _ k (sJ k hk).2.2.2]; exact nJ' k (sJ k hk).1 (sJ k hk).2.2.1) (by rw [kJ, lyM_J _ _ 95 (by decide)]; exact nJ' 95 (by decide) (by decide)) (fun i hi => by rw [kI 114 (by decide) (by decide) (by decide) (by decide)]; exact nf i hi) (fun i hi => by rw [kJ, lyM_J _ _ 96 (by decide)]; exact n96 i hi) (fun r hr => by rw [k216 r hr, nI' 216 (by decide) (by decide) (by decide)]) (fun i hi => by rw [k217, lyM_217, ovP_b hi, nI' 217 (by decide) (by decide) (by decide)]) (fun i hi => by rw [kJ, lyM_218, ovP_b hi, nJ' 218 (by decide) (by decide)]) (by rw [k219, k92, a7]) (fun i => ?_) (by rw [k220, k93, a9])).r
      rw [k92]
      by_cases q : i = k
      · subst q; rw [uI_s]; exact Or.inl rfl
      · rw [uI_n q]; exact a8 i
    · rw [hK]; unfold lyM; exact (((((((Off.rr _ _ N).I 216 (by decide) _ _).rI 217 (by decide) _).rJ 218 (by decide) _).I 216 (by decide) _ _).I 219 (by decide) _ _).I 220 (by decide) _ _).I 216 (by decide) _ _
  refine ⟨nI (R' + 1), _, 0, fun {d} => (cc (d := d)).2.2.2 z1' z2 z3, ?_, ⟨Nat.le_refl _, Nat.le_refl _⟩, fun q => absurd q (nI_n0' (by omega) (by omega)), Or.inr (Or.inr rfl), by decide, fun N hN => ?_⟩
  · unfold cvB; exact ((((Off.rr _ _ M).rJ 96 (by decide) _).I 90 (by decide) _ _).I 90 (by decide) _ _).rJ 95 (by decide) _
  obtain ⟨C, hC⟩ : ∃ C, C = rJ (cvB M R' H) 95 (tbs 1 (ndF M) s.2.2.2.1 s.2.2.2.2 (dp_J M 95) s.2.1) := ⟨_, rfl⟩
  rw [← hC] at hN
  have cI : ∀ k', k' ≠ 90 → dp_I C k' = dp_I M k' := fun k' q1 => by rw [hC, rJ_I]; unfold cvB; rw [gII, if_neg q1, gII, if_neg q1, rJ_I]
  have cJ : ∀ k', k' ≠ 95 → k' ≠ 96 → dp_J C k' = dp_J M k' := fun k' q1 q2 => by rw [hC, rJ_J, if_neg q1]; unfold cvB; rw [gJI, gJI, rJ_J, if_neg q2]
  have c90 : dp_I C 90 = uI (uI (dp_I M 90) 1 (nI (R' + 1))) 2 (dp_I M 90 2 + 1) := by rw [hC, rJ_I]; unfold cvB; rw [gII, if_pos rfl, gII, if_pos rfl, rJ_I]
  have c95 : dp_J C 95 = tbs 1 (ndF M) s.2.2.2.1 s.2.2.2.2 (dp_J M 95) s.2.1 := by rw [hC, rJ_J, if_pos rfl]
  have c96 : dp_J C 96 = H := by rw [hC, rJ_J, if_neg (by decide)]; unfold cvB; rw [gJI, gJI, rJ_J, if_pos rfl]
  have nI' : ∀ k' ∈ RelS_S, k' ≠ 90 → dp_I N k' = dp_I M k' := fun k' hk' q1 => by rw [(hN.1 k' hk').1, cI k' q1]
  have nJ' : ∀ k' ∈ RelS_S, k' ≠ 95 → k' ≠ 96 → dp_J N k' = dp_J M k' := fun k' hk' q1 q2 => by rw [(hN.1 k' hk').2, cJ k' q1 q2]
  have n96 : ∀ i, i < (R' + 1) * 12 → dp_J N 96 i = dp_J M 96 i := fun i hi => by rw [(hN.1 96 (by decide)).2, c96]; exact bH i hi
  have nf : ∀ i ∈ RelS_T, dp_I N 114 i = dp_I M 114 i := fun i hi => by rw [hN.2 i hi, cI 114 (by decide)]
  obtain ⟨K, hK⟩ : ∃ K, K = dp_setI (dp_setI (dp_setI (lyM N (R' + 1) s) 216 (R' + 1) (nI s.2.1)) 114 133 (nI (R' + 1))) 214 (R' + 1) (nI w) := ⟨_, rfl⟩
  have kI : ∀ k', k' ≠ 216 → k' ≠ 217 → k' ≠ 214 → k' ≠ 114 → dp_I K k' = dp_I N k' := fun k' q1 q2 q3 q4 => by rw [hK, gII, if_neg q3, gII, if_neg q4, gII, if_neg q1, lyM_I _ _ k' q1 q2]
  have kJ : ∀ k', dp_J K k' = dp_J (lyM N (R' + 1) s) k' := fun k' => by rw [hK, gJI, gJI, gJI]
  have k114 : dp_I K 114 = uI (dp_I N 114) 133 (nI (R' + 1)) := by rw [hK, gII, if_neg (by decide), gII, if_pos rfl, gII, if_neg (by decide), lyM_I _ _ 114 (by decide) (by decide)]
  have k216 : dp_I K 216 = uI (dp_I M 216) (R' + 1) (nI s.2.1) := by
    rw [hK, gII, if_neg (by decide), gII, if_neg (by decide), gII, if_pos rfl, lyM_216, nI' 216 (by decide) (by decide)]
    funext i
    by_cases q : i = R' + 1
    · subst q; rw [uI_s, uI_s]
    · rw [uI_n q, uI_n q, uI_n q]
  have k217 : dp_I K 217 = ovP (dp_I M 217) ((R' + 1) * 4) s.2.1 s.2.2.2.1 := by rw [hK, gII, if_neg (by decide), gII, if_neg (by decide), gII, if_neg (by decide), lyM_217, nI' 217 (by decide) (by decide)]
  have k218 : dp_J K 218 = ovP (dp_J M 218) ((R' + 1) * 4) s.2.1 s.2.2.2.2 := by rw [kJ, lyM_218, nJ' 218 (by decide) (by decide) (by decide)]
  have k214 : dp_I K 214 = uI (dp_I M 214) (R' + 1) (nI w) := by rw [hK, gII, if_pos rfl, gII, if_neg (by decide), gII, if_neg (by decide), lyM_I _ _ 214 (by decide) (by decide), nI' 214 (by decide) (by decide)]
  have k96' : dp_J K 96 = H := by rw [kJ, lyM_J _ _ 96 (by decide), (hN.1 96 (by decide)).2, c96]
  have k95 : dp_J K 95 = tbs 1 (ndF M) s.2.2.2.1 s.2.2.2.2 (dp_J M 95) s.2.1 := by rw [kJ, lyM_J _ _ 95 (by decide), (hN.1 95 (by decide)).2, c95]
  have oI : ∀ k' ∈ RelS_S, k' ≠ 90 → k' ≠ 216 → k' ≠ 217 → k' ≠ 214 → dp_I K k' = dp_I M k' := fun k' h' q0 q1 q2 q3 => by
    rw [kI k' q1 q2 q3 (by have : ∀ k ∈ RelS_S, k ≠ 114 := by decide
                           exact this k' h'), nI' k' h' q0]
  refine ⟨K, fun {d} => ?_, ?_, ?_, by rw [hK]; exact ⟨Nat.le_refl _, Nat.le_refl _⟩, fun r i hr hi => by rw [k96']; exact bH _ (by omega), ?_, fun _ => ⟨?_, ?_⟩⟩
  · rw [hK, if_neg (nI_n0' (by omega) (by omega))]
    exact (mm N (fun k hk => nI' k (sI k hk).1 (sI k hk).2.1) (fun k hk => nJ' k (sJ k hk).1 (sJ k hk).2.1 (sJ k hk).2.2.1) nf n96 (nI' 214 (by decide) (by decide)) (nI' 216 (by decide) (by decide)) (nI' 217 (by decide) (by decide)) (nJ' 218 (by decide) (by decide) (by decide)) (nI' 219 (by decide) (by decide)) s hs).2.2 z1' z2 (by rw [a7]; exact z3)
  · exact (hb0.cov (M2 := K) (w := w) (cn := cn) (s := s) hR c2 ls z2 (fun k hk => oI k (sI k hk).1 (sI k hk).2.1 (sI k hk).2.2.2.2.1 (sI k hk).2.2.2.2.2.1 (sI k hk).2.2.2.2.2.2.2.2.1) (by rw [kI 90 (by decide) (by decide) (by decide) (by decide), (hN.1 90 (by decide)).1, c90]) k214 (fun k hk => by rw [kJ, lyM_J _ _ k (sJ k hk).2.2.2]; exact nJ' k (sJ k hk).1 (sJ k hk).2.1 (sJ k hk).2.2.1) k95 (fun i hi => by rw [k114, uI_n (fun q => by subst q; revert hi; decide)]; exact nf i (by
      have : ∀ i ∈ [119, 120], i ∈ RelS_T := by decide
      exact this i hi)) (by rw [k114, uI_s]) (by rw [k96', hH, hH0]) k216 k217 k218 (by rw [oI 219 (by decide) (by decide) (by decide) (by decide) (by decide), oI 92 (by decide) (by decide) (by decide) (by decide) (by decide)]; exact a7) (by rw [oI 92 (by decide) (by decide) (by decide) (by decide) (by decide)]; exact a8) (by rw [oI 220 (by decide) (by decide) (by decide) (by decide) (by decide), oI 93 (by decide) (by decide) (by decide) (by decide) (by decide)]; exact a9)).r
  · rw [hK]; unfold lyM; exact ((((((Off.rr _ _ N).I 216 (by decide) _ _).rI 217 (by decide) _).rJ 218 (by decide) _).I 216 (by decide) _ _).F 133 (by decide) _).I 214 (by decide) _ _
  · rw [if_neg (fun q => q.elim (nI_n0' (by omega) (by omega)) (m1_ne' (by omega))), k114, uI_s]
  · rw [k96', hH]; unfold ovH; rw [uI_n (by omega), uI_n (by omega), uI_s]
  · rw [oI 215 (by decide) (by decide) (by decide) (by decide) (by decide)]; exact a15 _ (by omega)
end SR
