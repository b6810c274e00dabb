-- needs: 71 72 73 74 75 76 77
/-! DECLARATIONS: one ask more -/
theorem pig : ∀ (D A : Nat) (f : Nat → Nat), (∀ a, a < A → f a < D) → (∀ a b, a < A → b < A → f a = f b → a = b) → A ≤ D
  | 0, A, f, h1, _ => by
    by_cases z : A = 0
    · omega
    · have := h1 0 (by omega); omega
  | D + 1, A, f, h1, h2 => by
    by_cases z : ∃ a, a < A ∧ f a = D
    · obtain ⟨a0, q1, q2⟩ := z
      have key := pig D (A - 1) (fun a => if a = a0 then f (A - 1) else f a) (fun a ha => ?_) (fun a b ha hb e => ?_)
      · omega
      · (try dsimp only)
        by_cases w : a = a0
        · rw [if_pos w]
          have w1 := h1 (A - 1) (by omega)
          have w2 : ¬ f (A - 1) = D := fun e => by
            have := h2 (A - 1) a0 (by omega) q1 (by rw [e, q2]); omega
          omega
        · rw [if_neg w]
          have w1 := h1 a (by omega)
          have w2 : ¬ f a = D := fun e => w (h2 a a0 (by omega) q1 (by rw [e, q2]))
          omega
      · (try dsimp only at e)
        by_cases w : a = a0
        · by_cases w' : b = a0
          · omega
          · rw [if_pos w, if_neg w'] at e
            have := h2 (A - 1) b (by omega) (by omega) e; omega
        · by_cases w' : b = a0
          · rw [if_neg w, if_pos w'] at e
            have := h2 a (A - 1) (by omega) (by omega) e; omega
          · rw [if_neg w, if_neg w'] at e
            exact h2 a b (by omega) (by omega) e
    · have := pig D A f (fun a ha => by
        have w1 := h1 a ha
        have w2 : ¬ f a = D := fun e => z ⟨a, ha, e⟩
        omega) h2
      omega
section DQ
theorem hoA_f {ask : Nat → Int64} {c : Nat → Bool} {s : Int64 × (Nat → Int64)} {A : Nat} (h : c A = false) : hoA ask c s (A + 1) = hoA ask c s A := by
  rw [hoA, if_neg (fun q => by rw [h] at q; exact absurd q.1 (by decide))]
theorem ho_f {A : Nat} {ask : Nat → Int64} {c : Nat → Nat → Bool} {s : Int64 × (Nat → Int64)} (h : ∀ k, c k A = false) : ∀ k, ho (A + 1) ask c s k = ho A ask c s k
  | 0 => rfl
  | k + 1 => by rw [ho, ho, ho_f h k, hoA_f (h k)]
theorem trt_n {A : Nat} {p : Nat → Bool} {dy dk : Nat → Int32} {ask : Nat → Int64} {d : Int32} {s : QS} (h : p A = false) : trt (A + 1) p dy dk ask d s = trt A p dy dk ask d s := by
  have hc : nw p dy d s.2.1 A = false := by unfold nw; rw [h, Bool.false_and, Bool.false_and]
  have lt : ∀ a, (nw p dy d s.2.1 a = true ∧ a < A + 1) ↔ (nw p dy d s.2.1 a = true ∧ a < A) := fun a => ⟨fun q => ⟨q.1, by
    have : a ≠ A := fun e => by have q1 := q.1; rw [e, hc] at q1; exact absurd q1 (by decide)
    omega⟩, fun q => ⟨q.1, by omega⟩⟩
  have e1 : qall (A + 1) (nw p dy d s.2.1) ask = qall A (nw p dy d s.2.1) ask := by
    unfold qall; rw [sl, hc, if_neg (by decide), Int64.add_zero]
  have e2 : ∀ all L, l1 (nw p dy d s.2.1) ask all L (A + 1) = l1 (nw p dy d s.2.1) ask all L A := fun all L => by
    unfold l1; rw [sl, hc, if_neg (by decide), Int64.add_zero]
  have e3 : ∀ all L g, g1 (nw p dy d s.2.1) ask all L g (A + 1) = g1 (nw p dy d s.2.1) ask all L g A := fun all L g => by
    funext a; unfold g1
    by_cases z : nw p dy d s.2.1 a = true ∧ a < A
    · rw [if_pos z, if_pos ((lt a).mpr z)]
    · rw [if_neg z, if_neg (fun q => z ((lt a).mp q))]
  have e4 : t1 (nw p dy d s.2.1) d s.2.1 (A + 1) = t1 (nw p dy d s.2.1) d s.2.1 A := by
    funext a; unfold t1
    by_cases z : nw p dy d s.2.1 a = true ∧ a < A
    · rw [if_pos z, if_pos ((lt a).mpr z)]
    · rw [if_neg z, if_neg (fun q => z ((lt a).mp q))]
  unfold trt
  simp only [e1, e2, e3, e4]
  rw [ho_f (fun k => by rw [hc, Bool.false_and])]
theorem crs_n {A : Nat} {p : Nat → Bool} {dy dk : Nat → Int32} {ask : Nat → Int64} {blk : Nat → Int32} {f : Nat} {V : Int64} (h : p A = false) : ∀ n, crs (A + 1) p dy dk ask blk f V n = crs A p dy dk ask blk f V n
  | 0 => rfl
  | n + 1 => by
    rw [crs, crs, crs_n h n]
    by_cases z : blk (f + n) = 0
    · rw [if_pos z, if_pos z]; exact trt_n h
    · rw [if_neg z, if_neg z]
theorem crs_d {A : Nat} {p : Nat → Bool} {dy dy' dk dk' : Nat → Int32} {ask : Nat → Int64} {blk : Nat → Int32} {f : Nat} {V : Int64} (h : ∀ a, p a = true → dy a = dy' a ∧ dk a = dk' a) : ∀ n, crs A p dy dk ask blk f V n = crs A p dy' dk' ask blk f V n
  | 0 => rfl
  | n + 1 => by
    rw [crs, crs, crs_d h n]
    by_cases z : blk (f + n) = 0
    · rw [if_pos z, if_pos z]; exact trt_c h
    · rw [if_neg z, if_neg z]
/-- an order that the new ask is not of -/
theorem QRw.more {M M' : dp_M} {A o o' : Nat} {v2 v3 : Int32} {v4 : Int64} (h : QRw M A o') (ho : o < 16) (ho' : o' < 16) (hne : o' ≠ o) (h1 : ∀ k, k ≠ 75 → k ≠ 82 → k ≠ 83 → k ≠ 84 → dp_I M' k = dp_I M k) (h82 : dp_I M' 82 = uI (dp_I M 82) A (nI o)) (h83 : dp_I M' 83 = uI (dp_I M 83) A v2) (h84 : dp_I M' 84 = uI (dp_I M 84) A v3) (h85 : dp_J M' 85 = uI (dp_J M 85) A v4) (h2 : ∀ k, k ≠ 85 → dp_J M' k = dp_J M k) : QRw M' (A + 1) o' := by
  obtain ⟨f, e, r, q1, q2, q3, q4, q5, q6, q7, q8, q9, q10, q11⟩ := h
  have hpA : qp M A o' A = false := by unfold qp; rw [decide_eq_false (by omega), Bool.false_and]
  have hpq : qp M' (A + 1) o' = qp M A o' := by
    funext a
    by_cases z : a = A
    · subst z
      rw [hpA]
      unfold qp
      have : dp_I M' 82 a = nI o := by rw [h82, uI_s]
      rw [this, decide_eq_false (p := nI o = nI o') (fun q => by rw [nI_eq (by omega) (by omega)] at q; omega), Bool.and_false]
    · unfold qp
      have : dp_I M' 82 a = dp_I M 82 a := by rw [h82, uI_n z]
      rw [this]
      by_cases w : a < A
      · rw [decide_eq_true w, decide_eq_true (show a < A + 1 by omega)]
      · rw [decide_eq_false w, decide_eq_false (show ¬ a < A + 1 by omega)]
  have nA : ∀ a, qp M A o' a = true → a ≠ A := fun a q e => by rw [e, hpA] at q; exact absurd q (by decide)
  have hc : ∀ n, cC M' (A + 1) o' f n = cC M A o' f n := fun n => by
    unfold cC
    rw [hpq, crs_n hpA]
    have e80 : dp_I M' 80 = dp_I M 80 := h1 80 (by decide) (by decide) (by decide) (by decide)
    have e76 : dp_J M' 76 = dp_J M 76 := h2 76 (by decide)
    rw [e80, e76, crs_d (dy' := dp_I M 84) (dk' := dp_I M 83) (fun a ha => by rw [h84, h83, uI_n (nA a ha), uI_n (nA a ha)]; exact ⟨rfl, rfl⟩)]
    exact crs_a (fun a ha => by rw [h85, uI_n (nA a ha)]) n
  refine ⟨f, e, r, q1, q2, q3, q4, by rw [h1 77 (by decide) (by decide) (by decide) (by decide)]; exact q5, by rw [h1 78 (by decide) (by decide) (by decide) (by decide)]; exact q6, by rw [h1 79 (by decide) (by decide) (by decide) (by decide)]; exact q7, by rw [h2 76 (by decide)]; exact q8, by rw [h2 76 (by decide)]; exact q9, fun a ha => ?_, fun i hi => ?_⟩
  · rw [hpq] at ha
    rw [hc, h1 87 (by decide) (by decide) (by decide) (by decide), h2 86 (by decide)]; exact q10 a ha
  · rw [hc, h2 81 (by decide)]; exact q11 i hi
end DQ
section DR
variable {xs : Nat → Int32} {xl d : Nat} {M : dp_M}
/-- a new ask, the class's way -/
theorem qc_new {O A o : Nat} {v2 v3 : Int32} {v : Int64} (hO : O ≤ 16) (hA : A < 400) (ho : o < O) (a3 : dp_I M 75 1 = nI A) (b8 : ∀ a, 0 ≤ (dp_J M 85 a).toInt ∧ (dp_J M 85 a).toInt ≤ 1000000) (v0 : 0 ≤ v.toInt) (v1 : v.toInt ≤ 1000000) (b10 : ∀ o, o < O → QRw M A o) :
    ∃ C, dp_den true xs xl (d + 4) 119 [.ref 75, .int (nI o), .int v2, .int v3, .long v] M = iR (nI A) C ∧ Off [75, 81, 82, 83, 84, 85, 86, 87, 89] [] M C ∧ Cst 0 0 M C ∧ (∀ o, o < O → QRw C (A + 1) o) ∧ dp_I C 82 = uI (dp_I M 82) A (nI o) ∧ dp_I C 83 = uI (dp_I M 83) A v2 ∧ dp_I C 84 = uI (dp_I M 84) A v3 ∧ dp_J C 85 = uI (dp_J M 85) A v ∧ dp_I C 75 0 = dp_I M 75 0 ∧ dp_I C 75 1 = nI (A + 1) := by
  obtain ⟨N, hN⟩ : ∃ N, N = dp_setI (dp_setJ (dp_setI (dp_setI (dp_setI M 82 A (nI o)) 83 A v2) 84 A v3) 85 A v) 75 1 (nI (A + 1)) := ⟨_, rfl⟩
  have nI' : ∀ k, k ≠ 75 → k ≠ 82 → k ≠ 83 → k ≠ 84 → dp_I N k = dp_I M k := fun k q1 q2 q3 q4 => by rw [hN, gII, if_neg q1, gIJ, gII, if_neg q4, gII, if_neg q3, gII, if_neg q2]
  have nJ' : ∀ k, k ≠ 85 → dp_J N k = dp_J M k := fun k q1 => by rw [hN, gJI, gJJ, if_neg q1, gJI, gJI, gJI]
  have n82 : dp_I N 82 = uI (dp_I M 82) A (nI o) := by rw [hN, gII, if_neg (by decide), gIJ, gII, if_neg (by decide), gII, if_neg (by decide), gII, if_pos rfl]
  have n83 : dp_I N 83 = uI (dp_I M 83) A v2 := by rw [hN, gII, if_neg (by decide), gIJ, gII, if_neg (by decide), gII, if_pos rfl, gII, if_neg (by decide)]
  have n84 : dp_I N 84 = uI (dp_I M 84) A v3 := by rw [hN, gII, if_neg (by decide), gIJ, gII, if_pos rfl, gII, if_neg (by decide), gII, if_neg (by decide)]
  have n85 : dp_J N 85 = uI (dp_J M 85) A v := by rw [hN, gJI, gJJ, if_pos rfl, gJI, gJI, gJI]
  have n75 : dp_I N 75 = uI (dp_I M 75) 1 (nI (A + 1)) := by rw [hN, gII, if_pos rfl, gIJ, gII, if_neg (by decide), gII, if_neg (by decide), gII, if_neg (by decide)]
  have oN : Off [75, 81, 82, 83, 84, 85, 86, 87, 89] [] M N := by rw [hN]; exact (((((Off.rr _ _ M).I 82 (by decide) _ _).I 83 (by decide) _ _).I 84 (by decide) _ _).J 85 (by decide) _ _).I 75 (by decide) _ _
  obtain ⟨f, e, r, q1, q2, q3, q4, q5, q6, q7, q8, q9, q10, q11⟩ := b10 o ho
  obtain ⟨C, r1, r2, r3, r4, r5, r6, r7, r8, r9, r10, r11⟩ := q_follow (xs := xs) (xl := xl) (d := d) (M := N) (A := A + 1) (o := o) (f := f) (e := e) (r := r) (by omega) (by omega) (by rw [n75, uI_s]) (fun x => by
    rw [n85]
    by_cases z : x = A
    · subst z; rw [uI_s]; exact ⟨v0, v1⟩
    · rw [uI_n z]; exact b8 x) q1 q2 q3 q4 (by rw [nI' 77 (by decide) (by decide) (by decide) (by decide)]; exact q5) (by rw [nI' 78 (by decide) (by decide) (by decide) (by decide)]; exact q6) (by rw [nI' 79 (by decide) (by decide) (by decide) (by decide)]; exact q7) (by rw [nJ' 76 (by decide)]; exact q8) (by rw [nJ' 76 (by decide)]; exact q9)
  refine ⟨C, ?_, oN.tr (r2.mono (by decide) (by decide)), ⟨by rw [r3, hN]; exact Nat.le_refl _, by rw [r4, hN]; exact Nat.le_refl _⟩, fun o' ho' => ?_, by rw [r7 82 (by decide) (by decide) (by decide), n82], by rw [r7 83 (by decide) (by decide) (by decide), n83], by rw [r7 84 (by decide) (by decide) (by decide), n84], by rw [r8 85 (by decide) (by decide), n85], by rw [r6, n75, uI_n (by decide)], r5.1⟩
  · have a3' : dp_I M 75 1 = nI A := a3
    rw [D_X5_addAsk_0_den, D_X5_addAsk_0_eq]
    simp only [dp_w, a3', nI_cl (show A < 2147483648 by omega), nI_o (show A < 400 by omega) (by omega), if_false, gII, gIJ, Nat.reduceEqDiff, nI_1]
    rw [← hN, r1, rb_bv]
  · by_cases z : o' = o
    · subst z; exact r9
    · exact r10 o' (by omega) z ((b10 o' ho').more (by omega) (by omega) z nI' n82 n83 n84 n85 nJ')
end DR
