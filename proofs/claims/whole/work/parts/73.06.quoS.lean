/-! QUOTAS: class and model side by side -/
def nd (f e : Nat) (r : Int) : Nat := ((if (e : Int) < r then (e : Int) else r) - f + 1).toNat
/-- one order -/
def QRw (M : dp_M) (A o : Nat) : Prop := ∃ (f e : Nat) (r : Int), f ≤ e ∧ e ≤ 400 ∧ (f : Int) - 1 ≤ r ∧ r ≤ 400 ∧ dp_I M 77 o = nI f ∧ dp_I M 78 o = nI e ∧ (dp_I M 79 o).toInt = r ∧ 1 ≤ (dp_J M 76 o).toInt ∧ (dp_J M 76 o).toInt ≤ 1000000000 ∧
  (∀ a, qp M A o a = true → dp_I M 87 a = (cC M A o f (nd f e r)).2.1 a ∧ dp_J M 86 a = (cC M A o f (nd f e r)).2.2 a) ∧ ∀ i, i < nd f e r → dp_J M 81 (o * 401 + (f + i)) = (cC M A o f (i + 1)).1
def RelQ (M : dp_M) : Prop := ∃ O A : Nat, O ≤ 16 ∧ A ≤ 400 ∧ dp_I M 75 0 = nI O ∧ dp_I M 114 105 = nI O ∧ dp_I M 75 1 = nI A ∧ dp_I M 114 111 = nI A ∧ dp_J M 191 = dp_J M 76 ∧ dp_I M 192 = dp_I M 77 ∧ dp_I M 193 = dp_I M 78 ∧ dp_I M 194 = dp_I M 79 ∧ dp_I M 195 = dp_I M 80 ∧ dp_J M 198 = dp_J M 85 ∧
  (∀ i, dp_I M 80 i = 0 ∨ dp_I M 80 i = 1) ∧ (∀ a, 0 ≤ (dp_J M 85 a).toInt ∧ (dp_J M 85 a).toInt ≤ 1000000) ∧
  (∀ a, a < A → dp_I M 82 a = dp_I M 197 a ∧ qin (dp_I M 82 a) O ∧ qin (dp_I M 196 a) 400 ∧ dp_I M 84 a = mdy M a ∧ dp_I M 83 a = mdk M a) ∧ ∀ o, o < O → QRw M A o
def RelQ_S : List Nat := [75, 76, 77, 78, 79, 80, 81, 82, 83, 84, 85, 86, 87, 88, 89, 191, 192, 193, 194, 195, 196, 197, 198, 199, 200, 235, 238]
def RelQ_T : List Nat := [105, 111, 118]
def RelQ_W : List Nat := [75, 76, 77, 78, 79, 80, 81, 82, 83, 84, 85, 86, 87, 88, 89, 191, 192, 193, 194, 195, 197, 198, 199, 200]
def RelQ_V : List Nat := [105, 118]
theorem cC_c {M M' : dp_M} {A o f : Nat} (h1 : dp_I M' 82 = dp_I M 82) (h2 : dp_I M' 84 = dp_I M 84) (h3 : dp_I M' 83 = dp_I M 83) (h4 : dp_J M' 85 = dp_J M 85) (h5 : ∀ x, x < 401 → dp_I M' 80 (o * 401 + x) = dp_I M 80 (o * 401 + x)) (h6 : dp_J M' 76 o = dp_J M 76 o) : ∀ n, f + n ≤ 401 → cC M' A o f n = cC M A o f n := by
  have hp : qp M' A o = qp M A o := by funext a; unfold qp; rw [h1]
  intro n
  induction n with
  | zero => intro _; unfold cC; rw [crs, crs, h6]
  | succ n ih =>
    intro hn
    have ih := ih (by omega)
    unfold cC at ih ⊢
    rw [crs, crs, ih, h5 (f + n) (by omega), hp, h2, h3, h4]
theorem qp_c {M M' : dp_M} {A o : Nat} (h1 : dp_I M' 82 = dp_I M 82) : qp M' A o = qp M A o := by funext a; unfold qp; rw [h1]
theorem nd_le {f e : Nat} {r : Int} (h1 : f ≤ e) (h2 : e ≤ 400) : f + nd f e r ≤ 401 := by
  unfold nd; split <;> omega
/-- an order that nothing has touched -/
theorem QRw.same {M M' : dp_M} {A o : Nat} (h : QRw M A o) (ho : o < 16) (h1 : dp_I M' 82 = dp_I M 82) (h2 : dp_I M' 84 = dp_I M 84) (h3 : dp_I M' 83 = dp_I M 83) (h4 : dp_J M' 85 = dp_J M 85) (h5 : ∀ x, x < 401 → dp_I M' 80 (o * 401 + x) = dp_I M 80 (o * 401 + x)) (h6 : dp_J M' 76 o = dp_J M 76 o)
    (h7 : dp_I M' 77 o = dp_I M 77 o) (h8 : dp_I M' 78 o = dp_I M 78 o) (h9 : dp_I M' 79 o = dp_I M 79 o) (h10 : ∀ a, qp M A o a = true → dp_I M' 87 a = dp_I M 87 a ∧ dp_J M' 86 a = dp_J M 86 a) (h11 : ∀ x, x < 401 → dp_J M' 81 (o * 401 + x) = dp_J M 81 (o * 401 + x)) : QRw M' A o := by
  obtain ⟨f, e, r, q1, q2, q3, q4, q5, q6, q7, q8, q9, q10, q11⟩ := h
  have hn := nd_le (f := f) (e := e) (r := r) q1 q2
  have hc : ∀ n, f + n ≤ 401 → cC M' A o f n = cC M A o f n := cC_c h1 h2 h3 h4 h5 h6
  refine ⟨f, e, r, q1, q2, q3, q4, by rw [h7]; exact q5, by rw [h8]; exact q6, by rw [h9]; exact q7, by rw [h6]; exact q8, by rw [h6]; exact q9, fun a ha => ?_, fun i hi => ?_⟩
  · rw [qp_c h1] at ha
    rw [hc _ hn, (h10 a ha).1, (h10 a ha).2]; exact q10 a ha
  · rw [hc _ (by omega), h11 (f + i) (by omega)]; exact q11 i hi
theorem RelQ_off {S T : List Nat} {M M' : dp_M} (h : RelQ M) (o : Off S T M M') (hS : ∀ k ∈ RelQ_S, k ∉ S) (hT : ∀ i ∈ RelQ_T, i ∉ T) : RelQ M' := by
  have e : ∀ k ∈ RelQ_S, dp_I M' k = dp_I M k ∧ dp_J M' k = dp_J M k := fun k hk => by
    have := o.1 k (by simp only [RelQ_S, List.mem_cons, List.not_mem_nil, or_false] at hk; omega) (hS k hk) (by simp only [RelQ_S, List.mem_cons, List.not_mem_nil, or_false] at hk; omega)
    exact ⟨this.1, this.2.1⟩
  have f : ∀ i ∈ RelQ_T, dp_I M' 114 i = dp_I M 114 i := fun i hi => (o.2.1 i (hT i hi)).1
  unfold RelQ QRw cC qp mdy mdk at h ⊢
  simp only [(e 75 (by decide)).1, (e 76 (by decide)).2, (e 77 (by decide)).1, (e 78 (by decide)).1, (e 79 (by decide)).1, (e 80 (by decide)).1, (e 81 (by decide)).2, (e 82 (by decide)).1, (e 83 (by decide)).1, (e 84 (by decide)).1, (e 85 (by decide)).2, (e 86 (by decide)).2, (e 87 (by decide)).1, (e 191 (by decide)).2, (e 192 (by decide)).1, (e 193 (by decide)).1, (e 194 (by decide)).1, (e 195 (by decide)).1, (e 196 (by decide)).1, (e 197 (by decide)).1, (e 198 (by decide)).2, (e 235 (by decide)).1, (e 238 (by decide)).1, f 105 (by decide), f 111 (by decide)]
  exact h
def trt0 (A : Nat) (c : Nat → Bool) (cc : Nat → Nat → Bool) (ask : Nat → Int64) (d : Int32) (s : QS) : QS :=
  let u := if qall A c ask ≤ s.1 then (l1 c ask (qall A c ask) s.1 A, g1 c ask (qall A c ask) s.1 s.2.2 A) else ho A ask cc (l1 c ask (qall A c ask) s.1 A, g1 c ask (qall A c ask) s.1 s.2.2 A) 4
  (u.1, t1 c d s.2.1 A, u.2)
theorem trt_eq {A : Nat} {p : Nat → Bool} {dy dk : Nat → Int32} {ask : Nat → Int64} {d : Int32} {s : QS} : trt A p dy dk ask d s = trt0 A (nw p dy d s.2.1) (fun k a => nw p dy d s.2.1 a && decide (dk a = nI k)) ask d s := rfl
/-- the course is the same for both -/
theorem trt_c {A : Nat} {p : Nat → Bool} {dy dy' dk dk' : Nat → Int32} {ask : Nat → Int64} {d : Int32} {s : QS} (h : ∀ a, p a = true → dy a = dy' a ∧ dk a = dk' a) : trt A p dy dk ask d s = trt A p dy' dk' ask d s := by
  have e1 : nw p dy d s.2.1 = nw p dy' d s.2.1 := by
    funext a; unfold nw
    cases z : p a with
    | false => simp only [Bool.false_and]
    | true => rw [(h a z).1]
  have e2 : (fun (k : Nat) (a : Nat) => nw p dy' d s.2.1 a && decide (dk a = nI k)) = fun k a => nw p dy' d s.2.1 a && decide (dk' a = nI k) := by
    funext k a
    cases z : nw p dy' d s.2.1 a with
    | false => simp only [Bool.false_and]
    | true =>
      have : p a = true := by unfold nw at z; simp only [Bool.and_eq_true] at z; exact z.1.1
      rw [(h a this).2]
  rw [trt_eq, trt_eq, e1, e2]
theorem cM_cC {M : dp_M} {A o f : Nat} (h1 : ∀ a, a < A → dp_I M 82 a = dp_I M 197 a ∧ dp_I M 84 a = mdy M a ∧ dp_I M 83 a = mdk M a) (h2 : dp_J M 198 = dp_J M 85) (h3 : dp_I M 195 = dp_I M 80) (h4 : dp_J M 191 = dp_J M 76) : mp M A o = qp M A o ∧ ∀ n, cM M A o f n = cC M A o f n := by
  have hp : mp M A o = qp M A o := by
    funext a; unfold mp qp
    by_cases z : a < A
    · rw [(h1 a z).1]
    · rw [decide_eq_false z]; rfl
  refine ⟨hp, fun n => ?_⟩
  induction n with
  | zero => unfold cM cC; rw [crs, crs, h4]
  | succ n ih =>
    unfold cM cC at ih ⊢
    rw [crs, crs, ih, h3, h2, hp]
    split
    · exact trt_c (fun a ha => ⟨((h1 a (qp_lt ha)).2.1).symm, ((h1 a (qp_lt ha)).2.2).symm⟩)
    · rfl
section QS1
variable {xs : Nat → Int32} {xl d : Nat} {M : dp_M}
theorem RelQ.refused (h : RelQ M) (hn : 246 ≤ dp_n M) (k : Int32) : RelQ (dp_setI (dp_new M 0 0 6) 114 0 k) ∧ Off (245 :: RelQ_W) (0 :: RelQ_V) M (dp_setI (dp_new M 0 0 6) 114 0 k) ∧ Cst 1 6 M (dp_setI (dp_new M 0 0 6) 114 0 k) :=
  ⟨RelQ_off h (((Off.rr [] [0] M).N hn 0 0 6).F 0 (by decide) k) (by decide) (by decide), ((Off.rr _ _ M).N hn 0 0 6).F 0 (by decide) k, ⟨Nat.le_refl _, Nat.le_refl _⟩⟩
theorem RelQ.looked (h : RelQ M) (v : Int64) : RelQ (dp_setI (dp_setJ M 245 0 v) 114 0 0) ∧ Off (245 :: RelQ_W) (0 :: RelQ_V) M (dp_setI (dp_setJ M 245 0 v) 114 0 0) ∧ Cst 1 6 M (dp_setI (dp_setJ M 245 0 v) 114 0 0) :=
  ⟨RelQ_off h (((Off.rr [245] [0] M).J 245 (by decide) 0 v).F 0 (by decide) 0) (by decide) (by decide), ((Off.rr _ _ M).J 245 (by decide) 0 v).F 0 (by decide) 0, ⟨Nat.le_add_right _ _, Nat.le_add_right _ _⟩⟩
theorem qc_ord {v : Int32} {O : Nat} (h : dp_I M 75 0 = nI O) (hO : O ≤ 16) : dp_den true xs xl (d + 2) 256 [.ref 0, .int v] M = iR (bI (qin v O)) M := by
  rw [D_X11_isOrder_0_den, D_X11_isOrder_0_eq]; exact q_cn h (by omega)
theorem qm_ord {v : Int32} {O : Nat} (h : dp_I M 114 105 = nI O) (hO : O ≤ 16) : dp_den true xs xl (d + 1) 505 [.ref 114, .int v] M = iR (bI (qin v O)) M := by
  rw [D_X12_isOrder_0_den, D_X12_isOrder_0_eq]; exact q_mr h (by omega)
theorem qm_span {v : Int32} : dp_den true xs xl (d + 2) 504 [.int v] M = iR (bI (qin v 401)) M := by
  rw [D_X12_isSpanDay_0_den, D_X12_isSpanDay_0_eq]; exact q_mc (by decide)
end QS1
