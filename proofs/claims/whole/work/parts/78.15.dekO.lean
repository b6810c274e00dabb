-- needs: 71 72 73 74 75 76 77
/-! DECLARATIONS: again, side by side -/
theorem rJ_self (M : dp_M) (k : Nat) : rJ M k (dp_J M k) = M := mext (fun q => by rw [rJ_I]) (fun q => by
  rw [rJ_J]
  by_cases z : q = k
  · rw [if_pos z, z]
  · rw [if_neg z]) rfl
section DP
variable {xs : Nat → Int32} {xl d : Nat} {M : dp_M}
theorem dm_asked {v : Int64} : dp_den true xs xl (d + 2) 571 [.long v] M = iR (bI ((1 : Int64) ≤ v ∧ v ≤ 1000000)) M := by
  rw [D_X12_isAsked_0_den, D_X12_isAsked_0_eq, q_min, rb_bi, if_pos (bI_01.mpr trivial)]
/-- what each had, the model's copy -/
def agF (M : dp_M) (A : Nat) : dp_M := rJ M 201 (fun j => if j < A then dp_J M 200 j else dp_J M 201 j)
theorem ag_cp {A : Nat} {v1 v4 v5 : Int32} {v2 : Int64} {r : dp_Res} (hA : A ≤ 400) (h : dp_I M 114 111 = nI A) (ht : D_X12_again_89 xs xl d v1 v2 v4 v5 (nI A) (agF M A) = some r) : D_X12_again_89 xs xl d v1 v2 v4 v5 0 M = some r := by
  have key := lpb (F := fun (_ : Nat) k => D_X12_again_89 xs xl d v1 v2 v4 v5 (nI k) (agF M k)) (s := fun _ => 0) (N := A) (r := r) ht (fun k hk hr => ?_)
  · (try dsimp only at key)
    have e0 : agF M 0 = M := by
      unfold agF
      simp only [Nat.not_lt_zero, if_false]
      exact rJ_self M 201
    rw [e0] at key; exact key
  · (try dsimp only at hr); (try dsimp only)
    have eI : dp_I (agF M k) 114 111 = nI A := by unfold agF; rw [rJ_I]; exact h
    have e2 : dp_J (agF M k) 200 = dp_J M 200 := by unfold agF; rw [rJ_J, if_neg (by decide)]
    have e3 : dp_setJ (agF M k) 201 k (dp_J M 200 k) = agF M (k + 1) := by
      unfold agF
      rw [rJ_set]
      congr 1
      funext j
      by_cases z : j = k
      · subst z; rw [uI_s, if_pos (by omega)]
      · rw [uI_n z]
        by_cases w : j < k
        · rw [if_pos w, if_pos (by omega)]
        · rw [if_neg w, if_neg (by omega)]
    rw [D_X12_again_89_eq, eI, if_neg (nI_nge hk (by omega))]
    simp only [nI_cl (show k < 2147483648 by omega), nI_o (show k < 400 by omega) (by omega), if_false, dp_w, nI_1, e2, e3]
    exact hr
def agf (M : dp_M) (o : Nat) (k : Nat) : Bool := decide (dp_I M 197 k = nI o ∧ ¬ dp_J M 201 k = dp_J M 200 k)
theorem agf_t {o k : Nat} : agf M o k = true ↔ dp_I M 197 k = nI o ∧ ¬ dp_J M 201 k = dp_J M 200 k := decide_eq_true_iff
theorem ag_ct {A o : Nat} {v1 v4 : Int32} {v2 : Int64} (hA : A ≤ 400) (h : dp_I M 114 111 = nI A) : D_X12_again_145 xs xl d v1 v2 v4 (nI o) 0 0 M = iR (nI (ct (agf M o) A)) M := by
  refine lpb (F := fun (c : Nat) k => D_X12_again_145 xs xl d v1 v2 v4 (nI o) (nI c) (nI k) M) (s := ct (agf M o)) (N := A) ?_ (fun k hk hr => ?_)
  · (try dsimp only)
    rw [D_X12_again_145_eq, h, if_pos (nI_lle (Nat.le_refl _) (by omega))]
  · (try dsimp only at hr); (try dsimp only)
    rw [show ct (agf M o) (k + 1) = ct (agf M o) k + (if agf M o k = true then 1 else 0) from rfl] at hr
    rw [D_X12_again_145_eq, h, if_neg (nI_nge hk (by omega))]
    simp only [nI_cl (show k < 2147483648 by omega), nI_o (show k < 400 by omega) (by omega), if_false, dp_w, nI_1, Int32.add_zero, lg_cmp_eq]
    by_cases z : dp_I M 197 k = nI o
    · rw [if_pos z]
      by_cases y : dp_J M 201 k = dp_J M 200 k
      · rw [if_neg (fun q => (agf_t.mp q).2 y)] at hr
        rw [if_pos y]; exact hr
      · rw [if_pos (agf_t.mpr ⟨z, y⟩)] at hr
        rw [if_neg y]; exact hr
    · rw [if_neg (fun q => z (agf_t.mp q).1)] at hr
      rw [if_neg z]; exact hr
def Ag_S : List Nat := [245, 75, 81, 85, 86, 87, 88, 89, 198, 199, 200, 201]
theorem s_again (hq : RelQ M) (hd : RelD M) (hn : 246 ≤ dp_n M) (v1 : Int32) (v2 : Int64) : ∃ k b M1 M2, dp_den true xs xl (d + 6) 647 [.ref 0, .int v1, .long v2, .ref 245] M = iR k M1 ∧ dp_den true xs xl (d + 6) 573 [.ref 114, .int v1, .long v2] M1 = iR b M2 ∧
    dp_I M2 114 0 = k ∧ (k = 0 → dp_J M2 245 0 = b.toInt64) ∧ (RelQ M2 ∧ RelD M2) ∧ Off Ag_S [0, 118] M M2 ∧ Cst 1 6 M M2 := by
  have hd0 := hd
  have hq0 := hq
  obtain ⟨D, A, R, hb⟩ := hd
  obtain ⟨h1, h2, h3, h4, h5, h6, h7, h8, h9, h10, h11, h12, h13, h14⟩ := hb
  have ref : dp_den true xs xl (d + 5) 351 [.ref 0, .int v1, .long v2] M = some (.inr 0, dp_new M 0 0 6) → dp_den true xs xl (d + 6) 573 [.ref 114, .int v1, .long v2] (dp_new M 0 0 6) = iR 0 (dp_setI (dp_new M 0 0 6) 114 0 1) → ∃ k b M1 M2, dp_den true xs xl (d + 6) 647 [.ref 0, .int v1, .long v2, .ref 245] M = iR k M1 ∧ dp_den true xs xl (d + 6) 573 [.ref 114, .int v1, .long v2] M1 = iR b M2 ∧
    dp_I M2 114 0 = k ∧ (k = 0 → dp_J M2 245 0 = b.toInt64) ∧ (RelQ M2 ∧ RelD M2) ∧ Off Ag_S [0, 118] M M2 ∧ Cst 1 6 M M2 := fun e1 e2 =>
    ⟨1, 0, dp_new M 0 0 6, _, wL_again_x0 e1, e2, rfl, (fun e => by cases e), ⟨(hq0.refused hn 1).1, (hd0.refused hn 1).1⟩, ((Off.rr _ _ M).N hn 0 0 6).F 0 (by decide) 1, ⟨Nat.le_refl _, Nat.le_refl _⟩⟩
  have ni : ∀ k, k < 246 → dp_I (dp_new M 0 0 6) k = dp_I M k := fun k hk => gIN (by omega)
  by_cases z : qin v1 D
  case neg =>
    refine ref ?_ ?_
    · rw [D_X11_again_0_den, D_X11_again_0_eq, dc_is h2 h1, rb_bi, ibz, if_neg z, q_nk hn]
    · rw [D_X12_again_0_den, D_X12_again_0_eq, dm_is (by rw [ni 114 (by decide)]; exact h3) h1, rb_bi, ibz, if_neg z, D_X12_again_39_eq, if_pos (by decide), q_ref, rb_bi]
  have z0 := z
  obtain ⟨i, hi, rfl⟩ := qin_of z (by omega)
  have m1 : dp_J M 111 (i * 23 + 7) = (dp_I M 241 i).toInt64 := (h8 i hi).2.1.1
  have hk := (h8 i hi).2.2.2
  -- the class
  have cl : dp_den true xs xl (d + 5) 351 [.ref 0, .int (nI i), .long v2] M = if dp_I M 241 i = 4 ∨ dp_I M 109 i = -1 ∨ ¬ ((1 : Int64) ≤ v2 ∧ v2 ≤ 1000000) then some (.inr 0, dp_new M 0 0 6) else (dp_bi (dp_den true xs xl (d + 4) 120 [.ref 75, .int (dp_I M 109 i), .long v2] M) (fun r8 M7 => some (.inl (some (.int r8)), M7))) := by
    rw [D_X11_again_0_den, D_X11_again_0_eq, dc_is h2 h1, rb_bi, ibz, if_pos z0, dc_state (w := dp_I M 241 i) (by omega) m1, rb_bi]
    simp only [nI_cl (show i < 2147483648 by omega), nI_o (show i < 400 by omega) (by omega), if_false, q_win, rb_bi, ibz, q_nk hn]
    by_cases y1 : dp_I M 241 i = 4
    · rw [if_pos y1, if_pos (Or.inl y1)]
    · rw [if_neg y1]
      by_cases y2 : dp_I M 109 i = -1
      · rw [if_pos y2, if_pos (Or.inr (Or.inl y2))]
      · rw [if_neg y2]
        by_cases y3 : (1 : Int64) ≤ v2 ∧ v2 ≤ 1000000
        · rw [if_pos y3, if_neg (fun q => q.elim y1 (fun q => q.elim y2 (fun q => q y3)))]
        · rw [if_neg y3, if_pos (Or.inr (Or.inr y3))]
  have ml : ∀ N, dp_I N 114 160 = nI D → dp_I N 241 = dp_I M 241 → dp_I N 196 = dp_I M 196 → dp_I N 109 = dp_I M 109 → dp_I N 114 111 = nI A → dp_den true xs xl (d + 6) 573 [.ref 114, .int (nI i), .long v2] N = if dp_I M 241 i = 4 ∨ dp_I M 109 i = -1 ∨ ¬ ((1 : Int64) ≤ v2 ∧ v2 ≤ 1000000) then iR 0 (dp_setI N 114 0 1) else (if dp_I M 109 i < 0 ∨ 400 ≤ (dp_I M 109 i).toNatClampNeg then none else (if (dp_I N 197 (dp_I M 109 i).toNatClampNeg) < 0 ∨ 16 ≤ Int32.toNatClampNeg (dp_I N 197 (dp_I M 109 i).toNatClampNeg) then none else (dp_bv (dp_den true xs xl (d + 5) 508 [.ref 114, .int (dp_I N 197 (dp_I M 109 i).toNatClampNeg), .int (dp_I N 194 (dp_I N 197 (dp_I M 109 i).toNatClampNeg).toNatClampNeg)] (dp_setI N 114 0 0)) (fun M9 => D_X12_again_89 xs xl (d + 5) (nI i) v2 (dp_I M 109 i) (dp_I N 197 (dp_I M 109 i).toNatClampNeg) 0 M9)))) := fun N n1 n2 n3 n4 n5 => by
    have naf : dp_den true xs xl (d + 5) 570 [.ref 114, .int (nI i)] N = iR (dp_I M 109 i) N := by
      rw [dm_af h5 n5 (hk.c (by rw [n4]) (fun a _ => by rw [n3])), n4]
    have ng : ∀ v : Int32, dp_I M 109 i = v → (v < 0 ↔ v = -1) := fun v hv => by
      rcases hk with ⟨w, -⟩ | ⟨a, w1, w2, -⟩
      · have w' : dp_I M 109 i = -1 := w
        rw [← hv, w']; decide
      · have w' : dp_I M 109 i = nI a := w2
        rw [← hv, w']
        exact ⟨fun q => absurd q (nI_nn (by omega)), fun q => absurd q (m1_ne' (by omega))⟩
    rw [D_X12_again_0_den, D_X12_again_0_eq, dm_is n1 h1, rb_bi, ibz, if_pos z0, dm_is n1 h1, rb_bi, ibz, if_pos z0]
    simp only [nI_cl (show i < 2147483648 by omega), nI_o (show i < 400 by omega) (by omega), if_false, n2]
    by_cases y1 : dp_I M 241 i = 4
    · rw [if_pos y1, if_pos (Or.inl y1), D_X12_again_39_eq, if_pos (by decide), q_ref, rb_bi]
    · rw [if_neg y1, naf, rb_bi, D_X12_again_39_eq]
      by_cases y2 : dp_I M 109 i = -1
      · rw [if_pos ((ng _ rfl).mpr y2), if_pos (Or.inr (Or.inl y2)), q_ref, rb_bi]
      · rw [if_neg (fun q => y2 ((ng _ rfl).mp q)), dm_asked, rb_bi, ibz]
        by_cases y3 : (1 : Int64) ≤ v2 ∧ v2 ≤ 1000000
        · rw [if_pos y3, if_neg (fun q => q.elim y1 (fun q => q.elim y2 (fun q => q y3)))]
          simp only [dp_w, gII, Nat.reduceEqDiff, if_false]
        · rw [if_neg y3, if_pos (Or.inr (Or.inr y3)), q_ref, rb_bi]
  by_cases y : dp_I M 241 i = 4 ∨ dp_I M 109 i = -1 ∨ ¬ ((1 : Int64) ≤ v2 ∧ v2 ≤ 1000000)
  · refine ref (by rw [cl, if_pos y]) ?_
    rw [ml _ (by rw [ni 114 (by decide)]; exact h3) (ni 241 (by decide)) (ni 196 (by decide)) (ni 109 (by decide)) (by rw [ni 114 (by decide)]; exact h4), if_pos y]
  have y3 : (1 : Int64) ≤ v2 ∧ v2 ≤ 1000000 := by
    by_cases q : (1 : Int64) ≤ v2 ∧ v2 ≤ 1000000
    · exact q
    · exact absurd (Or.inr (Or.inr q)) y
  have vb : 0 ≤ v2.toInt ∧ v2.toInt ≤ 1000000 := by
    have q1 := y3.1
    have q2 := y3.2
    rw [Int64.le_iff_toInt_le] at q1 q2
    have e1 : (1 : Int64).toInt = 1 := rfl
    have e2 : (1000000 : Int64).toInt = 1000000 := rfl
    omega
  rcases hk with ⟨w, -⟩ | ⟨a, w1, w2, w3, w4⟩
  · exact absurd (Or.inr (Or.inl w)) y
  have w2' : dp_I M 109 i = nI a := w2
  obtain ⟨O, A', hO, hA', a1, a2, a3, a4, b1, b2, b3, b4, b5, b6, b7, b8, b9, b10⟩ := hq
  have eA : A' = A := by rw [h4, nI_eq (by omega) (by omega)] at a4; exact a4.symm
  subst eA
  obtain ⟨x1, x2, -⟩ := b9 a w1
  obtain ⟨o, ho, eo⟩ := qin_of x2 (by omega)
  have eo' : dp_I M 197 a = nI o := by have q : dp_I M 82 a = dp_I M 197 a := x1; rw [← q]; exact eo
  obtain ⟨C, c1, c2, c3, c4, c5, c6, c7, c8⟩ := qc_change (xs := xs) (xl := xl) (d := d) (v := v2) hO hA' w1 ho a3 eo b8 vb.1 vb.2 b10
  obtain ⟨N0, hN0⟩ : ∃ N0, N0 = dp_setJ C 245 0 (nI (ct (fun k => decide (¬ dp_J C 86 k = dp_J M 86 k)) A')).toInt64 := ⟨_, rfl⟩
  obtain ⟨N, hN⟩ : ∃ N, N = dp_setI N0 114 0 0 := ⟨_, rfl⟩
  have oN : Off [245, 75, 81, 85, 86, 87, 88, 89] [0] M N := by rw [hN, hN0]; exact ((c2.mono (by decide) (by decide)).J 245 (by decide) _ _).F 0 (by decide) _
  have eN : ∀ k, k < 246 → k ∉ [245, 75, 81, 85, 86, 87, 88, 89] → k ≠ 114 → dp_I N k = dp_I M k ∧ dp_J N k = dp_J M k := fun k q1 q2 q3 => ⟨(oN.1 k q1 q2 q3).1, (oN.1 k q1 q2 q3).2.1⟩
  have eN0 : ∀ k, k < 246 → k ∉ [245, 75, 81, 85, 86, 87, 88, 89] → k ≠ 114 → dp_I N0 k = dp_I M k := fun k q1 q2 q3 => by
    have := (eN k q1 q2 q3).1
    rw [hN, gII, if_neg q3] at this; exact this
  have tN0 : ∀ q, q ≠ 0 → dp_I N0 114 q = dp_I M 114 q := fun q hq => by
    have := (oN.2.1 q (by simp [hq])).1
    rw [hN, gII, if_pos rfl, uI_n hq] at this; exact this
  obtain ⟨f, e, r, q1, q2, q3, q4, q5, q6, q7, q8, q9, q10, q11⟩ := b10 o ho
  have asN : dp_I N 114 111 = nI A' := by rw [(oN.2.1 111 (by decide)).1]; exact a4
  have e194 : (dp_I N 194 o).toInt = r := by
    rw [(eN 194 (by decide) (by decide) (by decide)).1]
    have q : dp_I M 194 = dp_I M 79 := b4
    rw [q]; exact q7
  -- the model's first course
  obtain ⟨p1, p2⟩ := cM_cC (M := M) (A := A') (o := o) (f := f) (fun a ha => ⟨(b9 a ha).1, (b9 a ha).2.2.2.1, (b9 a ha).2.2.2.2⟩) b6 b5 b1
  have cN : ∀ n, cM N A' o f n = cM M A' o f n := fun n => by
    unfold cM mp mdy mdk
    rw [(eN 197 (by decide) (by decide) (by decide)).1, (eN 196 (by decide) (by decide) (by decide)).1, (eN 235 (by decide) (by decide) (by decide)).1, (eN 238 (by decide) (by decide) (by decide)).1, (eN 198 (by decide) (by decide) (by decide)).2, (eN 195 (by decide) (by decide) (by decide)).1, (eN 191 (by decide) (by decide) (by decide)).2]
  have mpN : mp N A' o = mp M A' o := by unfold mp; rw [(eN 197 (by decide) (by decide) (by decide)).1]
  obtain ⟨P, r1, r2, r3, r4, r5, r6, r7, r8, r9⟩ := qm_course (xs := xs) (xl := xl) (d := d + 2) (M := N) (A := A') (o := o) (f := f) (e := e) (n := nd f e r) (u := dp_I N 194 o) hA' (by omega) asN (fun a ha => by rw [(eN 196 (by decide) (by decide) (by decide)).1]; exact (b9 a ha).2.2.1) (by rw [(eN 192 (by decide) (by decide) (by decide)).1, b2]; exact q5) (by rw [(eN 193 (by decide) (by decide) (by decide)).1, b3]; exact q6) q1 q2 (by rw [e194]; unfold nd; split <;> omega) (by rw [(eN 198 (by decide) (by decide) (by decide)).2, b6]; exact b8) (by rw [(eN 191 (by decide) (by decide) (by decide)).2, b1]; omega)
  obtain ⟨Q, hQ⟩ : ∃ Q, Q = dp_setJ (agF P A') 198 a v2 := ⟨_, rfl⟩
  have oP : Off [199, 200, 201, 198] [118] N Q := by rw [hQ]; unfold agF; exact ((r2.mono (by decide) (by decide)).rJ 201 (by decide) _).J 198 (by decide) _ _
  have eQC : ∀ k, k < 246 → k ∉ [245, 199, 200, 201, 198] → k ≠ 114 → dp_I Q k = dp_I C k ∧ dp_J Q k = dp_J C k := fun k w1 w2 w3 => by
    have w4 : k ∉ [199, 200, 201, 198] := fun h => w2 (List.mem_cons_of_mem _ h)
    have w5 : k ≠ 245 := fun h => w2 (by rw [h]; exact List.mem_cons_self ..)
    rw [(oP.1 k w1 w4 w3).1, (oP.1 k w1 w4 w3).2.1, hN, gII, if_neg w3, gJI, hN0, gIJ, gJJ, if_neg w5]
    exact ⟨rfl, rfl⟩
  have cm : ∀ k ∈ [191, 192, 193, 194, 195, 196, 197, 235, 238], dp_I Q k = dp_I M k ∧ dp_J Q k = dp_J M k := fun k hk => by
    have w : ∀ k ∈ [191, 192, 193, 194, 195, 196, 197, 235, 238], k < 246 ∧ k ∉ [199, 200, 201, 198] ∧ k ≠ 114 ∧ k ∉ [245, 75, 81, 85, 86, 87, 88, 89] := by decide
    obtain ⟨u1, u2, u3, u4⟩ := w k hk
    rw [(oP.1 k u1 u2 u3).1, (oP.1 k u1 u2 u3).2.1]
    exact eN k u1 u4 u3
  have rq : RelQ Q := by
    refine RelQ.chg (M := M) (C := C) (a := a) (v := v2) hO hA' a1 a2 a3 a4 b1 b2 b3 b4 b5 b6 b7 b8 b9 vb.1 vb.2 c2 c4 c5 c6 c7 (eQC 75 (by decide) (by decide) (by decide)).1 (fun k hk => ?_) (fun k hk => ?_) (fun j hj => ?_) (cm 191 (by decide)).2 ?_ (fun k hk => ?_)
    · have w : ∀ k ∈ qcI, k < 246 ∧ k ∉ [245, 199, 200, 201, 198] ∧ k ≠ 114 := by decide
      exact (eQC k (w k hk).1 (w k hk).2.1 (w k hk).2.2).1
    · have w : ∀ k ∈ qcJ, k < 246 ∧ k ∉ [245, 199, 200, 201, 198] ∧ k ≠ 114 := by decide
      exact (eQC k (w k hk).1 (w k hk).2.1 (w k hk).2.2).2
    · have w : ∀ j ∈ [105, 111], j ∉ [118] ∧ j ∉ [0] := by decide
      rw [(oP.2.1 j (w j hj).1).1, (oN.2.1 j (w j hj).2).1]
    · rw [hQ, gJJ, if_pos rfl]
      unfold agF
      rw [rJ_J, if_neg (by decide), r6 198 (by decide) (by decide), (eN 198 (by decide) (by decide) (by decide)).2]
    · have w : ∀ k ∈ [192, 193, 194, 195, 196, 197, 235, 238], k ∈ [191, 192, 193, 194, 195, 196, 197, 235, 238] := by decide
      exact (cm k (w k hk)).1
  have rq0 := rq
  obtain ⟨O2, A2, hO2, hA2, d1, d2, d3, d4, f1, f2, f3, f4, f5, f6, f7, f8, f9, f10⟩ := rq
  have asQ : dp_I Q 114 111 = nI A' := by rw [(oP.2.1 111 (by decide)).1]; exact asN
  have eA2 : A2 = A' := by rw [asQ, nI_eq (by omega) (by omega)] at d4; exact d4.symm
  subst eA2
  have e194Q : dp_I Q 194 o = dp_I N 194 o := by rw [(oP.1 194 (by decide) (by decide) (by decide)).1]
  have oQm : Off [199, 200, 201, 198, 245] [0, 118] C Q := by
    refine Off.tr ?_ (oP.mono (by decide) (by decide))
    rw [hN, hN0]
    exact ((Off.rr _ _ C).J 245 (by decide) _ _).F 0 (by decide) _
  have qrC := c4 o ho
  have qrQ : QRw Q A2 o := qrC.same (by omega) (eQC 82 (by decide) (by decide) (by decide)).1 (eQC 84 (by decide) (by decide) (by decide)).1 (eQC 83 (by decide) (by decide) (by decide)).1 (eQC 85 (by decide) (by decide) (by decide)).2 (fun x _ => by rw [(eQC 80 (by decide) (by decide) (by decide)).1]) (by rw [(eQC 76 (by decide) (by decide) (by decide)).2]) (by rw [(eQC 77 (by decide) (by decide) (by decide)).1]) (by rw [(eQC 78 (by decide) (by decide) (by decide)).1]) (by rw [(eQC 79 (by decide) (by decide) (by decide)).1]) (fun x _ => by rw [(eQC 87 (by decide) (by decide) (by decide)).1, (eQC 86 (by decide) (by decide) (by decide)).2]; exact ⟨rfl, rfl⟩) (fun x _ => by rw [(eQC 81 (by decide) (by decide) (by decide)).2])
  obtain ⟨f', e', r', t1, t2, t3, t4, t5, t6, t7, t8, t9, t10, t11⟩ := qrQ
  have e79 : dp_I Q 79 = dp_I M 79 := by rw [(eQC 79 (by decide) (by decide) (by decide)).1, (c2.1 79 (by decide) (by decide) (by decide)).1]
  have er : r' = r := by
    have u1 : (dp_I Q 79 o).toInt = r' := t7
    have u2 : (dp_I M 79 o).toInt = r := q7
    rw [e79] at u1; omega
  have eq194 : (dp_I Q 194 o).toInt = r' := by rw [e194Q, e194, er]
  obtain ⟨K, s1, s2, s3, s4, s5, s6, s7, s8⟩ := RelQ.course (xs := xs) (xl := xl) (d := d + 2) (M := Q) (O := O2) (A := A2) (o := o) (u := dp_I Q 194 o) (f := f') (e := e') (n := nd f' e' r') hA2 (by omega) d4 f1 f2 f3 f5 f6 f8 f9 t1 t2 t5 t6 t8 t9 (by rw [eq194])
  have oK : Off Ag_S [0, 118] M K := ((oN.mono (by decide) (by decide)).tr (oP.mono (by decide) (by decide))).tr (s2.mono (by decide) (by decide))
  have asK : dp_I K 114 111 = nI A2 := by rw [s5 114 (by decide)]; exact asQ
  -- the two counts
  have e197K : dp_I K 197 = dp_I M 197 := by rw [s5 197 (by decide), (cm 197 (by decide)).1]
  have cnt : ct (fun k => decide (¬ dp_J C 86 k = dp_J M 86 k)) A2 = ct (agf K o) A2 := ct_c (fun k hk => by
    have b9k : dp_I M 82 k = dp_I M 197 k := (b9 k hk).1
    by_cases u : dp_I M 197 k = nI o
    · have uq : qp M A2 o k = true := by
        unfold qp
        rw [Bool.and_eq_true, decide_eq_true_eq, decide_eq_true_eq]
        exact ⟨hk, by show dp_I M 82 k = nI o; rw [b9k]; exact u⟩
      have um : mp N A2 o k = true := by rw [mpN, p1]; exact uq
      have uQ : qp Q A2 o k = true := by
        rw [qp_c (M := M) (M' := Q) (by rw [(eQC 82 (by decide) (by decide) (by decide)).1, (c2.1 82 (by decide) (by decide) (by decide)).1])]; exact uq
      have g1 : dp_J P 200 k = dp_J M 86 k := by
        have t := (r8 k um).2
        rw [cN, p2] at t
        have t2 := (q10 k uq).2
        have t' : dp_J P 200 k = (cC M A2 o f (nd f e r)).2.2 k := t
        have t2' : dp_J M 86 k = (cC M A2 o f (nd f e r)).2.2 k := t2
        rw [t', t2']
      have g2 : dp_J K 200 k = dp_J C 86 k := by
        have t := (s8 k uQ).2
        have tt := (t10 k uQ).2
        have t' : dp_J K 200 k = (cC Q A2 o f' (nd f' e' r')).2.2 k := t
        have tt' : dp_J Q 86 k = (cC Q A2 o f' (nd f' e' r')).2.2 k := tt
        rw [t', ← tt', (eQC 86 (by decide) (by decide) (by decide)).2]
      have g3 : dp_J K 201 k = dp_J P 200 k := by
        rw [s6 201 (by decide) (by decide), hQ, gJJ, if_neg (by decide)]
        unfold agF
        rw [rJ_J, if_pos rfl, if_pos hk]
      unfold agf
      rw [e197K, g3, g1, g2]
      by_cases v : dp_J C 86 k = dp_J M 86 k
      · rw [decide_eq_false (fun q => q v), decide_eq_false (fun q => q.2 v.symm)]
      · rw [decide_eq_true v, decide_eq_true (show dp_I M 197 k = nI o ∧ ¬ dp_J M 86 k = dp_J C 86 k from ⟨u, fun q => v q.symm⟩)]
    · have un : ¬ qp M A2 o k = true := fun q => by
        unfold qp at q
        rw [Bool.and_eq_true, decide_eq_true_eq, decide_eq_true_eq] at q
        exact u (by rw [← b9k]; exact q.2)
      have v := c8 k un
      unfold agf
      rw [e197K, decide_eq_false (fun q => q v), decide_eq_false (fun q => u q.1)])
  refine ⟨0, nI (ct (agf K o) A2), N0, K, ?_, ?_, ?_, fun _ => ?_, ⟨rq0.crs s5 s6, RelD_off hd0 oK (by decide) (by decide)⟩, oK, ?_⟩
  · rw [hN0]
    refine wL_again_ok ?_
    rw [cl, if_neg y, w2', c1, rb_bi]
  · rw [ml N0 (by rw [tN0 160 (by decide)]; exact h3) (eN0 241 (by decide) (by decide) (by decide)) (eN0 196 (by decide) (by decide) (by decide)) (eN0 109 (by decide) (by decide) (by decide)) (by rw [tN0 111 (by decide)]; exact a4), if_neg y, w2']
    simp only [nI_cl (show a < 2147483648 by omega), nI_o (show a < 400 by omega) (by omega), if_false, eN0 197 (by decide) (by decide) (by decide), eo', nI_cl (show o < 2147483648 by omega), nI_o (show o < 16 by omega) (by omega)]
    have e194' : dp_I N0 194 o = dp_I N 194 o := by rw [hN, gII, if_neg (by decide)]
    rw [e194', ← hN, r1, rb_bv]
    refine ag_cp hA2 (by rw [r5 114 (by decide)]; exact asN) ?_
    have asF : dp_I (agF P A2) 114 111 = nI A2 := by unfold agF; rw [rJ_I, r5 114 (by decide)]; exact asN
    rw [D_X12_again_89_eq, asF, if_pos (nI_lle (Nat.le_refl _) (by omega))]
    simp only [nI_cl (show a < 2147483648 by omega), nI_o (show a < 400 by omega) (by omega), if_false, dp_w, nI_cl (show o < 2147483648 by omega), nI_o (show o < 16 by omega) (by omega)]
    rw [← hQ, s1, rb_bv]
    exact ag_ct hA2 asK
  · rw [s5 114 (by decide), (oP.2.1 0 (by decide)).1, hN, gII, if_pos rfl, uI_s]
  · rw [s6 245 (by decide) (by decide), (oP.1 245 (by decide) (by decide) (by decide)).2.1, hN, gJI, hN0, gJJ, if_pos rfl, uI_s, cnt]
  · have cs1 : Cst 0 0 C N := by rw [hN, hN0]; exact ⟨Nat.le_refl _, Nat.le_refl _⟩
    have cs2 : Cst 0 0 N P := ⟨by rw [r3]; exact Nat.le_refl _, by rw [r4]; exact Nat.le_refl _⟩
    have cs3 : Cst 0 0 P Q := by rw [hQ]; exact ⟨Nat.le_refl _, Nat.le_refl _⟩
    have cs4 : Cst 0 0 Q K := ⟨by rw [s3]; exact Nat.le_refl _, by rw [s4]; exact Nat.le_refl _⟩
    exact ((((c3.tr0 cs1).tr0 cs2).tr0 cs3).tr0 cs4).mono (by omega) (by omega)
end DP
