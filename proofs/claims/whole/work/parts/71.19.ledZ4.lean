/-! THE LEDGER: passed -/
theorem sl_b {f : Nat → Int64} {C : Int} (hC : 0 ≤ C) : ∀ n : Nat, C * (n : Int) ≤ 9000000000000000000 → (∀ i, i < n → -C ≤ (f i).toInt ∧ (f i).toInt ≤ C) → -(C * (n : Int)) ≤ (sl f n).toInt ∧ (sl f n).toInt ≤ C * (n : Int)
  | 0, _, _ => by rw [sl]; simp
  | n + 1, h, hf => by
    have e : C * ((n + 1 : Nat) : Int) = C * (n : Int) + C := by rw [Int.natCast_add, Int.mul_add]; simp
    rw [e] at h ⊢
    have ih := sl_b hC n (by omega) (fun i hi => hf i (by omega))
    have hn := hf n (by omega)
    rw [sl, q_addJ (by omega) (by omega)]
    omega
/-- what is passed on -/
def pv (S c : Int64) (P : Nat → Int64) (k : Nat) : Int64 := if k < 4 then shr P (S - S * c / 1000) k else if k = 4 then S * c / 1000 else if k = 5 then S - sl (shr P (S - S * c / 1000)) 4 else S
theorem pot_b {S : Int64} {c : Int32} (h0 : 0 ≤ S.toInt) (h1 : S.toInt ≤ 48000000000000) (hc : qin c 1001) : 0 ≤ (S - S * c.toInt64 / 1000).toInt ∧ (S - S * c.toInt64 / 1000).toInt ≤ 48000000000000 := by
  have hc' := qin_iff.mp hc
  have k1 : (1000 : Int64).toInt = 1000 := by decide
  have m1 : 0 ≤ S.toInt * c.toInt := Int.mul_nonneg h0 hc'.1
  have m2 : S.toInt * c.toInt ≤ S.toInt * 1000 := Int.mul_le_mul_of_nonneg_left (by omega) h0
  have e1 : (S * c.toInt64).toInt = S.toInt * c.toInt := by
    rw [q_mulJ (by rw [Int32.toInt_toInt64]; omega) (by rw [Int32.toInt_toInt64]; omega), Int32.toInt_toInt64]
  have e2 : (S * c.toInt64 / 1000).toInt = S.toInt * c.toInt / 1000 := by rw [q_divJ (by omega) (by omega), e1, k1]
  rw [q_subJ (by rw [e2]; omega) (by rw [e2]; omega), e2]
  omega
theorem SK_b {M : dp_M} {v1 v2 : Int32} {E : Nat} (hE4 : E ≤ 4000) (hp : ∀ i, i < E → LEn M i) : -48000000000000 ≤ (SK M v1 v2 E).toInt ∧ (SK M v1 v2 E).toInt ≤ 48000000000000 := by
  have a : ∀ v, -4000000000000 ≤ (sl (sumF M v 0 100000 v2) E).toInt ∧ (sl (sumF M v 0 100000 v2) E).toInt ≤ 4000000000000 := fun v => by
    have := sl_b (f := sumF M v 0 100000 v2) (C := 1000000000) (by omega) E (by omega) (fun i hi => by
      obtain ⟨b, k, h1, h2, h3, h4, h5, h6, h7, h8, h9, h10, h11⟩ := hp i hi
      unfold sumF
      split
      · rw [h3, nI_cl (by omega), ← h9, Int32.toInt_toInt64]; exact ⟨h10, h11⟩
      · constructor <;> decide)
    omega
  have := sl_b (f := fun a => if kd a = v1 then sl (sumF M (nI a) 0 100000 v2) E else 0) (C := 4000000000000) (by omega) 12 (by omega) (fun i _ => by
    (try dsimp only)
    split
    · exact a _
    · constructor <;> decide)
  unfold SK
  exact ⟨by simpa using this.1, by simpa using this.2⟩
theorem mx0_b {x : Int64} (h : x.toInt ≤ 48000000000000) : 0 ≤ (mx0 x).toInt ∧ (mx0 x).toInt ≤ 48000000000000 := by
  have k0 : (0 : Int64).toInt = 0 := by decide
  unfold mx0
  split
  · rw [k0]; omega
  · rename_i c
    rw [Int64.lt_iff_toInt_lt, k0] at c
    omega
theorem SK_c {M M' : dp_M} {v1 v2 : Int32} {E : Nat} (h1 : dp_I M' 222 = dp_I M 222) (h2 : dp_I M' 223 = dp_I M 223) (h3 : dp_I M' 230 = dp_I M 230) (h4 : dp_I M' 228 = dp_I M 228) (h5 : dp_J M' 229 = dp_J M 229) : SK M' v1 v2 E = SK M v1 v2 E := by
  unfold SK
  congr 1
  funext a
  rw [sumF_c h1 h2 h3 h4 h5]
section LEZ4
variable {xs : Nat → Int32} {xl d : Nat} {M : dp_M}
theorem c_passed {j k E : Nat} {v3 : Int32} (hj : j < 4) (hk : k < 7) (g3 : qin v3 100001) (hE4 : E ≤ 4000) (hE : dp_I M 97 1 = nI E) (hp : ∀ i, i < E → LEn M i) (hP : ∀ i, qin (dp_I M 98 i) 1001) (hC : ∀ i, qin (dp_I M 99 i) 1001) :
    ∃ M', dp_den true xs xl (d + 5) 345 [.ref 0, .int (nI j), .int (nI k), .int v3] M = lR (pv (mx0 (SK M (nI j) v3 E)) (dp_I M 99 j).toInt64 (fun i => (dp_I M 98 (j * 4 + i)).toInt64) k) M' ∧ Off [106, 107] [] M M' ∧ dp_n M' = dp_n M ∧ dp_z M' = dp_z M := by
  have b1 := mx0_b (SK_b (M := M) (v1 := nI j) (v2 := v3) hE4 hp).2
  generalize hS : mx0 (SK M (nI j) v3 E) = S at b1
  have b2 := pot_b b1.1 b1.2 (hC j)
  obtain ⟨M', f1, f2, f3, f4, f5, f6⟩ := lc_deal (xs := xs) (xl := xl) (d := d + 1) (M := M) hj b2.1 b2.2 hP
  refine ⟨M', ?_, f2, f3, f4⟩
  rw [D_X11_passed_0_den, D_X11_passed_0_eq]
  simp only [lc_kind, lc_day, q_win, rb_bi, ibz, w_6, if_pos (qin_nI hj (show 4 < 2147483648 by omega)), if_pos (qin_nI hk (show 7 < 2147483648 by omega)), if_pos g3]
  rw [D_X3_passedOn_0_den, D_X3_passedOn_0_eq, lc_sumKind hE4 hE hp, rb_bl, hS]
  simp only [nI_cl (show j < 2147483648 by omega), nI_o (show j < 4 by omega) (by omega), if_false, dp_w, f1, rb_bv]
  have z0 : (0 : Int32).toNatClampNeg = 0 := rfl
  have z1 : (1 : Int32).toNatClampNeg = 1 := rfl
  have z2 : (2 : Int32).toNatClampNeg = 2 := rfl
  have z3 : (3 : Int32).toNatClampNeg = 3 := rfl
  unfold pv
  have hk' : k = 0 ∨ k = 1 ∨ k = 2 ∨ k = 3 ∨ k = 4 ∨ k = 5 ∨ k = 6 := by omega
  rcases hk' with rfl | rfl | rfl | rfl | rfl | rfl | rfl
  · rw [if_pos (show 0 < 4 by omega), ← f6 0 (by omega)]; rfl
  · rw [if_pos (show 1 < 4 by omega), ← f6 1 (by omega)]; rfl
  · rw [if_pos (show 2 < 4 by omega), ← f6 2 (by omega)]; rfl
  · rw [if_pos (show 3 < 4 by omega), ← f6 3 (by omega)]; rfl
  · rfl
  · rw [if_neg (show ¬ 5 < 4 by omega), if_neg (show ¬ 5 = 4 by omega), if_pos rfl, sl4, Int64.zero_add, ← q_sub3, ← q_sub3, ← q_sub3, ← f6 0 (by omega), ← f6 1 (by omega), ← f6 2 (by omega), ← f6 3 (by omega)]; rfl
  · rfl
theorem m_passed1 {j k E : Nat} {v3 : Int32} (hj : j < 4) (hk : k < 7) (hE4 : E ≤ 4000) (hE : dp_I M 114 142 = nI E) (hp : ∀ i, i < E → LEn M i) (hP : ∀ i, qin (dp_I M 231 i) 1001) (hC : ∀ i, qin (dp_I M 232 i) 1001) :
    D_X12_passed_44 xs xl (d + 4) (nI j) (nI k) v3 0 0 M = lR (pv (mx0 (SK M (nI j) v3 E)) (dp_I M 232 j).toInt64 (fun i => (dp_I M 231 (j * 4 + i)).toInt64) k) M := by
  have b1 := mx0_b (SK_b (M := M) (v1 := nI j) (v2 := v3) hE4 hp).2
  refine lpb (F := fun a i => D_X12_passed_44 xs xl (d + 4) (nI j) (nI k) v3 a (nI i) M) (s := sl (fun a => if kd a = nI j then sl (sumF M (nI a) 0 100000 v3) E else 0)) (N := 12) ?_ (fun i hi hr => ?_)
  · show D_X12_passed_44 xs xl (d + 4) (nI j) (nI k) v3 (SK M (nI j) v3 E) (nI 12) M = _
    have go : ∀ v4 v6, D_X12_passed_99 xs xl (d + 4) (nI j) (nI k) v3 v4 v6 (mx0 (SK M (nI j) v3 E)) M = lR (pv (mx0 (SK M (nI j) v3 E)) (dp_I M 232 j).toInt64 (fun i => (dp_I M 231 (j * 4 + i)).toInt64) k) M := by
      intro v4 v6
      generalize mx0 (SK M (nI j) v3 E) = S at b1
      have b2 := pot_b b1.1 b1.2 (hC j)
      rw [D_X12_passed_99_eq]
      simp only [nI_cl (show j < 2147483648 by omega), nI_o (show j < 4 by omega) (by omega), if_false, dp_w]
      refine lpb (F := fun a i => D_X12_passed_123 xs xl (d + 4) (nI j) (nI k) v3 S (S * (dp_I M 232 j).toInt64 / 1000) a (nI i) M) (s := sl (shr (fun i => (dp_I M 231 (j * 4 + i)).toInt64) (S - S * (dp_I M 232 j).toInt64 / 1000))) (N := 4) ?_ (fun i hi hr => ?_)
      · show D_X12_passed_123 xs xl (d + 4) (nI j) (nI k) v3 S (S * (dp_I M 232 j).toInt64 / 1000) _ (nI 4) M = _
        rw [D_X12_passed_123_eq, if_pos (by decide)]
        unfold pv
        by_cases c : k < 4
        · rw [if_neg (by rw [show (4 : Int32) = nI 4 from rfl]; exact nI_nge c (by omega)), lm_share hj c b2.1 b2.2 hP, rb_bl, if_pos c]
        · have hk' : k = 4 ∨ k = 5 ∨ k = 6 := by omega
          rcases hk' with rfl | rfl | rfl <;> rfl
      · (try dsimp only at hr); (try dsimp only)
        rw [D_X12_passed_123_eq, if_neg (show ¬ (4 : Int32) ≤ nI (i) from nI_ge (a := i) (b := 4) (by omega) (by omega)), lm_share hj hi b2.1 b2.2 hP, rb_bl]
        simp only [dp_w, nI_1]
        exact hr
    rw [D_X12_passed_44_eq, if_pos (by decide)]
    simp only [lg_cmp_le]
    by_cases c : SK M (nI j) v3 E ≤ 0
    · rw [if_pos c]
      have e : mx0 (SK M (nI j) v3 E) = 0 := by
        unfold mx0
        by_cases c2 : SK M (nI j) v3 E < 0
        · rw [if_pos c2]
        · rw [if_neg c2]
          have := Int64.not_lt.mp c2
          exact Int64.le_antisymm c this
      rw [← e]; rw [e]
      have := go (SK M (nI j) v3 E) (nI 12)
      rw [e] at this
      exact this
    · rw [if_neg c]
      have e : mx0 (SK M (nI j) v3 E) = SK M (nI j) v3 E := by
        unfold mx0
        rw [if_neg (fun q => c (Int64.le_of_lt q))]
      have := go (SK M (nI j) v3 E) (nI 12)
      rw [e] at this ⊢
      exact this
  · (try dsimp only at hr); (try dsimp only)
    rw [D_X12_passed_44_eq, if_neg (show ¬ (12 : Int32) ≤ nI (i) from nI_ge (a := i) (b := 12) (by omega) (by omega)), lm_kindOf hi, rb_bi]
    simp only [dp_w, nI_1]
    have hr' : D_X12_passed_44 xs xl (d + 4) (nI j) (nI k) v3 (sl (fun a => if kd a = nI j then sl (sumF M (nI a) 0 100000 v3) E else 0) i + (if kd i = nI j then sl (sumF M (nI i) 0 100000 v3) E else 0)) (nI (i + 1)) M = _ := hr
    by_cases c : kd i = nI j
    · rw [if_pos c, lm_sum hE4 hE hp, rb_bl]; rw [if_pos c] at hr'; exact hr'
    · rw [if_neg c]; rw [if_neg c] at hr'; exact hr'
/-- passed -/
theorem s_passed (h : RelL M) (hn : 246 ≤ dp_n M) (v1 v2 v3 : Int32) : ∃ k b M1 M2, dp_den true xs xl (d + 6) 642 [.ref 0, .int v1, .int v2, .int v3, .ref 245] M = iR k M1 ∧ dp_den true xs xl (d + 6) 563 [.ref 114, .int v1, .int v2, .int v3] M1 = lR b M2 ∧
    dp_I M2 114 0 = k ∧ (k = 0 → dp_J M2 245 0 = b) ∧ RelL M2 ∧ Off (106 :: 107 :: 245 :: RelL_S) (0 :: RelL_T) M M2 ∧ Cst 1 6 M M2 := by
  obtain ⟨E, hE4, e1, e2, e3⟩ := h.ent
  have h0 := h
  obtain ⟨B, E', hB8, hE4', a1, a2, a3, a4, a5, a6, a7, a8, a9, a10, a11, a12, a13, -⟩ := h0
  by_cases g : qin v1 4 ∧ qin v2 7 ∧ qin v3 100001
  case neg =>
    obtain ⟨r1, r2, r3⟩ := h.refused hn 1
    refine ⟨1, 0, dp_new M 0 0 6, _, wL_passed_x0 ?_, ?_, rfl, (fun e => by cases e), r1, r2.mono (fun k hk => List.mem_cons_of_mem _ (List.mem_cons_of_mem _ hk)) (fun k hk => hk), r3⟩
    · rw [D_X11_passed_0_den, D_X11_passed_0_eq]
      simp only [lc_kind, lc_day, q_win, rb_bi, ibz, q_nk hn, w_6]
      repeat' split
      all_goals first | rfl | (exfalso; exact g ⟨by assumption, by assumption, by assumption⟩)
    · rw [D_X12_passed_0_den, D_X12_passed_0_eq]
      simp only [lm_kind, lm_day, q_min, q_ref, rb_bi, ibz, w_6]
      repeat' split
      all_goals first | rfl | (exfalso; exact g ⟨by assumption, by assumption, by assumption⟩)
  obtain ⟨g1, g2, g3⟩ := g
  obtain ⟨j, hj, rfl⟩ := qin_of g1 (by omega)
  obtain ⟨k, hk, rfl⟩ := qin_of g2 (by omega)
  obtain ⟨M', f1, f2, f3, f4⟩ := c_passed (xs := xs) (xl := xl) (d := d) (M := M) hj hk g3 hE4 e1 e3 a12 a13
  have h' : RelL M' := RelL_off h f2 (by decide) (by decide)
  generalize hW : pv (mx0 (SK M (nI j) v3 E)) (dp_I M 99 j).toInt64 (fun i => (dp_I M 98 (j * 4 + i)).toInt64) k = W at f1
  have oo : Off [106, 107, 245] [0] M (dp_setI (dp_setJ M' 245 0 W) 114 0 0) := ((f2.mono (by decide) (by decide) : Off [106, 107, 245] [0] M M').J 245 (by decide) 0 _).F 0 (by decide) 0
  refine ⟨0, W, dp_setJ M' 245 0 W, dp_setI (dp_setJ M' 245 0 W) 114 0 0, wL_passed_ok f1, ?_, by simp [gII, uI], fun _ => by simp [gJI, gJJ, uI], (h'.looked W).1, oo.mono (by decide) (by decide), ⟨by show dp_n M' ≤ _; omega, by show dp_z M' ≤ _; omega⟩⟩
  rw [D_X12_passed_0_den, D_X12_passed_0_eq]
  simp only [lm_kind, lm_day, q_min, rb_bi, ibz, w_6, if_pos g1, if_pos g2, if_pos g3, dp_w]
  generalize dp_setI (dp_setJ M' 245 0 W) 114 0 0 = N at oo
  have eI : ∀ k ∈ RelL_S, dp_I N k = dp_I M k ∧ dp_J N k = dp_J M k := fun k hk => by
    have := oo.1 k (by simp only [RelL_S, List.mem_cons, List.not_mem_nil, or_false] at hk; omega) (by simp only [RelL_S, List.mem_cons, List.not_mem_nil, or_false] at hk ⊢; omega) (by simp only [RelL_S, List.mem_cons, List.not_mem_nil, or_false] at hk; omega)
    exact ⟨this.1, this.2.1⟩
  have q1 := (eI 231 (by decide)).1
  have q2 := (eI 232 (by decide)).1
  rw [m_passed1 hj hk hE4 (by rw [(oo.2.1 _ (by decide)).1]; exact e2) (fun i hi => LEn_c (e3 i hi) oo (by decide)) (fun i => by rw [q1, a10]; exact a12 i) (fun i => by rw [q2, a11]; exact a13 i)]
  rw [q1, q2, a10, a11, SK_c (eI _ (by decide)).1 (eI _ (by decide)).1 (eI _ (by decide)).1 (eI _ (by decide)).1 (eI _ (by decide)).2, hW]
end LEZ4
