-- needs: 75 76
/-! GATE: class and model side by side; rule, goods, join, away -/
/-- hold, yard and gate -/
def PR (M : dp_M) (n B T c : Nat) : Prop := (HY M n B T ∧ ZR M n) ∧ GTl M c ∧ GGd M n ∧ GBr M c ∧ GLd M n ∧ GRl M n ∧ GRu M
def PHY_S : List Nat := [1, 2, 3, 4, 5, 6, 7, 8, 9, 10, 11, 12, 25, 26, 27, 28, 29, 30, 31, 32, 33, 34, 35, 36, 115, 116, 117, 118, 119, 120, 121, 122, 123, 124, 125, 133, 134, 135, 136, 137, 138, 139, 140, 141, 142, 143, 144]
def PHY_T : List Nat := [1, 2, 3, 9, 25, 26, 27, 37, 38]
def PR_S : List Nat := [1, 2, 3, 4, 5, 6, 7, 8, 9, 10, 11, 12, 25, 26, 27, 28, 29, 30, 31, 32, 33, 34, 35, 36, 37, 38, 39, 40, 41, 42, 43, 44, 45, 46, 47, 48, 49, 50, 115, 116, 117, 118, 119, 120, 121, 122, 123, 124, 125, 133, 134, 135, 136, 137, 138, 139, 140, 141, 142, 143, 144, 145, 146, 147, 148, 149, 150, 151, 152, 153, 154, 233, 241]
def PR_T : List Nat := [1, 2, 3, 9, 25, 26, 27, 37, 38, 44, 52, 160]
def PR_W : List Nat := [1, 2, 3, 4, 5, 6, 7, 8, 9, 10, 11, 12, 25, 26, 27, 28, 29, 30, 31, 32, 33, 34, 35, 36, 37, 38, 39, 40, 41, 42, 43, 44, 45, 46, 47, 48, 49, 50, 115, 116, 117, 118, 119, 120, 121, 122, 123, 124, 125, 133, 134, 135, 136, 137, 138, 139, 140, 141, 142, 143, 144, 145, 146, 147, 148, 149, 150, 151, 152, 153, 154]
def PR_V : List Nat := [1, 2, 3, 9, 25, 26, 27, 37, 38, 44, 52]
section GC
variable {xs : Nat → Int32} {xl d : Nat} {M M' : dp_M} {S T : List Nat}
theorem PHY_off {n B t : Nat} (h : HY M n B t ∧ ZR M n) (o : Off S T M M') (hS : ∀ k ∈ PHY_S, k ∉ S) (hT : ∀ i ∈ PHY_T, i ∉ T) : HY M' n B t ∧ ZR M' n := by
  have s1 : ∀ k ∈ HR_S, k ∈ PHY_S := by decide
  have s2 : ∀ k ∈ HR_T, k ∈ PHY_T := by decide
  have s3 : ∀ k ∈ YR_S, k ∈ PHY_S := by decide
  have s4 : ∀ k ∈ MY_T, k ∈ PHY_T := by decide
  exact ⟨⟨HR_off h.1.1 o (fun k hk => hS k (s1 k hk)) (fun i hi => hT i (s2 i hi)), YR_off h.1.2 o (fun k hk => hS k (s3 k hk)) (fun i hi => hT i (s4 i hi))⟩, ZR_off h.2 o (hS 9 (by decide)) (hS 11 (by decide))⟩
theorem GTl_off {c : Nat} (h : GTl M c) (o : Off S T M M') (h1 : ∀ k ∈ [37, 50, 154], k ∉ S) (h2 : 52 ∉ T) : GTl M' c := by
  have e : ∀ k ∈ [37, 50, 154], dp_I M' k = dp_I M k := fun k hk => (o.1 k (by simp only [List.mem_cons, List.not_mem_nil, or_false] at hk; omega) (h1 k hk) (by simp only [List.mem_cons, List.not_mem_nil, or_false] at hk; omega)).1
  unfold GTl CT MT at h ⊢
  rw [e 37 (by decide), e 50 (by decide), e 154 (by decide), (o.2.1 52 h2).1]; exact h
theorem GGd_off {n : Nat} (h : GGd M n) (o : Off S T M M') (h1 : ∀ k ∈ [37, 42, 44, 45, 46, 47, 147, 148, 233, 241], k ∉ S) (h2 : ∀ i ∈ [44, 160], i ∉ T) : GGd M' n := by
  have e : ∀ k ∈ [37, 42, 44, 45, 46, 47, 147, 148, 233, 241], dp_I M' k = dp_I M k := fun k hk => (o.1 k (by simp only [List.mem_cons, List.not_mem_nil, or_false] at hk; omega) (h1 k hk) (by simp only [List.mem_cons, List.not_mem_nil, or_false] at hk; omega)).1
  unfold GGd at h ⊢
  rw [e 37 (by decide), e 42 (by decide), e 44 (by decide), e 45 (by decide), e 46 (by decide), e 47 (by decide), e 147 (by decide), e 148 (by decide), e 233 (by decide), e 241 (by decide), (o.2.1 44 (h2 44 (by decide))).1, (o.2.1 160 (h2 160 (by decide))).1]; exact h
theorem GBr_off {c : Nat} (h : GBr M c) (o : Off S T M M') (h1 : ∀ k ∈ [48, 49, 149, 150], k ∉ S) : GBr M' c := by
  have e : ∀ k ∈ [48, 49, 149, 150], dp_I M' k = dp_I M k := fun k hk => (o.1 k (by simp only [List.mem_cons, List.not_mem_nil, or_false] at hk; omega) (h1 k hk) (by simp only [List.mem_cons, List.not_mem_nil, or_false] at hk; omega)).1
  unfold GBr at h ⊢
  rw [e 48 (by decide), e 49 (by decide), e 149 (by decide), e 150 (by decide)]; exact h
theorem GLd_off {n : Nat} (h : GLd M n) (o : Off S T M M') (h1 : ∀ k ∈ [43, 146], k ∉ S) : GLd M' n := by
  have e : ∀ k ∈ [43, 146], dp_I M' k = dp_I M k := fun k hk => (o.1 k (by simp only [List.mem_cons, List.not_mem_nil, or_false] at hk; omega) (h1 k hk) (by simp only [List.mem_cons, List.not_mem_nil, or_false] at hk; omega)).1
  unfold GLd at h ⊢
  rw [e 43 (by decide), e 146 (by decide)]; exact h
theorem GRl_off {n : Nat} (h : GRl M n) (o : Off S T M M') (h1 : ∀ k ∈ [5, 11, 41, 145], k ∉ S) : GRl M' n := by
  have e : ∀ k ∈ [5, 11, 41, 145], dp_I M' k = dp_I M k := fun k hk => (o.1 k (by simp only [List.mem_cons, List.not_mem_nil, or_false] at hk; omega) (h1 k hk) (by simp only [List.mem_cons, List.not_mem_nil, or_false] at hk; omega)).1
  unfold GRl at h ⊢
  rw [e 5 (by decide), e 11 (by decide), e 41 (by decide), e 145 (by decide)]; exact h
theorem GRu_off (h : GRu M) (o : Off S T M M') (h1 : ∀ k ∈ [38, 39, 40, 151, 152, 153], k ∉ S) : GRu M' := by
  have e : ∀ k ∈ [38, 39, 40, 151, 152, 153], dp_I M' k = dp_I M k := fun k hk => (o.1 k (by simp only [List.mem_cons, List.not_mem_nil, or_false] at hk; omega) (h1 k hk) (by simp only [List.mem_cons, List.not_mem_nil, or_false] at hk; omega)).1
  unfold GRu at h ⊢
  rw [e 38 (by decide), e 39 (by decide), e 40 (by decide), e 151 (by decide), e 152 (by decide), e 153 (by decide)]; exact h
theorem GTl.up {c c' : Nat} (h : GTl M c) (hc : c ≤ c') (h2 : c' < 1073741824) : GTl M c' := by
  obtain ⟨h1, t, sq, h3, h4, h5⟩ := h
  exact ⟨h2, t, sq, by omega, h4, h5⟩
theorem GBr.up {c c' : Nat} (h : GBr M c) (hc : c ≤ c') : GBr M c' := ⟨h.1, h.2.1, fun k => ⟨(h.2.2 k).1, by have := (h.2.2 k).2; omega⟩⟩
theorem PR.up {n B t c c' : Nat} (h : PR M n B t c) (hc : c ≤ c') (h2 : c' < 1073741824) : PR M n B t c' :=
  ⟨h.1, h.2.1.up hc h2, h.2.2.1, h.2.2.2.1.up hc, h.2.2.2.2⟩
theorem PR_off {n B t c : Nat} (h : PR M n B t c) (o : Off S T M M') (hS : ∀ k ∈ PR_S, k ∉ S) (hT : ∀ i ∈ PR_T, i ∉ T) : PR M' n B t c := by
  obtain ⟨h1, h2, h3, h4, h5, h6, h7⟩ := h
  have s1 : ∀ k ∈ PHY_S, k ∈ PR_S := by decide
  have s2 : ∀ k ∈ PHY_T, k ∈ PR_T := by decide
  have s3 : ∀ k ∈ [37, 50, 154], k ∈ PR_S := by decide
  have s4 : ∀ k ∈ [37, 42, 44, 45, 46, 47, 147, 148, 233, 241], k ∈ PR_S := by decide
  have s5 : ∀ k ∈ [44, 160], k ∈ PR_T := by decide
  have s6 : ∀ k ∈ [48, 49, 149, 150], k ∈ PR_S := by decide
  have s7 : ∀ k ∈ [43, 146], k ∈ PR_S := by decide
  have s8 : ∀ k ∈ [5, 11, 41, 145], k ∈ PR_S := by decide
  have s9 : ∀ k ∈ [38, 39, 40, 151, 152, 153], k ∈ PR_S := by decide
  exact ⟨PHY_off h1 o (fun k hk => hS k (s1 k hk)) (fun i hi => hT i (s2 i hi)), GTl_off h2 o (fun k hk => hS k (s3 k hk)) (hT 52 (by decide)), GGd_off h3 o (fun k hk => hS k (s4 k hk)) (fun i hi => hT i (s5 i hi)), GBr_off h4 o (fun k hk => hS k (s6 k hk)), GLd_off h5 o (fun k hk => hS k (s7 k hk)), GRl_off h6 o (fun k hk => hS k (s8 k hk)), GRu_off h7 o (fun k hk => hS k (s9 k hk))⟩
theorem PR.same {n B t c : Nat} (h : PR M n B t c) : PR (dp_setI M 114 0 0) n B t c ∧ Off PR_W (0 :: PR_V) M (dp_setI M 114 0 0) ∧ Cst 0 0 M (dp_setI M 114 0 0) :=
  ⟨PR_off h ((Off.rr [] [0] M).F 0 (by decide) 0) (by decide) (by decide), (Off.rr _ _ M).F 0 (by decide) 0, ⟨Nat.le_refl _, Nat.le_refl _⟩⟩
theorem PR.refused {n B t c : Nat} (h : PR M n B t c) (hn : 246 ≤ dp_n M) (k : Int32) : PR (dp_setI (dp_new M 0 0 6) 114 0 k) n B t c ∧ Off (245 :: PR_W) (0 :: PR_V) M (dp_setI (dp_new M 0 0 6) 114 0 k) ∧ Cst 1 6 M (dp_setI (dp_new M 0 0 6) 114 0 k) :=
  ⟨PR_off h (((Off.rr [] [0] M).N hn 0 0 6).F 0 (by decide) k) (by decide) (by decide), ((Off.rr _ _ M).N hn 0 0 6).F 0 (by decide) k, ⟨Nat.le_refl _, Nat.le_refl _⟩⟩
theorem PR.looked {n B t c : Nat} (h : PR M n B t c) (v : Int64) : PR (dp_setI (dp_setJ M 245 0 v) 114 0 0) n B t c ∧ Off (245 :: PR_W) (0 :: PR_V) M (dp_setI (dp_setJ M 245 0 v) 114 0 0) ∧ Cst 1 6 M (dp_setI (dp_setJ M 245 0 v) 114 0 0) :=
  ⟨PR_off h (((Off.rr [245] [0] M).J 245 (by decide) 0 v).F 0 (by decide) 0) (by decide) (by decide), ((Off.rr _ _ M).J 245 (by decide) 0 v).F 0 (by decide) 0, ⟨Nat.le_add_right _ _, Nat.le_add_right _ _⟩⟩
theorem PR.bx {n B t c : Nat} (h : PR M n B t c) : n ≤ 100 ∧ dp_I M 1 2 = nI n ∧ dp_I M 114 3 = nI n ∧ dp_I M 137 = dp_I M 5 ∧ (∀ i, i < n → wi (dp_I M 5 i) 1 40) ∧ dp_I M 144 = dp_I M 11 ∧ dp_I M 117 = dp_I M 9 := by
  obtain ⟨⟨⟨h1, h2⟩, -⟩, -⟩ := h
  obtain ⟨r1, r2, r3, r4, r5, r6⟩ := h1.rows
  obtain ⟨W, H, G, R, L, hh, m, y1, y2, y3, y4, y5⟩ := h2
  exact ⟨h1.1, h1.2.2.2.2.2.1, h1.2.2.2.2.2.2.1, r1, r6, y4, h1.2.2.2.2.2.2.2.2.2.2.2.2.2.2.2.2.2.1⟩
/-- rule -/
theorem s_rule {n B t c : Nat} (h : PR M n B t c) (v1 v2 v3 : Int32) : ∃ v M1 M2, dp_den true xs xl (d + 3) 287 [.ref 0, .int v1, .int v2, .int v3] M = iR v M1 ∧ dp_den true xs xl (d + 3) 431 [.ref 114, .int v1, .int v2, .int v3] M1 = iR v M2 ∧ PR M2 n B t c ∧ Off PR_W (0 :: PR_V) M M2 ∧ Cst 0 0 M M2 := by
  have h0 := h
  obtain ⟨h1, h2, h3, h4, h5, h6, u1, u2, u3⟩ := h
  rw [D_X11_rule_0_den, D_X11_rule_0_eq]
  simp only [D_X12_rule_0_den, D_X12_rule_0_eq, q_win, q_min, rb_bi, ibz, dp_w, w_3, w_4, w_40000]
  by_cases g : qin v1 4 ∧ qin v2 5 ∧ (v2 = 1 → qin v3 40001)
  case neg =>
    refine ⟨0, M, dp_setI M 114 0 0, ?_, ?_, h0.same⟩
    · by_cases z1 : qin v1 4
      case neg => rw [if_neg z1]
      rw [if_pos z1]
      by_cases z2 : qin v2 5
      case neg => rw [if_neg z2]
      rw [if_pos z2]
      by_cases z3 : v2 = 1
      · rw [if_pos z3, if_neg (fun q => g ⟨z1, z2, fun _ => q⟩)]
      · exact absurd ⟨z1, z2, fun q => absurd q z3⟩ g
    · by_cases z1 : qin v1 4
      case neg => rw [if_neg z1]
      rw [if_pos z1]
      by_cases z2 : qin v2 5
      case neg => rw [if_neg z2]
      rw [if_pos z2]
      by_cases z3 : v2 = 1
      · rw [if_pos z3, if_neg (fun q => g ⟨z1, z2, fun _ => q⟩)]
      · exact absurd ⟨z1, z2, fun q => absurd q z3⟩ g
  obtain ⟨g1, g2, g3⟩ := g
  have g1' := g1
  obtain ⟨s, hs, rfl⟩ := qin_of g1 (by omega)
  obtain ⟨C, hC⟩ : ∃ C, C = dp_setI (dp_setI M 38 s v2) 39 s v3 := ⟨_, rfl⟩
  obtain ⟨K, hK⟩ : ∃ K, K = dp_setI (dp_setI (dp_setI C 114 0 0) 151 s v2) 152 s v3 := ⟨_, rfl⟩
  have o : Off [38, 39, 151, 152] [0] M K := by rw [hK, hC]; exact (((((Off.rr _ _ M).I 38 (by decide) _ _).I 39 (by decide) _ _).F 0 (by decide) _).I 151 (by decide) _ _).I 152 (by decide) _ _
  refine ⟨1, C, K, ?_, ?_, ⟨PHY_off h1 o (by decide) (by decide), GTl_off h2 o (by decide) (by decide), GGd_off h3 o (by decide) (by decide), GBr_off h4 o (by decide), GLd_off h5 o (by decide), GRl_off h6 o (by decide), ?_, ?_, ?_⟩, o.mono (by decide) (by decide), by rw [hK, hC]; exact ⟨Nat.le_refl _, Nat.le_refl _⟩⟩
  · rw [if_pos g1', if_pos g2]
    simp only [nI_cl (show s < 2147483648 by omega), nI_o hs (by omega), if_false, ← hC]
    by_cases z : v2 = 1
    · rw [if_pos z, if_pos (g3 z)]
    · rw [if_neg z]
  · rw [if_pos g1', if_pos g2]
    simp only [nI_cl (show s < 2147483648 by omega), nI_o hs (by omega), if_false, ← hK]
    by_cases z : v2 = 1
    · rw [if_pos z, if_pos (g3 z)]
    · rw [if_neg z]
  · rw [hK, hC]; simp only [gII, Nat.reduceEqDiff, if_false, if_true, u1]
  · rw [hK, hC]; simp only [gII, Nat.reduceEqDiff, if_false, if_true, u2]
  · rw [hK, hC]; simp only [gII, Nat.reduceEqDiff, if_false, if_true, u3]
/-- goods -/
theorem mny_s {gb : Nat → Int32} {K x y : Nat} (hy : y < 2147483648) (hx : x < 2147483648) : mny (uI gb K (nI y)) (K + 1) x = mny gb K x + (if y = x then 1 else 0) := by
  unfold mny
  rw [ct, ct_c (q := rwf gb (nI x)) (fun i hi => by unfold rwf; rw [uI_n (by omega)])]
  unfold rwf
  rw [uI_s]
  simp only [decide_eq_true_eq, nI_eq hy hx]
theorem wgt_s {gb gw : Nat → Int32} {K x y : Nat} {v : Int32} (hy : y < 2147483648) (hx : x < 2147483648) : wgt (uI gb K (nI y)) (uI gw K v) (K + 1) x = wgt gb gw K x + (if y = x then v else 0) := by
  unfold wgt
  rw [sm, sm_c (g := fun g => if gb g = nI x then gw g else 0) (fun i hi => by rw [uI_n (by omega), uI_n (by omega)]), uI_s, uI_s]
  simp only [nI_eq hy hx]
theorem s_goods {n B t c : Nat} (h : PR M n B t c) (hn : 246 ≤ dp_n M) (v1 v2 : Int32) : ∃ k b M1 M2, dp_den true xs xl (d + 5) 609 [.ref 0, .int v1, .int v2, .ref 245] M = iR k M1 ∧ dp_den true xs xl (d + 5) 424 [.ref 114, .int v1, .int v2] M1 = iR b M2 ∧
    dp_I M2 114 0 = k ∧ (k = 0 → dp_J M2 245 0 = b.toInt64) ∧ PR M2 n B t c ∧ Off (245 :: PR_W) (0 :: PR_V) M M2 ∧ Cst 1 6 M M2 := by
  have h0 := h
  obtain ⟨p1, p2, p3, p4, p5, p6, p7⟩ := h0.bx
  obtain ⟨h1, h2, h3, h4, h5, h6, h7⟩ := h
  have h3' := h3
  obtain ⟨K, D, hK, hD, g1, g2, g3, g4, g5, g6, g7, g8⟩ := h3
  by_cases gx : qin v1 n
  case neg =>
    refine ⟨1, 0, dp_new M 0 0 6, _, wL_goods_x0 ?_, ?_, rfl, (fun e => by cases e), h0.refused hn 1⟩
    · rw [D_X11_goods_0_den, D_X11_goods_0_eq, pc_box p2 p1, rb_bi, ibz, if_neg gx, q_nk hn]
    · rw [D_X12_goods_0_den, D_X12_goods_0_eq, pm_box (n := n) (by rw [gIN (by omega)]; exact p3) p1, rb_bi, ibz, if_neg gx, q_ref, rb_bi]
  have gx' := gx
  obtain ⟨x, hx, rfl⟩ := qin_of gx (by omega)
  obtain ⟨rm, hrm⟩ : ∃ rm, rm = 1000 * dp_I M 5 x - wgt (dp_I M 147) (dp_I M 148) K x := ⟨_, rfl⟩
  have croom : dp_den true xs xl (d + 3) 27 [.ref 37, .int (nI x)] M = iR rm M := by
    rw [D_X1_roomIn_0_den, D_X1_roomIn_0_eq, gc_kg (by omega), rb_bi]
    simp only [nI_cl (show x < 2147483648 by omega), nI_o (show x < 100 by omega) (by omega), if_false, (g5 x (by omega)).2.1, ← hrm]
  have cw : ((1 : Int64) ≤ v2.toInt64 ∧ v2.toInt64 ≤ rm.toInt64) = (¬ v2 < 1 ∧ v2 ≤ rm) := by
    apply propext
    have e1 : (1 : Int64).toInt = 1 := by decide
    have e2 : (1 : Int32).toInt = 1 := by decide
    rw [Int64.le_iff_toInt_le, Int64.le_iff_toInt_le, e1, Int32.toInt_toInt64, Int32.toInt_toInt64, Int32.lt_iff_toInt_lt, Int32.le_iff_toInt_le, e2]
    omega
  have hm : ∀ N : dp_M, Off [245, 37, 42, 44, 46] [] M N ∨ N = dp_new M 0 0 6 → (∀ k, k ∈ [137, 147, 148, 114] → dp_I N k = dp_I M k) → dp_den true xs xl (d + 5) 424 [.ref 114, .int (nI x), .int v2] N = if ¬ v2 < 1 ∧ v2 ≤ rm then (if K = 300 then iR 0 (dp_setI N 114 0 2) else iR (nI K) (dp_setI (dp_setI (dp_setI (dp_setI N 114 0 0) 147 K (nI x)) 148 K v2) 114 44 (nI (K + 1)))) else iR 0 (dp_setI N 114 0 1) := fun N _ e => by
    have e3 : dp_I N 114 3 = nI n := by rw [e 114 (by decide)]; exact p3
    have e44 : dp_I N 114 44 = nI K := by rw [e 114 (by decide)]; exact g2
    rw [D_X12_goods_0_den, D_X12_goods_0_eq, pm_box e3 p1, rb_bi, ibz, if_pos gx', q_ref, rb_bi]
    by_cases z1 : v2 < 1
    · rw [if_pos z1, if_neg (fun q => q.1 z1)]
    · rw [if_neg z1, pm_box e3 p1, rb_bi, ibz, if_pos gx', D_X12_goods_28_eq, gm_kg (by omega), rb_bi, gm_wi hK e44, rb_bi, e 137 (by decide), e 147 (by decide), e 148 (by decide), p4, ← hrm]
      by_cases z2 : v2 ≤ rm
      · rw [if_pos z2, if_pos (show ¬ v2 < 1 ∧ v2 ≤ rm from ⟨z1, z2⟩), e44]
        by_cases z3 : K = 300
        · rw [if_pos (show nI K = 300 by rw [z3]; rfl), if_pos z3, q_ref, rb_bi]
        · rw [if_neg (show ¬ nI (K) = (300 : Int32) from fun e => absurd ((nI_eq (a := K) (b := 300) (by omega) (by omega)).mp e) (by omega)), if_neg z3]
          simp only [dp_w, gII, Nat.reduceEqDiff, if_true, if_false, uI_n (show (44 : Nat) ≠ 0 by decide), e44, nI_cl (show K < 2147483648 by omega), nI_o (show K < 300 by omega) (by omega), nI_1, uI_s, nI_pred]
      · rw [if_neg z2, if_neg (show ¬ (¬ v2 < 1 ∧ v2 ≤ rm) from fun q => z2 q.2), q_ref, rb_bi]
  have en : ∀ k, k ∈ [137, 147, 148, 114] → dp_I (dp_new M 0 0 6) k = dp_I M k := fun k hk => gIN (by simp only [List.mem_cons, List.not_mem_nil, or_false] at hk; omega)
  by_cases gr : ¬ v2 < 1 ∧ v2 ≤ rm
  case neg =>
    refine ⟨1, 0, dp_new M 0 0 6, _, wL_goods_x0 ?_, by rw [hm _ (Or.inr rfl) en, if_neg gr], rfl, (fun e => by cases e), h0.refused hn 1⟩
    rw [D_X11_goods_0_den, D_X11_goods_0_eq, pc_box p2 p1, rb_bi, ibz, if_pos gx', croom, rb_bi]
    simp only [q_win, rb_bi, ibz, cw, if_neg gr, q_nk hn]
  by_cases gK : K = 300
  · refine ⟨2, 0, dp_new M 0 0 6, _, wL_goods_x1 ?_, by rw [hm _ (Or.inr rfl) en, if_pos gr, if_pos gK], rfl, (fun e => by cases e), h0.refused hn 2⟩
    rw [D_X11_goods_0_den, D_X11_goods_0_eq, pc_box p2 p1, rb_bi, ibz, if_pos gx', croom, rb_bi]
    simp only [q_win, rb_bi, ibz, cw, if_pos gr, q_nk hn, g1]
    rw [if_neg (show ¬ nI (K) < (300 : Int32) from nI_nlt (a := K) (b := 300) (by omega) (by omega))]
  obtain ⟨C, hC⟩ : ∃ C, C = dp_setI (dp_setI (dp_setI (dp_setI M 46 K (nI x)) 42 x (dp_I M 42 x + 1)) 44 x (dp_I M 44 x + v2)) 37 2 (nI (K + 1)) := ⟨_, rfl⟩
  have hcl : dp_den true xs xl (d + 4) 282 [.ref 0, .int (nI x), .int v2] M = iR (nI K) C := by
    rw [D_X11_goods_0_den, D_X11_goods_0_eq, pc_box p2 p1, rb_bi, ibz, if_pos gx', croom, rb_bi]
    simp only [q_win, rb_bi, ibz, cw, if_pos gr, g1]
    rw [if_pos (show nI (K) < (300 : Int32) from nI_lt (a := K) (b := 300) (by omega) (by omega)), D_X1_addGoods_0_den, D_X1_addGoods_0_eq]
    simp only [g1, nI_cl (show K < 2147483648 by omega), nI_o (show K < 300 by omega) (by omega), nI_cl (show x < 2147483648 by omega), nI_o (show x < 100 by omega) (by omega), if_false, dp_w, gII, Nat.reduceEqDiff, if_true, nI_1, uI_s, nI_pred, rb_bi, hC]
  have oC : Off [37, 42, 44, 46] [] M C := by rw [hC]; exact ((((Off.rr _ _ M).I 46 (by decide) _ _).I 42 (by decide) _ _).I 44 (by decide) _ _).I 37 (by decide) _ _
  obtain ⟨N, hN⟩ : ∃ N, N = dp_setJ C 245 0 (nI K).toInt64 := ⟨_, rfl⟩
  have eN : ∀ k, k ∈ [137, 147, 148, 114] → dp_I N k = dp_I M k := fun k hk => by
    simp only [List.mem_cons, List.not_mem_nil, or_false] at hk
    rw [hN, gIJ, hC]
    simp only [gII, if_neg (show ¬ k = 37 by omega), if_neg (show ¬ k = 42 by omega), if_neg (show ¬ k = 44 by omega), if_neg (show ¬ k = 46 by omega)]
  obtain ⟨Q, hQ⟩ : ∃ Q, Q = dp_setI (dp_setI (dp_setI (dp_setI N 114 0 0) 147 K (nI x)) 148 K v2) 114 44 (nI (K + 1)) := ⟨_, rfl⟩
  have oN : Off [245, 37, 42, 44, 46] [] M N := by rw [hN]; exact (oC.mono (by decide) (by decide) : Off [245, 37, 42, 44, 46] [] M C).J 245 (by decide) 0 _
  have oQ : Off [245, 37, 42, 44, 46, 147, 148] [0, 44] M Q := by rw [hQ]; exact ((((oN.mono (by decide) (by decide) : Off [245, 37, 42, 44, 46, 147, 148] [0, 44] M N).F 0 (by decide) _).I 147 (by decide) _ _).I 148 (by decide) _ _).F 44 (by decide) _
  have q37 : dp_I Q 37 = uI (dp_I M 37) 2 (nI (K + 1)) := by rw [hQ, hN, hC]; simp only [gII, gIJ, Nat.reduceEqDiff, if_false, if_true]
  have q42 : dp_I Q 42 = uI (dp_I M 42) x (dp_I M 42 x + 1) := by rw [hQ, hN, hC]; simp only [gII, gIJ, Nat.reduceEqDiff, if_false, if_true]
  have q44 : dp_I Q 44 = uI (dp_I M 44) x (dp_I M 44 x + v2) := by rw [hQ, hN, hC]; simp only [gII, gIJ, Nat.reduceEqDiff, if_false, if_true]
  have q46 : dp_I Q 46 = uI (dp_I M 46) K (nI x) := by rw [hQ, hN, hC]; simp only [gII, gIJ, Nat.reduceEqDiff, if_false, if_true]
  have q147 : dp_I Q 147 = uI (dp_I M 147) K (nI x) := by rw [hQ]; simp only [gII, Nat.reduceEqDiff, if_false, if_true, eN 147 (by decide)]
  have q148 : dp_I Q 148 = uI (dp_I M 148) K v2 := by rw [hQ]; simp only [gII, Nat.reduceEqDiff, if_false, if_true, eN 148 (by decide)]
  have eo : ∀ k, k < 246 → k ∉ [245, 37, 42, 44, 46, 147, 148] → k ≠ 114 → dp_I Q k = dp_I M k := fun k a b e => (oQ.1 k a b e).1
  refine ⟨0, nI K, _, Q, wL_goods_ok hcl, by rw [← hN, hm N (Or.inl oN) eN, if_pos gr, if_neg gK, hQ], ?_, fun _ => ?_, ⟨PHY_off h1 oQ (by decide) (by decide), ?_, ?_, GBr_off h4 oQ (by decide), GLd_off h5 oQ (by decide), GRl_off h6 oQ (by decide), GRu_off h7 oQ (by decide)⟩, oQ.mono (by decide) (by decide), ?_⟩
  · rw [hQ]; simp [gII, uI]
  · rw [hQ, hN]; simp [gJI, gJJ, uI]
  · unfold GTl CT MT at h2 ⊢
    rw [q37, uI_n (by decide), eo 50 (by decide) (by decide) (by decide), eo 154 (by decide) (by decide) (by decide), (oQ.2.1 52 (by decide)).1]; exact h2
  · have nofree : an (frf (dp_I M 233) (dp_I M 241) K) D = false := by
      rw [Bool.eq_false_iff]
      intro w
      obtain ⟨i, w1, w2⟩ := an_iff.mp w
      have := g8 i w1
      rw [(frf_t.mp w2).1, qin_iff, nI_toInt (by omega)] at this
      omega
    refine ⟨K + 1, D, by omega, hD, by rw [q37, uI_s], ?_, by rw [(oQ.2.1 160 (by decide)).1]; exact g3, fun g hg => ?_, fun y hy => ?_, fun g hg => ?_, fun g q1 q2 => ?_, fun i hi => ?_⟩
    · rw [hQ, gII, if_pos rfl, uI_s]
    · rw [q46, q147]
      by_cases z : g = K
      · subst z; rw [uI_s, uI_s]; exact ⟨rfl, qin_nI hx (by omega)⟩
      · rw [uI_n z, uI_n z]; exact g4 g (by omega)
    · obtain ⟨w1, w2, w3⟩ := g5 y hy
      rw [q42, q44, q147, q148, mny_s (by omega) (by omega), wgt_s (by omega) (by omega), eo 45 (by decide) (by decide) (by decide), eo 233 (by decide) (by decide) (by decide), eo 241 (by decide) (by decide) (by decide), w3]
      refine ⟨?_, ?_, ?_⟩
      · by_cases z : y = x
        · subst z; rw [uI_s, if_pos rfl, w1, nI_1]
        · rw [uI_n z, if_neg (fun q => z q.symm), Nat.add_zero, w1]
      · by_cases z : y = x
        · subst z; rw [uI_s, if_pos rfl, w2]
        · rw [uI_n z, if_neg (fun q => z q.symm), Int32.add_zero, w2]
      · congr 1
        unfold mnf
        rw [ct, ct_c (p := fun g => rwf (dp_I M 147) (nI y) g && an (frf (dp_I M 233) (dp_I M 241) g) D) (q := fun g => rwf (uI (dp_I M 147) K (nI x)) (nI y) g && an (frf (dp_I M 233) (dp_I M 241) g) D) (fun i hi => by unfold rwf; rw [uI_n (by omega)])]
        simp only [nofree, Bool.and_false]
        simp
    · rw [eo 47 (by decide) (by decide) (by decide), eo 233 (by decide) (by decide) (by decide), eo 241 (by decide) (by decide) (by decide)]
      by_cases z : g = K
      · subst z; rw [g7 g (Nat.le_refl _) (by omega), nofree, bI_f (by decide)]
      · exact g6 g (by omega)
    · rw [eo 47 (by decide) (by decide) (by decide)]; exact g7 g (by omega) q2
    · rw [eo 233 (by decide) (by decide) (by decide)]
      have := qin_iff.mp (g8 i hi)
      rw [qin_iff]; omega
  · rw [hQ, hN, hC]; exact ⟨Nat.le_add_right _ _, Nat.le_add_right _ _⟩
end GC
