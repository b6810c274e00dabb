/-! DECLARATIONS: class and model agree -/
/-- the ask of a declaration -/
def DAk (M : dp_M) (A i : Nat) : Prop := (dp_I M 109 i = -1 ∧ ∀ a, a < A → ¬ dp_I M 196 a = nI i) ∨ ∃ a, a < A ∧ dp_I M 109 i = nI a ∧ dp_I M 196 a = nI i ∧ ∀ b, b < A → dp_I M 196 b = nI i → b = a
/-- the facts of a declaration -/
def DFa (M : dp_M) (i : Nat) : Prop := dp_J M 111 (i * 23 + 0) = (dp_I M 233 i).toInt64 ∧ dp_J M 111 (i * 23 + 1) = (dp_I M 234 i).toInt64 ∧ qin (dp_I M 234 i) 8 ∧ dp_J M 111 (i * 23 + 2) = (dp_I M 235 i).toInt64 ∧ qin (dp_I M 235 i) 4 ∧ dp_J M 111 (i * 23 + 3) = (dp_I M 236 i).toInt64 ∧ wi (dp_I M 236 i) 100000 999999 ∧ dp_J M 111 (i * 23 + 4) = (dp_I M 237 i).toInt64 ∧ qin (dp_I M 237 i) 16 ∧ dp_J M 111 (i * 23 + 5) = (dp_I M 238 i).toInt64 ∧ qin (dp_I M 238 i) 10001 ∧
  dp_J M 111 (i * 23 + 6) = dp_J M 239 i ∧ 0 ≤ (dp_J M 239 i).toInt ∧ (dp_J M 239 i).toInt ≤ 100000000
/-- state, duty, reservation, batch -/
def DSt (M : dp_M) (R i : Nat) : Prop := dp_J M 111 (i * 23 + 7) = (dp_I M 241 i).toInt64 ∧ qin (dp_I M 241 i) 5 ∧ dp_J M 111 (i * 23 + 8) = dp_J M 242 i ∧ 0 ≤ (dp_J M 242 i).toInt ∧ (dp_J M 242 i).toInt ≤ 1000000000 ∧ dp_J M 111 (i * 23 + 9) = (dp_I M 243 i).toInt64 ∧ (dp_J M 111 (i * 23 + 10) = (dp_I M 244 i).toInt64 ∧ (dp_I M 241 i = 0 ∨ dp_I M 241 i = 1 → dp_I M 244 i = -1)) ∧
  (dp_I M 241 i = 0 → dp_J M 242 i = 0 ∧ dp_I M 243 i = 0) ∧ (dp_I M 241 i = 1 → (dp_J M 242 i = 0 ∧ dp_I M 243 i = 0) ∨ (¬ dp_J M 242 i = 0 ∧ ∃ r : Nat, 1 ≤ r ∧ r ≤ R ∧ dp_I M 243 i = nI r ∧ dp_I M 215 r = 0 ∧ dp_J M 96 (r * 12 + 1) = dp_J M 242 i))
/-- the amounts of a declaration -/
def DUn (M : dp_M) (i : Nat) : Prop := ∀ u, u < 8 → dp_J M 111 (i * 23 + (15 + u)) = dp_J M 240 (i * 8 + u) ∧ -1 ≤ (dp_J M 240 (i * 8 + u)).toInt ∧ (dp_J M 240 (i * 8 + u)).toInt ≤ 100000000
/-- what no declaration has touched yet -/
def DNw (M : dp_M) (i : Nat) : Prop := dp_J M 111 (i * 23 + 7) = 0 ∧ dp_J M 111 (i * 23 + 8) = 0 ∧ dp_J M 111 (i * 23 + 9) = 0 ∧ dp_I M 241 i = 0 ∧ dp_J M 242 i = 0 ∧ dp_I M 243 i = 0 ∧ ∀ u, u < 8 → dp_J M 240 (i * 8 + u) = -1
def tkf (go st : Nat → Int32) (g i : Nat) : Bool := decide (go i = nI g ∧ ¬ st i = 4)
theorem tkf_t {go st : Nat → Int32} {g i : Nat} : tkf go st g i = true ↔ go i = nI g ∧ ¬ st i = 4 := decide_eq_true_iff
/-- of goods, one declaration at most is not cancelled -/
def DIn (go st : Nat → Int32) (D : Nat) : Prop := ∀ i j, i < D → j < D → ¬ st i = 4 → ¬ st j = 4 → go i = go j → i = j
def DBd (M : dp_M) (D A R : Nat) : Prop := D ≤ 400 ∧ dp_I M 108 5 = nI D ∧ dp_I M 114 160 = nI D ∧ dp_I M 114 111 = nI A ∧ A ≤ 400 ∧ dp_I M 114 133 = nI R ∧ R ≤ 400 ∧
  (∀ i, i < D → DFa M i ∧ DSt M R i ∧ DUn M i ∧ DAk M A i) ∧ (∀ i, D ≤ i → i < 400 → DNw M i) ∧ (∀ a, a < A → qin (dp_I M 196 a) D) ∧ (∀ g, g < 300 → dp_I M 110 g = bI (an (tkf (dp_I M 233) (dp_I M 241) g) D = true)) ∧
  (∀ i j, i < D → j < D → dp_I M 241 i = 1 → dp_I M 241 j = 1 → ¬ dp_I M 243 i = 0 → dp_I M 243 i = dp_I M 243 j → i = j) ∧ R ≤ ct (fun i => decide (¬ dp_I M 241 i = 0)) D ∧ DIn (dp_I M 233) (dp_I M 241) D
def RelD (M : dp_M) : Prop := ∃ D A R : Nat, DBd M D A R
def RelD_S : List Nat := [96, 108, 109, 110, 111, 196, 215, 233, 234, 235, 236, 237, 238, 239, 240, 241, 242, 243, 244]
def RelD_T : List Nat := [111, 133, 160]
theorem DBd_off {S T : List Nat} {M M' : dp_M} {D A R : Nat} (h : DBd M D A R) (o : Off S T M M') (hS : ∀ k ∈ RelD_S, k ∉ S) (hT : ∀ i ∈ RelD_T, i ∉ T) : DBd M' D A R := by
  have q : ∀ k ∈ RelD_S, k < 246 ∧ k ≠ 114 := by decide
  have e : ∀ k ∈ RelD_S, dp_I M' k = dp_I M k ∧ dp_J M' k = dp_J M k := fun k hk => ⟨(o.1 k (q k hk).1 (hS k hk) (q k hk).2).1, (o.1 k (q k hk).1 (hS k hk) (q k hk).2).2.1⟩
  have f : ∀ i ∈ RelD_T, dp_I M' 114 i = dp_I M 114 i := fun i hi => (o.2.1 i (hT i hi)).1
  unfold DBd DFa DSt DUn DAk DNw at h ⊢
  simp only [(e 96 (by decide)).2, (e 108 (by decide)).1, (e 109 (by decide)).1, (e 110 (by decide)).1, (e 111 (by decide)).2, (e 196 (by decide)).1, (e 215 (by decide)).1, (e 233 (by decide)).1, (e 234 (by decide)).1, (e 235 (by decide)).1, (e 236 (by decide)).1, (e 237 (by decide)).1, (e 238 (by decide)).1, (e 239 (by decide)).2, (e 240 (by decide)).2, (e 241 (by decide)).1, (e 242 (by decide)).2, (e 243 (by decide)).1, (e 244 (by decide)).1, f 111 (by decide), f 133 (by decide), f 160 (by decide)]
  exact h
theorem RelD_off {S T : List Nat} {M M' : dp_M} (h : RelD M) (o : Off S T M M') (hS : ∀ k ∈ RelD_S, k ∉ S) (hT : ∀ i ∈ RelD_T, i ∉ T) : RelD M' := by
  obtain ⟨D, A, R, h⟩ := h
  exact ⟨D, A, R, DBd_off h o hS hT⟩
section DA
variable {xs : Nat → Int32} {xl d : Nat} {M : dp_M}
theorem RelD.same (h : RelD M) : RelD (dp_setI M 114 0 0) ∧ Off RelD_S (0 :: RelD_T) M (dp_setI M 114 0 0) ∧ Cst 0 0 M (dp_setI M 114 0 0) :=
  ⟨RelD_off h ((Off.rr [] [0] M).F 0 (by decide) 0) (by decide) (by decide), (Off.rr _ _ M).F 0 (by decide) 0, ⟨Nat.le_refl _, Nat.le_refl _⟩⟩
theorem RelD.refused (h : RelD M) (hn : 246 ≤ dp_n M) (k : Int32) : RelD (dp_setI (dp_new M 0 0 6) 114 0 k) ∧ Off (245 :: RelD_S) (0 :: RelD_T) M (dp_setI (dp_new M 0 0 6) 114 0 k) ∧ Cst 1 6 M (dp_setI (dp_new M 0 0 6) 114 0 k) :=
  ⟨RelD_off h (((Off.rr [] [0] M).N hn 0 0 6).F 0 (by decide) k) (by decide) (by decide), ((Off.rr _ _ M).N hn 0 0 6).F 0 (by decide) k, ⟨Nat.le_refl _, Nat.le_refl _⟩⟩
theorem RelD.looked (h : RelD M) (v : Int64) : RelD (dp_setI (dp_setJ M 245 0 v) 114 0 0) ∧ Off (245 :: RelD_S) (0 :: RelD_T) M (dp_setI (dp_setJ M 245 0 v) 114 0 0) ∧ Cst 1 6 M (dp_setI (dp_setJ M 245 0 v) 114 0 0) :=
  ⟨RelD_off h (((Off.rr [245] [0] M).J 245 (by decide) 0 v).F 0 (by decide) 0) (by decide) (by decide), ((Off.rr _ _ M).J 245 (by decide) 0 v).F 0 (by decide) 0, ⟨Nat.le_add_right _ _, Nat.le_add_right _ _⟩⟩
theorem t_23 {i k : Nat} : nI i * (23 : Int32) + nI k = nI (i * 23 + k) := by rw [show (23 : Int32) = nI 23 from rfl, pk_mul, nI_add]
theorem t_8d {i k : Nat} : (8 : Int32) * nI i + nI k = nI (i * 8 + k) := by rw [show (8 : Int32) = nI 8 from rfl, pk_mul, nI_add, Nat.mul_comm]
theorem dc_get {v2 : Int32} {i k : Nat} (h2 : v2 = nI k) (hi : i < 400) (hk : k < 23) : dp_den true xs xl (d + 1) 1 [.ref 108, .int (nI i), .int v2] M = lR (dp_J M 111 (i * 23 + k)) M := by
  subst h2
  rw [D_X0_get_0_den, D_X0_get_0_eq]
  simp only [t_23, nI_cl (show i * 23 + k < 2147483648 by omega), nI_o (show i * 23 + k < 9200 by omega) (by omega), if_false]
theorem dc_set {v2 : Int32} {i k : Nat} {x : Int64} (h2 : v2 = nI k) (hi : i < 400) (hk : k < 23) : dp_den true xs xl (d + 1) 3 [.ref 108, .int (nI i), .int v2, .long x] M = vR (dp_setJ M 111 (i * 23 + k) x) := by
  subst h2
  rw [D_X0_set_0_den, D_X0_set_0_eq]
  simp only [t_23, nI_cl (show i * 23 + k < 2147483648 by omega), nI_o (show i * 23 + k < 9200 by omega) (by omega), if_false, dp_w]
theorem dc_small {v2 w : Int32} {i k : Nat} (h2 : v2 = nI k) (hi : i < 400) (hk : k < 23) (hw : dp_J M 111 (i * 23 + k) = w.toInt64) : dp_den true xs xl (d + 2) 2 [.ref 108, .int (nI i), .int v2] M = iR w M := by
  rw [D_X0_small_0_den, D_X0_small_0_eq, dc_get h2 hi hk, rb_bl, hw, Int32.toInt32_toInt64]
theorem dc_state {w : Int32} {i : Nat} (hi : i < 400) (hw : dp_J M 111 (i * 23 + 7) = w.toInt64) : dp_den true xs xl (d + 3) 5 [.ref 108, .int (nI i)] M = iR w M := by
  rw [D_X0_stateOf_0_den, D_X0_stateOf_0_eq, dc_small (v2 := 7) (k := 7) rfl hi (by omega) hw, rb_bi]
theorem dc_duty {i : Nat} (hi : i < 400) : dp_den true xs xl (d + 2) 6 [.ref 108, .int (nI i)] M = lR (dp_J M 111 (i * 23 + 8)) M := by
  rw [D_X0_dutyOf_0_den, D_X0_dutyOf_0_eq, dc_get (v2 := 8) (k := 8) rfl hi (by omega), rb_bl]
theorem dc_is {v : Int32} {D : Nat} (h : dp_I M 108 5 = nI D) (hD : D ≤ 400) : dp_den true xs xl (d + 2) 259 [.ref 0, .int v] M = iR (bI (qin v D)) M := by
  rw [D_X11_isDeclaration_0_den, D_X11_isDeclaration_0_eq, h]; exact q_cn rfl (by omega)
theorem dm_is {v : Int32} {D : Nat} (h : dp_I M 114 160 = nI D) (hD : D ≤ 400) : dp_den true xs xl (d + 1) 566 [.ref 114, .int v] M = iR (bI (qin v D)) M := by
  rw [D_X12_isDeclaration_0_den, D_X12_isDeclaration_0_eq, h]; exact q_mr rfl (by omega)
theorem dc_in {v : Int32} {D : Nat} {w : Int32} (h : dp_I M 108 5 = nI D) (hD : D ≤ 400) (hs : ∀ i, i < D → dp_J M 111 (i * 23 + 7) = (dp_I M 241 i).toInt64) : dp_den true xs xl (d + 4) 260 [.ref 0, .int v, .int w] M = iR (bI (qin v D ∧ dp_I M 241 v.toNatClampNeg = w)) M := by
  rw [D_X11_isDeclarationIn_0_den, D_X11_isDeclarationIn_0_eq, dc_is h hD, rb_bi, ibz]
  by_cases g : qin v D
  · have g' := g
    obtain ⟨i, hi, rfl⟩ := qin_of g (by omega)
    have ei : (nI i).toNatClampNeg = i := nI_cl (by omega)
    rw [if_pos g', dc_state (by omega) (hs i hi), rb_bi]
    by_cases z : dp_I M 241 i = w
    · rw [if_pos z, bI_t ⟨g', by rw [ei]; exact z⟩]
    · rw [if_neg z, bI_f (fun q => z (by have := q.2; rw [ei] at this; exact this))]
  · rw [if_neg g, bI_f (fun q => g q.1)]
theorem dm_in {v : Int32} {D : Nat} {w : Int32} (h : dp_I M 114 160 = nI D) (hD : D ≤ 400) : dp_den true xs xl (d + 2) 567 [.ref 114, .int v, .int w] M = iR (bI (qin v D ∧ dp_I M 241 v.toNatClampNeg = w)) M := by
  rw [D_X12_isState_0_den, D_X12_isState_0_eq, dm_is h hD, rb_bi, ibz]
  by_cases g : qin v D
  · have g' := g
    obtain ⟨i, hi, rfl⟩ := qin_of g (by omega)
    rw [if_pos g', dm_is h hD, rb_bi, ibz, if_pos g']
    simp only [nI_cl (show i < 2147483648 by omega), nI_o (show i < 400 by omega) (by omega), if_false]
    by_cases z : dp_I M 241 i = w
    · rw [if_pos z, bI_t ⟨g', z⟩]
    · rw [if_neg z, bI_f (fun q => z q.2)]
  · rw [if_neg g, bI_f (fun q => g q.1)]
end DA
