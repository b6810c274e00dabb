/-! SECURITIES: class and model side by side -/
/-- what a guarantee needs for cents that it covers -/
def ndF (M : dp_M) (g : Nat) (x : Int64) : Int64 := (x * (dp_I M 204 g).toInt64 + (dp_I M 205 g).toInt64 - 1) / (dp_I M 205 g).toInt64
def ndR (M : dp_M) (g r : Nat) : Int64 := sl (fun k => if dp_I M 217 (r * 4 + k) = nI g then ndF M g (dp_J M 218 (r * 4 + k)) else 0) (dp_I M 216 r).toNatClampNeg
def nO (M : dp_M) (g R : Nat) : Int64 := sl (fun i => ndR M g (i + 1)) R
def usR (M : dp_M) (g r : Nat) : Nat := ct (fun k => decide (dp_I M 217 (r * 4 + k) = nI g)) (dp_I M 216 r).toNatClampNeg
def uO (M : dp_M) (g : Nat) : Nat → Nat
  | 0 => 0
  | R + 1 => uO M g R + usR M g (R + 1)
/-- one guarantee -/
def SRw (M : dp_M) (R g : Nat) : Prop := ∃ h u n : Nat, h < 8 ∧ u ≤ n ∧ 1 ≤ n ∧ n ≤ 100 ∧ dp_I M 202 g = nI h ∧ dp_J M 95 (g * 16 + 0) = (nI h).toInt64 ∧ dp_I M 204 g = nI u ∧ dp_J M 95 (g * 16 + 9) = (nI u).toInt64 ∧ dp_I M 205 g = nI n ∧ dp_J M 95 (g * 16 + 10) = (nI n).toInt64 ∧
  dp_J M 95 (g * 16 + 1) = dp_J M 203 g ∧ 0 ≤ (dp_J M 203 g).toInt ∧ (dp_J M 203 g).toInt ≤ 1000000000 ∧ dp_J M 95 (g * 16 + 11) = (dp_I M 206 g).toInt64 ∧ (dp_I M 206 g = 0 ∨ dp_I M 206 g = 1) ∧ dp_J M 95 (g * 16 + 12) = (dp_I M 207 g).toInt64 ∧ qin (dp_I M 207 g) 1001 ∧
  dp_J M 95 (g * 16 + 13) = (dp_I M 212 g).toInt64 ∧ qin (dp_I M 212 g) 100001 ∧ dp_J M 95 (g * 16 + 6) = (dp_I M 208 g).toInt64 ∧ (dp_I M 208 g = 0 ∨ dp_I M 208 g = 1) ∧ (dp_I M 208 g = 1 → dp_J M 95 (g * 16 + 15) = (dp_I M 209 g).toInt64 ∧ qin (dp_I M 209 g) 100001) ∧
  dp_J M 95 (g * 16 + 8) = dp_J M 210 g ∧ dp_J M 95 (g * 16 + 14) = dp_J M 211 g ∧ dp_J M 95 (g * 16 + 2) = nO M g R ∧ dp_J M 95 (g * 16 + 5) = (nI (uO M g R)).toInt64
/-- one reservation -/
def SRv (M : dp_M) (G r : Nat) : Prop := ∃ n : Nat, n ≤ 4 ∧ dp_I M 216 r = nI n ∧ dp_J M 96 (r * 12 + 0) = (dp_I M 214 r).toInt64 ∧ dp_J M 96 (r * 12 + 1) = sl (fun k => dp_J M 218 (r * 4 + k)) n ∧ dp_J M 96 (r * 12 + 2) = (dp_I M 215 r).toInt64 ∧ dp_J M 96 (r * 12 + 3) = (nI n).toInt64 ∧
  ∀ k, k < n → dp_J M 96 (r * 12 + (4 + k)) = (dp_I M 217 (r * 4 + k)).toInt64 ∧ dp_J M 96 (r * 12 + (8 + k)) = dp_J M 218 (r * 4 + k) ∧ wi (dp_I M 217 (r * 4 + k)) 1 G ∧ 1 ≤ (dp_J M 218 (r * 4 + k)).toInt ∧ (dp_J M 218 (r * 4 + k)).toInt ≤ 1000000000
/-- the order of the guarantees -/
def SOr (M : dp_M) (G : Nat) : Prop := (∀ k, k < G → wi (dp_I M 213 k) 1 G) ∧ (∀ k l, k < G → l < G → dp_I M 213 k = dp_I M 213 l → k = l) ∧
  ∀ h, h < 8 → dp_I M 91 h = nI (ct (fun k => decide (dp_I M 202 (dp_I M 213 k).toNatClampNeg = nI h)) G) ∧ ∀ k, k < G → dp_I M 202 (dp_I M 213 k).toNatClampNeg = nI h → dp_I M 94 (h * 40 + ct (fun k => decide (dp_I M 202 (dp_I M 213 k).toNatClampNeg = nI h)) k) = dp_I M 213 k
/-- how many are live -/
def lvf (en : Nat → Int32) (i : Nat) : Bool := decide (en (i + 1) = 0)
def SLv (M : dp_M) (R : Nat) : Prop := dp_I M 90 2 = nI (ct (lvf (dp_I M 215)) R)
/-- no guarantee twice in a reservation -/
def SDs (M : dp_M) (R : Nat) : Prop := ∀ r, 1 ≤ r → r ≤ R → ∀ j k, j < (dp_I M 216 r).toNatClampNeg → k < (dp_I M 216 r).toNatClampNeg → dp_I M 217 (r * 4 + j) = dp_I M 217 (r * 4 + k) → j = k
def RelS (M : dp_M) : Prop := ∃ G R : Nat, G ≤ 40 ∧ R ≤ 400 ∧ dp_I M 90 0 = nI G ∧ dp_I M 114 119 = nI G ∧ dp_I M 90 1 = nI R ∧ dp_I M 114 133 = nI R ∧ dp_I M 114 120 = dp_I M 90 3 ∧ qin (dp_I M 90 3) 100001 ∧ dp_I M 219 = dp_I M 92 ∧ (∀ i, dp_I M 92 i = 0 ∨ dp_I M 92 i = 1) ∧ dp_I M 220 = dp_I M 93 ∧
  (∀ g, 1 ≤ g → g ≤ G → SRw M R g) ∧ (∀ g k, G < g → k < 16 → dp_J M 95 (g * 16 + k) = 0) ∧ (∀ g, G < g → dp_I M 208 g = 0 ∧ dp_J M 210 g = 0 ∧ dp_J M 211 g = 0) ∧ SOr M G ∧ (∀ r, 1 ≤ r → r ≤ R → SRv M G r) ∧ (∀ r, R < r → dp_I M 215 r = 0) ∧ SLv M R ∧ SDs M R
def RelS_S : List Nat := [90, 91, 92, 93, 94, 95, 96, 202, 203, 204, 205, 206, 207, 208, 209, 210, 211, 212, 213, 214, 215, 216, 217, 218, 219, 220]
def RelS_T : List Nat := [119, 120, 133]
def RelS_W : List Nat := [90, 91, 92, 93, 94, 95, 202, 203, 204, 205, 206, 207, 208, 209, 210, 211, 212, 213, 214, 216, 217, 218, 219, 220]
def RelS_V : List Nat := [119, 120]
theorem RelS_off {S T : List Nat} {M M' : dp_M} (h : RelS M) (o : Off S T M M') (hS : ∀ k ∈ RelS_S, k ∉ S) (hT : ∀ i ∈ RelS_T, i ∉ T) : RelS M' := by
  have e : ∀ k ∈ RelS_S, dp_I M' k = dp_I M k ∧ dp_J M' k = dp_J M k := fun k hk => by
    have := o.1 k (by simp only [RelS_S, List.mem_cons, List.not_mem_nil, or_false] at hk; omega) (hS k hk) (by simp only [RelS_S, List.mem_cons, List.not_mem_nil, or_false] at hk; omega)
    exact ⟨this.1, this.2.1⟩
  have f : ∀ i ∈ RelS_T, dp_I M' 114 i = dp_I M 114 i := fun i hi => (o.2.1 i (hT i hi)).1
  have u : ∀ g R, uO M' g R = uO M g R := fun g R => by
    induction R with
    | zero => rfl
    | succ R ih => rw [uO, uO, ih]; unfold usR; rw [(e 216 (by decide)).1, (e 217 (by decide)).1]
  unfold RelS SRw SRv SOr SLv SDs nO ndR ndF at h ⊢
  simp only [(e 90 (by decide)).1, (e 91 (by decide)).1, (e 92 (by decide)).1, (e 93 (by decide)).1, (e 94 (by decide)).1, (e 95 (by decide)).2, (e 96 (by decide)).2, (e 202 (by decide)).1, (e 203 (by decide)).2, (e 204 (by decide)).1, (e 205 (by decide)).1, (e 206 (by decide)).1, (e 207 (by decide)).1, (e 208 (by decide)).1, (e 209 (by decide)).1, (e 210 (by decide)).2, (e 211 (by decide)).2, (e 212 (by decide)).1, (e 213 (by decide)).1, (e 214 (by decide)).1, (e 215 (by decide)).1, (e 216 (by decide)).1, (e 217 (by decide)).1, (e 218 (by decide)).2, (e 219 (by decide)).1, (e 220 (by decide)).1, f 119 (by decide), f 120 (by decide), f 133 (by decide), u]
  exact h
section SA
variable {xs : Nat → Int32} {xl d : Nat} {M : dp_M}
theorem RelS.same (h : RelS M) : RelS (dp_setI M 114 0 0) ∧ Off RelS_W (0 :: RelS_V) M (dp_setI M 114 0 0) ∧ Cst 0 0 M (dp_setI M 114 0 0) :=
  ⟨RelS_off h ((Off.rr [] [0] M).F 0 (by decide) 0) (by decide) (by decide), (Off.rr _ _ M).F 0 (by decide) 0, ⟨Nat.le_refl _, Nat.le_refl _⟩⟩
theorem RelS.refused (h : RelS M) (hn : 246 ≤ dp_n M) (k : Int32) : RelS (dp_setI (dp_new M 0 0 6) 114 0 k) ∧ Off (245 :: RelS_W) (0 :: RelS_V) M (dp_setI (dp_new M 0 0 6) 114 0 k) ∧ Cst 1 6 M (dp_setI (dp_new M 0 0 6) 114 0 k) :=
  ⟨RelS_off h (((Off.rr [] [0] M).N hn 0 0 6).F 0 (by decide) k) (by decide) (by decide), ((Off.rr _ _ M).N hn 0 0 6).F 0 (by decide) k, ⟨Nat.le_refl _, Nat.le_refl _⟩⟩
theorem RelS.looked (h : RelS M) (v : Int64) : RelS (dp_setI (dp_setJ M 245 0 v) 114 0 0) ∧ Off (245 :: RelS_W) (0 :: RelS_V) M (dp_setI (dp_setJ M 245 0 v) 114 0 0) ∧ Cst 1 6 M (dp_setI (dp_setJ M 245 0 v) 114 0 0) :=
  ⟨RelS_off h (((Off.rr [245] [0] M).J 245 (by decide) 0 v).F 0 (by decide) 0) (by decide) (by decide), ((Off.rr _ _ M).J 245 (by decide) 0 v).F 0 (by decide) 0, ⟨Nat.le_add_right _ _, Nat.le_add_right _ _⟩⟩
theorem sc_gua {v : Int32} {G : Nat} (h : dp_I M 90 0 = nI G) (hG : G ≤ 40) : dp_den true xs xl (d + 2) 257 [.ref 0, .int v] M = iR (bI (wi v 1 G)) M := by
  rw [D_X11_isGuarantee_0_den, D_X11_isGuarantee_0_eq, h, q_win, rb_bi]
  simp only [rb_ok, wi_nI (a := 1) 1 (by decide) (show G < 2147483648 by omega)]
theorem sm_gua {v : Int32} {G : Nat} (h : dp_I M 114 119 = nI G) (hG : G ≤ 40) : dp_den true xs xl (d + 1) 515 [.ref 114, .int v] M = iR (bI (wi v 1 G)) M := by
  rw [D_X12_isGuarantee_0_den, D_X12_isGuarantee_0_eq, h]
  simp only [Int32.lt_iff_toInt_lt, nI_toInt (show G < 2147483648 by omega)]
  have e : (1 : Int32).toInt = 1 := by decide
  rw [e]
  by_cases h1 : v.toInt < 1
  · rw [if_pos h1, bI_f (fun q => by have := q.1; omega)]
  · rw [if_neg h1]
    by_cases h2 : (G : Int) < v.toInt
    · rw [if_pos h2, bI_f (fun q => by have := q.2; omega)]
    · rw [if_neg h2, bI_t ⟨by omega, by omega⟩]
theorem t_16 {g k : Nat} : nI g * (16 : Int32) + nI k = nI (g * 16 + k) := by rw [show (16 : Int32) = nI 16 from rfl, pk_mul, nI_add]
theorem sc_get {v2 : Int32} {g k : Nat} (h2 : v2 = nI k) (hg : g < 41) (hk : k < 16) : dp_den true xs xl (d + 1) 183 [.ref 90, .int (nI g), .int v2] M = lR (dp_J M 95 (g * 16 + k)) M := by
  subst h2
  rw [D_X8_get_0_den, D_X8_get_0_eq]
  simp only [t_16, nI_cl (show g * 16 + k < 2147483648 by omega), nI_o (show g * 16 + k < 656 by omega) (by omega), if_false]
theorem sc_set {v2 : Int32} {g k : Nat} {x : Int64} (h2 : v2 = nI k) (hg : g < 41) (hk : k < 16) : dp_den true xs xl (d + 1) 184 [.ref 90, .int (nI g), .int v2, .long x] M = vR (dp_setJ M 95 (g * 16 + k) x) := by
  subst h2
  rw [D_X8_set_0_den, D_X8_set_0_eq]
  simp only [t_16, nI_cl (show g * 16 + k < 2147483648 by omega), nI_o (show g * 16 + k < 656 by omega) (by omega), if_false, dp_w]
/-- fails -/
theorem s_fails (h : RelS M) (v1 v2 : Int32) (hv : v2 = 0 ∨ v2 = 1) : ∃ v M1 M2, dp_den true xs xl (d + 3) 325 [.ref 0, .int v1, .int v2] M = iR v M1 ∧ dp_den true xs xl (d + 3) 535 [.ref 114, .int v1, .int v2] M1 = iR v M2 ∧ RelS M2 ∧ Off RelS_W (0 :: RelS_V) M M2 ∧ Cst 0 0 M M2 := by
  have h0 := h
  have hv1 : v2 &&& 1 = v2 := by rcases hv with rfl | rfl <;> rfl
  obtain ⟨G, R, hG, hR, a1, a2, a3, a4, a5, a6, a7, a8, a9, a10, a11, a12, a13, a14, a15⟩ := h
  have hd : ∀ N : dp_M, dp_den true xs xl (d + 2) 322 [.int v1] N = iR (bI (qin v1 4)) N := fun N => by
    rw [D_X11_isDesk_0_den, D_X11_isDesk_0_eq]; exact q_cr (by decide)
  rw [D_X11_fails_0_den, D_X11_fails_0_eq]
  simp only [D_X12_fails_0_den, D_X12_fails_0_eq, hd, q_min, w_3, rb_bi, ibz, dp_w, hv1]
  by_cases g1 : qin v1 4
  case neg =>
    simp only [if_neg g1]
    exact ⟨0, M, _, rfl, rfl, h0.same⟩
  simp only [if_pos g1]
  obtain ⟨j, hj, rfl⟩ := qin_of g1 (by omega)
  simp only [nI_cl (show j < 2147483648 by omega), nI_o (show j < 4 by omega) (by omega), if_false]
  by_cases g2 : dp_I M 92 j = v2
  · refine ⟨0, M, dp_setI M 114 0 0, by rw [if_pos g2], ?_, h0.same⟩
    rw [if_pos (by simp only [gII, Nat.reduceEqDiff, if_false, a7]; exact g2)]
  · refine ⟨1, dp_setI M 92 j v2, dp_setI (dp_setI (dp_setI M 92 j v2) 114 0 0) 219 j v2, by rw [if_neg g2], ?_, ?_, (((Off.rr _ _ M).I 92 (by decide) _ _).F 0 (by decide) _).I 219 (by decide) _ _, ⟨Nat.le_refl _, Nat.le_refl _⟩⟩
    · rw [if_neg (by simp only [gII, Nat.reduceEqDiff, if_false, a7]; exact g2)]
    · have hx : RelS (dp_setI (dp_setI (dp_setI M 92 j v2) 114 0 0) 219 j v2) ↔ RelS (dp_setI (dp_setI (dp_setI M 92 j v2) 114 0 0) 219 j v2) := Iff.rfl
      have u : ∀ g R, uO (dp_setI (dp_setI (dp_setI M 92 j v2) 114 0 0) 219 j v2) g R = uO M g R := fun g R => by
        induction R with
        | zero => rfl
        | succ R ih => rw [uO, uO, ih]; unfold usR; simp only [gII, Nat.reduceEqDiff, if_false]
      refine ⟨G, R, hG, hR, by simp [gII, gIJ, gIR, gJI, gJJ, gJR, gRI, gRJ, glI, glJ, glR, uI, a1], by simp [gII, gIJ, gIR, gJI, gJJ, gJR, gRI, gRJ, glI, glJ, glR, uI, a2], by simp [gII, gIJ, gIR, gJI, gJJ, gJR, gRI, gRJ, glI, glJ, glR, uI, a3], by simp [gII, gIJ, gIR, gJI, gJJ, gJR, gRI, gRJ, glI, glJ, glR, uI, a4], by simp [gII, gIJ, gIR, gJI, gJJ, gJR, gRI, gRJ, glI, glJ, glR, uI]; exact a5, by simp [gII, gIJ, gIR, gJI, gJJ, gJR, gRI, gRJ, glI, glJ, glR, uI]; simpa using a6, by simp only [gII, Nat.reduceEqDiff, if_false, if_true, a7], fun i => ?_, by simp only [gII, Nat.reduceEqDiff, if_false]; exact a9, ?_, ?_, ?_, ?_, ?_, ?_⟩
      · simp only [gII, Nat.reduceEqDiff, if_false, if_true]
        unfold uI
        split
        · exact hv
        · exact a8 i
      · unfold SRw nO ndR ndF at a10 ⊢; simp only [gII, gJI, Nat.reduceEqDiff, if_false, u]; exact a10
      · simp only [gJI]; exact a11
      · simp only [gII, gJI, Nat.reduceEqDiff, if_false]; exact a12
      · unfold SOr at a13 ⊢; simp only [gII, Nat.reduceEqDiff, if_false]; exact a13
      · unfold SRv at a14 ⊢; simp only [gII, gJI, Nat.reduceEqDiff, if_false]; exact a14
      · unfold SLv SDs at a15 ⊢; simp only [gII, Nat.reduceEqDiff, if_false]; exact a15
end SA
