/-! HOLD: class and model side by side -/
def hbf (bay S : Nat → Int32) (b s : Int32) (i : Nat) : Bool := decide (bay i = b ∧ S i = s)
def lyf (bay S : Nat → Int32) (b : Int32) (i : Nat) : Bool := decide (bay i = b ∧ ¬ S i = 3)
theorem hbf_t {bay S : Nat → Int32} {b s : Int32} {i : Nat} : hbf bay S b s i = true ↔ bay i = b ∧ S i = s := decide_eq_true_iff
theorem lyf_t {bay S : Nat → Int32} {b : Int32} {i : Nat} : lyf bay S b i = true ↔ bay i = b ∧ ¬ S i = 3 := decide_eq_true_iff
/-- a move that may be done: a box of the bay that lies, is on top of its stack, onto a stack with room, aside, or ashore behind those ahead of it -/
def mvo (bay needs : Nat → Int32) (n T b : Nat) (S D : Nat → Int32) (x t : Nat) : Prop :=
  x < n ∧ bay x = nI b ∧ ¬ S x = 3 ∧ t < 5 ∧ ¬ S x = nI t ∧ (t < 3 → ct (hbf bay S (nI b) (nI t)) n < T) ∧
  (∀ s, s < 3 → S x = nI s → D x = nI (ct (hbf bay S (nI b) (nI s)) n) - 1) ∧ (t = 3 → ∀ y, y < n → bay y = nI b → needs (y * 100 + x) = 1 → S y = 3)
/-- what the move makes of the tiers -/
def mvD (bay : Nat → Int32) (n b : Nat) (S D : Nat → Int32) (x t : Nat) : Nat → Int32 := uI D x (if t < 3 then nI (ct (hbf bay S (nI b) (nI t)) n) else -1)
/-- the moves that are left of a plan may be done one after the other -/
def PV (bay needs : Nat → Int32) (n T b : Nat) (mb mt : Nat → Nat) : Nat → Nat → (Nat → Int32) → (Nat → Int32) → Prop
  | 0, _, _, _ => True
  | k + 1, e, S, D => mvo bay needs n T b S D (mb e) (mt e) ∧ PV bay needs n T b mb mt k (e + 1) (uI S (mb e) (nI (mt e))) (mvD bay n b S D (mb e) (mt e))
/-- the boxes -/
def HSt (n B T : Nat) (port bay S D needs : Nat → Int32) : Prop :=
  (∀ i, i < n → qin (port i) 6 ∧ qin (bay i) B ∧ qin (S i) 5) ∧
  (∀ i, i < n → ∀ s, s < 5 → S i = nI s → (3 ≤ s → D i = -1) ∧ (s < 3 → qin (D i) (ct (hbf bay S (bay i) (nI s)) n))) ∧
  (∀ i j s, i < n → j < n → s < 3 → bay i = bay j → S i = nI s → S j = nI s → D i = D j → i = j) ∧
  (∀ b s, b < B → s < 3 → ct (hbf bay S (nI b) (nI s)) n ≤ T) ∧ (∀ b, b < B → ct (lyf bay S (nI b)) n ≤ 4) ∧ (∀ k, needs k = 0 ∨ needs k = 1) ∧
  ∀ x y, y < 100 → needs (x * 100 + y) = 1 → x < n ∧ y < n ∧ bay x = bay y ∧ (S y = 3 → S x = 3)
/-- the plan of a bay -/
def HPl (M : dp_M) (n T b : Nat) : Prop :=
  (dp_I M 120 b = 0 ∧ dp_I M 25 b = -1) ∨
  (dp_I M 120 b = 1 ∧ ∃ L e : Nat, e ≤ L ∧ L ≤ 16 ∧ dp_I M 25 b = nI L ∧ dp_I M 121 b = nI L ∧ dp_I M 26 b = nI e ∧ dp_I M 122 b = nI e ∧
    ∃ mb mf mt : Nat → Nat, (∀ i, i < L → mb i < 100 ∧ mf i < 7 ∧ mt i < 5 ∧ dp_I M 27 (b * 16 + i) = nI (mb i * 64 + mf i * 8 + mt i) ∧ dp_I M 123 (b * 40 + i) = nI (mb i) ∧ dp_I M 124 (b * 40 + i) = nI (mf i) ∧ dp_I M 125 (b * 40 + i) = nI (mt i)) ∧
      PV (dp_I M 8) (dp_I M 12) n T b mb mt (L - e) e (dp_I M 9) (dp_I M 10))
def HR (M : dp_M) (n B T : Nat) : Prop := n ≤ 100 ∧ 1 ≤ B ∧ B ≤ 12 ∧ 1 ≤ T ∧ T ≤ 4 ∧ dp_I M 1 2 = nI n ∧ dp_I M 114 3 = nI n ∧ dp_I M 1 0 = nI B ∧ dp_I M 114 1 = nI B ∧ dp_I M 1 1 = nI T ∧ dp_I M 114 2 = nI T ∧ dp_I M 114 9 = dp_I M 1 3 ∧ dp_len M 25 = B ∧ dp_len M 26 = B ∧ dp_len M 27 = B * 16 ∧
  dp_I M 115 = dp_I M 2 ∧ dp_I M 116 = dp_I M 8 ∧ dp_I M 117 = dp_I M 9 ∧ dp_I M 118 = dp_I M 10 ∧ dp_I M 119 = dp_I M 12 ∧ dp_I M 136 = dp_I M 3 ∧ dp_I M 135 = dp_I M 4 ∧ dp_I M 137 = dp_I M 5 ∧ dp_I M 138 = dp_I M 6 ∧ dp_I M 139 = dp_I M 7 ∧
  (∀ i, i < n → qin (dp_I M 3 i) 3 ∧ wi (dp_I M 4 i) 1 3 ∧ wi (dp_I M 5 i) 1 40 ∧ qin (dp_I M 6 i) 1001 ∧ wi (dp_I M 7 i) 1 9) ∧
  HSt n B T (dp_I M 2) (dp_I M 8) (dp_I M 9) (dp_I M 10) (dp_I M 12) ∧ ∀ b, b < B → HPl M n T b
def HR_S : List Nat := [1, 2, 3, 4, 5, 6, 7, 8, 9, 10, 12, 25, 26, 27, 115, 116, 117, 118, 119, 120, 121, 122, 123, 124, 125, 135, 136, 137, 138, 139]
def HR_T : List Nat := [1, 2, 3, 9]
theorem HR_off {S T : List Nat} {M M' : dp_M} {n B t : Nat} (h : HR M n B t) (o : Off S T M M') (hS : ∀ k ∈ HR_S, k ∉ S) (hT : ∀ i ∈ HR_T, i ∉ T) : HR M' n B t := by
  have e : ∀ k ∈ HR_S, dp_I M' k = dp_I M k := fun k hk => by
    have := o.1 k (by simp only [HR_S, List.mem_cons, List.not_mem_nil, or_false] at hk; omega) (hS k hk) (by simp only [HR_S, List.mem_cons, List.not_mem_nil, or_false] at hk; omega)
    exact this.1
  have f : ∀ i ∈ HR_T, dp_I M' 114 i = dp_I M 114 i := fun i hi => (o.2.1 i (hT i hi)).1
  have l := o.2.2.1
  unfold HR HPl at h ⊢
  simp only [e 1 (by decide), e 2 (by decide), e 3 (by decide), e 4 (by decide), e 5 (by decide), e 6 (by decide), e 7 (by decide), e 8 (by decide), e 9 (by decide), e 10 (by decide), e 12 (by decide), e 25 (by decide), e 26 (by decide), e 27 (by decide), e 115 (by decide), e 116 (by decide), e 117 (by decide), e 118 (by decide), e 119 (by decide), e 120 (by decide), e 121 (by decide), e 122 (by decide), e 123 (by decide), e 124 (by decide), e 125 (by decide), e 135 (by decide), e 136 (by decide), e 137 (by decide), e 138 (by decide), e 139 (by decide), f 1 (by decide), f 2 (by decide), f 3 (by decide), f 9 (by decide), l 25 (by decide), l 26 (by decide), l 27 (by decide)]
  exact h
section HA
variable {xs : Nat → Int32} {xl d : Nat} {M : dp_M}
theorem HR.same {n B T : Nat} (h : HR M n B T) : HR (dp_setI M 114 0 0) n B T ∧ Off HR_S (0 :: HR_T) M (dp_setI M 114 0 0) ∧ Cst 0 0 M (dp_setI M 114 0 0) :=
  ⟨HR_off h ((Off.rr [] [0] M).F 0 (by decide) 0) (by decide) (by decide), (Off.rr _ _ M).F 0 (by decide) 0, ⟨Nat.le_refl _, Nat.le_refl _⟩⟩
theorem HR.refused {n B T : Nat} (h : HR M n B T) (hn : 246 ≤ dp_n M) (k : Int32) : HR (dp_setI (dp_new M 0 0 6) 114 0 k) n B T ∧ Off [245] [0] M (dp_setI (dp_new M 0 0 6) 114 0 k) ∧ Cst 1 6 M (dp_setI (dp_new M 0 0 6) 114 0 k) :=
  ⟨HR_off h (((Off.rr [] [0] M).N hn 0 0 6).F 0 (by decide) k) (by decide) (by decide), ((Off.rr _ _ M).N hn 0 0 6).F 0 (by decide) k, ⟨Nat.le_refl _, Nat.le_refl _⟩⟩
theorem HR.looked {n B T : Nat} (h : HR M n B T) (v : Int64) : HR (dp_setI (dp_setJ M 245 0 v) 114 0 0) n B T ∧ Off [245] [0] M (dp_setI (dp_setJ M 245 0 v) 114 0 0) ∧ Cst 1 6 M (dp_setI (dp_setJ M 245 0 v) 114 0 0) :=
  ⟨HR_off h (((Off.rr [245] [0] M).J 245 (by decide) 0 v).F 0 (by decide) 0) (by decide) (by decide), ((Off.rr _ _ M).J 245 (by decide) 0 v).F 0 (by decide) 0, ⟨Nat.le_add_right _ _, Nat.le_add_right _ _⟩⟩
theorem pc_box {v : Int32} {n : Nat} (h : dp_I M 1 2 = nI n) (hn : n ≤ 100) : dp_den true xs xl (d + 2) 253 [.ref 0, .int v] M = iR (bI (qin v n)) M := by
  rw [D_X11_isBox_0_den, D_X11_isBox_0_eq]; exact q_cn h (by omega)
theorem pm_box {v : Int32} {n : Nat} (h : dp_I M 114 3 = nI n) (hn : n ≤ 100) : dp_den true xs xl (d + 1) 371 [.ref 114, .int v] M = iR (bI (qin v n)) M := by
  rw [D_X12_isBox_0_den, D_X12_isBox_0_eq]; exact q_mr h (by omega)
theorem pc_bay {v : Int32} {n : Nat} (h : dp_I M 1 0 = nI n) (hn : n ≤ 12) : dp_den true xs xl (d + 2) 252 [.ref 0, .int v] M = iR (bI (qin v n)) M := by
  rw [D_X11_isBay_0_den, D_X11_isBay_0_eq]; exact q_cn h (by omega)
theorem pm_bay {v : Int32} {n : Nat} (h : dp_I M 114 1 = nI n) (hn : n ≤ 12) : dp_den true xs xl (d + 1) 370 [.ref 114, .int v] M = iR (bI (qin v n)) M := by
  rw [D_X12_isBay_0_den, D_X12_isBay_0_eq]; exact q_mr h (by omega)
/-- aboard -/
theorem s_aboard {n B T : Nat} (h : HR M n B T) (hn : 246 ≤ dp_n M) (v1 v2 : Int32) : ∃ k b M1 M2, dp_den true xs xl (d + 5) 601 [.ref 0, .int v1, .int v2, .ref 245] M = iR k M1 ∧ dp_den true xs xl (d + 5) 394 [.ref 114, .int v1, .int v2] M1 = iR b M2 ∧
    dp_I M2 114 0 = k ∧ (k = 0 → dp_J M2 245 0 = b.toInt64) ∧ HR M2 n B T ∧ Off [245] [0] M M2 ∧ Cst 1 6 M M2 := by
  have h0 := h
  obtain ⟨a1, a2, a3, a4, a5, a6, a7, a8, a9, a10, a11, a12, a13, a14, a15, b1, b2, b3, b4, -⟩ := h
  by_cases g : qin v1 n ∧ qin v2 4
  case neg =>
    refine ⟨1, 0, dp_new M 0 0 6, _, wL_aboard_x2 ?_, ?_, rfl, (fun e => by cases e), h0.refused hn 1⟩
    · rw [D_X11_aboard_0_den, D_X11_aboard_0_eq, pc_box a6 a1]
      simp only [q_win, rb_bi, ibz, q_nk hn, w_3]
      by_cases z1 : qin v1 n
      case neg => rw [if_neg z1]
      rw [if_pos z1, if_neg (fun q => g ⟨z1, q⟩)]
    · rw [D_X12_aboard_0_den, D_X12_aboard_0_eq, pm_box (n := n) (by rw [gIN (by omega)]; exact a7) a1]
      simp only [q_min, q_ref, rb_bi, ibz, w_3]
      by_cases z1 : qin v1 n
      case neg => rw [if_neg z1]
      rw [if_pos z1, if_neg (fun q => g ⟨z1, q⟩)]
  obtain ⟨g1, g2⟩ := g
  obtain ⟨x, hx, rfl⟩ := qin_of g1 (by omega)
  obtain ⟨y, hy, rfl⟩ := qin_of g2 (by omega)
  obtain ⟨W, hW⟩ : ∃ W, W = (if y = 0 then dp_I M 2 x else if y = 1 then dp_I M 8 x else if y = 2 then dp_I M 9 x else dp_I M 10 x) := ⟨_, rfl⟩
  have hcl : dp_den true xs xl (d + 4) 271 [.ref 0, .int (nI x), .int (nI y)] M = iR W M := by
    rw [D_X11_aboard_0_den, D_X11_aboard_0_eq, pc_box a6 a1]
    simp only [q_win, rb_bi, ibz, w_3, if_pos g1, if_pos g2, nI_cl (show x < 2147483648 by omega), nI_o (show x < 100 by omega) (by omega), if_false]
    rw [hW]
    have : y = 0 ∨ y = 1 ∨ y = 2 ∨ y = 3 := by omega
    rcases this with rfl | rfl | rfl | rfl <;> rfl
  refine ⟨0, W, _, dp_setI (dp_setJ M 245 0 W.toInt64) 114 0 0, wL_aboard_ok hcl, ?_, by simp [gII, uI], fun _ => by simp [gJI, gJJ, uI], h0.looked _⟩
  rw [D_X12_aboard_0_den, D_X12_aboard_0_eq, pm_box (n := n) (by rw [gIJ]; exact a7) a1]
  simp only [q_min, rb_bi, ibz, w_3, if_pos g1, if_pos g2, nI_cl (show x < 2147483648 by omega), nI_o (show x < 100 by omega) (by omega), if_false, dp_w, gII, gIJ, Nat.reduceEqDiff, b1, b2, b3, b4]
  rw [hW]
  have : y = 0 ∨ y = 1 ∨ y = 2 ∨ y = 3 := by omega
  rcases this with rfl | rfl | rfl | rfl <;> rfl
end HA
