-- needs: 75
/-! YARD: looks at a row -/
def bxa (R L : Nat → Int32) (v t : Int32) : Nat → Int32
  | 0 => -1
  | i + 1 => if R i = v ∧ L i = t then nI i else bxa R L v t i
def wtR (R wt : Nat → Int32) (n : Nat) (v : Int32) : Int32 := sm (fun i => if R i = v then wt i else 0) n
def othf (R s : Nat → Int32) (v w : Int32) (i : Nat) : Bool := decide (R i = v ∧ ¬ s i = w)
theorem othf_t {R s : Nat → Int32} {v w : Int32} {i : Nat} : othf R s v w i = true ↔ R i = v ∧ ¬ s i = w := decide_eq_true_iff
def sof (R L lv : Nat → Int32) (v b : Int32) (x i : Nat) : Bool := decide (R i = v ∧ L i < b ∧ lv i < lv x)
theorem sof_t {R L lv : Nat → Int32} {v b : Int32} {x i : Nat} : sof R L lv v b x i = true ↔ R i = v ∧ L i < b ∧ lv i < lv x := decide_eq_true_iff
theorem bxa_c {R L R' L' : Nat → Int32} {v t : Int32} : ∀ n, (∀ i, i < n → R' i = R i ∧ L' i = L i) → bxa R' L' v t n = bxa R L v t n
  | 0, _ => rfl
  | n + 1, h => by rw [bxa, bxa, (h n (by omega)).1, (h n (by omega)).2, bxa_c n (fun i hi => h i (by omega))]
theorem bxa_1 {R L : Nat → Int32} {v t : Int32} {i : Nat} (h1 : R i = v) (h2 : L i = t) : ∀ n, i < n → (∀ j, j < n → R j = v → L j = t → j = i) → bxa R L v t n = nI i
  | 0, h, _ => by omega
  | n + 1, h, hu => by
    rw [bxa]
    by_cases z : R n = v ∧ L n = t
    · rw [if_pos z, hu n (by omega) z.1 z.2]
    · rw [if_neg z]
      have : i ≠ n := fun q => z (by rw [← q]; exact ⟨h1, h2⟩)
      exact bxa_1 h1 h2 n (by omega) (fun j hj => hu j (by omega))
theorem bxa_0 {R L : Nat → Int32} {v t : Int32} : ∀ n, (∀ j, j < n → ¬ (R j = v ∧ L j = t)) → bxa R L v t n = -1
  | 0, _ => rfl
  | n + 1, h => by rw [bxa, if_neg (h n (by omega)), bxa_0 n (fun j hj => h j (by omega))]
section YC
variable {xs : Nat → Int32} {xl d : Nat} {C M : dp_M}
/-- the boxes of a row, by tiers -/
theorem CY.en {n W H G : Nat} {R L : Nat → Int32} {h : List (Nat × Int32)} {m : Int32} (y : CY C n W H G R L h m) (w : YW n W H R L) (hn : n ≤ 100) {r : Nat} (hr : r < W) (hW : W ≤ 20) : ∃ e : Nat → Nat, (∀ l, l < hR R n r → e l < n ∧ dp_I C 36 (r * H + l) = nI (e l) ∧ R (e l) = nI r ∧ L (e l) = nI l) ∧ (∀ l k, l < hR R n r → k < hR R n r → e l = e k → l = k) ∧ ∀ i, i < n → R i = nI r → ∃ l, l < hR R n r ∧ e l = i ∧ L i = nI l := by
  obtain ⟨a1, a2, a3, a4, a5, a6, a7, a8, a9, a10, a11, -⟩ := y
  have ex : ∀ l, ∃ i, l < hR R n r → i < n ∧ dp_I C 36 (r * H + l) = nI i ∧ R i = nI r ∧ L i = nI l := fun l => by
    by_cases z : l < hR R n r
    · obtain ⟨i, h1⟩ := a11 r l hr z
      exact ⟨i, fun _ => h1⟩
    · exact ⟨0, fun q => absurd q z⟩
  have hle : hR R n r ≤ n := ct_le _ _
  refine ⟨fun l => Classical.choose (ex l), fun l => Classical.choose_spec (ex l), fun l k hl hk e => ?_, fun i hi e => ?_⟩
  · have h1 := (Classical.choose_spec (ex l) hl).2.2.2
    have h2 := (Classical.choose_spec (ex k) hk).2.2.2
    have e' : Classical.choose (ex l) = Classical.choose (ex k) := e
    rw [e', h2, nI_eq (by omega) (by omega)] at h1
    exact h1.symm
  · rcases w.1 i hi with q | ⟨r', l, q1, q2, q3, q4⟩
    · exact absurd (by rw [← e, q.1]) (m1_ne (r := r) (by omega))
    · have : r' = r := by rw [e, nI_eq (by omega) (by omega)] at q3; exact q3.symm
      subst this
      obtain ⟨b1, b2, b3, b4⟩ := Classical.choose_spec (ex l) q2
      exact ⟨l, q2, w.2.1 _ i r' b1 hi hr b3 e (by rw [b4, q4]), q4⟩
theorem yc_at {n W H G : Nat} {R L : Nat → Int32} {h : List (Nat × Int32)} {m : Int32} (y : CY C n W H G R L h m) (w : YW n W H R L) (hn : n ≤ 100) {r : Nat} (hr : r < W) (hW : W ≤ 20) (hH : H ≤ 8) (v : Int32) : dp_den true xs xl (d + 1) 226 [.ref 28, .int (nI r), .int v] C = iR (bxa R L (nI r) v n) C := by
  obtain ⟨e, e1, e2, e3⟩ := y.en w hn hr hW
  obtain ⟨a1, a2, a3, a4, a5, a6, a7, a8, a9, a10, a11, -⟩ := y
  have hle : hR R n r ≤ n := ct_le _ _
  have hle2 := w.2.2 r hr
  have no : (¬ qin v (hR R n r)) → bxa R L (nI r) v n = -1 := fun q => bxa_0 n (fun j hj z => by
    obtain ⟨l, l1, l2, l3⟩ := e3 j hj z.1
    apply q
    rw [← z.2, l3]; exact qin_nI l1 (by omega))
  rw [D_X10_boxAt_0_den, D_X10_boxAt_0_eq]
  simp only [nI_cl (show r < 2147483648 by omega), a4, nI_o hr (by omega), if_false, a10 r hr, a2]
  rcases pk_ix v (show hR R n r < 2147483648 by omega) with q | q | ⟨l, hl, rfl⟩
  · rw [if_pos q, no (fun z => z (Or.inl q))]
  · rw [if_neg (q_ge0 q (by omega)), if_pos q, no (q_nin q (by omega))]
  · obtain ⟨b1, b2, b3, b4⟩ := e1 l hl
    have hb := rH_lt hr (show l < H by omega)
    have bb := rH_b hW hH
    rw [if_neg (nI_pos (by omega)), if_neg (nI_nge hl (by omega))]
    simp only [pk_mul, nI_add, nI_cl (show r * H + l < 2147483648 by omega), a7, nI_o hb (by omega), if_false, b2]
    rw [bxa_1 b3 b4 n b1 (fun j hj q1 q2 => w.2.1 j (e l) r hj b1 hr q1 b3 (by rw [q2, b4]))]
theorem yc_atl {n W H G : Nat} {R L : Nat → Int32} {h : List (Nat × Int32)} {m : Int32} (y : CY C n W H G R L h m) (w : YW n W H R L) (hn : n ≤ 100) {r l i : Nat} (hr : r < W) (hW : W ≤ 20) (hH : H ≤ 8) (hi : i < n) (b3 : R i = nI r) (b4 : L i = nI l) : dp_den true xs xl (d + 1) 226 [.ref 28, .int (nI r), .int (nI l)] C = iR (nI i) C := by
  rw [yc_at y w hn hr hW hH, bxa_1 b3 b4 n hi (fun j hj q1 q2 => w.2.1 j i r hj hi hr q1 b3 (by rw [q2, b4]))]
theorem yc_wt {n W H G : Nat} {R L : Nat → Int32} {h : List (Nat × Int32)} {m : Int32} (y : CY C n W H G R L h m) (w : YW n W H R L) (hn : n ≤ 100) {r : Nat} (hr : r < W) (hW : W ≤ 20) (hH : H ≤ 8) : dp_den true xs xl (d + 2) 230 [.ref 28, .int (nI r)] C = iR (wtR R (dp_I C 5) n (nI r)) C := by
  obtain ⟨e, e1, e2, e3⟩ := y.en w hn hr hW
  have hle : hR R n r ≤ n := ct_le _ _
  have sum : sm (fun l => dp_I C 5 (e l)) (hR R n r) = wtR R (dp_I C 5) n (nI r) := by
    rw [bij_sm (f := dp_I C 5) (n := n) (hR R n r) (rwf R (nI r)) e (fun l hl => ⟨(e1 l hl).1, rwf_t.mpr (e1 l hl).2.2.1⟩) e2 (fun i hi q => by
      obtain ⟨l, l1, l2, -⟩ := e3 i hi (rwf_t.mp q)
      exact ⟨l, l1, l2⟩)]
    unfold wtR
    refine sm_c (fun i _ => ?_)
    by_cases z : R i = nI r
    · rw [if_pos z, if_pos (rwf_t.mpr z)]
    · rw [if_neg z, if_neg (fun q => z (rwf_t.mp q))]
  rw [D_X10_weightOf_0_den, D_X10_weightOf_0_eq, ← sum]
  simp only [dp_w]
  have y' := y
  obtain ⟨a1, a2, a3, a4, a5, a6, a7, a8, a9, a10, a11, -⟩ := y'
  refine lp_sm (F := fun (a : Int32) i => D_X10_weightOf_4 xs xl (d + 1) (nI r) a (nI i) C) (fun l => dp_I C 5 (e l)) (N := hR R n r) (fun a => ?_) (fun i a rr hi hr2 => ?_)
  · (try dsimp only)
    rw [D_X10_weightOf_4_eq]
    simp only [nI_cl (show r < 2147483648 by omega), a4, nI_o hr (by omega), if_false, a10 r hr]
    rw [if_pos (nI_lle (Nat.le_refl _) (by omega))]
  · (try dsimp only at hr2); (try dsimp only)
    obtain ⟨b1, b2, b3, b4⟩ := e1 i hi
    rw [D_X10_weightOf_4_eq]
    simp only [nI_cl (show r < 2147483648 by omega), a4, nI_o hr (by omega), if_false, a10 r hr]
    rw [if_neg (nI_nge hi (by omega)), yc_atl y w hn hr hW hH b1 b3 b4, rb_bi]
    simp only [nI_cl (show e i < 2147483648 by omega), nI_o (show e i < 100 by omega) (by omega), if_false, dp_w, nI_1]
    exact hr2
theorem an_en {R s : Nat → Int32} {n : Nat} {v w : Int32} {h : Nat} {e : Nat → Nat} (h1 : ∀ l, l < h → e l < n ∧ R (e l) = v) (h3 : ∀ i, i < n → R i = v → ∃ l, l < h ∧ e l = i) : (an (fun l => decide (¬ s (e l) = w)) h = true) = (an (othf R s v w) n = true) := by
  apply propext
  rw [an_iff, an_iff]
  constructor
  · rintro ⟨l, l1, l2⟩
    obtain ⟨b1, b2⟩ := h1 l l1
    exact ⟨e l, b1, othf_t.mpr ⟨b2, of_decide_eq_true l2⟩⟩
  · rintro ⟨i, i1, i2⟩
    obtain ⟨b1, b2⟩ := othf_t.mp i2
    obtain ⟨l, l1, l2⟩ := h3 i i1 b1
    exact ⟨l, l1, decide_eq_true (by rw [l2]; exact b2)⟩
theorem yc_osp {n W H G : Nat} {R L : Nat → Int32} {h : List (Nat × Int32)} {m : Int32} (y : CY C n W H G R L h m) (w : YW n W H R L) (hn : n ≤ 100) {r : Nat} (hr : r < W) (hW : W ≤ 20) (hH : H ≤ 8) (v : Int32) : dp_den true xs xl (d + 2) 231 [.ref 28, .int (nI r), .int v] C = iR (bI (an (othf R (dp_I C 7) (nI r) v) n = true)) C := by
  obtain ⟨e, e1, e2, e3⟩ := y.en w hn hr hW
  have hle : hR R n r ≤ n := ct_le _ _
  have eq := an_en (R := R) (s := dp_I C 7) (n := n) (v := nI r) (w := v) (h := hR R n r) (e := e) (fun l hl => ⟨(e1 l hl).1, (e1 l hl).2.2.1⟩) (fun i hi q => by obtain ⟨l, l1, l2, -⟩ := e3 i hi q; exact ⟨l, l1, l2⟩)
  rw [D_X10_hasOtherShip_0_den, D_X10_hasOtherShip_0_eq]
  simp only [dp_w, ← eq]
  have y' := y
  obtain ⟨a1, a2, a3, a4, a5, a6, a7, a8, a9, a10, a11, -⟩ := y'
  refine lp_ex (F := fun i => D_X10_hasOtherShip_2 xs xl (d + 1) (nI r) v (nI i) C) (fun l => decide (¬ dp_I C 7 (e l) = v)) (N := hR R n r) ?_ (fun i hi hp => ?_) (fun i rr hi hp hr2 => ?_)
  · (try dsimp only)
    rw [D_X10_hasOtherShip_2_eq]
    simp only [nI_cl (show r < 2147483648 by omega), a4, nI_o hr (by omega), if_false, a10 r hr]
    rw [if_pos (nI_lle (Nat.le_refl _) (by omega))]
  · (try dsimp only)
    obtain ⟨b1, b2, b3, b4⟩ := e1 i hi
    rw [D_X10_hasOtherShip_2_eq]
    simp only [nI_cl (show r < 2147483648 by omega), a4, nI_o hr (by omega), if_false, a10 r hr]
    rw [if_neg (nI_nge hi (by omega)), yc_atl y w hn hr hW hH b1 b3 b4, rb_bi]
    simp only [nI_cl (show e i < 2147483648 by omega), nI_o (show e i < 100 by omega) (by omega), if_false]
    rw [if_neg (of_decide_eq_true hp)]
  · (try dsimp only at hr2); (try dsimp only)
    obtain ⟨b1, b2, b3, b4⟩ := e1 i hi
    rw [D_X10_hasOtherShip_2_eq]
    simp only [nI_cl (show r < 2147483648 by omega), a4, nI_o hr (by omega), if_false, a10 r hr]
    rw [if_neg (nI_nge hi (by omega)), yc_atl y w hn hr hW hH b1 b3 b4, rb_bi]
    simp only [nI_cl (show e i < 2147483648 by omega), nI_o (show e i < 100 by omega) (by omega), if_false, dp_w, nI_1]
    rw [if_pos (Classical.not_not.mp (of_decide_eq_false hp))]
    exact hr2
theorem yc_osz {n W H G : Nat} {R L : Nat → Int32} {h : List (Nat × Int32)} {m : Int32} (y : CY C n W H G R L h m) (w : YW n W H R L) (hn : n ≤ 100) {r : Nat} (hr : r < W) (hW : W ≤ 20) (hH : H ≤ 8) (v : Int32) : dp_den true xs xl (d + 2) 232 [.ref 28, .int (nI r), .int v] C = iR (bI (an (othf R (dp_I C 4) (nI r) v) n = true)) C := by
  obtain ⟨e, e1, e2, e3⟩ := y.en w hn hr hW
  have hle : hR R n r ≤ n := ct_le _ _
  have eq := an_en (R := R) (s := dp_I C 4) (n := n) (v := nI r) (w := v) (h := hR R n r) (e := e) (fun l hl => ⟨(e1 l hl).1, (e1 l hl).2.2.1⟩) (fun i hi q => by obtain ⟨l, l1, l2, -⟩ := e3 i hi q; exact ⟨l, l1, l2⟩)
  rw [D_X10_hasOtherSize_0_den, D_X10_hasOtherSize_0_eq]
  simp only [dp_w, ← eq]
  have y' := y
  obtain ⟨a1, a2, a3, a4, a5, a6, a7, a8, a9, a10, a11, -⟩ := y'
  refine lp_ex (F := fun i => D_X10_hasOtherSize_2 xs xl (d + 1) (nI r) v (nI i) C) (fun l => decide (¬ dp_I C 4 (e l) = v)) (N := hR R n r) ?_ (fun i hi hp => ?_) (fun i rr hi hp hr2 => ?_)
  · (try dsimp only)
    rw [D_X10_hasOtherSize_2_eq]
    simp only [nI_cl (show r < 2147483648 by omega), a4, nI_o hr (by omega), if_false, a10 r hr]
    rw [if_pos (nI_lle (Nat.le_refl _) (by omega))]
  · (try dsimp only)
    obtain ⟨b1, b2, b3, b4⟩ := e1 i hi
    rw [D_X10_hasOtherSize_2_eq]
    simp only [nI_cl (show r < 2147483648 by omega), a4, nI_o hr (by omega), if_false, a10 r hr]
    rw [if_neg (nI_nge hi (by omega)), yc_atl y w hn hr hW hH b1 b3 b4, rb_bi]
    simp only [nI_cl (show e i < 2147483648 by omega), nI_o (show e i < 100 by omega) (by omega), if_false]
    rw [if_neg (of_decide_eq_true hp)]
  · (try dsimp only at hr2); (try dsimp only)
    obtain ⟨b1, b2, b3, b4⟩ := e1 i hi
    rw [D_X10_hasOtherSize_2_eq]
    simp only [nI_cl (show r < 2147483648 by omega), a4, nI_o hr (by omega), if_false, a10 r hr]
    rw [if_neg (nI_nge hi (by omega)), yc_atl y w hn hr hW hH b1 b3 b4, rb_bi]
    simp only [nI_cl (show e i < 2147483648 by omega), nI_o (show e i < 100 by omega) (by omega), if_false, dp_w, nI_1]
    rw [if_pos (Classical.not_not.mp (of_decide_eq_false hp))]
    exact hr2
theorem yc_soo {n W H G : Nat} {R L : Nat → Int32} {h : List (Nat × Int32)} {m : Int32} (y : CY C n W H G R L h m) (w : YW n W H R L) (hn : n ≤ 100) {r b x : Nat} (hr : r < W) (hW : W ≤ 20) (hH : H ≤ 8) (hb : b ≤ hR R n r) (hx : x < n) : dp_den true xs xl (d + 2) 233 [.ref 28, .int (nI x), .int (nI r), .int (nI b)] C = iR (nI (ct (sof R L (dp_I C 6) (nI r) (nI b) x) n)) C := by
  obtain ⟨e, e1, e2, e3⟩ := y.en w hn hr hW
  have hle : hR R n r ≤ n := ct_le _ _
  have eq : ct (fun l => decide (dp_I C 6 (e l) < dp_I C 6 x)) b = ct (sof R L (dp_I C 6) (nI r) (nI b) x) n := by
    have := bij_ct (q := fun i => decide (dp_I C 6 i < dp_I C 6 x)) (n := n) b (fun i => decide (R i = nI r ∧ L i < nI b)) e (fun l hl => by
      obtain ⟨b1, b2, b3, b4⟩ := e1 l (by omega)
      exact ⟨b1, decide_eq_true ⟨b3, by rw [b4]; exact nI_lt hl (by omega)⟩⟩) (fun l k q1 q2 => e2 l k (by omega) (by omega)) (fun i hi q => by
      obtain ⟨q1, q2⟩ := of_decide_eq_true q
      obtain ⟨l, l1, l2, l3⟩ := e3 i hi q1
      refine ⟨l, ?_, l2⟩
      rw [l3, Int32.lt_iff_toInt_lt, nI_toInt (by omega), nI_toInt (by omega)] at q2
      omega)
    rw [this]
    refine ct_c (fun i _ => ?_)
    unfold sof
    by_cases z : R i = nI r ∧ L i < nI b
    · simp [z.1, z.2]
    · have : ¬ (R i = nI r ∧ L i < nI b ∧ dp_I C 6 i < dp_I C 6 x) := fun q => z ⟨q.1, q.2.1⟩
      simp only [z, this, decide_false, Bool.false_and]
  rw [D_X10_sooner_0_den, D_X10_sooner_0_eq, ← eq]
  simp only [dp_w]
  refine lpb (F := fun (a : Nat) i => D_X10_sooner_6 xs xl (d + 1) (nI x) (nI r) (nI b) (nI a) (nI i) C) (s := ct (fun l => decide (dp_I C 6 (e l) < dp_I C 6 x))) (N := b) ?_ (fun i hi hr2 => ?_)
  · (try dsimp only)
    rw [D_X10_sooner_6_eq, if_pos (nI_lle (Nat.le_refl _) (by omega))]
  · (try dsimp only at hr2); (try dsimp only)
    obtain ⟨b1, b2, b3, b4⟩ := e1 i (by omega)
    rw [ct] at hr2
    rw [D_X10_sooner_6_eq, if_neg (nI_nge hi (by omega)), yc_atl y w hn hr hW hH b1 b3 b4, rb_bi]
    simp only [nI_cl (show e i < 2147483648 by omega), nI_o (show e i < 100 by omega) (by omega), nI_cl (show x < 2147483648 by omega), nI_o (show x < 100 by omega) (by omega), if_false, dp_w, nI_1, Int32.add_zero]
    by_cases z : dp_I C 6 x ≤ dp_I C 6 (e i)
    · rw [if_neg (show ¬ decide (dp_I C 6 (e i) < dp_I C 6 x) = true by rw [decide_eq_true_eq]; exact Int32.not_lt.mpr z)] at hr2
      rw [if_pos z]; exact hr2
    · rw [if_pos (decide_eq_true (Int32.not_le.mp z))] at hr2
      rw [if_neg z]; exact hr2
/-- the model -/
theorem ym_at {n : Nat} (h3 : dp_I M 114 3 = nI n) (hn : n ≤ 100) (v1 v2 : Int32) : dp_den true xs xl (d + 1) 398 [.ref 114, .int v1, .int v2] M = iR (bxa (dp_I M 140) (dp_I M 141) v1 v2 n) M := by
  rw [D_X12_boxAt_0_den, D_X12_boxAt_0_eq]
  simp only [dp_w]
  refine lpb (F := fun (a : Int32) i => D_X12_boxAt_5 xs xl d v1 v2 a (nI i) M) (s := bxa (dp_I M 140) (dp_I M 141) v1 v2) (N := n) ?_ (fun i hi hr => ?_)
  · (try dsimp only)
    rw [D_X12_boxAt_5_eq, h3, if_pos (nI_lle (Nat.le_refl _) (by omega))]
  · (try dsimp only at hr); (try dsimp only)
    rw [bxa] at hr
    rw [D_X12_boxAt_5_eq, h3, if_neg (nI_nge hi (by omega))]
    simp only [nI_cl (show i < 2147483648 by omega), nI_o (show i < 100 by omega) (by omega), if_false, dp_w, nI_1]
    by_cases z1 : dp_I M 140 i = v1
    · rw [if_pos z1]
      by_cases z2 : dp_I M 141 i = v2
      · rw [if_pos ⟨z1, z2⟩] at hr
        rw [if_pos z2]; exact hr
      · rw [if_neg (fun q => z2 q.2)] at hr
        rw [if_neg z2]; exact hr
    · rw [if_neg (fun q => z1 q.1)] at hr
      rw [if_neg z1]; exact hr
theorem ym_wt {n : Nat} (h3 : dp_I M 114 3 = nI n) (hn : n ≤ 100) (v1 : Int32) : dp_den true xs xl (d + 1) 397 [.ref 114, .int v1] M = iR (wtR (dp_I M 140) (dp_I M 137) n v1) M := by
  rw [D_X12_weightOf_0_den, D_X12_weightOf_0_eq]
  simp only [dp_w]
  refine lp_sm (F := fun (a : Int32) i => D_X12_weightOf_4 xs xl d v1 a (nI i) M) (fun i => if dp_I M 140 i = v1 then dp_I M 137 i else 0) (N := n) (fun a => ?_) (fun i a rr hi hr => ?_)
  · (try dsimp only)
    rw [D_X12_weightOf_4_eq, h3, if_pos (nI_lle (Nat.le_refl _) (by omega))]
  · (try dsimp only at hr); (try dsimp only)
    rw [D_X12_weightOf_4_eq, h3, if_neg (nI_nge hi (by omega))]
    simp only [nI_cl (show i < 2147483648 by omega), nI_o (show i < 100 by omega) (by omega), if_false, dp_w, nI_1]
    by_cases z1 : dp_I M 140 i = v1
    · rw [if_pos z1] at hr
      rw [if_pos z1]; exact hr
    · rw [if_neg z1] at hr
      rw [if_neg z1]; exact hr
theorem an_s {p : Nat → Bool} {i : Nat} : bI (an p (i + 1) = true) = if an p i = true then 1 else bI (p i = true) := by
  rw [an]
  by_cases y : an p i = true
  · rw [if_pos y, y, Bool.true_or, bI_t rfl]
  · rw [if_neg y, Bool.eq_false_iff.mpr y, Bool.false_or]
theorem ym_osz {n x : Nat} (h3 : dp_I M 114 3 = nI n) (hn : n ≤ 100) (hx : x < n) (v2 : Int32) : dp_den true xs xl (d + 1) 400 [.ref 114, .int (nI x), .int v2] M = iR (bI (an (othf (dp_I M 140) (dp_I M 135) v2 (dp_I M 135 x)) n = true)) M := by
  rw [D_X12_hasOtherSize_0_den, D_X12_hasOtherSize_0_eq]
  simp only [dp_w]
  refine lpb (F := fun (a : Int32) i => D_X12_hasOtherSize_5 xs xl d (nI x) v2 a (nI i) M) (s := fun i => bI (an (othf (dp_I M 140) (dp_I M 135) v2 (dp_I M 135 x)) i = true)) (N := n) ?_ (fun i hi hr => ?_)
  · (try dsimp only)
    rw [D_X12_hasOtherSize_5_eq, h3, if_pos (nI_lle (Nat.le_refl _) (by omega)), if_pos (by rw [bI_01]; trivial)]
  · (try dsimp only at hr); (try dsimp only)
    rw [an_s] at hr
    rw [D_X12_hasOtherSize_5_eq, h3, if_neg (nI_nge hi (by omega)), ibz]
    simp only [nI_cl (show i < 2147483648 by omega), nI_o (show i < 100 by omega) (by omega), nI_cl (show x < 2147483648 by omega), nI_o (show x < 100 by omega) (by omega), if_false, dp_w, nI_1]
    by_cases y : an (othf (dp_I M 140) (dp_I M 135) v2 (dp_I M 135 x)) i = true
    · rw [if_pos y] at hr
      rw [if_pos y]; exact hr
    · rw [if_neg y] at hr
      rw [if_neg y]
      by_cases z1 : dp_I M 140 i = v2
      · rw [if_pos z1]
        by_cases z2 : dp_I M 135 i = dp_I M 135 x
        · rw [bI_f (fun q => (othf_t.mp q).2 z2)] at hr
          rw [if_pos z2]; exact hr
        · rw [bI_t (othf_t.mpr ⟨z1, z2⟩)] at hr
          rw [if_neg z2]; exact hr
      · rw [bI_f (fun q => z1 (othf_t.mp q).1)] at hr
        rw [if_neg z1]; exact hr
theorem ym_soo {n x : Nat} (h3 : dp_I M 114 3 = nI n) (hn : n ≤ 100) (hx : x < n) (v2 v3 : Int32) : dp_den true xs xl (d + 1) 401 [.ref 114, .int (nI x), .int v2, .int v3] M = iR (nI (ct (sof (dp_I M 140) (dp_I M 141) (dp_I M 138) v2 v3 x) n)) M := by
  rw [D_X12_sooner_0_den, D_X12_sooner_0_eq]
  simp only [dp_w]
  refine lpb (F := fun (a : Nat) i => D_X12_sooner_6 xs xl d (nI x) v2 v3 (nI a) (nI i) M) (s := ct (sof (dp_I M 140) (dp_I M 141) (dp_I M 138) v2 v3 x)) (N := n) ?_ (fun i hi hr => ?_)
  · (try dsimp only)
    rw [D_X12_sooner_6_eq, h3, if_pos (nI_lle (Nat.le_refl _) (by omega))]
  · (try dsimp only at hr); (try dsimp only)
    rw [ct] at hr
    rw [D_X12_sooner_6_eq, h3, if_neg (nI_nge hi (by omega))]
    simp only [nI_cl (show i < 2147483648 by omega), nI_o (show i < 100 by omega) (by omega), nI_cl (show x < 2147483648 by omega), nI_o (show x < 100 by omega) (by omega), if_false, dp_w, nI_1, Int32.add_zero]
    by_cases z1 : dp_I M 140 i = v2
    · rw [if_pos z1]
      by_cases z2 : v3 ≤ dp_I M 141 i
      · rw [if_neg (fun q => Int32.not_lt.mpr z2 (sof_t.mp q).2.1)] at hr
        rw [if_pos z2]; exact hr
      · rw [if_neg z2]
        by_cases z3 : dp_I M 138 x ≤ dp_I M 138 i
        · rw [if_neg (fun q => Int32.not_lt.mpr z3 (sof_t.mp q).2.2)] at hr
          rw [if_pos z3]; exact hr
        · rw [if_pos (sof_t.mpr ⟨z1, Int32.not_le.mp z2, Int32.not_le.mp z3⟩)] at hr
          rw [if_neg z3]; exact hr
    · rw [if_neg (fun q => z1 (sof_t.mp q).1)] at hr
      rw [if_neg z1]; exact hr
end YC
