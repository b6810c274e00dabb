-- needs: 75
/-! YARD: what is broken, and the score -/
def tpR (R L : Nat → Int32) (n r : Nat) : Int32 := bxa R L (nI r) (nI (hR R n r) - 1) n
def brk (n H G : Nat) (R L wt sz sp kd gd rs : Nat → Int32) (x r : Nat) : Int32 :=
  if ¬ rs r = 0 ∧ ¬ rs r = sp x then 2 else if hR R n r = H then 3 else if nI G < wtR R wt n (nI r) + wt x then 4 else if an (othf R sz (nI r) (sz x)) n = true then 5 else
  if 0 < hR R n r ∧ wt (tpR R L n r).toNatClampNeg < wt x then 6 else if kd x = 1 ∧ ¬ gd r = 1 then 7 else if (kd x = 2 ↔ gd r = 2) then 0 else 8
def scr (n : Nat) (R L wt lv sp rs : Nat → Int32) (x r : Nat) : Int32 :=
  if hR R n r = 0 then 20 + (if rs r = 0 then 0 else 30) else
  40 - 15 * nI (ct (sof R L lv (nI r) (nI (hR R n r)) x) n) + (if sp (tpR R L n r).toNatClampNeg = sp x then 12 else 0) - (if 3 * (wt (tpR R L n r).toNatClampNeg - wt x) < 24 then 3 * (wt (tpR R L n r).toNatClampNeg - wt x) else 24) + (if rs r = 0 then 0 else 30)
theorem tp_ex {n W H : Nat} {R L : Nat → Int32} (w : YW n W H R L) (hn : n ≤ 100) (hW : W ≤ 20) {r : Nat} (hr : r < W) (h0 : 0 < hR R n r) (ex : ∀ l, l < hR R n r → ∃ i, i < n ∧ R i = nI r ∧ L i = nI l) : ∃ i, i < n ∧ tpR R L n r = nI i ∧ R i = nI r ∧ L i = nI (hR R n r - 1) := by
  obtain ⟨i, i1, i2, i3⟩ := ex (hR R n r - 1) (by omega)
  refine ⟨i, i1, ?_, i2, i3⟩
  unfold tpR
  have : nI (hR R n r) - 1 = nI (hR R n r - 1) := by
    obtain ⟨k, hk⟩ : ∃ k, hR R n r = k + 1 := ⟨hR R n r - 1, by omega⟩
    rw [hk, nI_pred, Nat.add_sub_cancel]
  rw [this]
  exact bxa_1 i2 i3 n i1 (fun j hj q1 q2 => w.2.1 j i r hj i1 hr q1 i2 (by rw [q2, i3]))
theorem tp_0 {n W H : Nat} {R L : Nat → Int32} (w : YW n W H R L) (hW : W ≤ 20) {r : Nat} (hr : r < W) (h0 : hR R n r = 0) : tpR R L n r = -1 := by
  unfold tpR
  refine bxa_0 n (fun j hj q => ?_)
  have : 0 < hR R n r := by
    have := ct_lt (p := fun _ => false) (q := rwf R (nI r)) n hj (fun _ _ q => by cases q) rfl (rwf_t.mpr q.1)
    unfold hR; omega
  omega
theorem CY.lvl {C : dp_M} {n W H G : Nat} {R L : Nat → Int32} {h : List (Nat × Int32)} {m : Int32} (y : CY C n W H G R L h m) {r : Nat} (hr : r < W) : ∀ l, l < hR R n r → ∃ i, i < n ∧ R i = nI r ∧ L i = nI l := fun l hl => by
  obtain ⟨i, i1, -, i3, i4⟩ := y.2.2.2.2.2.2.2.2.2.2.1 r l hr hl
  exact ⟨i, i1, i3, i4⟩
section YD
variable {xs : Nat → Int32} {xl d : Nat} {C M : dp_M}
theorem yc_top {n W H G : Nat} {R L : Nat → Int32} {h : List (Nat × Int32)} {m : Int32} (y : CY C n W H G R L h m) (w : YW n W H R L) (hn : n ≤ 100) {r : Nat} (hr : r < W) (hW : W ≤ 20) (hH : H ≤ 8) : dp_den true xs xl (d + 2) 227 [.ref 28, .int (nI r)] C = iR (tpR R L n r) C := by
  have y' := y
  obtain ⟨a1, a2, a3, a4, a5, a6, a7, a8, a9, a10, a11, -⟩ := y'
  rw [D_X10_topOf_0_den, D_X10_topOf_0_eq]
  simp only [nI_cl (show r < 2147483648 by omega), a4, nI_o hr (by omega), if_false, a10 r hr]
  rw [yc_at y w hn hr hW hH, rb_bi]; rfl
theorem q_i2 {a b : Prop} [Decidable a] [Decidable b] {M : dp_M} : (if b then (if (if a then (1 : Int32) else 0) = 1 then iR 0 M else iR 8 M) else (if (if a then (1 : Int32) else 0) = 0 then iR 0 M else iR 8 M)) = iR (if (a ↔ b) then 0 else 8) M := by
  by_cases ha : a <;> by_cases hb : b <;> simp [ha, hb]
theorem yc_brk {n W H G : Nat} {R L : Nat → Int32} {h : List (Nat × Int32)} {m : Int32} (y : CY C n W H G R L h m) (w : YW n W H R L) (hn : n ≤ 100) {r x : Nat} (hr : r < W) (hx : x < n) (hW : W ≤ 20) (hH : H ≤ 8) (hG : G ≤ 400) : dp_den true xs xl (d + 3) 240 [.ref 28, .int (nI x), .int (nI r)] C = iR (brk n H G R L (dp_I C 5) (dp_I C 4) (dp_I C 7) (dp_I C 3) (dp_I C 34) (dp_I C 35) x r) C := by
  have y' := y
  obtain ⟨a1, a2, a3, a4, a5, a6, a7, a8, a9, a10, a11, -⟩ := y'
  have hle : hR R n r ≤ n := ct_le _ _
  have hle2 := w.2.2 r hr
  have t168 : ∀ v : Int32, D_X10_brokenOnRow_168 xs xl (d + 2) (nI x) (nI r) v C = if dp_I C 34 r = 2 then (if v = 1 then iR 0 C else iR 8 C) else (if v = 0 then iR 0 C else iR 8 C) := fun v => by
    rw [D_X10_brokenOnRow_168_eq]
    simp only [nI_cl (show r < 2147483648 by omega), a5, nI_o hr (by omega), if_false]
  have t124 : D_X10_brokenOnRow_124 xs xl (d + 2) (nI x) (nI r) C = iR (if dp_I C 3 x = 1 ∧ ¬ dp_I C 34 r = 1 then 7 else if (dp_I C 3 x = 2 ↔ dp_I C 34 r = 2) then 0 else 8) C := by
    rw [D_X10_brokenOnRow_124_eq]
    simp only [nI_cl (show r < 2147483648 by omega), a5, nI_o hr (by omega), nI_cl (show x < 2147483648 by omega), nI_o (show x < 100 by omega) (by omega), if_false]
    have e : (if dp_I C 3 x = 2 then D_X10_brokenOnRow_168 xs xl (d + 2) (nI x) (nI r) 1 C else D_X10_brokenOnRow_168 xs xl (d + 2) (nI x) (nI r) 0 C) = iR (if (dp_I C 3 x = 2 ↔ dp_I C 34 r = 2) then 0 else 8) C := by
      rw [← q_i2]
      by_cases z : dp_I C 3 x = 2
      · simp only [if_pos z, t168]
      · simp only [if_neg z, t168]
    by_cases z1 : dp_I C 3 x = 1
    · rw [if_pos z1]
      by_cases z2 : dp_I C 34 r = 1
      · rw [if_pos z2, e, if_neg (show ¬ (dp_I C 3 x = 1 ∧ ¬ dp_I C 34 r = 1) from fun q => q.2 z2)]
      · rw [if_neg z2, if_pos ⟨z1, z2⟩]
    · rw [if_neg z1, e, if_neg (show ¬ (dp_I C 3 x = 1 ∧ ¬ dp_I C 34 r = 1) from fun q => z1 q.1)]
  have t29 : D_X10_brokenOnRow_29 xs xl (d + 2) (nI x) (nI r) C = iR (if hR R n r = H then 3 else if nI G < wtR R (dp_I C 5) n (nI r) + dp_I C 5 x then 4 else if an (othf R (dp_I C 4) (nI r) (dp_I C 4 x)) n = true then 5 else
      if 0 < hR R n r ∧ dp_I C 5 (tpR R L n r).toNatClampNeg < dp_I C 5 x then 6 else if dp_I C 3 x = 1 ∧ ¬ dp_I C 34 r = 1 then 7 else if (dp_I C 3 x = 2 ↔ dp_I C 34 r = 2) then 0 else 8) C := by
    rw [D_X10_brokenOnRow_29_eq]
    simp only [nI_cl (show r < 2147483648 by omega), a4, nI_o hr (by omega), if_false, a10 r hr, a2, nI_cl (show x < 2147483648 by omega), nI_o (show x < 100 by omega) (by omega)]
    by_cases z1 : hR R n r = H
    · rw [if_neg (nI_nlt (by omega) (by omega)), if_pos z1]
    rw [if_pos (nI_lt (by omega) (by omega)), if_neg z1, yc_wt y w hn hr hW hH, rb_bi, a3]
    by_cases z2 : nI G < wtR R (dp_I C 5) n (nI r) + dp_I C 5 x
    · rw [if_neg (Int32.not_le.mpr z2), if_pos z2]
    rw [if_pos (Int32.not_lt.mp z2), if_neg z2, yc_osz y w hn hr hW hH, rb_bi, ibz]
    by_cases z3 : an (othf R (dp_I C 4) (nI r) (dp_I C 4 x)) n = true
    · rw [if_pos z3, if_pos z3]
    rw [if_neg z3, if_neg z3]
    simp only [a4, nI_o hr (by omega), if_false, a10 r hr]
    by_cases z4 : 0 < hR R n r
    · rw [if_neg (show ¬ nI (hR R n r) ≤ (0 : Int32) from nI_ge (a := 0) (b := hR R n r) (by omega) (by omega)), yc_top y w hn hr hW hH, rb_bi]
      obtain ⟨i, i1, i2, -⟩ := tp_ex w hn hW hr z4 (y.lvl hr)
      rw [i2]
      simp only [nI_cl (show i < 2147483648 by omega), nI_o (show i < 100 by omega) (by omega), if_false]
      by_cases z5 : dp_I C 5 x ≤ dp_I C 5 i
      · rw [if_pos z5, t124, if_neg (show ¬ (0 < hR R n r ∧ dp_I C 5 i < dp_I C 5 x) from fun q => Int32.not_lt.mpr z5 q.2)]
      · rw [if_neg z5, if_pos (show 0 < hR R n r ∧ dp_I C 5 i < dp_I C 5 x from ⟨z4, Int32.not_le.mp z5⟩)]
    · rw [if_pos (show nI (hR R n r) ≤ (0 : Int32) from nI_le (a := hR R n r) (b := 0) (by omega) (by omega)), t124, if_neg (show ¬ (0 < hR R n r ∧ _) from fun q => z4 q.1)]
  rw [D_X10_brokenOnRow_0_den, D_X10_brokenOnRow_0_eq]
  simp only [nI_cl (show r < 2147483648 by omega), a6, nI_o hr (by omega), if_false, nI_cl (show x < 2147483648 by omega), nI_o (show x < 100 by omega) (by omega), t29]
  unfold brk
  by_cases z1 : dp_I C 35 r = 0
  · rw [if_pos z1, if_neg (show ¬ (¬ dp_I C 35 r = 0 ∧ ¬ dp_I C 35 r = dp_I C 7 x) from fun q => q.1 z1)]
  · rw [if_neg z1]
    by_cases z2 : dp_I C 35 r = dp_I C 7 x
    · rw [if_pos z2, if_neg (show ¬ (¬ dp_I C 35 r = 0 ∧ ¬ dp_I C 35 r = dp_I C 7 x) from fun q => q.2 z2)]
    · rw [if_neg z2, if_pos (show ¬ dp_I C 35 r = 0 ∧ ¬ dp_I C 35 r = dp_I C 7 x from ⟨z1, z2⟩)]
/-- the model's rows of its boxes alone -/
theorem MYc {n W H G : Nat} {R L : Nat → Int32} {h : List (Nat × Int32)} {m : Int32} (y : MY M n W H G R L h m) : (∀ v, ct (rwf (dp_I M 140) v) n = ct (rwf R v) n) ∧ (∀ v t, bxa (dp_I M 140) (dp_I M 141) v t n = bxa R L v t n) ∧ (∀ wt v, wtR (dp_I M 140) wt n v = wtR R wt n v) ∧ (∀ s v w, an (othf (dp_I M 140) s v w) n = an (othf R s v w) n) ∧ ∀ lv v b x, ct (sof (dp_I M 140) (dp_I M 141) lv v b x) n = ct (sof R L lv v b x) n := by
  obtain ⟨-, -, -, a4, -⟩ := y
  refine ⟨fun v => ct_c (fun i hi => ?_), fun v t => bxa_c n a4, fun wt v => sm_c (fun i hi => ?_), fun s v w => an_c (fun i hi => ?_), fun lv v b x => ct_c (fun i hi => ?_)⟩
  · unfold rwf; rw [(a4 i hi).1]
  · rw [(a4 i hi).1]
  · unfold othf; rw [(a4 i hi).1]
  · unfold sof; rw [(a4 i hi).1, (a4 i hi).2]
theorem ym_brk {n W H G : Nat} {R L : Nat → Int32} {h : List (Nat × Int32)} {m : Int32} (y : MY M n W H G R L h m) (w : YW n W H R L) (h3 : dp_I M 114 3 = nI n) (hn : n ≤ 100) {r x : Nat} (hr : r < W) (hx : x < n) (hW : W ≤ 20) (hH : H ≤ 8) (hG : G ≤ 400) (hrs : qin (dp_I M 134 r) 10) (lvl : ∀ l, l < hR R n r → ∃ i, i < n ∧ R i = nI r ∧ L i = nI l) : dp_den true xs xl (d + 3) 403 [.ref 114, .int (nI x), .int (nI r)] M = iR (brk n H G R L (dp_I M 137) (dp_I M 135) (dp_I M 139) (dp_I M 136) (dp_I M 133) (dp_I M 134) x r) M := by
  obtain ⟨m1, m2, m3, m4, m5⟩ := MYc y
  obtain ⟨a1, a2, a3, a4, a5, a6, a7⟩ := y
  have hle : hR R n r ≤ n := ct_le _ _
  have hle2 := w.2.2 r hr
  have eh : ct (rwf (dp_I M 140) (nI r)) n = hR R n r := m1 (nI r)
  have et : bxa (dp_I M 140) (dp_I M 141) (nI r) (nI (hR R n r) - 1) n = tpR R L n r := m2 _ _
  obtain ⟨tp, htp⟩ : ∃ tp, tp = tpR R L n r := ⟨_, rfl⟩
  have t155 : ∀ v : Int32, D_X12_broken_155 xs xl (d + 2) (nI x) (nI r) (nI (hR R n r)) tp v M = if dp_I M 133 r = 2 then (if v = 1 then iR 0 M else iR 8 M) else (if v = 0 then iR 0 M else iR 8 M) := fun v => by
    rw [D_X12_broken_155_eq]
    simp only [nI_cl (show r < 2147483648 by omega), nI_o (show r < 20 by omega) (by omega), if_false]
  have t117 : D_X12_broken_117 xs xl (d + 2) (nI x) (nI r) (nI (hR R n r)) tp M = iR (if dp_I M 136 x = 1 ∧ ¬ dp_I M 133 r = 1 then 7 else if (dp_I M 136 x = 2 ↔ dp_I M 133 r = 2) then 0 else 8) M := by
    rw [D_X12_broken_117_eq]
    simp only [nI_cl (show r < 2147483648 by omega), nI_o (show r < 20 by omega) (by omega), nI_cl (show x < 2147483648 by omega), nI_o (show x < 100 by omega) (by omega), if_false]
    have e : (if dp_I M 136 x = 2 then D_X12_broken_155 xs xl (d + 2) (nI x) (nI r) (nI (hR R n r)) tp 1 M else D_X12_broken_155 xs xl (d + 2) (nI x) (nI r) (nI (hR R n r)) tp 0 M) = iR (if (dp_I M 136 x = 2 ↔ dp_I M 133 r = 2) then 0 else 8) M := by
      rw [← q_i2]
      by_cases z : dp_I M 136 x = 2
      · simp only [if_pos z, t155]
      · simp only [if_neg z, t155]
    by_cases z1 : dp_I M 136 x = 1
    · rw [if_pos z1]
      by_cases z2 : dp_I M 133 r = 1
      · rw [if_pos z2, e, if_neg (show ¬ (dp_I M 136 x = 1 ∧ ¬ dp_I M 133 r = 1) from fun q => q.2 z2)]
      · rw [if_neg z2, if_pos ⟨z1, z2⟩]
    · rw [if_neg z1, e, if_neg (show ¬ (dp_I M 136 x = 1 ∧ ¬ dp_I M 133 r = 1) from fun q => z1 q.1)]
  have t42 : D_X12_broken_42 xs xl (d + 2) (nI x) (nI r) (nI (hR R n r)) tp M = iR (if hR R n r = H then 3 else if nI G < wtR R (dp_I M 137) n (nI r) + dp_I M 137 x then 4 else if an (othf R (dp_I M 135) (nI r) (dp_I M 135 x)) n = true then 5 else
      if 0 < hR R n r ∧ dp_I M 137 (tpR R L n r).toNatClampNeg < dp_I M 137 x then 6 else if dp_I M 136 x = 1 ∧ ¬ dp_I M 133 r = 1 then 7 else if (dp_I M 136 x = 2 ↔ dp_I M 133 r = 2) then 0 else 8) M := by
    rw [D_X12_broken_42_eq, a2]
    by_cases z1 : hR R n r = H
    · rw [if_pos (by rw [z1]), if_pos z1]
    rw [if_neg (fun q => z1 (by rw [nI_eq (by omega) (by omega)] at q; exact q)), if_neg z1, ym_wt h3 hn, rb_bi, a3, m3]
    simp only [nI_cl (show x < 2147483648 by omega), nI_o (show x < 100 by omega) (by omega), if_false]
    by_cases z2 : nI G < wtR R (dp_I M 137) n (nI r) + dp_I M 137 x
    · rw [if_neg (Int32.not_le.mpr z2), if_pos z2]
    rw [if_pos (Int32.not_lt.mp z2), if_neg z2, ym_osz h3 hn hx, rb_bi, ibz, m4]
    by_cases z3 : an (othf R (dp_I M 135) (nI r) (dp_I M 135 x)) n = true
    · rw [if_pos z3, if_pos z3]
    rw [if_neg z3, if_neg z3]
    by_cases z4 : 0 < hR R n r
    · obtain ⟨i, i1, i2, -⟩ := tp_ex w hn hW hr z4 lvl
      rw [t117, htp, i2, if_neg (nI_pos (by omega)), if_neg (nI_pos (by omega))]
      simp only [nI_cl (show i < 2147483648 by omega), nI_o (show i < 100 by omega) (by omega), if_false]
      by_cases z5 : dp_I M 137 x ≤ dp_I M 137 i
      · rw [if_pos z5, if_neg (show ¬ (0 < hR R n r ∧ dp_I M 137 i < dp_I M 137 x) from fun q => Int32.not_lt.mpr z5 q.2)]
      · rw [if_neg z5, if_pos (show 0 < hR R n r ∧ dp_I M 137 i < dp_I M 137 x from ⟨z4, Int32.not_le.mp z5⟩)]
    · rw [htp, tp_0 w hW hr (by omega), if_pos (by decide), if_neg (show ¬ (0 < hR R n r ∧ _) from fun q => z4 q.1)]
      rw [htp, tp_0 w hW hr (by omega)] at t117
      exact t117
  rw [D_X12_broken_0_den, D_X12_broken_0_eq, ym_hgt h3 hn, rb_bi, eh, ym_at h3 hn, rb_bi, et, ← htp]
  simp only [nI_cl (show r < 2147483648 by omega), nI_o (show r < 20 by omega) (by omega), if_false, nI_cl (show x < 2147483648 by omega), nI_o (show x < 100 by omega) (by omega), t42]
  unfold brk
  have rz : dp_I M 134 r ≤ 0 ↔ dp_I M 134 r = 0 := by
    have := qin_iff.mp hrs
    have e0 : (0 : Int32).toInt = 0 := by decide
    rw [Int32.le_iff_toInt_le, ← Int32.toInt_inj, e0]; omega
  simp only [rz]
  by_cases z1 : dp_I M 134 r = 0
  · rw [if_pos z1, if_neg (show ¬ (¬ dp_I M 134 r = 0 ∧ ¬ dp_I M 134 r = dp_I M 139 x) from fun q => q.1 z1)]
  · rw [if_neg z1]
    by_cases z2 : dp_I M 134 r = dp_I M 139 x
    · rw [if_pos z2, if_neg (show ¬ (¬ dp_I M 134 r = 0 ∧ ¬ dp_I M 134 r = dp_I M 139 x) from fun q => q.2 z2)]
    · rw [if_neg z2, if_pos (show ¬ dp_I M 134 r = 0 ∧ ¬ dp_I M 134 r = dp_I M 139 x from ⟨z1, z2⟩)]
/-- what is not broken is not heavier than the top -/
theorem brk_0 {n H G : Nat} {R L wt sz sp kd gd rs : Nat → Int32} {x r : Nat} (h : brk n H G R L wt sz sp kd gd rs x r = 0) : ¬ hR R n r = H ∧ (0 < hR R n r → wt x ≤ wt (tpR R L n r).toNatClampNeg) := by
  unfold brk at h
  split at h
  · exact absurd h (by decide)
  split at h
  · exact absurd h (by decide)
  rename_i h1
  split at h
  · exact absurd h (by decide)
  split at h
  · exact absurd h (by decide)
  split at h
  · exact absurd h (by decide)
  rename_i h2
  exact ⟨h1, fun q => Int32.not_lt.mp (fun z => h2 ⟨q, z⟩)⟩
theorem q_5 (a b c e f : Int32) : (((a - b) + c) - e) + f = (((f + a) - b) + c) - e := by
  rw [Int32.add_comm _ f]
  simp only [Int32.sub_eq_add_neg, Int32.add_assoc]
theorem q_3d {a b : Int32} (ha : wi a 1 40) (hb : wi b 1 40) (h : b ≤ a) : (if 0 < a - b then a - b else 0) = a - b ∧ (3 * (a - b) ≤ 24 → (if 3 * (a - b) < 24 then 3 * (a - b) else 24) = 3 * (a - b)) ∧ (¬ 3 * (a - b) ≤ 24 → (if 3 * (a - b) < 24 then 3 * (a - b) else 24) = 24) := by
  obtain ⟨i, i1, i2, rfl⟩ := wi_of (a := 1) (b := 40) ha (by omega)
  obtain ⟨j, j1, j2, rfl⟩ := wi_of (a := 1) (b := 40) hb (by omega)
  rw [Int32.le_iff_toInt_le, nI_toInt (by omega), nI_toInt (by omega)] at h
  have e : nI i - nI j = nI (i - j) := by
    have : nI i = nI (i - j) + nI j := by rw [nI_add]; congr 1; omega
    rw [this, Int32.add_sub_cancel]
  rw [e, show (3 : Int32) = nI 3 from rfl, pk_mul, show (24 : Int32) = nI 24 from rfl]
  refine ⟨?_, fun q => ?_, fun q => ?_⟩
  · by_cases z : 0 < i - j
    · rw [if_pos (show (0 : Int32) < nI (i - j) from nI_lt (a := 0) z (by omega))]
    · rw [show i - j = 0 by omega]; rfl
  · by_cases z : nI (3 * (i - j)) < nI 24
    · rw [if_pos z]
    · rw [if_neg z]
      rw [Int32.le_iff_toInt_le, nI_toInt (by omega), nI_toInt (by omega)] at q
      rw [Int32.lt_iff_toInt_lt, nI_toInt (by omega), nI_toInt (by omega)] at z
      congr 1; omega
  · rw [if_neg (fun z => q (Int32.le_of_lt z))]
theorem yc_scr {n W H G : Nat} {R L : Nat → Int32} {h : List (Nat × Int32)} {m : Int32} (y : CY C n W H G R L h m) (w : YW n W H R L) (hn : n ≤ 100) {r x : Nat} (hr : r < W) (hx : x < n) (hW : W ≤ 20) (hH : H ≤ 8) (hwt : ∀ i, i < n → wi (dp_I C 5 i) 1 40) (hb : 0 < hR R n r → dp_I C 5 x ≤ dp_I C 5 (tpR R L n r).toNatClampNeg) : dp_den true xs xl (d + 3) 241 [.ref 28, .int (nI x), .int (nI r)] C = iR (scr n R L (dp_I C 5) (dp_I C 6) (dp_I C 7) (dp_I C 35) x r) C := by
  have y' := y
  obtain ⟨a1, a2, a3, a4, a5, a6, a7, a8, a9, a10, a11, -⟩ := y'
  have hle : hR R n r ≤ n := ct_le _ _
  obtain ⟨ext, he⟩ : ∃ ext : Int32, ext = if dp_I C 35 r = 0 then 0 else 30 := ⟨_, rfl⟩
  have main : D_X10_score_15 xs xl (d + 2) (nI x) (nI r) ext C = iR (scr n R L (dp_I C 5) (dp_I C 6) (dp_I C 7) (dp_I C 35) x r) C := by
    rw [D_X10_score_15_eq]
    simp only [nI_cl (show r < 2147483648 by omega), a4, nI_o hr (by omega), if_false, a10 r hr]
    unfold scr
    rw [← he]
    by_cases z : hR R n r = 0
    · rw [if_pos (show nI (hR R n r) = 0 by rw [z]; rfl), if_pos z]
    · rw [if_neg (show ¬ nI (hR R n r) = (0 : Int32) from fun e => absurd ((nI_eq (a := hR R n r) (b := 0) (by omega) (by omega)).mp e) (by omega)), if_neg z, yc_top y w hn hr hW hH, rb_bi]
      obtain ⟨i, i1, i2, -⟩ := tp_ex w hn hW hr (by omega) (y.lvl hr)
      rw [i2, nI_cl (by omega)] at hb
      rw [i2]
      obtain ⟨q1, q2, q3⟩ := q_3d (hwt i i1) (hwt x hx) (hb (by omega))
      simp only [nI_cl (show i < 2147483648 by omega), nI_o (show i < 100 by omega) (by omega), nI_cl (show x < 2147483648 by omega), nI_o (show x < 100 by omega) (by omega), if_false, D_X10_score_65_eq, nI_cl (show r < 2147483648 by omega), a4, nI_o hr (by omega), a10 r hr, dp_w, q1, yc_soo y w hn hr hW hH (Nat.le_refl _) hx, rb_bi]
      split <;> rfl
  rw [D_X10_score_0_den, D_X10_score_0_eq]
  simp only [nI_cl (show r < 2147483648 by omega), a6, nI_o hr (by omega), if_false]
  by_cases z : dp_I C 35 r = 0
  · rw [if_pos z] at he
    rw [if_pos z, ← he]; exact main
  · rw [if_neg z] at he
    rw [if_neg z, ← he]; exact main
theorem ym_scr {n W H G : Nat} {R L : Nat → Int32} {h : List (Nat × Int32)} {m : Int32} (y : MY M n W H G R L h m) (w : YW n W H R L) (h3 : dp_I M 114 3 = nI n) (hn : n ≤ 100) {r x : Nat} (hr : r < W) (hx : x < n) (hW : W ≤ 20) (hH : H ≤ 8) (hrs : qin (dp_I M 134 r) 10) (lvl : ∀ l, l < hR R n r → ∃ i, i < n ∧ R i = nI r ∧ L i = nI l) (hwt : ∀ i, i < n → wi (dp_I M 137 i) 1 40) (hb : 0 < hR R n r → dp_I M 137 x ≤ dp_I M 137 (tpR R L n r).toNatClampNeg) : dp_den true xs xl (d + 3) 404 [.ref 114, .int (nI x), .int (nI r)] M = iR (scr n R L (dp_I M 137) (dp_I M 138) (dp_I M 139) (dp_I M 134) x r) M := by
  obtain ⟨m1, m2, m3, m4, m5⟩ := MYc y
  have hle : hR R n r ≤ n := ct_le _ _
  have eh : ct (rwf (dp_I M 140) (nI r)) n = hR R n r := m1 (nI r)
  have et : bxa (dp_I M 140) (dp_I M 141) (nI r) (nI (hR R n r) - 1) n = tpR R L n r := m2 _ _
  have rz : dp_I M 134 r ≤ 0 ↔ dp_I M 134 r = 0 := by
    have := qin_iff.mp hrs
    have e0 : (0 : Int32).toInt = 0 := by decide
    rw [Int32.le_iff_toInt_le, ← Int32.toInt_inj, e0]; omega
  obtain ⟨ext, he⟩ : ∃ ext : Int32, ext = if dp_I M 134 r = 0 then 0 else 30 := ⟨_, rfl⟩
  have main : D_X12_scoreOf_21 xs xl (d + 2) (nI x) (nI r) (nI (hR R n r)) ext M = iR (scr n R L (dp_I M 137) (dp_I M 138) (dp_I M 139) (dp_I M 134) x r) M := by
    rw [D_X12_scoreOf_21_eq]
    unfold scr
    rw [← he]
    by_cases z : hR R n r = 0
    · rw [if_pos (show nI (hR R n r) = 0 by rw [z]; rfl), if_pos z, Int32.add_comm]
    · rw [if_neg (show ¬ nI (hR R n r) = (0 : Int32) from fun e => absurd ((nI_eq (a := hR R n r) (b := 0) (by omega) (by omega)).mp e) (by omega)), if_neg z, ym_at h3 hn, rb_bi, et]
      obtain ⟨i, i1, i2, -⟩ := tp_ex w hn hW hr (by omega) lvl
      rw [i2, nI_cl (by omega)] at hb
      rw [i2]
      obtain ⟨q1, q2, q3⟩ := q_3d (hwt i i1) (hwt x hx) (hb (by omega))
      simp only [nI_cl (show i < 2147483648 by omega), nI_o (show i < 100 by omega) (by omega), nI_cl (show x < 2147483648 by omega), nI_o (show x < 100 by omega) (by omega), if_false, dp_w, ym_soo h3 hn hx, m5, rb_bi, q_5]
      by_cases u1 : dp_I M 139 i = dp_I M 139 x
      · rw [if_pos u1, if_pos u1]
        by_cases u2 : 3 * (dp_I M 137 i - dp_I M 137 x) ≤ 24
        · rw [if_pos u2, q2 u2]
        · rw [if_neg u2, q3 u2]
      · rw [if_neg u1, if_neg u1]
        by_cases u2 : 3 * (dp_I M 137 i - dp_I M 137 x) ≤ 24
        · rw [if_pos u2, q2 u2]
        · rw [if_neg u2, q3 u2]
  rw [D_X12_scoreOf_0_den, D_X12_scoreOf_0_eq, ym_hgt h3 hn, rb_bi, eh]
  simp only [nI_cl (show r < 2147483648 by omega), nI_o (show r < 20 by omega) (by omega), if_false, rz]
  by_cases z : dp_I M 134 r = 0
  · rw [if_pos z] at he
    rw [if_pos z, ← he]; exact main
  · rw [if_neg z] at he
    rw [if_neg z, ← he]; exact main
end YD
