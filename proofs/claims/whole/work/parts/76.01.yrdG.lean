-- needs: 75
/-! YARD: a move, and back -/
theorem uI_uI {α : Type} (f : Nat → α) (i : Nat) (x y : α) : uI (uI f i x) i y = uI f i y := by
  funext j; unfold uI; split <;> rfl
theorem hR_r {R : Nat → Int32} {n x : Nat} (hx : x < n) (r : Nat) (hr : r < 2147483648) : hR (uI R x (-1)) n r + (if R x = nI r then 1 else 0) = hR R n r := by
  have := hR_u (R := R) (v := -1) hx r
  rw [if_neg (show ¬ (-1 : Int32) = nI r from fun e => m1_ne hr e.symm)] at this
  omega
theorem hR_g {R : Nat → Int32} {n x : Nat} {f : Int32} (hx : x < n) (r : Nat) (hr : r < 2147483648) : hR (uI R x f) n r = hR (uI R x (-1)) n r + (if f = nI r then 1 else 0) := by
  have := hR_u (R := uI R x (-1)) (v := f) hx r
  rw [uI_s, uI_uI, if_neg (show ¬ (-1 : Int32) = nI r from fun e => m1_ne hr e.symm)] at this
  omega
theorem YW.lev {n W H : Nat} {R L : Nat → Int32} (w : YW n W H R L) (hn : n ≤ 100) (hW : W ≤ 20) {x : Nat} {f : Int32} (g : goO n W H R L x f) {i r l : Nat} (hi : i < n) (hr : r < W) (e1 : R i = nI r) (e2 : L i = nI l) (hl : l < hR R n r) (hix : i ≠ x) : l < hR (uI R x (-1)) n r := by
  obtain ⟨g1, g2, -⟩ := g
  have h1 := hR_r (R := R) g1 r (by omega)
  by_cases z : R x = nI r
  · rw [if_pos z] at h1
    have hx := g2 r hr z
    have hle : hR R n r ≤ n := ct_le _ _
    by_cases y : l = hR R n r - 1
    · exfalso
      apply hix
      refine w.2.1 i x r hi g1 hr e1 z ?_
      rw [e2, hx, y]
      obtain ⟨k, hk⟩ : ∃ k, hR R n r = k + 1 := ⟨hR R n r - 1, by omega⟩
      rw [hk, nI_pred, Nat.add_sub_cancel]
    · omega
  · rw [if_neg z] at h1; omega
theorem YW.go {n W H : Nat} {R L : Nat → Int32} (w : YW n W H R L) (hn : n ≤ 100) (hW : W ≤ 20) {x : Nat} {f : Int32} (g : goO n W H R L x f) : YW n W H (uI R x f) (goL n R L x f) := by
  have g' := g
  obtain ⟨g1, g2, g3⟩ := g
  have lx : ∀ r, r < W → f = nI r → goL n R L x f x = nI (hR (uI R x (-1)) n r) := fun r hr e => by
    unfold goL
    rw [uI_s, e, if_neg (m1_ne (by omega))]; rfl
  have hle : ∀ r, hR (uI R x (-1)) n r ≤ n := fun r => ct_le _ _
  refine ⟨fun i hi => ?_, fun i j r hi hj hr e1 e2 e3 => ?_, fun r hr => ?_⟩
  · by_cases z : i = x
    · subst z
      rcases g3 with e | ⟨r, hr, e, -⟩
      · left
        refine ⟨by rw [uI_s, e], ?_⟩
        unfold goL
        rw [uI_s, if_pos e]
      · right
        refine ⟨r, hR (uI R i (-1)) n r, hr, ?_, by rw [uI_s, e], lx r hr e⟩
        rw [hR_g (f := f) g1 r (by omega), if_pos e]; omega
    · rw [uI_n z, show goL n R L x f i = L i from uI_n z]
      rcases w.1 i hi with q | ⟨r, l, q1, q2, q3, q4⟩
      · exact Or.inl q
      · right
        have := w.lev hn hW g' hi q1 q3 q4 q2 z
        exact ⟨r, l, q1, by rw [hR_g g1 r (by omega)]; omega, q3, q4⟩
  · have key : ∀ k, k < n → k ≠ x → R k = nI r → ∃ l, L k = nI l ∧ l < hR (uI R x (-1)) n r := fun k hk kx ek => by
      rcases w.1 k hk with q | ⟨r', l, q1, q2, q3, q4⟩
      · exact absurd (by rw [← ek, q.1]) (m1_ne (r := r) (by omega))
      · have : r' = r := by rw [ek, nI_eq (by omega) (by omega)] at q3; exact q3.symm
        subst this
        exact ⟨l, q4, w.lev hn hW g' hk q1 q3 q4 q2 kx⟩
    by_cases z : i = x
    · by_cases y : j = x
      · omega
      · exfalso
        subst z
        rw [uI_s] at e1
        rw [uI_n y] at e2
        obtain ⟨l, l1, l2⟩ := key j hj y e2
        rw [lx r hr e1, show goL n R L i f j = L j from uI_n y, l1, nI_eq (by have := hle r; omega) (by have := hle r; omega)] at e3
        omega
    · by_cases y : j = x
      · exfalso
        subst y
        rw [uI_s] at e2
        rw [uI_n z] at e1
        obtain ⟨l, l1, l2⟩ := key i hi z e1
        rw [lx r hr e2, show goL n R L j f i = L i from uI_n z, l1, nI_eq (by have := hle r; omega) (by have := hle r; omega)] at e3
        omega
      · rw [uI_n z] at e1
        rw [uI_n y] at e2
        rw [show goL n R L x f i = L i from uI_n z, show goL n R L x f j = L j from uI_n y] at e3
        exact w.2.1 i j r hi hj hr e1 e2 e3
  · rw [hR_g g1 r (by omega)]
    have h1 := hR_r (R := R) g1 r (by omega)
    have := w.2.2 r hr
    rcases g3 with e | ⟨r', hr', e, hlt⟩
    · rw [e, if_neg (fun q => m1_ne (r := r) (by omega) q.symm)]; omega
    · by_cases z : f = nI r
      · have : r' = r := by rw [e, nI_eq (by omega) (by omega)] at z; exact z
        subst this
        rw [if_pos z]; omega
      · rw [if_neg z]; omega
theorem goO.back {n W H : Nat} {R L : Nat → Int32} (w : YW n W H R L) (hn : n ≤ 100) (hW : W ≤ 20) {x : Nat} {f : Int32} (g : goO n W H R L x f) : goO n W H (uI R x f) (goL n R L x f) x (R x) ∧ uI (uI R x f) x (R x) = R ∧ goL n (uI R x f) (goL n R L x f) x (R x) = L := by
  obtain ⟨g1, g2, g3⟩ := g
  have hle : ∀ r, hR (uI R x (-1)) n r ≤ n := fun r => ct_le _ _
  refine ⟨⟨g1, fun r hr e => ?_, ?_⟩, by rw [uI_uI, uI_self], ?_⟩
  · rw [uI_s] at e
    rw [hR_g g1 r (by omega), if_pos e, nI_pred]
    unfold goL
    rw [uI_s, e, if_neg (m1_ne (by omega))]; rfl
  · rcases w.1 x g1 with q | ⟨r, l, q1, q2, q3, q4⟩
    · exact Or.inl q.1
    · right
      refine ⟨r, q1, q3, ?_⟩
      rw [uI_uI]
      have h1 := hR_r (R := R) g1 r (by omega)
      rw [if_pos q3] at h1
      have := w.2.2 r q1
      omega
  · have e : ∀ v, v = L x → uI (goL n R L x f) x v = L := fun v hv => by
      unfold goL; rw [uI_uI, hv, uI_self]
    unfold goL at e ⊢
    refine e _ ?_
    rw [uI_uI]
    rcases w.1 x g1 with q | ⟨r, l, q1, q2, q3, q4⟩
    · rw [if_pos q.1, q.2]
    · have h1 := hR_r (R := R) g1 r (by omega)
      rw [if_pos q3] at h1
      rw [q3, if_neg (m1_ne (by omega)), g2 r q1 q3, ← h1, nI_pred]; rfl
theorem HV.tk {n W H : Nat} : ∀ (k : Nat) (h : List (Nat × Int32)) (R L : Nat → Int32), HV n W H h R L → HV n W H (h.take k) R L
  | 0, _, _, _, _ => trivial
  | _ + 1, [], _, _, _ => trivial
  | k + 1, (x, f) :: h, R, L, hv => ⟨hv.1, HV.tk k h _ _ hv.2⟩
theorem YI.go {n W H G : Nat} {R L : Nat → Int32} {h : List (Nat × Int32)} {S st : Nat → Int32} (y : YI n W H G R L h S st) {x : Nat} {f : Int32} (g : goO n W H R L x f) (hS : S x = 3) (hst : st x = 0) : YI n W H G (uI R x f) (goL n R L x f) (((x, R x) :: h).take 100) S st := by
  obtain ⟨a1, a2, a3, a4, a5, a6, a7, a8, a9, a10, a11, a12⟩ := y
  obtain ⟨b1, b2, b3⟩ := g.back a9 a7 a2
  refine ⟨a1, a2, a3, a4, a5, a6, a7, by rw [List.length_take]; omega, a9.go a7 a2 g, HV.tk 100 _ _ _ ⟨b1, by rw [b2, b3]; exact a10⟩, fun i hi e => ?_, fun q hq => ?_⟩
  · by_cases z : i = x
    · subst z; exact ⟨hS, hst⟩
    · rw [uI_n z] at e; exact a11 i hi e
  · rcases List.mem_cons.mp (List.mem_of_mem_take hq) with e | e
    · rw [e]; exact ⟨g.1, hS⟩
    · exact a12 q e
theorem YI.undo {n W H G : Nat} {R L : Nat → Int32} {h : List (Nat × Int32)} {S st : Nat → Int32} {x : Nat} {f : Int32} (y : YI n W H G R L ((x, f) :: h) S st) (hst : st x = 0) : YI n W H G (uI R x f) (goL n R L x f) h S st := by
  obtain ⟨a1, a2, a3, a4, a5, a6, a7, a8, a9, a10, a11, a12⟩ := y
  have hS := (a12 (x, f) (List.mem_cons_self ..)).2
  refine ⟨a1, a2, a3, a4, a5, a6, a7, by rw [List.length_cons] at a8; omega, a9.go a7 a2 a10.1, a10.2, fun i hi e => ?_, fun q hq => a12 q (List.mem_cons_of_mem _ hq)⟩
  by_cases z : i = x
  · subst z; exact ⟨hS, hst⟩
  · rw [uI_n z] at e; exact a11 i hi e
section YA
variable {xs : Nat → Int32} {xl d : Nat} {C : dp_M}
/-- off its row -/
theorem CY.rem {n W H G : Nat} {R L : Nat → Int32} {h : List (Nat × Int32)} {m : Int32} {x : Nat} {f : Int32} (y : CY C n W H G R L h m) (w : YW n W H R L) (hn : n ≤ 100) (hW : W ≤ 20) (g : goO n W H R L x f) {C1 : dp_M} (e1 : ∀ r, r < W → dp_I C1 33 r = nI (hR (uI R x (-1)) n r)) (e2 : ∀ k, k ≠ 33 → dp_I C1 k = dp_I C k) (e3 : dp_len C1 = dp_len C) : CY (dp_setI (dp_setI C1 29 x (-1)) 30 x (-1)) n W H G (uI R x (-1)) (uI L x (-1)) h m := by
  obtain ⟨a1, a2, a3, a4, a5, a6, a7, a8, a9, a10, a11, a12, a13, a14⟩ := y
  have g1 := g.1
  have eI : ∀ k, k ≠ 29 → k ≠ 30 → k ≠ 33 → dp_I (dp_setI (dp_setI C1 29 x (-1)) 30 x (-1)) k = dp_I C k := fun k h1 h2 h3 => by
    rw [gII, if_neg h2, gII, if_neg h1, e2 k h3]
  have e29 : dp_I (dp_setI (dp_setI C1 29 x (-1)) 30 x (-1)) 29 = uI (dp_I C 29) x (-1) := by
    rw [gII, if_neg (by decide), gII, if_pos rfl, e2 29 (by decide)]
  have e30 : dp_I (dp_setI (dp_setI C1 29 x (-1)) 30 x (-1)) 30 = uI (dp_I C 30) x (-1) := by
    rw [gII, if_pos rfl, gII, if_neg (by decide), e2 30 (by decide)]
  have e33 : dp_I (dp_setI (dp_setI C1 29 x (-1)) 30 x (-1)) 33 = dp_I C1 33 := by
    rw [gII, if_neg (by decide), gII, if_neg (by decide)]
  have el : dp_len (dp_setI (dp_setI C1 29 x (-1)) 30 x (-1)) = dp_len C := e3
  unfold CY
  rw [e29, e30, e33, eI 28 (by decide) (by decide) (by decide), eI 31 (by decide) (by decide) (by decide), eI 32 (by decide) (by decide) (by decide), eI 36 (by decide) (by decide) (by decide), el]
  refine ⟨a1, a2, a3, a4, a5, a6, a7, fun i hi => ?_, fun i h1 h2 => ?_, e1, fun r l hr hl => ?_, a12, a13, a14⟩
  · by_cases z : i = x
    · subst z; rw [uI_s, uI_s, uI_s, uI_s]; exact ⟨rfl, rfl⟩
    · rw [uI_n z, uI_n z, uI_n z, uI_n z]; exact a8 i hi
  · rw [uI_n (by omega), uI_n (by omega)]; exact a9 i h1 h2
  · have h1 := hR_r (R := R) g1 r (by omega)
    obtain ⟨i, i1, i2, i3, i4⟩ := a11 r l hr (by omega)
    have ix : i ≠ x := fun z => by
      subst z
      rw [if_pos i3] at h1
      have := g.2.1 r hr i3
      have hle : hR R n r ≤ n := ct_le _ _
      rw [i4, ← h1, nI_pred, nI_eq (by omega) (by omega)] at this
      omega
    exact ⟨i, i1, i2, by rw [uI_n ix]; exact i3, by rw [uI_n ix]; exact i4⟩
/-- onto a row -/
theorem CY.ins {n W H G : Nat} {R L : Nat → Int32} {h : List (Nat × Int32)} {m : Int32} {x r : Nat} (y : CY C n W H G R L h m) (hn : n ≤ 100) (hW : W ≤ 20) (hH : H ≤ 8) (hx : x < n) (hr : r < W) (hRx : R x = -1) (hlt : hR R n r < H) (hle : ∀ r, r < W → hR R n r ≤ H) : CY (dp_setI (dp_setI (dp_setI (dp_setI C 29 x (nI r)) 30 x (nI (hR R n r))) 36 (r * H + hR R n r) (nI x)) 33 r (nI (hR R n r + 1))) n W H G (uI R x (nI r)) (uI L x (nI (hR R n r))) h m := by
  obtain ⟨a1, a2, a3, a4, a5, a6, a7, a8, a9, a10, a11, a12, a13, a14⟩ := y
  obtain ⟨K, hK⟩ : ∃ K, K = dp_setI (dp_setI (dp_setI (dp_setI C 29 x (nI r)) 30 x (nI (hR R n r))) 36 (r * H + hR R n r) (nI x)) 33 r (nI (hR R n r + 1)) := ⟨_, rfl⟩
  rw [← hK]
  have eI : ∀ k, k ≠ 29 → k ≠ 30 → k ≠ 33 → k ≠ 36 → dp_I K k = dp_I C k := fun k h1 h2 h3 h4 => by
    rw [hK]; simp only [gII, if_neg h1, if_neg h2, if_neg h3, if_neg h4]
  have e29 : dp_I K 29 = uI (dp_I C 29) x (nI r) := by rw [hK]; simp only [gII, Nat.reduceEqDiff, if_false, if_true]
  have e30 : dp_I K 30 = uI (dp_I C 30) x (nI (hR R n r)) := by rw [hK]; simp only [gII, Nat.reduceEqDiff, if_false, if_true]
  have e33 : dp_I K 33 = uI (dp_I C 33) r (nI (hR R n r + 1)) := by rw [hK]; simp only [gII, Nat.reduceEqDiff, if_false, if_true]
  have e36 : dp_I K 36 = uI (dp_I C 36) (r * H + hR R n r) (nI x) := by rw [hK]; simp only [gII, Nat.reduceEqDiff, if_false, if_true]
  have el : dp_len K = dp_len C := by rw [hK]; rfl
  have hu : ∀ r', r' < W → hR (uI R x (nI r)) n r' = hR R n r' + (if r = r' then 1 else 0) := fun r' hr' => by
    have := hR_u (R := R) (v := nI r) hx r'
    rw [hRx, if_neg (fun e => m1_ne (r := r') (by omega) e.symm)] at this
    simp only [nI_eq (show r < 2147483648 by omega) (show r' < 2147483648 by omega)] at this
    omega
  unfold CY
  rw [e29, e30, e33, e36, eI 28 (by decide) (by decide) (by decide) (by decide), eI 31 (by decide) (by decide) (by decide) (by decide), eI 32 (by decide) (by decide) (by decide) (by decide), el]
  refine ⟨a1, a2, a3, a4, a5, a6, a7, fun i hi => ?_, fun i h1 h2 => ?_, fun r' hr' => ?_, fun r' l hr' hl => ?_, a12, a13, a14⟩
  · by_cases z : i = x
    · subst z; rw [uI_s, uI_s, uI_s, uI_s]; exact ⟨rfl, rfl⟩
    · rw [uI_n z, uI_n z, uI_n z, uI_n z]; exact a8 i hi
  · rw [uI_n (by omega), uI_n (by omega)]; exact a9 i h1 h2
  · rw [hu r' hr']
    by_cases z : r = r'
    · subst z; rw [uI_s, if_pos rfl]
    · rw [uI_n (fun q => z q.symm), if_neg z, Nat.add_zero]; exact a10 r' hr'
  · rw [hu r' hr'] at hl
    have hr2 := hle r' hr'
    by_cases z : r = r'
    · subst z
      rw [if_pos rfl] at hl
      by_cases w : l = hR R n r
      · subst w
        exact ⟨x, hx, by rw [uI_s], by rw [uI_s], by rw [uI_s]⟩
      · obtain ⟨i, i1, i2, i3, i4⟩ := a11 r l hr (by omega)
        have ix : i ≠ x := fun q => by subst q; rw [hRx] at i3; exact m1_ne (r := r) (by omega) i3.symm
        exact ⟨i, i1, by rw [uI_n (by omega)]; exact i2, by rw [uI_n ix]; exact i3, by rw [uI_n ix]; exact i4⟩
    · rw [if_neg z] at hl
      obtain ⟨i, i1, i2, i3, i4⟩ := a11 r' l hr' (by omega)
      have ix : i ≠ x := fun q => by subst q; rw [hRx] at i3; exact m1_ne (r := r') (by omega) i3.symm
      refine ⟨i, i1, ?_, by rw [uI_n ix]; exact i3, by rw [uI_n ix]; exact i4⟩
      rw [uI_n]
      · exact i2
      · intro q
        have : r' = r := by
          have q1 : (r' * H + l) / H = r' := by rw [Nat.mul_comm, Nat.mul_add_div (by omega), Nat.div_eq_of_lt (by omega)]; omega
          have q2 : (r * H + hR R n r) / H = r := by rw [Nat.mul_comm, Nat.mul_add_div (by omega), Nat.div_eq_of_lt (by omega)]; omega
          rw [← q1, ← q2, q]
        exact z this.symm
theorem rH_lt {r l W H : Nat} (hr : r < W) (hl : l < H) : r * H + l < W * H := by
  have : (r + 1) * H ≤ W * H := Nat.mul_le_mul_right _ hr
  rw [Nat.add_mul] at this; omega
theorem rH_b {W H : Nat} (hW : W ≤ 20) (hH : H ≤ 8) : W * H ≤ 160 := by
  have := Nat.mul_le_mul hW hH; omega
theorem yc_place {n W H G : Nat} {R L : Nat → Int32} {h : List (Nat × Int32)} {m : Int32} {x : Nat} {f : Int32} (y : CY C n W H G R L h m) (w : YW n W H R L) (hn : n ≤ 100) (hW : W ≤ 20) (hH : H ≤ 8) (g : goO n W H R L x f) : ∃ C', dp_den true xs xl (d + 1) 248 [.ref 28, .int (nI x), .int f] C = vR C' ∧ CY C' n W H G (uI R x f) (goL n R L x f) h m ∧ Off [29, 30, 33, 36] [] C C' ∧ Cst 0 0 C C' := by
  have y0 := y
  obtain ⟨a1, a2, a3, a4, a5, a6, a7, a8, a9, a10, a11, a12, a13, a14⟩ := y
  have g1 := g.1
  obtain ⟨C1, c1, c2, c3, c4, c5⟩ : ∃ C1 : dp_M, (∀ r, r < W → dp_I C1 33 r = nI (hR (uI R x (-1)) n r)) ∧ (∀ k, k ≠ 33 → dp_I C1 k = dp_I C k) ∧ dp_len C1 = dp_len C ∧ (Off [29, 30, 33, 36] [] C C1 ∧ Cst 0 0 C C1) ∧ ∀ r, D_X10_place_25 xs xl d (nI x) f C1 = some r → dp_den true xs xl (d + 1) 248 [.ref 28, .int (nI x), .int f] C = some r := by
    rcases w.1 x g1 with q | ⟨r, l, q1, q2, q3, q4⟩
    · refine ⟨C, fun r hr => ?_, fun _ _ => rfl, rfl, ⟨Off.rr _ _ _, Cst.r _⟩, fun r hr => ?_⟩
      · have := hR_r (R := R) g1 r (by omega)
        rw [q.1, if_neg (fun e => m1_ne (r := r) (by omega) e.symm)] at this
        rw [a10 r hr]; congr 1; omega
      · rw [D_X10_place_0_den, D_X10_place_0_eq]
        simp only [nI_cl (show x < 2147483648 by omega), nI_o (show x < 100 by omega) (by omega), if_false, (a8 x g1).1]
        rw [if_pos q.1]; exact hr
    · have h1 := hR_r (R := R) g1 r (by omega)
      rw [if_pos q3] at h1
      refine ⟨dp_setI C 33 r (nI (hR (uI R x (-1)) n r)), fun r' hr' => ?_, fun k hk => by rw [gII, if_neg hk], rfl, ⟨(Off.rr _ _ _).I 33 (by decide) _ _, ⟨Nat.le_refl _, Nat.le_refl _⟩⟩, fun rr hr => ?_⟩
      · rw [gII, if_pos rfl]
        by_cases z : r' = r
        · subst z; rw [uI_s]
        · rw [uI_n z, a10 r' hr']
          have h2 := hR_r (R := R) g1 r' (by omega)
          rw [q3, if_neg (fun e => z (by rw [nI_eq (by omega) (by omega)] at e; exact e.symm))] at h2
          congr 1; omega
      · rw [D_X10_place_0_den, D_X10_place_0_eq]
        simp only [nI_cl (show x < 2147483648 by omega), nI_o (show x < 100 by omega) (by omega), if_false, (a8 x g1).1, q3, a4, nI_cl (show r < 2147483648 by omega), nI_o q1 (by omega), a10 r q1, ← h1, nI_pred, dp_w]
        rw [if_neg (m1_ne (by omega))]; exact hr
  have cr := y0.rem w hn hW g c1 c2 c3
  obtain ⟨C2, hC2⟩ : ∃ C2, C2 = dp_setI (dp_setI C1 29 x (-1)) 30 x (-1) := ⟨_, rfl⟩
  rw [← hC2] at cr
  have o2 : Off [29, 30, 33, 36] [] C C2 ∧ Cst 0 0 C C2 := by rw [hC2]; exact ⟨(c4.1.I 29 (by decide) _ _).I 30 (by decide) _ _, c4.2⟩
  have xa : (nI x).toNatClampNeg = x := nI_cl (by omega)
  have xo : (nI x < 0 ∨ 100 ≤ x) = False := nI_o (by omega) (by omega)
  rcases g.2.2 with e | ⟨r, hr, e, hlt⟩
  · refine ⟨C2, c5 _ ?_, ?_, o2⟩
    · rw [D_X10_place_25_eq]
      simp only [xa, xo, if_false, dp_w, ← hC2]
      rw [if_pos e]
    · have e1 : goL n R L x f = uI L x (-1) := by unfold goL; rw [if_pos e]
      rw [e1, e]; exact cr
  · have b := rH_b hW hH
    have hb := rH_lt hr hlt
    have y2 := cr
    obtain ⟨b1, b2, b3, b4, b5, b6, b7, b8, b9, b10, b11, -⟩ := y2
    have h2 := hR_r (R := R) g1
    refine ⟨dp_setI (dp_setI (dp_setI (dp_setI C2 29 x (nI r)) 30 x (nI (hR (uI R x (-1)) n r))) 36 (r * H + hR (uI R x (-1)) n r) (nI x)) 33 r (nI (hR (uI R x (-1)) n r + 1)), c5 _ ?_, ?_, ?_, ?_⟩
    · rw [D_X10_place_25_eq]
      simp only [xa, xo, if_false, dp_w, ← hC2]
      rw [e, if_neg (m1_ne (by omega))]
      simp only [nI_cl (show r < 2147483648 by omega), b4, nI_o hr (by omega), if_false, b2, b10 r hr, dp_w, gII, glI, Nat.reduceEqDiff, pk_mul, nI_add, nI_cl (show r * H + hR (uI R x (-1)) n r < 2147483648 by omega), b7, nI_o hb (by omega), nI_1]
      rw [if_neg (nI_nge hlt (by omega))]
    · have := cr.ins hn hW hH g1 hr (uI_s _ _ _) hlt (fun r' hr' => by
        have h3 := h2 r' (by omega)
        have := w.2.2 r' hr'
        omega)
      have e1 : goL n R L x f = uI (uI L x (-1)) x (nI (hR (uI R x (-1)) n r)) := by
        unfold goL; rw [uI_uI, e, if_neg (m1_ne (by omega))]; rfl
      rw [uI_uI R] at this
      rw [e1, e]; exact this
    · exact (((o2.1.I 29 (by decide) _ _).I 30 (by decide) _ _).I 36 (by decide) _ _).I 33 (by decide) _ _
    · exact o2.2
end YA
