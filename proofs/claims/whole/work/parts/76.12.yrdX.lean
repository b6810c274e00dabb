-- needs: 75
/-! HOLD and YARD: box, swap, before, plan leave the yard as it is -/
theorem hR_x {R R' : Nat → Int32} {n r : Nat} (h : ∀ i, i < n → R' i = R i) (h1 : R' n = -1) (hr : r < 2147483648) : hR R' (n + 1) r = hR R n r := by
  unfold hR
  rw [ct, if_neg (fun q => m1_ne hr (by rw [← rwf_t.mp q, h1]))]
  rw [Nat.add_zero]
  exact ct_c (fun i hi => by unfold rwf; rw [h i hi])
theorem HV.box {n W H : Nat} (hW : W ≤ 20) : ∀ (h : List (Nat × Int32)) (R L R' L' : Nat → Int32), (∀ i, i < n → R' i = R i ∧ L' i = L i) → R' n = -1 → HV n W H h R L → HV (n + 1) W H h R' L'
  | [], _, _, _, _, _, _, _ => trivial
  | (x, f) :: h, R, L, R', L', e, e1, hv => by
    obtain ⟨⟨g1, g2, g3⟩, hv2⟩ := hv
    have xn : n ≠ x := by omega
    have e0 : ∀ i, i < n → R' i = R i := fun i hi => (e i hi).1
    have e2 : ∀ (v : Int32) i, i < n → uI R' x v i = uI R x v i := fun v i hi => by
      by_cases w : i = x
      · subst w; rw [uI_s, uI_s]
      · rw [uI_n w, uI_n w]; exact e0 i hi
    have e3 : ∀ v : Int32, uI R' x v n = -1 := fun v => by rw [uI_n xn]; exact e1
    refine ⟨⟨by omega, fun r hr q => ?_, ?_⟩, HV.box hW h _ _ _ _ (fun i hi => ⟨e2 f i hi, ?_⟩) (e3 f) hv2⟩
    · rw [hR_x e0 e1 (by omega), (e x g1).2]; exact g2 r hr (by rw [← e0 x g1]; exact q)
    · rcases g3 with q | ⟨r, q1, q2, q3⟩
      · exact Or.inl q
      · exact Or.inr ⟨r, q1, q2, by rw [hR_x (e2 (-1)) (e3 (-1)) (by omega)]; exact q3⟩
    · unfold goL
      by_cases w : i = x
      · subst w
        rw [uI_s, uI_s]
        rcases g3 with q | ⟨r, q1, q2, q3⟩
        · rw [if_pos q, if_pos q]
        · have nf : ¬ f = -1 := by rw [q2]; exact m1_ne (by omega)
          rw [if_neg nf, if_neg nf, q2]
          have := hR_x (e2 (-1)) (e3 (-1)) (show r < 2147483648 by omega)
          unfold hR at this
          rw [this]
      · rw [uI_n w, uI_n w]; exact (e i hi).2
theorem HY.box {M M2 : dp_M} {n B T : Nat} (y : YR M n) (zr : ZR M n) (hn : n < 100) (hr : HR M2 (n + 1) B T) (o : Off (245 :: 140 :: 141 :: 146 :: HR_S) (0 :: HR_T) M M2) (e140 : dp_I M2 140 = uI (dp_I M 140) n (-1)) (e141 : dp_I M2 141 = uI (dp_I M 141) n (-1)) (ek : ∀ k i, k ∈ [2, 3, 4, 5, 6, 7, 8, 9, 10] → i < n → dp_I M2 k i = dp_I M k i) : HY M2 (n + 1) B T ∧ ZR M2 (n + 1) := by
  obtain ⟨W, H, G, R, L, h, m, cy, my, yi, e144, ygr⟩ := y
  obtain ⟨i1, i2, i3, i4, i5, i6, i7, i8, i9, i10, i11, i12⟩ := yi
  have e : ∀ k, k ∈ [11, 28, 29, 30, 31, 32, 33, 34, 35, 36, 133, 134, 142, 143, 144] → dp_I M2 k = dp_I M k := fun k hk => (o.1 k (by simp only [List.mem_cons, List.not_mem_nil, or_false] at hk; omega) (by simp only [HR_S, List.mem_cons, List.not_mem_nil, or_false] at hk ⊢; omega) (by simp only [List.mem_cons, List.not_mem_nil, or_false] at hk; omega)).1
  have f : ∀ i, i ∈ [25, 26, 27, 37, 38] → dp_I M2 114 i = dp_I M 114 i := fun i hi => (o.2.1 i (by simp only [HR_T, List.mem_cons, List.not_mem_nil, or_false] at hi ⊢; omega)).1
  have l := o.2.2.1
  have ro : ∀ i, i < n → uI R n (-1) i = R i ∧ uI L n (-1) i = L i := fun i hi => ⟨uI_n (by omega), uI_n (by omega)⟩
  have hh : ∀ r, r < W → hR (uI R n (-1)) (n + 1) r = hR R n r := fun r hr1 => hR_x (fun i hi => (ro i hi).1) (uI_s _ _ _) (by omega)
  obtain ⟨c1, c2, c3, c4, c5, c6, c7, c8, c9, c10, c11, c12, c13, c14⟩ := cy
  obtain ⟨m1, m2, m3, m4, m5, m6, m7⟩ := my
  refine ⟨⟨hr, W, H, G, uI R n (-1), uI L n (-1), h, m, ?_, ?_, ?_, ?_, ?_⟩, ?_⟩
  · unfold CY
    rw [e 28 (by decide), e 29 (by decide), e 30 (by decide), e 31 (by decide), e 32 (by decide), e 33 (by decide), e 36 (by decide), l 33 (by decide), l 34 (by decide), l 35 (by decide), l 36 (by decide)]
    refine ⟨c1, c2, c3, c4, c5, c6, c7, fun i hi => ?_, fun i h1 h2 => c9 i (by omega) h2, fun r hr1 => by rw [hh r hr1]; exact c10 r hr1, fun r l' hr1 hl => ?_, c12, c13, c14⟩
    · by_cases z : i = n
      · subst z; rw [uI_s, uI_s]; exact c9 i (Nat.le_refl _) hn
      · rw [(ro i (by omega)).1, (ro i (by omega)).2]; exact c8 i (by omega)
    · rw [hh r hr1] at hl
      obtain ⟨i, q1, q2, q3, q4⟩ := c11 r l' hr1 hl
      exact ⟨i, by omega, q2, by rw [(ro i q1).1]; exact q3, by rw [(ro i q1).2]; exact q4⟩
  · unfold MY
    rw [f 25 (by decide), f 26 (by decide), f 27 (by decide), f 37 (by decide), f 38 (by decide), e 142 (by decide), e 143 (by decide), e140, e141]
    refine ⟨m1, m2, m3, fun i hi => ?_, m5, m6, m7⟩
    by_cases z : i = n
    · subst z; rw [uI_s, uI_s, uI_s, uI_s]; exact ⟨rfl, rfl⟩
    · rw [uI_n z, uI_n z, uI_n z, uI_n z]; exact m4 i (by omega)
  · refine ⟨i1, i2, i3, i4, i5, i6, by omega, i8, ⟨fun i hi => ?_, fun i j r hi hj hr1 q1 q2 q3 => ?_, fun r hr1 => by rw [hh r hr1]; exact i9.2.2 r hr1⟩, HV.box i2 h R L _ _ ro (uI_s _ _ _) i10, fun i hi q => ?_, fun q hq => ?_⟩
    · by_cases z : i = n
      · subst z; rw [uI_s, uI_s]; exact Or.inl ⟨rfl, rfl⟩
      · rw [uI_n z, uI_n z]
        rcases i9.1 i (by omega) with q | ⟨r, l', q1, q2, q3, q4⟩
        · exact Or.inl q
        · exact Or.inr ⟨r, l', q1, by rw [hh r q1]; exact q2, q3, q4⟩
    · have zi : i ≠ n := fun z => by subst z; rw [uI_s] at q1; exact m1_ne (r := r) (by omega) q1.symm
      have zj : j ≠ n := fun z => by subst z; rw [uI_s] at q2; exact m1_ne (r := r) (by omega) q2.symm
      rw [uI_n zi] at q1
      rw [uI_n zj] at q2
      rw [uI_n zi, uI_n zj] at q3
      exact i9.2.1 i j r (by omega) (by omega) hr1 q1 q2 q3
    · have zi : i ≠ n := fun z => by subst z; rw [uI_s] at q; exact q rfl
      rw [uI_n zi] at q
      rw [ek 9 i (by decide) (by omega), e 11 (by decide)]
      exact i11 i (by omega) q
    · obtain ⟨q1, q2⟩ := i12 q hq
      exact ⟨by omega, by rw [ek 9 _ (by decide) q1]; exact q2⟩
  · rw [e 144 (by decide), e 11 (by decide)]; exact e144
  · intro r hr1; rw [e 133 (by decide), e 134 (by decide), e 34 (by decide), e 35 (by decide)]; exact ygr r hr1
  · intro i hi q
    rw [e 11 (by decide)]
    refine zr i hi ?_
    by_cases z : n ≤ i
    · exact Or.inl z
    · right
      rw [← ek 9 i (by decide) (by omega)]
      exact q.resolve_left (by omega)
theorem YR.stk {M M2 : dp_M} {S T : List Nat} {n : Nat} (y : YR M n) (o : Off S T M M2) (hS : ∀ k ∈ YR_S, k ≠ 9 → k ∉ S) (hT : ∀ i ∈ MY_T, i ∉ T) (h9 : ∀ i, dp_I M 9 i = 3 ↔ dp_I M2 9 i = 3) : YR M2 n := by
  have e : ∀ k ∈ YR_S, k ≠ 9 → dp_I M2 k = dp_I M k := fun k hk hk9 => (o.1 k (by simp only [YR_S, List.mem_cons, List.not_mem_nil, or_false] at hk; omega) (hS k hk hk9) (by simp only [YR_S, List.mem_cons, List.not_mem_nil, or_false] at hk; omega)).1
  obtain ⟨W, H, G, R, L, h, m, y1, y2, y3, y4, y5⟩ := y
  refine ⟨W, H, G, R, L, h, m, CY_off y1 o (fun k hk => hS k (by simp only [CY_S, YR_S, List.mem_cons, List.not_mem_nil, or_false] at hk ⊢; omega) (by simp only [CY_S, List.mem_cons, List.not_mem_nil, or_false] at hk; omega)), MY_off y2 o (fun k hk => hS k (by simp only [MY_S, YR_S, List.mem_cons, List.not_mem_nil, or_false] at hk ⊢; omega) (by simp only [MY_S, List.mem_cons, List.not_mem_nil, or_false] at hk; omega)) hT, ?_, ?_, ?_⟩
  · rw [e 11 (by decide) (by decide)]
    exact y3.stk (fun i _ q => (h9 i).mp q)
  · rw [e 144 (by decide) (by decide), e 11 (by decide) (by decide)]; exact y4
  · intro r hr; rw [e 133 (by decide) (by decide), e 134 (by decide) (by decide), e 34 (by decide) (by decide), e 35 (by decide) (by decide)]; exact y5 r hr
theorem ZR.stk {M M2 : dp_M} {S T : List Nat} {n : Nat} (z : ZR M n) (o : Off S T M M2) (h11 : 11 ∉ S) (h9 : ∀ i, dp_I M 9 i = 3 ↔ dp_I M2 9 i = 3) : ZR M2 n := by
  intro i hi q
  rw [(o.1 11 (by decide) h11 (by decide)).1]
  exact z i hi (q.imp id (fun w y => w ((h9 i).mp y)))
