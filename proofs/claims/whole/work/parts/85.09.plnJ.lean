-- needs: 71 72 73 74 75 76
/-! PLAN: the class's search, from its start -/
section PnJ
variable {xs : Nat → Int32} {xl d : Nat} {M : dp_M}
theorem c_srch {n T c0 r : Nat} {l ah : Nat → Int32} {G : List qE → Prop} (hn : n ≤ 4) (hT : T ≤ 4) (hG : GI G n T l ah)
    (hD : ∀ i L, qfe l n (qbf n T l ah [(c0, 0, 0)] i) < (qbf n T l ah [(c0, 0, 0)] i).length → G (qbf n T l ah [(c0, 0, 0)] i) → anc (qbf n T l ah [(c0, 0, 0)] i) (qfe l n (qbf n T l ah [(c0, 0, 0)] i)) L = 0 → (∀ m, m < L → 0 < anc (qbf n T l ah [(c0, 0, 0)] i) (qfe l n (qbf n T l ah [(c0, 0, 0)] i)) m) → L ≤ 16)
    (hc : c0 < 65536) (hcn : c0 % 16 ^ n = c0) (h20 : ∀ i, i < n → dp_I M 20 i = nI (pl c0 i)) (x3 : dp_I M 21 = l) (x4 : dp_I M 22 = ah) (hr : dp_I M 14 10 = nI r) (hr1 : r + 1 < 2147483648) (h16 : ∀ a, ∃ x : Nat, x ≤ r ∧ dp_I M 16 a = nI x) (hq : G [(c0, 0, 0)]) :
    ∃ v M' i, dp_den true xs xl (d + 6) 106 [.ref 14, .int (nI n), .int (nI T)] M = iR v M' ∧ cAn n T l ah [(c0, 0, 0)] G M' v i ∧ Pf cPf cFl M M' ∧ dp_I M' 14 10 = nI (r + 1) := by
  obtain ⟨M3, e3⟩ : ∃ M3, M3 = dp_setI (dp_setI (dp_setI M 14 12 (nI n)) 14 13 (nI T)) 14 10 (nI (r + 1)) := ⟨_, rfl⟩
  have p3 : Pf cPf cFl M M3 := by rw [e3]; exact (((Pf.r _ _ M).F 12 (by decide) _).F 13 (by decide) _).F 10 (by decide) _
  have f10 : dp_I M3 14 10 = nI (r + 1) := by rw [e3, gII, if_pos rfl, uI_s]
  have f12 : dp_I M3 14 12 = nI n := by rw [e3, gII, if_pos rfl, uI_n (by decide), gII, if_pos rfl, uI_n (by decide), gII, if_pos rfl, uI_s]
  have f13 : dp_I M3 14 13 = nI T := by rw [e3, gII, if_pos rfl, uI_n (by decide), gII, if_pos rfl, uI_s]
  have fr : ∀ k, k ≠ 14 → dp_I M3 k = dp_I M k := fun k hk => by rw [e3, gII, if_neg hk, gII, if_neg hk, gII, if_neg hk]
  obtain ⟨M4, e4⟩ : ∃ M4, M4 = dp_setI (dp_setI (dp_setI (dp_setI M3 16 c0 (nI (r + 1))) 17 0 (nI c0)) 18 0 (-1)) 14 11 1 := ⟨_, rfl⟩
  have p4 : Pf cPf cFl M M4 := by
    rw [e4]
    exact (((p3.I 16 (by decide) _ _).I 17 (by decide) _ _).I 18 (by decide) _ _).F 11 (by decide) _
  have g14 : ∀ k, k ≠ 11 → dp_I M4 14 k = dp_I M3 14 k := fun k hk => by rw [e4, gII, if_pos rfl, uI_n hk, gII, if_neg (by decide), gII, if_neg (by decide), gII, if_neg (by decide)]
  have g11 : dp_I M4 14 11 = 1 := by rw [e4, gII, if_pos rfl, uI_s]
  have r16 : dp_I M4 16 = uI (dp_I M 16) c0 (nI (r + 1)) := by rw [e4, gII, if_neg (by decide), gII, if_neg (by decide), gII, if_neg (by decide), gII, if_pos rfl, fr 16 (by decide)]
  have r17 : dp_I M4 17 0 = nI c0 := by rw [e4, gII, if_neg (by decide), gII, if_neg (by decide), gII, if_pos rfl, uI_s]
  have r18 : dp_I M4 18 0 = -1 := by rw [e4, gII, if_neg (by decide), gII, if_pos rfl, uI_s]
  have r21 : dp_I M4 21 = l := by rw [p4.row (by decide) (by decide) (by decide)]; exact x3
  have r22 : dp_I M4 22 = ah := by rw [p4.row (by decide) (by decide) (by decide)]; exact x4
  have en := c_end (xs := xs) (xl := xl) (d := d + 4) (M := M4) (n := n) (c := c0) hn (by rw [g14 12 (by decide)]; exact f12) hc
  rw [r21] at en
  have efe : qfe l n [(c0, 0, 0)] = if eok l n c0 = true then 0 else 1 := by
    have := qfe_a (l := l) (n := n) (Q := []) (e := (c0, 0, 0))
    rw [if_neg (show ¬ qfe l n [] < ([] : List qE).length from Nat.not_lt_zero _)] at this
    exact this
  obtain ⟨M5, e5⟩ : ∃ M5, M5 = dp_setI M4 14 15 (if eok l n c0 = true then 0 else -1) := ⟨_, rfl⟩
  have p5 : Pf cPf cFl M M5 := by rw [e5]; exact p4.F 15 (by decide) _
  have k14 : ∀ k, k ≠ 15 → dp_I M5 14 k = dp_I M4 14 k := fun k hk => by rw [e5, gII, if_pos rfl, uI_n hk]
  have k15 : dp_I M5 14 15 = if eok l n c0 = true then 0 else -1 := by rw [e5, gII, if_pos rfl, uI_s]
  have kr : ∀ k, k ≠ 14 → dp_I M5 k = dp_I M4 k := fun k hk => by rw [e5, gII, if_neg hk]
  have k10 : dp_I M5 14 10 = nI (r + 1) := by rw [k14 10 (by decide), g14 10 (by decide)]; exact f10
  have sb : SB M5 := by
    refine ⟨r + 1, ⟨hr1, k10⟩, fun a => ?_⟩
    rw [kr 16 (by decide), r16]
    by_cases y : a = c0
    · rw [y, uI_s]; exact ⟨r + 1, Nat.le_refl _, rfl⟩
    · rw [uI_n y]
      obtain ⟨x, b1, b2⟩ := h16 a
      exact ⟨x, by omega, b2⟩
  have cs : CS M5 l n [(c0, 0, 0)] := by
    refine ⟨?_, ?_, fun j hj => ?_, fun q c hc' => ?_, fun j hj => ?_, sb⟩
    · rw [k14 11 (by decide), g11, show ([(c0, 0, 0)] : List qE).length = 1 from rfl, Nat.min_eq_right (by omega)]; rfl
    · rw [k15, efe, show ([(c0, 0, 0)] : List qE).length = 1 from rfl]
      by_cases y : eok l n c0 = true
      · rw [if_pos y, if_pos y, if_pos (by decide)]; rfl
      · rw [if_neg y, if_neg y, if_neg (by decide)]
    · have : j = 0 := by rw [show ([(c0, 0, 0)] : List qE).length = 1 from rfl] at hj; omega
      subst this
      rw [kr 17 (by decide), kr 18 (by decide), r17, r18, if_pos rfl]
      exact ⟨rfl, rfl, fun q => absurd q (Nat.lt_irrefl 0)⟩
    · rw [kr 16 (by decide), k10, r16]
      have hh : qhas [(c0, 0, 0)] c = true ↔ c0 = c := by
        unfold qhas
        simp only [List.any_cons, List.any_nil, Bool.or_false, decide_eq_true_iff]
      rw [hh]
      by_cases y : c = c0
      · rw [y, uI_s]; exact ⟨fun _ => rfl, fun _ => rfl⟩
      · rw [uI_n y]
        obtain ⟨x, b1, b2⟩ := h16 c
        rw [b2]
        exact ⟨fun q => by rw [nI_eq (by omega) (by omega)] at q; omega, fun q => absurd q.symm y⟩
    · have : j = 0 := by rw [show ([(c0, 0, 0)] : List qE).length = 1 from rfl] at hj; omega
      subst this; exact hc
  obtain ⟨v, M', i, s1, s2, s3⟩ := c_slp (xs := xs) (xl := xl) (d := d) (a := nI n) (b := nI T) hn hT hG hD (by rw [k14 12 (by decide), g14 12 (by decide)]; exact f12) (by rw [k14 13 (by decide), g14 13 (by decide)]; exact f13) (by rw [kr 21 (by decide)]; exact r21) (by rw [kr 22 (by decide)]; exact r22) cs hq (nI c0)
  refine ⟨v, M', i, ?_, s2, p5.tr (s3.mono (by decide) (by decide)), by rw [s3.2.2.2 10 (by decide)]; exact k10⟩
  rw [D_X4_search_0_den, D_X4_search_0_eq]
  simp only [dp_w]
  have em : dp_setI (dp_setI (dp_setI M 14 12 (nI n)) 14 13 (nI T)) 14 10 (dp_I (dp_setI (dp_setI M 14 12 (nI n)) 14 13 (nI T)) 14 10 + 1) = M3 := by
    rw [e3, gII, if_pos rfl, uI_n (by decide), gII, if_pos rfl, uI_n (by decide), hr, nI_1]
  rw [em]
  have hfin : D_X4_search_25 xs xl (d + 5) (nI n) (nI T) (nI (c0 % 16 ^ 0)) (nI 0) M3 = some (.inl (some (.int v)), M') := by
    refine lpf (F := fun i => D_X4_search_25 xs xl (d + 5) (nI n) (nI T) (nI (c0 % 16 ^ i)) (nI i) M3) (a := 0) (j := n) (Nat.zero_le _) (fun i _ hi hr' => ?_) ?_
    · (try dsimp only at hr'); (try dsimp only)
      rw [D_X4_search_25_eq, if_neg (nI_nge hi (by omega))]
      simp only [dp_w, nI_cl (show i < 2147483648 by omega), nI_o (show i < 4 by omega) (by omega), if_false, nI_1]
      rw [fr 20 (by decide), h20 i hi, md_s hc (by omega)]; exact hr'
    · (try dsimp only)
      rw [D_X4_search_25_eq, if_pos (nI_lle (Nat.le_refl _) (by omega)), hcn]
      simp only [dp_w]
      rw [if_neg (nI_inn hc (by omega)), nI_cl (by omega), f10, if_neg (show ¬ ((0 : Int32) < 0 ∨ 1300 ≤ Int32.toNatClampNeg (0 : Int32)) by decide), if_neg (show ¬ ((0 : Int32) < 0 ∨ 1300 ≤ Int32.toNatClampNeg (0 : Int32)) by decide), show Int32.toNatClampNeg (0 : Int32) = 0 from rfl, ← e4, en, rb_bi]
      by_cases y : eok l n c0 = true
      · rw [bI, if_pos y, if_neg (by decide)]
        rw [if_pos y] at e5
        rw [← e5]; exact s1
      · rw [bI, if_neg y, if_pos rfl]
        rw [if_neg y] at e5
        rw [← e5]; exact s1
  rw [show c0 % 16 ^ 0 = 0 from Nat.mod_one c0] at hfin
  exact hfin
end PnJ
