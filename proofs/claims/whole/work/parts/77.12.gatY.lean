-- needs: 75 76
/-! HOLD and YARD with the gate -/
section GM
variable {xs : Nat → Int32} {xl d : Nat} {M : dp_M}
def GT_S : List Nat := [5, 11, 37, 38, 39, 40, 41, 42, 43, 44, 45, 46, 47, 48, 49, 50, 145, 146, 147, 148, 149, 150, 151, 152, 153, 154, 233, 241]
theorem PR.lift {M2 : dp_M} {S T : List Nat} {n B t c : Nat} (h : PR M n B t c) (h1 : HY M2 n B t ∧ ZR M2 n) (o : Off S T M M2) (hS : ∀ k ∈ GT_S, k ∉ S) (hT : ∀ i ∈ [44, 52, 160], i ∉ T) : PR M2 n B t c := by
  obtain ⟨-, h2, h3, h4, h5, h6, h7⟩ := h
  have a1 : ∀ k ∈ [37, 50, 154], k ∈ GT_S := by decide
  have a2 : ∀ k ∈ [37, 42, 44, 45, 46, 47, 147, 148, 233, 241], k ∈ GT_S := by decide
  have a3 : ∀ k ∈ [48, 49, 149, 150], k ∈ GT_S := by decide
  have a4 : ∀ k ∈ [43, 146], k ∈ GT_S := by decide
  have a5 : ∀ k ∈ [5, 11, 41, 145], k ∈ GT_S := by decide
  have a6 : ∀ k ∈ [38, 39, 40, 151, 152, 153], k ∈ GT_S := by decide
  exact ⟨h1, GTl_off h2 o (fun k hk => hS k (a1 k hk)) (hT 52 (by decide)), GGd_off h3 o (fun k hk => hS k (a2 k hk)) (fun i hi => hT i (by
    have : ∀ i ∈ [44, 160], i ∈ [44, 52, 160] := by decide
    exact this i hi)), GBr_off h4 o (fun k hk => hS k (a3 k hk)), GLd_off h5 o (fun k hk => hS k (a4 k hk)), GRl_off h6 o (fun k hk => hS k (a5 k hk)), GRu_off h7 o (fun k hk => hS k (a6 k hk))⟩
theorem p_at {n B T c : Nat} (h : PR M n B T c) (hn : 246 ≤ dp_n M) (v1 v2 : Int32) : ∃ k b M1 M2, dp_den true xs xl (d + 5) 608 [.ref 0, .int v1, .int v2, .ref 245] M = iR k M1 ∧ dp_den true xs xl (d + 5) 420 [.ref 114, .int v1, .int v2] M1 = iR b M2 ∧
    dp_I M2 114 0 = k ∧ (k = 0 → dp_J M2 245 0 = b.toInt64) ∧ PR M2 n B T c ∧ Off HY_S HY_T M M2 ∧ Cst 1 6 M M2 := by
  obtain ⟨k, b, M1, M2, a1, a2, a3, a4, a5, a6, a7⟩ := s_at (xs := xs) (xl := xl) (d := d) h.1.1 hn v1 v2
  exact ⟨k, b, M1, M2, a1, a2, a3, a4, h.lift ⟨a5, ZR_off h.1.2 a6 (by decide) (by decide)⟩ a6 (by decide) (by decide), a6, a7⟩
theorem p_ground {n B T c : Nat} (h : PR M n B T c) (v1 v2 : Int32) : ∃ v M1 M2, dp_den true xs xl (d + 4) 272 [.ref 0, .int v1, .int v2] M = iR v M1 ∧ dp_den true xs xl (d + 4) 406 [.ref 114, .int v1, .int v2] M1 = iR v M2 ∧ PR M2 n B T c ∧ Off (34 :: 133 :: HY_S) HY_T M M2 ∧ Cst 0 0 M M2 := by
  obtain ⟨v, M1, M2, a1, a2, a5, a6, a7⟩ := s_ground (xs := xs) (xl := xl) (d := d) h.1.1 v1 v2
  exact ⟨v, M1, M2, a1, a2, h.lift ⟨a5, ZR_off h.1.2 a6 (by decide) (by decide)⟩ a6 (by decide) (by decide), a6, a7⟩
theorem p_reserve {n B T c : Nat} (h : PR M n B T c) (v1 v2 : Int32) : ∃ v M1 M2, dp_den true xs xl (d + 4) 273 [.ref 0, .int v1, .int v2] M = iR v M1 ∧ dp_den true xs xl (d + 4) 407 [.ref 114, .int v1, .int v2] M1 = iR v M2 ∧ PR M2 n B T c ∧ Off (35 :: 134 :: HY_S) HY_T M M2 ∧ Cst 0 0 M M2 := by
  obtain ⟨v, M1, M2, a1, a2, a5, a6, a7⟩ := s_reserve (xs := xs) (xl := xl) (d := d) h.1.1 v1 v2
  exact ⟨v, M1, M2, a1, a2, h.lift ⟨a5, ZR_off h.1.2 a6 (by decide) (by decide)⟩ a6 (by decide) (by decide), a6, a7⟩
theorem p_put {n B T c : Nat} (h : PR M n B T c) (hn : 246 ≤ dp_n M) (v1 v2 : Int32) : ∃ k b M1 M2, dp_den true xs xl (d + 6) 602 [.ref 0, .int v1, .int v2, .ref 245] M = iR k M1 ∧ dp_den true xs xl (d + 6) 410 [.ref 114, .int v1, .int v2] M1 = iR b M2 ∧
    dp_I M2 114 0 = k ∧ (k = 0 → dp_J M2 245 0 = b.toInt64) ∧ PR M2 n B T c ∧ Off HY_S HY_T M M2 ∧ Cst 1 6 M M2 := by
  obtain ⟨k, b, M1, M2, a1, a2, a3, a4, a5, a6, a7⟩ := s_put (xs := xs) (xl := xl) (d := d) h.1.1 hn v1 v2
  exact ⟨k, b, M1, M2, a1, a2, a3, a4, h.lift ⟨a5, ZR_off h.1.2 a6 (by decide) (by decide)⟩ a6 (by decide) (by decide), a6, a7⟩
theorem p_take {n B T c : Nat} (h : PR M n B T c) (hn : 246 ≤ dp_n M) (v1 : Int32) : ∃ k b M1 M2, dp_den true xs xl (d + 6) 603 [.ref 0, .int v1, .ref 245] M = iR k M1 ∧ dp_den true xs xl (d + 6) 411 [.ref 114, .int v1] M1 = iR b M2 ∧
    dp_I M2 114 0 = k ∧ (k = 0 → dp_J M2 245 0 = b.toInt64) ∧ PR M2 n B T c ∧ Off HY_S HY_T M M2 ∧ Cst 1 6 M M2 := by
  obtain ⟨k, b, M1, M2, a1, a2, a3, a4, a5, a6, a7⟩ := s_take (xs := xs) (xl := xl) (d := d) h.1.1 hn v1
  exact ⟨k, b, M1, M2, a1, a2, a3, a4, h.lift ⟨a5, ZR_off h.1.2 a6 (by decide) (by decide)⟩ a6 (by decide) (by decide), a6, a7⟩
theorem p_shift {n B T c : Nat} (h : PR M n B T c) (hn : 246 ≤ dp_n M) (v1 v2 : Int32) : ∃ k b M1 M2, dp_den true xs xl (d + 6) 604 [.ref 0, .int v1, .int v2, .ref 245] M = iR k M1 ∧ dp_den true xs xl (d + 6) 412 [.ref 114, .int v1, .int v2] M1 = iR b M2 ∧
    dp_I M2 114 0 = k ∧ (k = 0 → dp_J M2 245 0 = b.toInt64) ∧ PR M2 n B T c ∧ Off HY_S HY_T M M2 ∧ Cst 1 6 M M2 := by
  obtain ⟨k, b, M1, M2, a1, a2, a3, a4, a5, a6, a7⟩ := s_shift (xs := xs) (xl := xl) (d := d) h.1.1 hn v1 v2
  exact ⟨k, b, M1, M2, a1, a2, a3, a4, h.lift ⟨a5, ZR_off h.1.2 a6 (by decide) (by decide)⟩ a6 (by decide) (by decide), a6, a7⟩
theorem p_choose {n B T c : Nat} (h : PR M n B T c) (hn : 246 ≤ dp_n M) (v1 : Int32) : ∃ k b M1 M2, dp_den true xs xl (d + 6) 605 [.ref 0, .int v1, .ref 245] M = iR k M1 ∧ dp_den true xs xl (d + 6) 413 [.ref 114, .int v1] M1 = iR b M2 ∧
    dp_I M2 114 0 = k ∧ (k = 0 → dp_J M2 245 0 = b.toInt64) ∧ PR M2 n B T c ∧ Off HY_S HY_T M M2 ∧ Cst 1 6 M M2 := by
  obtain ⟨k, b, M1, M2, a1, a2, a3, a4, a5, a6, a7⟩ := s_choose (xs := xs) (xl := xl) (d := d) h.1.1 hn v1
  exact ⟨k, b, M1, M2, a1, a2, a3, a4, h.lift ⟨a5, ZR_off h.1.2 a6 (by decide) (by decide)⟩ a6 (by decide) (by decide), a6, a7⟩
theorem p_undo {n B T c : Nat} (h : PR M n B T c) : ∃ v M1 M2, dp_den true xs xl (d + 4) 279 [.ref 0] M = iR v M1 ∧ dp_den true xs xl (d + 4) 417 [.ref 114] M1 = iR v M2 ∧ PR M2 n B T c ∧ Off HY_S HY_T M M2 ∧ Cst 0 0 M M2 := by
  obtain ⟨v, M1, M2, a1, a2, a5, a6, a7⟩ := s_undo (xs := xs) (xl := xl) (d := d) h.1.1 
  exact ⟨v, M1, M2, a1, a2, h.lift ⟨a5, ZR_off h.1.2 a6 (by decide) (by decide)⟩ a6 (by decide) (by decide), a6, a7⟩
theorem p_night {n B T c : Nat} (h : PR M n B T c) (hn : 246 ≤ dp_n M) (v1 : Int32) : ∃ k b M1 M2, dp_den true xs xl (d + 9) 606 [.ref 0, .int v1, .ref 245] M = iR k M1 ∧ dp_den true xs xl (d + 9) 416 [.ref 114, .int v1] M1 = iR b M2 ∧
    dp_I M2 114 0 = k ∧ (k = 0 → dp_J M2 245 0 = b.toInt64) ∧ PR M2 n B T c ∧ Off HY_S HY_T M M2 ∧ Cst 1 6 M M2 := by
  obtain ⟨k, b, M1, M2, a1, a2, a3, a4, a5, a6, a7⟩ := s_night (xs := xs) (xl := xl) (d := d) h.1.1 hn v1
  exact ⟨k, b, M1, M2, a1, a2, a3, a4, h.lift ⟨a5, ZR_off h.1.2 a6 (by decide) (by decide)⟩ a6 (by decide) (by decide), a6, a7⟩
theorem p_where {n B T c : Nat} (h : PR M n B T c) (hn : 246 ≤ dp_n M) (v1 v2 : Int32) : ∃ k b M1 M2, dp_den true xs xl (d + 6) 607 [.ref 0, .int v1, .int v2, .ref 245] M = iR k M1 ∧ dp_den true xs xl (d + 6) 419 [.ref 114, .int v1, .int v2] M1 = iR b M2 ∧
    dp_I M2 114 0 = k ∧ (k = 0 → dp_J M2 245 0 = b.toInt64) ∧ PR M2 n B T c ∧ Off HY_S HY_T M M2 ∧ Cst 1 6 M M2 := by
  obtain ⟨k, b, M1, M2, a1, a2, a3, a4, a5, a6, a7⟩ := s_where (xs := xs) (xl := xl) (d := d) h.1.1 hn v1 v2
  exact ⟨k, b, M1, M2, a1, a2, a3, a4, h.lift ⟨a5, ZR_off h.1.2 a6 (by decide) (by decide)⟩ a6 (by decide) (by decide), a6, a7⟩
theorem p_aboard {n B T c : Nat} (h : PR M n B T c) (hn : 246 ≤ dp_n M) (v1 v2 : Int32) : ∃ k b M1 M2, dp_den true xs xl (d + 5) 601 [.ref 0, .int v1, .int v2, .ref 245] M = iR k M1 ∧ dp_den true xs xl (d + 5) 394 [.ref 114, .int v1, .int v2] M1 = iR b M2 ∧
    dp_I M2 114 0 = k ∧ (k = 0 → dp_J M2 245 0 = b.toInt64) ∧ PR M2 n B T c ∧ Off [245] [0] M M2 ∧ Cst 1 6 M M2 := by
  obtain ⟨k, b, M1, M2, a1, a2, a3, a4, a5, a6, a7⟩ := s_aboard (xs := xs) (xl := xl) (d := d) h.1.1.1 hn v1 v2
  exact ⟨k, b, M1, M2, a1, a2, a3, a4, h.lift (PHY_off h.1 a6 (by decide) (by decide)) a6 (by decide) (by decide), a6, a7⟩
theorem p_least {n B T c : Nat} (h : PR M n B T c) (hn : 246 ≤ dp_n M) (v1 : Int32) : ∃ k b M1 M2, dp_den true xs xl (d + 5) 599 [.ref 0, .int v1, .ref 245] M = iR k M1 ∧ dp_den true xs xl (d + 5) 391 [.ref 114, .int v1] M1 = iR b M2 ∧
    dp_I M2 114 0 = k ∧ (k = 0 → dp_J M2 245 0 = b.toInt64) ∧ PR M2 n B T c ∧ Off [245] [0] M M2 ∧ Cst 1 6 M M2 := by
  obtain ⟨k, b, M1, M2, a1, a2, a3, a4, a5, a6, a7⟩ := s_least (xs := xs) (xl := xl) (d := d) h.1.1.1 hn v1
  exact ⟨k, b, M1, M2, a1, a2, a3, a4, h.lift (PHY_off h.1 a6 (by decide) (by decide)) a6 (by decide) (by decide), a6, a7⟩
theorem p_move {n B T c : Nat} (h : PR M n B T c) (hn : 246 ≤ dp_n M) (v1 v2 v3 : Int32) : ∃ k b M1 M2, dp_den true xs xl (d + 5) 597 [.ref 0, .int v1, .int v2, .int v3, .ref 245] M = iR k M1 ∧ dp_den true xs xl (d + 5) 388 [.ref 114, .int v1, .int v2, .int v3] M1 = iR b M2 ∧
    dp_I M2 114 0 = k ∧ (k = 0 → dp_J M2 245 0 = b.toInt64) ∧ PR M2 n B T c ∧ Off [245] [0] M M2 ∧ Cst 1 6 M M2 := by
  obtain ⟨k, b, M1, M2, a1, a2, a3, a4, a5, a6, a7⟩ := s_move (xs := xs) (xl := xl) (d := d) h.1.1.1 hn v1 v2 v3
  exact ⟨k, b, M1, M2, a1, a2, a3, a4, h.lift (PHY_off h.1 a6 (by decide) (by decide)) a6 (by decide) (by decide), a6, a7⟩
theorem p_work {n B T c : Nat} (h : PR M n B T c) (hn : 246 ≤ dp_n M) (v1 : Int32) : ∃ k b M1 M2, dp_den true xs xl (d + 7) 598 [.ref 0, .int v1, .ref 245] M = iR k M1 ∧ dp_den true xs xl (d + 7) 389 [.ref 114, .int v1] M1 = iR b M2 ∧
    dp_I M2 114 0 = k ∧ (k = 0 → dp_J M2 245 0 = b.toInt64) ∧ PR M2 n B T c ∧ Off WK_S WK_T M M2 ∧ Cst 1 6 M M2 := by
  obtain ⟨k, b, M1, M2, a1, a2, a3, a4, a5, a5', a6, a7⟩ := s_work (xs := xs) (xl := xl) (d := d) h.1.1 h.1.2 hn v1
  exact ⟨k, b, M1, M2, a1, a2, a3, a4, h.lift ⟨a5, a5'⟩ a6 (by decide) (by decide), a6, a7⟩
theorem p_swap {n B T c : Nat} (h : PR M n B T c) (hn : 246 ≤ dp_n M) (v1 v2 : Int32) : ∃ k b M1 M2, dp_den true xs xl (d + 6) 600 [.ref 0, .int v1, .int v2, .ref 245] M = iR k M1 ∧ dp_den true xs xl (d + 6) 393 [.ref 114, .int v1, .int v2] M1 = iR b M2 ∧
    dp_I M2 114 0 = k ∧ (k = 0 → dp_J M2 245 0 = b.toInt64) ∧ PR M2 n B T c ∧ Off (245 :: 8 :: 9 :: 10 :: 25 :: 116 :: 117 :: 118 :: 120 :: []) [0] M M2 ∧ Cst 1 6 M M2 := by
  obtain ⟨k, b, M1, M2, a1, a2, a3, a4, a5, a6, a7, a8⟩ := s_swap (xs := xs) (xl := xl) (d := d) h.1.1.1 hn v1 v2
  exact ⟨k, b, M1, M2, a1, a2, a3, a4, h.lift ⟨⟨a5, h.1.1.2.stk a6 (by decide) (by decide) a8⟩, h.1.2.stk a6 (by decide) a8⟩ a6 (by decide) (by decide), a6, a7⟩
theorem p_before {n B T c : Nat} (h : PR M n B T c) (v1 v2 : Int32) : ∃ v M1 M2, dp_den true xs xl (d + 5) 265 [.ref 0, .int v1, .int v2] M = iR v M1 ∧ dp_den true xs xl (d + 5) 376 [.ref 114, .int v1, .int v2] M1 = iR v M2 ∧ PR M2 n B T c ∧ Off [12, 13, 25, 119, 120, 132] [0] M M2 ∧ Cst 0 0 M M2 := by
  obtain ⟨v, M1, M2, a1, a2, a5, a6, a7⟩ := s_before (xs := xs) (xl := xl) (d := d) h.1.1.1 v1 v2
  exact ⟨v, M1, M2, a1, a2, h.lift ⟨⟨a5, YR_off h.1.1.2 a6 (by decide) (by decide)⟩, ZR_off h.1.2 a6 (by decide) (by decide)⟩ a6 (by decide) (by decide), a6, a7⟩
theorem p_box {n B T c : Nat} (h : PR M n B T c) (hn : 246 ≤ dp_n M) (v1 v2 v3 v4 v5 v6 v7 : Int32) : ∃ k b M1 M2, dp_den true xs xl (d + 5) 595 [.ref 0, .int v1, .int v2, .int v3, .int v4, .int v5, .int v6, .int v7, .ref 245] M = iR k M1 ∧ dp_den true xs xl (d + 5) 374 [.ref 114, .int v1, .int v2, .int v3, .int v4, .int v5, .int v6, .int v7] M1 = iR b M2 ∧
    dp_I M2 114 0 = k ∧ (k = 0 → dp_J M2 245 0 = b.toInt64) ∧ Cst 1 6 M M2 ∧ ∃ n', PR M2 n' B T c ∧ Off (245 :: 140 :: 141 :: 146 :: HR_S) (0 :: HR_T) M M2 := by
  obtain ⟨k, b, M1, M2, a1, a2, a3, a4, a5, a6⟩ := s_box (xs := xs) (xl := xl) (d := d) h.1.1.1 hn v1 v2 v3 v4 v5 v6 v7
  refine ⟨k, b, M1, M2, a1, a2, a3, a4, a5, ?_⟩
  rcases a6 with ⟨r1, r2⟩ | ⟨r1, r2, r3, r4, r5, r6, r7⟩
  · exact ⟨n, h.lift (PHY_off h.1 r2 (by decide) (by decide)) r2 (by decide) (by decide), r2.mono (by decide) (by decide)⟩
  · refine ⟨n + 1, ?_, r3⟩
    have hx := HY.box h.1.1.2 h.1.2 r1 r2 r3 r4 r5 r7
    have z0 := h.1.2 n (by omega) (Or.inl (Nat.le_refl _))
    obtain ⟨-, h2, h3, h4, h5, h6, h7⟩ := h
    have h3' := GGd_off h3 r3 (by decide) (by decide)
    refine ⟨hx, GTl_off h2 r3 (by decide) (by decide), ?_, GBr_off h4 r3 (by decide), ?_, ?_, GRu_off h7 r3 (by decide)⟩
    · obtain ⟨K, D, g1, g2, g3, g4, g5, g6, g7⟩ := h3'
      exact ⟨K, D, g1, g2, g3, g4, g5, fun g hg => ⟨(g6 g hg).1, by
        have := (g6 g hg).2
        rw [qin_iff] at this ⊢; omega⟩, g7⟩
    · have e43 : dp_I M2 43 = dp_I M 43 := (r3.1 43 (by decide) (by decide) (by decide)).1
      refine ⟨fun x hx => ?_, fun x hx1 hx2 => by rw [e43]; exact h5.2 x (by omega) hx2⟩
      rw [r6, e43]
      by_cases z : x = n
      · subst z; rw [uI_s]; exact (h5.2 x (Nat.le_refl _) (by omega)).symm
      · rw [uI_n z]; exact h5.1 x (by omega)
    · have e41 : dp_I M2 41 = dp_I M 41 := (r3.1 41 (by decide) (by decide) (by decide)).1
      have e145 : dp_I M2 145 = dp_I M 145 := (r3.1 145 (by decide) (by decide) (by decide)).1
      have e11 : dp_I M2 11 = dp_I M 11 := (r3.1 11 (by decide) (by decide) (by decide)).1
      obtain ⟨u1, u2, u3⟩ := h6
      refine ⟨by rw [e41, e145]; exact u1, fun x hx => ?_, fun x hx1 hx2 => by rw [e41]; exact u3 x (by omega) hx2⟩
      rw [e41, e11]
      by_cases z : x = n
      · subst z; rw [u3 x (Nat.le_refl _) (by omega)]; exact ⟨by decide, by decide, fun q => by rw [z0] at q; exact absurd q (by decide)⟩
      · rw [r7 5 x (by decide) (by omega)]; exact u2 x (by omega)
end GM
