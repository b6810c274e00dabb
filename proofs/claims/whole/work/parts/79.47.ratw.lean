-- needs: 71 72 73 74
/-! RATES: print: words -/
section Rw
variable {xs : Nat → Int32} {xl d : Nat} {M : dp_M}
def wby (v1 : Int64) (v3 : Int32) : Int64 := ((Int64.toUInt64 v1 >>> ((Int32.toInt64 v3).toUInt64 &&& Int64.toUInt64 63)).toInt64) &&& (255 : Int64)
theorem m_wz {v1 : Int64} {v3 v4 : Int32} (h3 : ¬ v3 < 0) (hz : wby v1 v3 = 0) (hs : v3 + -8 = v4) : D_X12_putsWord_3 xs xl d v1 v3 M = D_X12_putsWord_3 xs xl d v1 v4 M := by
  rw [D_X12_putsWord_3_eq, if_neg h3, show (((Int64.toUInt64 v1 >>> ((Int32.toInt64 v3).toUInt64 &&& Int64.toUInt64 63)).toInt64) &&& (255 : Int64)) = wby v1 v3 from rfl, if_pos (show lg_cmp (wby v1 v3) 0 = 0 by rw [lg_cmp_eq]; exact hz), dpw, hs]
theorem m_wn {v1 : Int64} {v3 v4 c : Int32} {P : Nat} {s : List Int32} (h3 : ¬ v3 < 0) (hz : ¬ wby v1 v3 = 0) (hc : Int64.toInt32 (wby v1 v3) = c) (hs : v3 + -8 = v4) (hP : dp_I M 114 104 = nI P) (hl : P + s.length < 4000) : D_X12_putsWord_3 xs xl (d + 1) v1 v3 (apd M 190 114 104 P s) = D_X12_putsWord_3 xs xl (d + 1) v1 v4 (apd M 190 114 104 P (s ++ [c])) := by
  rw [D_X12_putsWord_3_eq, if_neg h3, show (((Int64.toUInt64 v1 >>> ((Int32.toInt64 v3).toUInt64 &&& Int64.toUInt64 63)).toInt64) &&& (255 : Int64)) = wby v1 v3 from rfl, if_neg (show ¬ lg_cmp (wby v1 v3) 0 = 0 by rw [lg_cmp_eq]; exact hz), hc, m_app (d := d) hP rfl hl, rb_bv, dpw, hs]
theorem m_w_free {P : Nat} (hP : dp_I M 114 104 = nI P) (hl : P + 4 ≤ 4000) : dp_den true xs xl (d + 2) 498 [.ref 114, .long (1718773093 : Int64)] M = vR (apd M 190 114 104 P [nI 102, nI 114, nI 101, nI 101]) := by
  rw [D_X12_putsWord_0_den, D_X12_putsWord_0_eq, dpw]
  rw [m_wz (v3 := 56) (v4 := 48) (by decide) (by decide) (by decide)]
  rw [m_wz (v3 := 48) (v4 := 40) (by decide) (by decide) (by decide)]
  rw [m_wz (v3 := 40) (v4 := 32) (by decide) (by decide) (by decide)]
  rw [m_wz (v3 := 32) (v4 := 24) (by decide) (by decide) (by decide)]
  have a0 : M = apd M 190 114 104 P [] := (apd_nil hP).symm
  rw [show D_X12_putsWord_3 xs xl (d + 1) 1718773093 24 M = D_X12_putsWord_3 xs xl (d + 1) 1718773093 24 (apd M 190 114 104 P []) from congrArg _ a0]
  rw [m_wn (v3 := 24) (v4 := 16) (c := nI 102) (P := P) (by decide) (by decide) (by decide) (by decide) hP (by simp only [List.length_append, List.length_cons, List.length_nil]; omega)]
  rw [m_wn (v3 := 16) (v4 := 8) (c := nI 114) (P := P) (by decide) (by decide) (by decide) (by decide) hP (by simp only [List.length_append, List.length_cons, List.length_nil]; omega)]
  rw [m_wn (v3 := 8) (v4 := 0) (c := nI 101) (P := P) (by decide) (by decide) (by decide) (by decide) hP (by simp only [List.length_append, List.length_cons, List.length_nil]; omega)]
  rw [m_wn (v3 := 0) (v4 := (-8)) (c := nI 101) (P := P) (by decide) (by decide) (by decide) (by decide) hP (by simp only [List.length_append, List.length_cons, List.length_nil]; omega)]
  rw [D_X12_putsWord_3_eq, if_pos (by decide)]
  rfl
theorem m_w_step {P : Nat} (hP : dp_I M 114 104 = nI P) (hl : P + 5 ≤ 4000) : dp_den true xs xl (d + 2) 498 [.ref 114, .long (495874043944 : Int64)] M = vR (apd M 190 114 104 P [nI 115, nI 116, nI 101, nI 112, nI 40]) := by
  rw [D_X12_putsWord_0_den, D_X12_putsWord_0_eq, dpw]
  rw [m_wz (v3 := 56) (v4 := 48) (by decide) (by decide) (by decide)]
  rw [m_wz (v3 := 48) (v4 := 40) (by decide) (by decide) (by decide)]
  rw [m_wz (v3 := 40) (v4 := 32) (by decide) (by decide) (by decide)]
  have a0 : M = apd M 190 114 104 P [] := (apd_nil hP).symm
  rw [show D_X12_putsWord_3 xs xl (d + 1) 495874043944 32 M = D_X12_putsWord_3 xs xl (d + 1) 495874043944 32 (apd M 190 114 104 P []) from congrArg _ a0]
  rw [m_wn (v3 := 32) (v4 := 24) (c := nI 115) (P := P) (by decide) (by decide) (by decide) (by decide) hP (by simp only [List.length_append, List.length_cons, List.length_nil]; omega)]
  rw [m_wn (v3 := 24) (v4 := 16) (c := nI 116) (P := P) (by decide) (by decide) (by decide) (by decide) hP (by simp only [List.length_append, List.length_cons, List.length_nil]; omega)]
  rw [m_wn (v3 := 16) (v4 := 8) (c := nI 101) (P := P) (by decide) (by decide) (by decide) (by decide) hP (by simp only [List.length_append, List.length_cons, List.length_nil]; omega)]
  rw [m_wn (v3 := 8) (v4 := 0) (c := nI 112) (P := P) (by decide) (by decide) (by decide) (by decide) hP (by simp only [List.length_append, List.length_cons, List.length_nil]; omega)]
  rw [m_wn (v3 := 0) (v4 := (-8)) (c := nI 40) (P := P) (by decide) (by decide) (by decide) (by decide) hP (by simp only [List.length_append, List.length_cons, List.length_nil]; omega)]
  rw [D_X12_putsWord_3_eq, if_pos (by decide)]
  rfl
theorem m_w_col {P : Nat} (hP : dp_I M 114 104 = nI P) (hl : P + 2 ≤ 4000) : dp_den true xs xl (d + 2) 498 [.ref 114, .long (14880 : Int64)] M = vR (apd M 190 114 104 P [nI 58, nI 32]) := by
  rw [D_X12_putsWord_0_den, D_X12_putsWord_0_eq, dpw]
  rw [m_wz (v3 := 56) (v4 := 48) (by decide) (by decide) (by decide)]
  rw [m_wz (v3 := 48) (v4 := 40) (by decide) (by decide) (by decide)]
  rw [m_wz (v3 := 40) (v4 := 32) (by decide) (by decide) (by decide)]
  rw [m_wz (v3 := 32) (v4 := 24) (by decide) (by decide) (by decide)]
  rw [m_wz (v3 := 24) (v4 := 16) (by decide) (by decide) (by decide)]
  rw [m_wz (v3 := 16) (v4 := 8) (by decide) (by decide) (by decide)]
  have a0 : M = apd M 190 114 104 P [] := (apd_nil hP).symm
  rw [show D_X12_putsWord_3 xs xl (d + 1) 14880 8 M = D_X12_putsWord_3 xs xl (d + 1) 14880 8 (apd M 190 114 104 P []) from congrArg _ a0]
  rw [m_wn (v3 := 8) (v4 := 0) (c := nI 58) (P := P) (by decide) (by decide) (by decide) (by decide) hP (by simp only [List.length_append, List.length_cons, List.length_nil]; omega)]
  rw [m_wn (v3 := 0) (v4 := (-8)) (c := nI 32) (P := P) (by decide) (by decide) (by decide) (by decide) hP (by simp only [List.length_append, List.length_cons, List.length_nil]; omega)]
  rw [D_X12_putsWord_3_eq, if_pos (by decide)]
  rfl
theorem m_w_com {P : Nat} (hP : dp_I M 114 104 = nI P) (hl : P + 2 ≤ 4000) : dp_den true xs xl (d + 2) 498 [.ref 114, .long (11296 : Int64)] M = vR (apd M 190 114 104 P [nI 44, nI 32]) := by
  rw [D_X12_putsWord_0_den, D_X12_putsWord_0_eq, dpw]
  rw [m_wz (v3 := 56) (v4 := 48) (by decide) (by decide) (by decide)]
  rw [m_wz (v3 := 48) (v4 := 40) (by decide) (by decide) (by decide)]
  rw [m_wz (v3 := 40) (v4 := 32) (by decide) (by decide) (by decide)]
  rw [m_wz (v3 := 32) (v4 := 24) (by decide) (by decide) (by decide)]
  rw [m_wz (v3 := 24) (v4 := 16) (by decide) (by decide) (by decide)]
  rw [m_wz (v3 := 16) (v4 := 8) (by decide) (by decide) (by decide)]
  have a0 : M = apd M 190 114 104 P [] := (apd_nil hP).symm
  rw [show D_X12_putsWord_3 xs xl (d + 1) 11296 8 M = D_X12_putsWord_3 xs xl (d + 1) 11296 8 (apd M 190 114 104 P []) from congrArg _ a0]
  rw [m_wn (v3 := 8) (v4 := 0) (c := nI 44) (P := P) (by decide) (by decide) (by decide) (by decide) hP (by simp only [List.length_append, List.length_cons, List.length_nil]; omega)]
  rw [m_wn (v3 := 0) (v4 := (-8)) (c := nI 32) (P := P) (by decide) (by decide) (by decide) (by decide) hP (by simp only [List.length_append, List.length_cons, List.length_nil]; omega)]
  rw [D_X12_putsWord_3_eq, if_pos (by decide)]
  rfl
theorem m_w_min {P : Nat} (hP : dp_I M 114 104 = nI P) (hl : P + 4 ≤ 4000) : dp_den true xs xl (d + 2) 498 [.ref 114, .long (1835626024 : Int64)] M = vR (apd M 190 114 104 P [nI 109, nI 105, nI 110, nI 40]) := by
  rw [D_X12_putsWord_0_den, D_X12_putsWord_0_eq, dpw]
  rw [m_wz (v3 := 56) (v4 := 48) (by decide) (by decide) (by decide)]
  rw [m_wz (v3 := 48) (v4 := 40) (by decide) (by decide) (by decide)]
  rw [m_wz (v3 := 40) (v4 := 32) (by decide) (by decide) (by decide)]
  rw [m_wz (v3 := 32) (v4 := 24) (by decide) (by decide) (by decide)]
  have a0 : M = apd M 190 114 104 P [] := (apd_nil hP).symm
  rw [show D_X12_putsWord_3 xs xl (d + 1) 1835626024 24 M = D_X12_putsWord_3 xs xl (d + 1) 1835626024 24 (apd M 190 114 104 P []) from congrArg _ a0]
  rw [m_wn (v3 := 24) (v4 := 16) (c := nI 109) (P := P) (by decide) (by decide) (by decide) (by decide) hP (by simp only [List.length_append, List.length_cons, List.length_nil]; omega)]
  rw [m_wn (v3 := 16) (v4 := 8) (c := nI 105) (P := P) (by decide) (by decide) (by decide) (by decide) hP (by simp only [List.length_append, List.length_cons, List.length_nil]; omega)]
  rw [m_wn (v3 := 8) (v4 := 0) (c := nI 110) (P := P) (by decide) (by decide) (by decide) (by decide) hP (by simp only [List.length_append, List.length_cons, List.length_nil]; omega)]
  rw [m_wn (v3 := 0) (v4 := (-8)) (c := nI 40) (P := P) (by decide) (by decide) (by decide) (by decide) hP (by simp only [List.length_append, List.length_cons, List.length_nil]; omega)]
  rw [D_X12_putsWord_3_eq, if_pos (by decide)]
  rfl
theorem m_w_max {P : Nat} (hP : dp_I M 114 104 = nI P) (hl : P + 4 ≤ 4000) : dp_den true xs xl (d + 2) 498 [.ref 114, .long (1835104296 : Int64)] M = vR (apd M 190 114 104 P [nI 109, nI 97, nI 120, nI 40]) := by
  rw [D_X12_putsWord_0_den, D_X12_putsWord_0_eq, dpw]
  rw [m_wz (v3 := 56) (v4 := 48) (by decide) (by decide) (by decide)]
  rw [m_wz (v3 := 48) (v4 := 40) (by decide) (by decide) (by decide)]
  rw [m_wz (v3 := 40) (v4 := 32) (by decide) (by decide) (by decide)]
  rw [m_wz (v3 := 32) (v4 := 24) (by decide) (by decide) (by decide)]
  have a0 : M = apd M 190 114 104 P [] := (apd_nil hP).symm
  rw [show D_X12_putsWord_3 xs xl (d + 1) 1835104296 24 M = D_X12_putsWord_3 xs xl (d + 1) 1835104296 24 (apd M 190 114 104 P []) from congrArg _ a0]
  rw [m_wn (v3 := 24) (v4 := 16) (c := nI 109) (P := P) (by decide) (by decide) (by decide) (by decide) hP (by simp only [List.length_append, List.length_cons, List.length_nil]; omega)]
  rw [m_wn (v3 := 16) (v4 := 8) (c := nI 97) (P := P) (by decide) (by decide) (by decide) (by decide) hP (by simp only [List.length_append, List.length_cons, List.length_nil]; omega)]
  rw [m_wn (v3 := 8) (v4 := 0) (c := nI 120) (P := P) (by decide) (by decide) (by decide) (by decide) hP (by simp only [List.length_append, List.length_cons, List.length_nil]; omega)]
  rw [m_wn (v3 := 0) (v4 := (-8)) (c := nI 40) (P := P) (by decide) (by decide) (by decide) (by decide) hP (by simp only [List.length_append, List.length_cons, List.length_nil]; omega)]
  rw [D_X12_putsWord_3_eq, if_pos (by decide)]
  rfl
theorem c_w_free {P : Nat} (hP : dp_I M 68 1 = nI P) (hl : P + 4 ≤ 1024) : dp_den true xs xl (d + 2) 175 [.ref 68, .retAddr 22] M = vR (apd M 69 68 1 P [nI 102, nI 114, nI 101, nI 101]) := by
  have a0 : M = apd M 69 68 1 P [] := (apd_nil hP).symm
  have st : ∀ (i : Nat) (s : List Int32) (n : Nat), i < 4 → s.length = i → n < 127 → List.getD (dp_sc 22) i 0 = nI n → D_X7_addWord_2 xs xl (d + 1) (nI i) (apd M 69 68 1 P s) = D_X7_addWord_2 xs xl (d + 1) (nI (i + 1)) (apd M 69 68 1 P (s ++ [nI n])) := fun i s n hi hs hn hg => by
    rw [D_X7_addWord_2_eq, if_neg (show ¬ (4 : Int32) ≤ nI i from nI_nge (n := 4) hi (by omega)), nI_cl (by omega), if_neg (by rw [nI_o (show i < 4 by omega) (by omega)]; exact id), hg, c_app (d := d) hP rfl (by omega) hn, rb_bv, dpw, nI_1]
  rw [D_X7_addWord_0_den, D_X7_addWord_0_eq, dpw]
  refine (show D_X7_addWord_2 xs xl (d + 1) 0 M = D_X7_addWord_2 xs xl (d + 1) (nI 0) (apd M 69 68 1 P []) from congrArg _ a0).trans ?_
  rw [st 0 [] 102 (by omega) rfl (by omega) rfl]
  rw [st 1 _ 114 (by omega) rfl (by omega) rfl]
  rw [st 2 _ 101 (by omega) rfl (by omega) rfl]
  rw [st 3 _ 101 (by omega) rfl (by omega) rfl]
  rw [D_X7_addWord_2_eq, if_pos (by decide)]
  rfl
theorem c_w_step {P : Nat} (hP : dp_I M 68 1 = nI P) (hl : P + 5 ≤ 1024) : dp_den true xs xl (d + 2) 175 [.ref 68, .retAddr 28] M = vR (apd M 69 68 1 P [nI 115, nI 116, nI 101, nI 112, nI 40]) := by
  have a0 : M = apd M 69 68 1 P [] := (apd_nil hP).symm
  have st : ∀ (i : Nat) (s : List Int32) (n : Nat), i < 5 → s.length = i → n < 127 → List.getD (dp_sc 28) i 0 = nI n → D_X7_addWord_2_a xs xl (d + 1) (nI i) (apd M 69 68 1 P s) = D_X7_addWord_2_a xs xl (d + 1) (nI (i + 1)) (apd M 69 68 1 P (s ++ [nI n])) := fun i s n hi hs hn hg => by
    rw [D_X7_addWord_2_a_eq, if_neg (show ¬ (5 : Int32) ≤ nI i from nI_nge (n := 5) hi (by omega)), nI_cl (by omega), if_neg (by rw [nI_o (show i < 5 by omega) (by omega)]; exact id), hg, c_app (d := d) hP rfl (by omega) hn, rb_bv, dpw, nI_1]
  rw [D_X7_addWord_0_a_den, D_X7_addWord_0_a_eq, dpw]
  refine (show D_X7_addWord_2_a xs xl (d + 1) 0 M = D_X7_addWord_2_a xs xl (d + 1) (nI 0) (apd M 69 68 1 P []) from congrArg _ a0).trans ?_
  rw [st 0 [] 115 (by omega) rfl (by omega) rfl]
  rw [st 1 _ 116 (by omega) rfl (by omega) rfl]
  rw [st 2 _ 101 (by omega) rfl (by omega) rfl]
  rw [st 3 _ 112 (by omega) rfl (by omega) rfl]
  rw [st 4 _ 40 (by omega) rfl (by omega) rfl]
  rw [D_X7_addWord_2_a_eq, if_pos (by decide)]
  rfl
theorem c_w_blk {P : Nat} (hP : dp_I M 68 1 = nI P) (hl : P + 1 ≤ 1024) : dp_den true xs xl (d + 2) 175 [.ref 68, .retAddr 29] M = vR (apd M 69 68 1 P [nI 32]) := by
  have a0 : M = apd M 69 68 1 P [] := (apd_nil hP).symm
  have st : ∀ (i : Nat) (s : List Int32) (n : Nat), i < 1 → s.length = i → n < 127 → List.getD (dp_sc 29) i 0 = nI n → D_X7_addWord_2_b xs xl (d + 1) (nI i) (apd M 69 68 1 P s) = D_X7_addWord_2_b xs xl (d + 1) (nI (i + 1)) (apd M 69 68 1 P (s ++ [nI n])) := fun i s n hi hs hn hg => by
    rw [D_X7_addWord_2_b_eq, if_neg (show ¬ (1 : Int32) ≤ nI i from nI_nge (n := 1) hi (by omega)), nI_cl (by omega), if_neg (by rw [nI_o (show i < 1 by omega) (by omega)]; exact id), hg, c_app (d := d) hP rfl (by omega) hn, rb_bv, dpw, nI_1]
  rw [D_X7_addWord_0_b_den, D_X7_addWord_0_b_eq, dpw]
  refine (show D_X7_addWord_2_b xs xl (d + 1) 0 M = D_X7_addWord_2_b xs xl (d + 1) (nI 0) (apd M 69 68 1 P []) from congrArg _ a0).trans ?_
  rw [st 0 [] 32 (by omega) rfl (by omega) rfl]
  rw [D_X7_addWord_2_b_eq, if_pos (by decide)]
  rfl
theorem c_w_com {P : Nat} (hP : dp_I M 68 1 = nI P) (hl : P + 2 ≤ 1024) : dp_den true xs xl (d + 2) 175 [.ref 68, .retAddr 30] M = vR (apd M 69 68 1 P [nI 44, nI 32]) := by
  have a0 : M = apd M 69 68 1 P [] := (apd_nil hP).symm
  have st : ∀ (i : Nat) (s : List Int32) (n : Nat), i < 2 → s.length = i → n < 127 → List.getD (dp_sc 30) i 0 = nI n → D_X7_addWord_2_c xs xl (d + 1) (nI i) (apd M 69 68 1 P s) = D_X7_addWord_2_c xs xl (d + 1) (nI (i + 1)) (apd M 69 68 1 P (s ++ [nI n])) := fun i s n hi hs hn hg => by
    rw [D_X7_addWord_2_c_eq, if_neg (show ¬ (2 : Int32) ≤ nI i from nI_nge (n := 2) hi (by omega)), nI_cl (by omega), if_neg (by rw [nI_o (show i < 2 by omega) (by omega)]; exact id), hg, c_app (d := d) hP rfl (by omega) hn, rb_bv, dpw, nI_1]
  rw [D_X7_addWord_0_c_den, D_X7_addWord_0_c_eq, dpw]
  refine (show D_X7_addWord_2_c xs xl (d + 1) 0 M = D_X7_addWord_2_c xs xl (d + 1) (nI 0) (apd M 69 68 1 P []) from congrArg _ a0).trans ?_
  rw [st 0 [] 44 (by omega) rfl (by omega) rfl]
  rw [st 1 _ 32 (by omega) rfl (by omega) rfl]
  rw [D_X7_addWord_2_c_eq, if_pos (by decide)]
  rfl
theorem c_w_min {P : Nat} (hP : dp_I M 68 1 = nI P) (hl : P + 4 ≤ 1024) : dp_den true xs xl (d + 2) 175 [.ref 68, .retAddr 31] M = vR (apd M 69 68 1 P [nI 109, nI 105, nI 110, nI 40]) := by
  have a0 : M = apd M 69 68 1 P [] := (apd_nil hP).symm
  have st : ∀ (i : Nat) (s : List Int32) (n : Nat), i < 4 → s.length = i → n < 127 → List.getD (dp_sc 31) i 0 = nI n → D_X7_addWord_2_d xs xl (d + 1) (nI i) (apd M 69 68 1 P s) = D_X7_addWord_2_d xs xl (d + 1) (nI (i + 1)) (apd M 69 68 1 P (s ++ [nI n])) := fun i s n hi hs hn hg => by
    rw [D_X7_addWord_2_d_eq, if_neg (show ¬ (4 : Int32) ≤ nI i from nI_nge (n := 4) hi (by omega)), nI_cl (by omega), if_neg (by rw [nI_o (show i < 4 by omega) (by omega)]; exact id), hg, c_app (d := d) hP rfl (by omega) hn, rb_bv, dpw, nI_1]
  rw [D_X7_addWord_0_d_den, D_X7_addWord_0_d_eq, dpw]
  refine (show D_X7_addWord_2_d xs xl (d + 1) 0 M = D_X7_addWord_2_d xs xl (d + 1) (nI 0) (apd M 69 68 1 P []) from congrArg _ a0).trans ?_
  rw [st 0 [] 109 (by omega) rfl (by omega) rfl]
  rw [st 1 _ 105 (by omega) rfl (by omega) rfl]
  rw [st 2 _ 110 (by omega) rfl (by omega) rfl]
  rw [st 3 _ 40 (by omega) rfl (by omega) rfl]
  rw [D_X7_addWord_2_d_eq, if_pos (by decide)]
  rfl
theorem c_w_max {P : Nat} (hP : dp_I M 68 1 = nI P) (hl : P + 4 ≤ 1024) : dp_den true xs xl (d + 2) 175 [.ref 68, .retAddr 32] M = vR (apd M 69 68 1 P [nI 109, nI 97, nI 120, nI 40]) := by
  have a0 : M = apd M 69 68 1 P [] := (apd_nil hP).symm
  have st : ∀ (i : Nat) (s : List Int32) (n : Nat), i < 4 → s.length = i → n < 127 → List.getD (dp_sc 32) i 0 = nI n → D_X7_addWord_2_e xs xl (d + 1) (nI i) (apd M 69 68 1 P s) = D_X7_addWord_2_e xs xl (d + 1) (nI (i + 1)) (apd M 69 68 1 P (s ++ [nI n])) := fun i s n hi hs hn hg => by
    rw [D_X7_addWord_2_e_eq, if_neg (show ¬ (4 : Int32) ≤ nI i from nI_nge (n := 4) hi (by omega)), nI_cl (by omega), if_neg (by rw [nI_o (show i < 4 by omega) (by omega)]; exact id), hg, c_app (d := d) hP rfl (by omega) hn, rb_bv, dpw, nI_1]
  rw [D_X7_addWord_0_e_den, D_X7_addWord_0_e_eq, dpw]
  refine (show D_X7_addWord_2_e xs xl (d + 1) 0 M = D_X7_addWord_2_e xs xl (d + 1) (nI 0) (apd M 69 68 1 P []) from congrArg _ a0).trans ?_
  rw [st 0 [] 109 (by omega) rfl (by omega) rfl]
  rw [st 1 _ 97 (by omega) rfl (by omega) rfl]
  rw [st 2 _ 120 (by omega) rfl (by omega) rfl]
  rw [st 3 _ 40 (by omega) rfl (by omega) rfl]
  rw [D_X7_addWord_2_e_eq, if_pos (by decide)]
  rfl
end Rw
