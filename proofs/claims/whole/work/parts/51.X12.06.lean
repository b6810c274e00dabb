noncomputable def D_X12_manyBoxes_0 (xs : Nat → Int32) (xl d : Nat) (v1 : Int32) (M : dp_M) : Option dp_Res := dp_lim true xs xl (dp_den true xs xl d) dp_m_X12_manyBoxes (0, [some (.ref 114), some (.int v1), none, none, none], [], M)
noncomputable def D_X12_manyBoxes_4 (xs : Nat → Int32) (xl d : Nat) (v1 : Int32) (v2 : Int32) (v3 : Int32) (M : dp_M) : Option dp_Res := dp_lim true xs xl (dp_den true xs xl d) dp_m_X12_manyBoxes (4, [some (.ref 114), some (.int v1), some (.int v2), some (.int v3), none], [], M)
noncomputable def D_X12_manyBoxes_109 (xs : Nat → Int32) (xl d : Nat) (v1 : Int32) (v2 : Int32) (v3 : Int32) (vs0 : Int32) (M : dp_M) : Option dp_Res := dp_lim true xs xl (dp_den true xs xl d) dp_m_X12_manyBoxes (109, [some (.ref 114), some (.int v1), some (.int v2), some (.int v3), none], [.int vs0], M)
noncomputable def D_X12_manyBoxes_4_a (xs : Nat → Int32) (xl d : Nat) (v1 : Int32) (v2 : Int32) (v3 : Int32) (v4 : Int32) (M : dp_M) : Option dp_Res := dp_lim true xs xl (dp_den true xs xl d) dp_m_X12_manyBoxes (4, [some (.ref 114), some (.int v1), some (.int v2), some (.int v3), some (.int v4)], [], M)
noncomputable def D_X12_manyBoxes_109_a (xs : Nat → Int32) (xl d : Nat) (v1 : Int32) (v2 : Int32) (v3 : Int32) (v4 : Int32) (vs0 : Int32) (M : dp_M) : Option dp_Res := dp_lim true xs xl (dp_den true xs xl d) dp_m_X12_manyBoxes (109, [some (.ref 114), some (.int v1), some (.int v2), some (.int v3), some (.int v4)], [.int vs0], M)
theorem D_X12_manyBoxes_0_den (xs : Nat → Int32) (xl d : Nat) (a0 : Int32) (M : dp_M) : dp_den true xs xl (d + 1) 585 [.ref 114, .int a0] M = D_X12_manyBoxes_0 xs xl d a0 M := rfl
set_option maxRecDepth 20000 in
theorem D_X12_manyBoxes_0_eq (xs : Nat → Int32) (xl d : Nat) (v1 : Int32) (M : dp_M) : D_X12_manyBoxes_0 xs xl d v1 M = dp_w (0 : Int32) (fun y1 => dp_w (0 : Int32) (fun y2 => D_X12_manyBoxes_4 xs xl d v1 y1 y2 M)) := by
  have hF := dp_den_grow (md := true) (xs := xs) (xl := xl) d
  unfold D_X12_manyBoxes_0
  refine dp_s1 hF (i := .iconst 0) rfl (fun _ => rfl) ?_
  refine dp_s1w (0 : Int32) (fun (y1 : Int32) => (2, [some (.ref 114), some (.int v1), some (.int y1), none, none], [], M)) hF (i := .istore_n 2) rfl (fun _ => rfl) (fun y1 => ?_)
  refine dp_s1 hF (i := .iconst 0) rfl (fun _ => rfl) ?_
  refine dp_s1w (0 : Int32) (fun (y2 : Int32) => (4, [some (.ref 114), some (.int v1), some (.int y1), some (.int y2), none], [], M)) hF (i := .istore_n 3) rfl (fun _ => rfl) (fun y2 => ?_)
  exact rfl
set_option maxRecDepth 20000 in
theorem D_X12_manyBoxes_4_eq (xs : Nat → Int32) (xl d : Nat) (v1 : Int32) (v2 : Int32) (v3 : Int32) (M : dp_M) : D_X12_manyBoxes_4 xs xl d v1 v2 v3 M = if (dp_I M 114 3) ≤ v3 then (some (.inl (some (.int v2)), M)) else (if v1 = (1 : Int32) then (if v3 < 0 ∨ 100 ≤ Int32.toNatClampNeg v3 then none else (if (dp_I M 117 (Int32.toNatClampNeg v3)) = (3 : Int32) then (D_X12_manyBoxes_109 xs xl d v1 v2 v3 (1 : Int32) M) else (D_X12_manyBoxes_109 xs xl d v1 v2 v3 (0 : Int32) M))) else (if v1 = (2 : Int32) then (if v3 < 0 ∨ 100 ≤ Int32.toNatClampNeg v3 then none else (if (dp_I M 117 (Int32.toNatClampNeg v3)) = (4 : Int32) then (D_X12_manyBoxes_109 xs xl d v1 v2 v3 (1 : Int32) M) else (D_X12_manyBoxes_109 xs xl d v1 v2 v3 (0 : Int32) M))) else (if v1 = (4 : Int32) then (if v3 < 0 ∨ 100 ≤ Int32.toNatClampNeg v3 then none else (if (dp_I M 140 (Int32.toNatClampNeg v3)) < 0 then (D_X12_manyBoxes_109 xs xl d v1 v2 v3 (0 : Int32) M) else (D_X12_manyBoxes_109 xs xl d v1 v2 v3 (1 : Int32) M))) else (if v1 = (7 : Int32) then (dp_bi (dp_den true xs xl d 418 [.ref 114, .int v3] M) (fun r2 M1 => D_X12_manyBoxes_109 xs xl d v1 v2 v3 r2 M1)) else (if v3 < 0 ∨ 100 ≤ Int32.toNatClampNeg v3 then none else (if (dp_I M 144 (Int32.toNatClampNeg v3)) = (1 : Int32) then (D_X12_manyBoxes_109 xs xl d v1 v2 v3 (1 : Int32) M) else (D_X12_manyBoxes_109 xs xl d v1 v2 v3 (0 : Int32) M))))))) := by
  have hF := dp_den_grow (md := true) (xs := xs) (xl := xl) d
  unfold D_X12_manyBoxes_4
  refine dp_s1 hF (i := .iload_n 3) rfl (fun _ => rfl) ?_
  refine dp_s1 hF (i := .aload_n 0) rfl (fun _ => rfl) ?_
  refine dp_s1 hF (i := .getfield 437) rfl (fun _ => rfl) ?_
  refine dp_s2 hF (i := .if_icmp .ge 121) (a := (130, [some (.ref 114), some (.int v1), some (.int v2), some (.int v3), none], [], M)) (b := (12, [some (.ref 114), some (.int v1), some (.int v2), some (.int v3), none], [], M)) rfl (fun _ => rfl) ?_ ?_
  · refine dp_s1 hF (i := .iload_n 2) rfl (fun _ => rfl) ?_
    exact dp_s0 hF (i := .ireturn) rfl (fun _ => rfl)
  refine dp_s1 hF (i := .iload_n 1) rfl (fun _ => rfl) ?_
  refine dp_s1 hF (i := .iconst 1) rfl (fun _ => rfl) ?_
  refine dp_s2 hF (i := .if_icmp .ne 21) (a := (17, [some (.ref 114), some (.int v1), some (.int v2), some (.int v3), none], [], M)) (b := (35, [some (.ref 114), some (.int v1), some (.int v2), some (.int v3), none], [], M)) rfl (fun _ => rfl) ?_ ?_
  · refine dp_s1 hF (i := .aload_n 0) rfl (fun _ => rfl) ?_
    refine dp_s1 hF (i := .getfield 20) rfl (fun _ => rfl) ?_
    refine dp_s1 hF (i := .iload_n 3) rfl (fun _ => rfl) ?_
    refine dp_s3 hF (i := .iaload) rfl (fun _ => rfl) ?_
    refine dp_s1 hF (i := .iconst 3) rfl (fun _ => rfl) ?_
    refine dp_s2 hF (i := .if_icmp .ne 7) (a := (27, [some (.ref 114), some (.int v1), some (.int v2), some (.int v3), none], [], M)) (b := (31, [some (.ref 114), some (.int v1), some (.int v2), some (.int v3), none], [], M)) rfl (fun _ => rfl) ?_ ?_
    · refine dp_s1 hF (i := .iconst 1) rfl (fun _ => rfl) ?_
      refine dp_s1 hF (i := .goto 81) rfl (fun _ => rfl) ?_
      exact rfl
    refine dp_s1 hF (i := .iconst 0) rfl (fun _ => rfl) ?_
    refine dp_s1 hF (i := .goto 77) rfl (fun _ => rfl) ?_
    exact rfl
  refine dp_s1 hF (i := .iload_n 1) rfl (fun _ => rfl) ?_
  refine dp_s1 hF (i := .iconst 2) rfl (fun _ => rfl) ?_
  refine dp_s2 hF (i := .if_icmp .ne 21) (a := (40, [some (.ref 114), some (.int v1), some (.int v2), some (.int v3), none], [], M)) (b := (58, [some (.ref 114), some (.int v1), some (.int v2), some (.int v3), none], [], M)) rfl (fun _ => rfl) ?_ ?_
  · refine dp_s1 hF (i := .aload_n 0) rfl (fun _ => rfl) ?_
    refine dp_s1 hF (i := .getfield 20) rfl (fun _ => rfl) ?_
    refine dp_s1 hF (i := .iload_n 3) rfl (fun _ => rfl) ?_
    refine dp_s3 hF (i := .iaload) rfl (fun _ => rfl) ?_
    refine dp_s1 hF (i := .iconst 4) rfl (fun _ => rfl) ?_
    refine dp_s2 hF (i := .if_icmp .ne 7) (a := (50, [some (.ref 114), some (.int v1), some (.int v2), some (.int v3), none], [], M)) (b := (54, [some (.ref 114), some (.int v1), some (.int v2), some (.int v3), none], [], M)) rfl (fun _ => rfl) ?_ ?_
    · refine dp_s1 hF (i := .iconst 1) rfl (fun _ => rfl) ?_
      refine dp_s1 hF (i := .goto 58) rfl (fun _ => rfl) ?_
      exact rfl
    refine dp_s1 hF (i := .iconst 0) rfl (fun _ => rfl) ?_
    refine dp_s1 hF (i := .goto 54) rfl (fun _ => rfl) ?_
    exact rfl
  refine dp_s1 hF (i := .iload_n 1) rfl (fun _ => rfl) ?_
  refine dp_s1 hF (i := .iconst 4) rfl (fun _ => rfl) ?_
  refine dp_s2 hF (i := .if_icmp .ne 20) (a := (63, [some (.ref 114), some (.int v1), some (.int v2), some (.int v3), none], [], M)) (b := (80, [some (.ref 114), some (.int v1), some (.int v2), some (.int v3), none], [], M)) rfl (fun _ => rfl) ?_ ?_
  · refine dp_s1 hF (i := .aload_n 0) rfl (fun _ => rfl) ?_
    refine dp_s1 hF (i := .getfield 91) rfl (fun _ => rfl) ?_
    refine dp_s1 hF (i := .iload_n 3) rfl (fun _ => rfl) ?_
    refine dp_s3 hF (i := .iaload) rfl (fun _ => rfl) ?_
    refine dp_s2 hF (i := .ifCond .lt 7) (a := (76, [some (.ref 114), some (.int v1), some (.int v2), some (.int v3), none], [], M)) (b := (72, [some (.ref 114), some (.int v1), some (.int v2), some (.int v3), none], [], M)) rfl (fun _ => rfl) ?_ ?_
    · refine dp_s1 hF (i := .iconst 0) rfl (fun _ => rfl) ?_
      refine dp_s1 hF (i := .goto 32) rfl (fun _ => rfl) ?_
      exact rfl
    refine dp_s1 hF (i := .iconst 1) rfl (fun _ => rfl) ?_
    refine dp_s1 hF (i := .goto 36) rfl (fun _ => rfl) ?_
    exact rfl
  refine dp_s1 hF (i := .iload_n 1) rfl (fun _ => rfl) ?_
  refine dp_s1 hF (i := .bipush 7) rfl (fun _ => rfl) ?_
  refine dp_s2 hF (i := .if_icmp .ne 11) (a := (86, [some (.ref 114), some (.int v1), some (.int v2), some (.int v3), none], [], M)) (b := (94, [some (.ref 114), some (.int v1), some (.int v2), some (.int v3), none], [], M)) rfl (fun _ => rfl) ?_ ?_
  · refine dp_s1 hF (i := .aload_n 0) rfl (fun _ => rfl) ?_
    refine dp_s1 hF (i := .iload_n 3) rfl (fun _ => rfl) ?_
    refine dp_si (mj := dp_m_X12_isInTheWay) (i := .invokevirtual 596) rfl rfl (Or.inr rfl) rfl (fun _ => rfl) (fun r2 M1 => ?_)
    refine dp_s1 hF (i := .goto 18) rfl (fun _ => rfl) ?_
    exact rfl
  refine dp_s1 hF (i := .aload_n 0) rfl (fun _ => rfl) ?_
  refine dp_s1 hF (i := .getfield 103) rfl (fun _ => rfl) ?_
  refine dp_s1 hF (i := .iload_n 3) rfl (fun _ => rfl) ?_
  refine dp_s3 hF (i := .iaload) rfl (fun _ => rfl) ?_
  refine dp_s1 hF (i := .iconst 1) rfl (fun _ => rfl) ?_
  refine dp_s2 hF (i := .if_icmp .ne 7) (a := (104, [some (.ref 114), some (.int v1), some (.int v2), some (.int v3), none], [], M)) (b := (108, [some (.ref 114), some (.int v1), some (.int v2), some (.int v3), none], [], M)) rfl (fun _ => rfl) ?_ ?_
  · refine dp_s1 hF (i := .iconst 1) rfl (fun _ => rfl) ?_
    refine dp_s1 hF (i := .goto 4) rfl (fun _ => rfl) ?_
    exact rfl
  refine dp_s1 hF (i := .iconst 0) rfl (fun _ => rfl) ?_
  exact rfl
set_option maxRecDepth 20000 in
theorem D_X12_manyBoxes_109_eq (xs : Nat → Int32) (xl d : Nat) (v1 : Int32) (v2 : Int32) (v3 : Int32) (vs0 : Int32) (M : dp_M) : D_X12_manyBoxes_109 xs xl d v1 v2 v3 vs0 M = if vs0 = 0 then (dp_w (v2 + (0 : Int32)) (fun y1 => dp_w (v3 + (1 : Int32)) (fun y2 => D_X12_manyBoxes_4_a xs xl d v1 y1 y2 vs0 M))) else (dp_w (v2 + (1 : Int32)) (fun y3 => dp_w (v3 + (1 : Int32)) (fun y4 => D_X12_manyBoxes_4_a xs xl d v1 y3 y4 vs0 M))) := by
  have hF := dp_den_grow (md := true) (xs := xs) (xl := xl) d
  unfold D_X12_manyBoxes_109
  refine dp_s1 hF (i := .istore 4) rfl (fun _ => rfl) ?_
  refine dp_s1 hF (i := .iload_n 2) rfl (fun _ => rfl) ?_
  refine dp_s1 hF (i := .iload 4) rfl (fun _ => rfl) ?_
  refine dp_s2 hF (i := .ifCond .eq 7) (a := (121, [some (.ref 114), some (.int v1), some (.int v2), some (.int v3), some (.int vs0)], [.int v2], M)) (b := (117, [some (.ref 114), some (.int v1), some (.int v2), some (.int v3), some (.int vs0)], [.int v2], M)) rfl (fun _ => rfl) ?_ ?_
  · refine dp_s1 hF (i := .iconst 0) rfl (fun _ => rfl) ?_
    refine dp_s1 hF (i := .iadd) rfl (fun _ => rfl) ?_
    refine dp_s1w (v2 + (0 : Int32)) (fun (y1 : Int32) => (124, [some (.ref 114), some (.int v1), some (.int y1), some (.int v3), some (.int vs0)], [], M)) hF (i := .istore_n 2) rfl (fun _ => rfl) (fun y1 => ?_)
    refine dp_s1w (v3 + (1 : Int32)) (fun (y2 : Int32) => (127, [some (.ref 114), some (.int v1), some (.int y1), some (.int y2), some (.int vs0)], [], M)) hF (i := .iinc 3 1) rfl (fun _ => rfl) (fun y2 => ?_)
    refine dp_s1 hF (i := .goto (-123)) rfl (fun _ => rfl) ?_
    exact rfl
  refine dp_s1 hF (i := .iconst 1) rfl (fun _ => rfl) ?_
  refine dp_s1 hF (i := .goto 4) rfl (fun _ => rfl) ?_
  refine dp_s1 hF (i := .iadd) rfl (fun _ => rfl) ?_
  refine dp_s1w (v2 + (1 : Int32)) (fun (y3 : Int32) => (124, [some (.ref 114), some (.int v1), some (.int y3), some (.int v3), some (.int vs0)], [], M)) hF (i := .istore_n 2) rfl (fun _ => rfl) (fun y3 => ?_)
  refine dp_s1w (v3 + (1 : Int32)) (fun (y4 : Int32) => (127, [some (.ref 114), some (.int v1), some (.int y3), some (.int y4), some (.int vs0)], [], M)) hF (i := .iinc 3 1) rfl (fun _ => rfl) (fun y4 => ?_)
  refine dp_s1 hF (i := .goto (-123)) rfl (fun _ => rfl) ?_
  exact rfl
set_option maxRecDepth 20000 in
theorem D_X12_manyBoxes_4_a_eq (xs : Nat → Int32) (xl d : Nat) (v1 : Int32) (v2 : Int32) (v3 : Int32) (v4 : Int32) (M : dp_M) : D_X12_manyBoxes_4_a xs xl d v1 v2 v3 v4 M = if (dp_I M 114 3) ≤ v3 then (some (.inl (some (.int v2)), M)) else (if v1 = (1 : Int32) then (if v3 < 0 ∨ 100 ≤ Int32.toNatClampNeg v3 then none else (if (dp_I M 117 (Int32.toNatClampNeg v3)) = (3 : Int32) then (D_X12_manyBoxes_109_a xs xl d v1 v2 v3 v4 (1 : Int32) M) else (D_X12_manyBoxes_109_a xs xl d v1 v2 v3 v4 (0 : Int32) M))) else (if v1 = (2 : Int32) then (if v3 < 0 ∨ 100 ≤ Int32.toNatClampNeg v3 then none else (if (dp_I M 117 (Int32.toNatClampNeg v3)) = (4 : Int32) then (D_X12_manyBoxes_109_a xs xl d v1 v2 v3 v4 (1 : Int32) M) else (D_X12_manyBoxes_109_a xs xl d v1 v2 v3 v4 (0 : Int32) M))) else (if v1 = (4 : Int32) then (if v3 < 0 ∨ 100 ≤ Int32.toNatClampNeg v3 then none else (if (dp_I M 140 (Int32.toNatClampNeg v3)) < 0 then (D_X12_manyBoxes_109_a xs xl d v1 v2 v3 v4 (0 : Int32) M) else (D_X12_manyBoxes_109_a xs xl d v1 v2 v3 v4 (1 : Int32) M))) else (if v1 = (7 : Int32) then (dp_bi (dp_den true xs xl d 418 [.ref 114, .int v3] M) (fun r2 M1 => D_X12_manyBoxes_109_a xs xl d v1 v2 v3 v4 r2 M1)) else (if v3 < 0 ∨ 100 ≤ Int32.toNatClampNeg v3 then none else (if (dp_I M 144 (Int32.toNatClampNeg v3)) = (1 : Int32) then (D_X12_manyBoxes_109_a xs xl d v1 v2 v3 v4 (1 : Int32) M) else (D_X12_manyBoxes_109_a xs xl d v1 v2 v3 v4 (0 : Int32) M))))))) := by
  have hF := dp_den_grow (md := true) (xs := xs) (xl := xl) d
  unfold D_X12_manyBoxes_4_a
  refine dp_s1 hF (i := .iload_n 3) rfl (fun _ => rfl) ?_
  refine dp_s1 hF (i := .aload_n 0) rfl (fun _ => rfl) ?_
  refine dp_s1 hF (i := .getfield 437) rfl (fun _ => rfl) ?_
  refine dp_s2 hF (i := .if_icmp .ge 121) (a := (130, [some (.ref 114), some (.int v1), some (.int v2), some (.int v3), some (.int v4)], [], M)) (b := (12, [some (.ref 114), some (.int v1), some (.int v2), some (.int v3), some (.int v4)], [], M)) rfl (fun _ => rfl) ?_ ?_
  · refine dp_s1 hF (i := .iload_n 2) rfl (fun _ => rfl) ?_
    exact dp_s0 hF (i := .ireturn) rfl (fun _ => rfl)
  refine dp_s1 hF (i := .iload_n 1) rfl (fun _ => rfl) ?_
  refine dp_s1 hF (i := .iconst 1) rfl (fun _ => rfl) ?_
  refine dp_s2 hF (i := .if_icmp .ne 21) (a := (17, [some (.ref 114), some (.int v1), some (.int v2), some (.int v3), some (.int v4)], [], M)) (b := (35, [some (.ref 114), some (.int v1), some (.int v2), some (.int v3), some (.int v4)], [], M)) rfl (fun _ => rfl) ?_ ?_
  · refine dp_s1 hF (i := .aload_n 0) rfl (fun _ => rfl) ?_
    refine dp_s1 hF (i := .getfield 20) rfl (fun _ => rfl) ?_
    refine dp_s1 hF (i := .iload_n 3) rfl (fun _ => rfl) ?_
    refine dp_s3 hF (i := .iaload) rfl (fun _ => rfl) ?_
    refine dp_s1 hF (i := .iconst 3) rfl (fun _ => rfl) ?_
    refine dp_s2 hF (i := .if_icmp .ne 7) (a := (27, [some (.ref 114), some (.int v1), some (.int v2), some (.int v3), some (.int v4)], [], M)) (b := (31, [some (.ref 114), some (.int v1), some (.int v2), some (.int v3), some (.int v4)], [], M)) rfl (fun _ => rfl) ?_ ?_
    · refine dp_s1 hF (i := .iconst 1) rfl (fun _ => rfl) ?_
      refine dp_s1 hF (i := .goto 81) rfl (fun _ => rfl) ?_
      exact rfl
    refine dp_s1 hF (i := .iconst 0) rfl (fun _ => rfl) ?_
    refine dp_s1 hF (i := .goto 77) rfl (fun _ => rfl) ?_
    exact rfl
  refine dp_s1 hF (i := .iload_n 1) rfl (fun _ => rfl) ?_
  refine dp_s1 hF (i := .iconst 2) rfl (fun _ => rfl) ?_
  refine dp_s2 hF (i := .if_icmp .ne 21) (a := (40, [some (.ref 114), some (.int v1), some (.int v2), some (.int v3), some (.int v4)], [], M)) (b := (58, [some (.ref 114), some (.int v1), some (.int v2), some (.int v3), some (.int v4)], [], M)) rfl (fun _ => rfl) ?_ ?_
  · refine dp_s1 hF (i := .aload_n 0) rfl (fun _ => rfl) ?_
    refine dp_s1 hF (i := .getfield 20) rfl (fun _ => rfl) ?_
    refine dp_s1 hF (i := .iload_n 3) rfl (fun _ => rfl) ?_
    refine dp_s3 hF (i := .iaload) rfl (fun _ => rfl) ?_
    refine dp_s1 hF (i := .iconst 4) rfl (fun _ => rfl) ?_
    refine dp_s2 hF (i := .if_icmp .ne 7) (a := (50, [some (.ref 114), some (.int v1), some (.int v2), some (.int v3), some (.int v4)], [], M)) (b := (54, [some (.ref 114), some (.int v1), some (.int v2), some (.int v3), some (.int v4)], [], M)) rfl (fun _ => rfl) ?_ ?_
    · refine dp_s1 hF (i := .iconst 1) rfl (fun _ => rfl) ?_
      refine dp_s1 hF (i := .goto 58) rfl (fun _ => rfl) ?_
      exact rfl
    refine dp_s1 hF (i := .iconst 0) rfl (fun _ => rfl) ?_
    refine dp_s1 hF (i := .goto 54) rfl (fun _ => rfl) ?_
    exact rfl
  refine dp_s1 hF (i := .iload_n 1) rfl (fun _ => rfl) ?_
  refine dp_s1 hF (i := .iconst 4) rfl (fun _ => rfl) ?_
  refine dp_s2 hF (i := .if_icmp .ne 20) (a := (63, [some (.ref 114), some (.int v1), some (.int v2), some (.int v3), some (.int v4)], [], M)) (b := (80, [some (.ref 114), some (.int v1), some (.int v2), some (.int v3), some (.int v4)], [], M)) rfl (fun _ => rfl) ?_ ?_
  · refine dp_s1 hF (i := .aload_n 0) rfl (fun _ => rfl) ?_
    refine dp_s1 hF (i := .getfield 91) rfl (fun _ => rfl) ?_
    refine dp_s1 hF (i := .iload_n 3) rfl (fun _ => rfl) ?_
    refine dp_s3 hF (i := .iaload) rfl (fun _ => rfl) ?_
    refine dp_s2 hF (i := .ifCond .lt 7) (a := (76, [some (.ref 114), some (.int v1), some (.int v2), some (.int v3), some (.int v4)], [], M)) (b := (72, [some (.ref 114), some (.int v1), some (.int v2), some (.int v3), some (.int v4)], [], M)) rfl (fun _ => rfl) ?_ ?_
    · refine dp_s1 hF (i := .iconst 0) rfl (fun _ => rfl) ?_
      refine dp_s1 hF (i := .goto 32) rfl (fun _ => rfl) ?_
      exact rfl
    refine dp_s1 hF (i := .iconst 1) rfl (fun _ => rfl) ?_
    refine dp_s1 hF (i := .goto 36) rfl (fun _ => rfl) ?_
    exact rfl
  refine dp_s1 hF (i := .iload_n 1) rfl (fun _ => rfl) ?_
  refine dp_s1 hF (i := .bipush 7) rfl (fun _ => rfl) ?_
  refine dp_s2 hF (i := .if_icmp .ne 11) (a := (86, [some (.ref 114), some (.int v1), some (.int v2), some (.int v3), some (.int v4)], [], M)) (b := (94, [some (.ref 114), some (.int v1), some (.int v2), some (.int v3), some (.int v4)], [], M)) rfl (fun _ => rfl) ?_ ?_
  · refine dp_s1 hF (i := .aload_n 0) rfl (fun _ => rfl) ?_
    refine dp_s1 hF (i := .iload_n 3) rfl (fun _ => rfl) ?_
    refine dp_si (mj := dp_m_X12_isInTheWay) (i := .invokevirtual 596) rfl rfl (Or.inr rfl) rfl (fun _ => rfl) (fun r2 M1 => ?_)
    refine dp_s1 hF (i := .goto 18) rfl (fun _ => rfl) ?_
    exact rfl
  refine dp_s1 hF (i := .aload_n 0) rfl (fun _ => rfl) ?_
  refine dp_s1 hF (i := .getfield 103) rfl (fun _ => rfl) ?_
  refine dp_s1 hF (i := .iload_n 3) rfl (fun _ => rfl) ?_
  refine dp_s3 hF (i := .iaload) rfl (fun _ => rfl) ?_
  refine dp_s1 hF (i := .iconst 1) rfl (fun _ => rfl) ?_
  refine dp_s2 hF (i := .if_icmp .ne 7) (a := (104, [some (.ref 114), some (.int v1), some (.int v2), some (.int v3), some (.int v4)], [], M)) (b := (108, [some (.ref 114), some (.int v1), some (.int v2), some (.int v3), some (.int v4)], [], M)) rfl (fun _ => rfl) ?_ ?_
  · refine dp_s1 hF (i := .iconst 1) rfl (fun _ => rfl) ?_
    refine dp_s1 hF (i := .goto 4) rfl (fun _ => rfl) ?_
    exact rfl
  refine dp_s1 hF (i := .iconst 0) rfl (fun _ => rfl) ?_
  exact rfl
set_option maxRecDepth 20000 in
theorem D_X12_manyBoxes_109_a_eq (xs : Nat → Int32) (xl d : Nat) (v1 : Int32) (v2 : Int32) (v3 : Int32) (v4 : Int32) (vs0 : Int32) (M : dp_M) : D_X12_manyBoxes_109_a xs xl d v1 v2 v3 v4 vs0 M = if vs0 = 0 then (dp_w (v2 + (0 : Int32)) (fun y1 => dp_w (v3 + (1 : Int32)) (fun y2 => D_X12_manyBoxes_4_a xs xl d v1 y1 y2 vs0 M))) else (dp_w (v2 + (1 : Int32)) (fun y3 => dp_w (v3 + (1 : Int32)) (fun y4 => D_X12_manyBoxes_4_a xs xl d v1 y3 y4 vs0 M))) := by
  have hF := dp_den_grow (md := true) (xs := xs) (xl := xl) d
  unfold D_X12_manyBoxes_109_a
  refine dp_s1 hF (i := .istore 4) rfl (fun _ => rfl) ?_
  refine dp_s1 hF (i := .iload_n 2) rfl (fun _ => rfl) ?_
  refine dp_s1 hF (i := .iload 4) rfl (fun _ => rfl) ?_
  refine dp_s2 hF (i := .ifCond .eq 7) (a := (121, [some (.ref 114), some (.int v1), some (.int v2), some (.int v3), some (.int vs0)], [.int v2], M)) (b := (117, [some (.ref 114), some (.int v1), some (.int v2), some (.int v3), some (.int vs0)], [.int v2], M)) rfl (fun _ => rfl) ?_ ?_
  · refine dp_s1 hF (i := .iconst 0) rfl (fun _ => rfl) ?_
    refine dp_s1 hF (i := .iadd) rfl (fun _ => rfl) ?_
    refine dp_s1w (v2 + (0 : Int32)) (fun (y1 : Int32) => (124, [some (.ref 114), some (.int v1), some (.int y1), some (.int v3), some (.int vs0)], [], M)) hF (i := .istore_n 2) rfl (fun _ => rfl) (fun y1 => ?_)
    refine dp_s1w (v3 + (1 : Int32)) (fun (y2 : Int32) => (127, [some (.ref 114), some (.int v1), some (.int y1), some (.int y2), some (.int vs0)], [], M)) hF (i := .iinc 3 1) rfl (fun _ => rfl) (fun y2 => ?_)
    refine dp_s1 hF (i := .goto (-123)) rfl (fun _ => rfl) ?_
    exact rfl
  refine dp_s1 hF (i := .iconst 1) rfl (fun _ => rfl) ?_
  refine dp_s1 hF (i := .goto 4) rfl (fun _ => rfl) ?_
  refine dp_s1 hF (i := .iadd) rfl (fun _ => rfl) ?_
  refine dp_s1w (v2 + (1 : Int32)) (fun (y3 : Int32) => (124, [some (.ref 114), some (.int v1), some (.int y3), some (.int v3), some (.int vs0)], [], M)) hF (i := .istore_n 2) rfl (fun _ => rfl) (fun y3 => ?_)
  refine dp_s1w (v3 + (1 : Int32)) (fun (y4 : Int32) => (127, [some (.ref 114), some (.int v1), some (.int y3), some (.int y4), some (.int vs0)], [], M)) hF (i := .iinc 3 1) rfl (fun _ => rfl) (fun y4 => ?_)
  refine dp_s1 hF (i := .goto (-123)) rfl (fun _ => rfl) ?_
  exact rfl
noncomputable def D_X12_liveOnes_0 (xs : Nat → Int32) (xl d : Nat)  (M : dp_M) : Option dp_Res := dp_lim true xs xl (dp_den true xs xl d) dp_m_X12_liveOnes (0, [some (.ref 114), none, none], [], M)
noncomputable def D_X12_liveOnes_4 (xs : Nat → Int32) (xl d : Nat) (v1 : Int32) (v2 : Int32) (M : dp_M) : Option dp_Res := dp_lim true xs xl (dp_den true xs xl d) dp_m_X12_liveOnes (4, [some (.ref 114), some (.int v1), some (.int v2)], [], M)
theorem D_X12_liveOnes_0_den (xs : Nat → Int32) (xl d : Nat)  (M : dp_M) : dp_den true xs xl (d + 1) 586 [.ref 114] M = D_X12_liveOnes_0 xs xl d  M := rfl
set_option maxRecDepth 20000 in
theorem D_X12_liveOnes_0_eq (xs : Nat → Int32) (xl d : Nat)  (M : dp_M) : D_X12_liveOnes_0 xs xl d  M = dp_w (0 : Int32) (fun y1 => dp_w (1 : Int32) (fun y2 => D_X12_liveOnes_4 xs xl d y1 y2 M)) := by
  have hF := dp_den_grow (md := true) (xs := xs) (xl := xl) d
  unfold D_X12_liveOnes_0
  refine dp_s1 hF (i := .iconst 0) rfl (fun _ => rfl) ?_
  refine dp_s1w (0 : Int32) (fun (y1 : Int32) => (2, [some (.ref 114), some (.int y1), none], [], M)) hF (i := .istore_n 1) rfl (fun _ => rfl) (fun y1 => ?_)
  refine dp_s1 hF (i := .iconst 1) rfl (fun _ => rfl) ?_
  refine dp_s1w (1 : Int32) (fun (y2 : Int32) => (4, [some (.ref 114), some (.int y1), some (.int y2)], [], M)) hF (i := .istore_n 2) rfl (fun _ => rfl) (fun y2 => ?_)
  exact rfl
set_option maxRecDepth 20000 in
theorem D_X12_liveOnes_4_eq (xs : Nat → Int32) (xl d : Nat) (v1 : Int32) (v2 : Int32) (M : dp_M) : D_X12_liveOnes_4 xs xl d v1 v2 M = if (dp_I M 114 133) < v2 then (some (.inl (some (.int v1)), M)) else (if v2 < 0 ∨ 402 ≤ Int32.toNatClampNeg v2 then none else (if (dp_I M 215 (Int32.toNatClampNeg v2)) = 0 then (dp_w (v1 + (1 : Int32)) (fun y1 => dp_w (v2 + (1 : Int32)) (fun y2 => D_X12_liveOnes_4 xs xl d y1 y2 M))) else (dp_w (v1 + (0 : Int32)) (fun y3 => dp_w (v2 + (1 : Int32)) (fun y4 => D_X12_liveOnes_4 xs xl d y3 y4 M))))) := by
  have hF := dp_den_grow (md := true) (xs := xs) (xl := xl) d
  unfold D_X12_liveOnes_4
  refine dp_s1 hF (i := .iload_n 2) rfl (fun _ => rfl) ?_
  refine dp_s1 hF (i := .aload_n 0) rfl (fun _ => rfl) ?_
  refine dp_s1 hF (i := .getfield 923) rfl (fun _ => rfl) ?_
  refine dp_s2 hF (i := .if_icmp .gt 26) (a := (35, [some (.ref 114), some (.int v1), some (.int v2)], [], M)) (b := (12, [some (.ref 114), some (.int v1), some (.int v2)], [], M)) rfl (fun _ => rfl) ?_ ?_
  · refine dp_s1 hF (i := .iload_n 1) rfl (fun _ => rfl) ?_
    exact dp_s0 hF (i := .ireturn) rfl (fun _ => rfl)
  refine dp_s1 hF (i := .iload_n 1) rfl (fun _ => rfl) ?_
  refine dp_s1 hF (i := .aload_n 0) rfl (fun _ => rfl) ?_
  refine dp_s1 hF (i := .getfield 317) rfl (fun _ => rfl) ?_
  refine dp_s1 hF (i := .iload_n 2) rfl (fun _ => rfl) ?_
  refine dp_s3 hF (i := .iaload) rfl (fun _ => rfl) ?_
  refine dp_s2 hF (i := .ifCond .ne 7) (a := (22, [some (.ref 114), some (.int v1), some (.int v2)], [.int v1], M)) (b := (26, [some (.ref 114), some (.int v1), some (.int v2)], [.int v1], M)) rfl (fun _ => rfl) ?_ ?_
  · refine dp_s1 hF (i := .iconst 1) rfl (fun _ => rfl) ?_
    refine dp_s1 hF (i := .goto 4) rfl (fun _ => rfl) ?_
    refine dp_s1 hF (i := .iadd) rfl (fun _ => rfl) ?_
    refine dp_s1w (v1 + (1 : Int32)) (fun (y1 : Int32) => (29, [some (.ref 114), some (.int y1), some (.int v2)], [], M)) hF (i := .istore_n 1) rfl (fun _ => rfl) (fun y1 => ?_)
    refine dp_s1w (v2 + (1 : Int32)) (fun (y2 : Int32) => (32, [some (.ref 114), some (.int y1), some (.int y2)], [], M)) hF (i := .iinc 2 1) rfl (fun _ => rfl) (fun y2 => ?_)
    refine dp_s1 hF (i := .goto (-28)) rfl (fun _ => rfl) ?_
    exact rfl
  refine dp_s1 hF (i := .iconst 0) rfl (fun _ => rfl) ?_
  refine dp_s1 hF (i := .iadd) rfl (fun _ => rfl) ?_
  refine dp_s1w (v1 + (0 : Int32)) (fun (y3 : Int32) => (29, [some (.ref 114), some (.int y3), some (.int v2)], [], M)) hF (i := .istore_n 1) rfl (fun _ => rfl) (fun y3 => ?_)
  refine dp_s1w (v2 + (1 : Int32)) (fun (y4 : Int32) => (32, [some (.ref 114), some (.int y3), some (.int y4)], [], M)) hF (i := .iinc 2 1) rfl (fun _ => rfl) (fun y4 => ?_)
  refine dp_s1 hF (i := .goto (-28)) rfl (fun _ => rfl) ?_
  exact rfl
noncomputable def D_X12_ofState_0 (xs : Nat → Int32) (xl d : Nat) (v1 : Int32) (M : dp_M) : Option dp_Res := dp_lim true xs xl (dp_den true xs xl d) dp_m_X12_ofState (0, [some (.ref 114), some (.int v1), none, none], [], M)
noncomputable def D_X12_ofState_4 (xs : Nat → Int32) (xl d : Nat) (v1 : Int32) (v2 : Int32) (v3 : Int32) (M : dp_M) : Option dp_Res := dp_lim true xs xl (dp_den true xs xl d) dp_m_X12_ofState (4, [some (.ref 114), some (.int v1), some (.int v2), some (.int v3)], [], M)
theorem D_X12_ofState_0_den (xs : Nat → Int32) (xl d : Nat) (a0 : Int32) (M : dp_M) : dp_den true xs xl (d + 1) 587 [.ref 114, .int a0] M = D_X12_ofState_0 xs xl d a0 M := rfl
set_option maxRecDepth 20000 in
theorem D_X12_ofState_0_eq (xs : Nat → Int32) (xl d : Nat) (v1 : Int32) (M : dp_M) : D_X12_ofState_0 xs xl d v1 M = dp_w (0 : Int32) (fun y1 => dp_w (0 : Int32) (fun y2 => D_X12_ofState_4 xs xl d v1 y1 y2 M)) := by
  have hF := dp_den_grow (md := true) (xs := xs) (xl := xl) d
  unfold D_X12_ofState_0
  refine dp_s1 hF (i := .iconst 0) rfl (fun _ => rfl) ?_
  refine dp_s1w (0 : Int32) (fun (y1 : Int32) => (2, [some (.ref 114), some (.int v1), some (.int y1), none], [], M)) hF (i := .istore_n 2) rfl (fun _ => rfl) (fun y1 => ?_)
  refine dp_s1 hF (i := .iconst 0) rfl (fun _ => rfl) ?_
  refine dp_s1w (0 : Int32) (fun (y2 : Int32) => (4, [some (.ref 114), some (.int v1), some (.int y1), some (.int y2)], [], M)) hF (i := .istore_n 3) rfl (fun _ => rfl) (fun y2 => ?_)
  exact rfl
set_option maxRecDepth 20000 in
theorem D_X12_ofState_4_eq (xs : Nat → Int32) (xl d : Nat) (v1 : Int32) (v2 : Int32) (v3 : Int32) (M : dp_M) : D_X12_ofState_4 xs xl d v1 v2 v3 M = if (dp_I M 114 160) ≤ v3 then (some (.inl (some (.int v2)), M)) else (if v3 < 0 ∨ 400 ≤ Int32.toNatClampNeg v3 then none else (if (dp_I M 241 (Int32.toNatClampNeg v3)) = v1 then (dp_w (v2 + (1 : Int32)) (fun y1 => dp_w (v3 + (1 : Int32)) (fun y2 => D_X12_ofState_4 xs xl d v1 y1 y2 M))) else (dp_w (v2 + (0 : Int32)) (fun y3 => dp_w (v3 + (1 : Int32)) (fun y4 => D_X12_ofState_4 xs xl d v1 y3 y4 M))))) := by
  have hF := dp_den_grow (md := true) (xs := xs) (xl := xl) d
  unfold D_X12_ofState_4
  refine dp_s1 hF (i := .iload_n 3) rfl (fun _ => rfl) ?_
  refine dp_s1 hF (i := .aload_n 0) rfl (fun _ => rfl) ?_
  refine dp_s1 hF (i := .getfield 611) rfl (fun _ => rfl) ?_
  refine dp_s2 hF (i := .if_icmp .ge 27) (a := (36, [some (.ref 114), some (.int v1), some (.int v2), some (.int v3)], [], M)) (b := (12, [some (.ref 114), some (.int v1), some (.int v2), some (.int v3)], [], M)) rfl (fun _ => rfl) ?_ ?_
  · refine dp_s1 hF (i := .iload_n 2) rfl (fun _ => rfl) ?_
    exact dp_s0 hF (i := .ireturn) rfl (fun _ => rfl)
  refine dp_s1 hF (i := .iload_n 2) rfl (fun _ => rfl) ?_
  refine dp_s1 hF (i := .aload_n 0) rfl (fun _ => rfl) ?_
  refine dp_s1 hF (i := .getfield 404) rfl (fun _ => rfl) ?_
  refine dp_s1 hF (i := .iload_n 3) rfl (fun _ => rfl) ?_
  refine dp_s3 hF (i := .iaload) rfl (fun _ => rfl) ?_
  refine dp_s1 hF (i := .iload_n 1) rfl (fun _ => rfl) ?_
  refine dp_s2 hF (i := .if_icmp .ne 7) (a := (23, [some (.ref 114), some (.int v1), some (.int v2), some (.int v3)], [.int v2], M)) (b := (27, [some (.ref 114), some (.int v1), some (.int v2), some (.int v3)], [.int v2], M)) rfl (fun _ => rfl) ?_ ?_
  · refine dp_s1 hF (i := .iconst 1) rfl (fun _ => rfl) ?_
    refine dp_s1 hF (i := .goto 4) rfl (fun _ => rfl) ?_
    refine dp_s1 hF (i := .iadd) rfl (fun _ => rfl) ?_
    refine dp_s1w (v2 + (1 : Int32)) (fun (y1 : Int32) => (30, [some (.ref 114), some (.int v1), some (.int y1), some (.int v3)], [], M)) hF (i := .istore_n 2) rfl (fun _ => rfl) (fun y1 => ?_)
    refine dp_s1w (v3 + (1 : Int32)) (fun (y2 : Int32) => (33, [some (.ref 114), some (.int v1), some (.int y1), some (.int y2)], [], M)) hF (i := .iinc 3 1) rfl (fun _ => rfl) (fun y2 => ?_)
    refine dp_s1 hF (i := .goto (-29)) rfl (fun _ => rfl) ?_
    exact rfl
  refine dp_s1 hF (i := .iconst 0) rfl (fun _ => rfl) ?_
  refine dp_s1 hF (i := .iadd) rfl (fun _ => rfl) ?_
  refine dp_s1w (v2 + (0 : Int32)) (fun (y3 : Int32) => (30, [some (.ref 114), some (.int v1), some (.int y3), some (.int v3)], [], M)) hF (i := .istore_n 2) rfl (fun _ => rfl) (fun y3 => ?_)
  refine dp_s1w (v3 + (1 : Int32)) (fun (y4 : Int32) => (33, [some (.ref 114), some (.int v1), some (.int y3), some (.int y4)], [], M)) hF (i := .iinc 3 1) rfl (fun _ => rfl) (fun y4 => ?_)
  refine dp_s1 hF (i := .goto (-29)) rfl (fun _ => rfl) ?_
  exact rfl
noncomputable def D_X12_countOfPlace_0 (xs : Nat → Int32) (xl d : Nat) (v1 : Int32) (M : dp_M) : Option dp_Res := dp_lim true xs xl (dp_den true xs xl d) dp_m_X12_countOfPlace (0, [some (.ref 114), some (.int v1), none], [], M)
noncomputable def D_X12_countOfPlace_73 (xs : Nat → Int32) (xl d : Nat) (v1 : Int32) (v2 : Int32) (vs0 : Int32) (M : dp_M) : Option dp_Res := dp_lim true xs xl (dp_den true xs xl d) dp_m_X12_countOfPlace (73, [some (.ref 114), some (.int v1), some (.int v2)], [.int vs0, .ref 120], M)
theorem D_X12_countOfPlace_0_den (xs : Nat → Int32) (xl d : Nat) (a0 : Int32) (M : dp_M) : dp_den true xs xl (d + 1) 588 [.ref 114, .int a0] M = D_X12_countOfPlace_0 xs xl d a0 M := rfl
set_option maxRecDepth 20000 in
theorem D_X12_countOfPlace_0_eq (xs : Nat → Int32) (xl d : Nat) (v1 : Int32) (M : dp_M) : D_X12_countOfPlace_0 xs xl d v1 M = dp_w (v1 - v1 / (100 : Int32) * (100 : Int32)) (fun y1 => if (v1 / (100 : Int32)) = (1 : Int32) then (dp_bi (dp_den true xs xl d 370 [.ref 114, .int y1] M) (fun r3 M2 => if r3 = 0 then (some (.inl (some (.int (-1 : Int32))), M2)) else (dp_bi (dp_den true xs xl d 370 [.ref 114, .int y1] M2) (fun r5 M4 => if r5 = 0 then (D_X12_countOfPlace_73 xs xl d v1 y1 (0 : Int32) M4) else (D_X12_countOfPlace_73 xs xl d v1 y1 y1 M4))))) else if (v1 / (100 : Int32)) = (2 : Int32) then (dp_bi (dp_den true xs xl d 395 [.ref 114, .int y1] M) (fun r7 M6 => if r7 = 0 then (some (.inl (some (.int (-1 : Int32))), M6)) else (dp_bi (dp_den true xs xl d 396 [.ref 114, .int y1] M6) (fun r9 M8 => some (.inl (some (.int r9)), M8))))) else if (v1 / (100 : Int32)) = (3 : Int32) then (dp_bi (dp_den true xs xl d 395 [.ref 114, .int y1] M) (fun r11 M10 => if r11 = 0 then (some (.inl (some (.int (-1 : Int32))), M10)) else (dp_bi (dp_den true xs xl d 397 [.ref 114, .int y1] M10) (fun r13 M12 => some (.inl (some (.int r13)), M12))))) else if (v1 / (100 : Int32)) = (4 : Int32) then (dp_bi (dp_den true xs xl d 395 [.ref 114, .int y1] M) (fun r15 M14 => if r15 = 0 then (some (.inl (some (.int (-1 : Int32))), M14)) else (if y1 < 0 ∨ 20 ≤ Int32.toNatClampNeg y1 then none else (some (.inl (some (.int (dp_I M14 133 (Int32.toNatClampNeg y1)))), M14))))) else if (v1 / (100 : Int32)) = (5 : Int32) then (dp_bi (dp_den true xs xl d 395 [.ref 114, .int y1] M) (fun r17 M16 => if r17 = 0 then (some (.inl (some (.int (-1 : Int32))), M16)) else (if y1 < 0 ∨ 20 ≤ Int32.toNatClampNeg y1 then none else (some (.inl (some (.int (dp_I M16 134 (Int32.toNatClampNeg y1)))), M16))))) else if (v1 / (100 : Int32)) = (6 : Int32) then (dp_bi (dp_den true xs xl d 443 [.int y1] M) (fun r19 M18 => if r19 = 0 then (some (.inl (some (.int (-1 : Int32))), M18)) else (dp_bi (dp_den true xs xl d 448 [.ref 114, .int y1] M18) (fun r21 M20 => dp_bi (dp_den true xs xl d 447 [.int (r21 &&& (65535 : Int32))] M20) (fun r23 M22 => some (.inl (some (.int r23)), M22)))))) else (some (.inl (some (.int (-1 : Int32))), M))) := by
  have hF := dp_den_grow (md := true) (xs := xs) (xl := xl) d
  unfold D_X12_countOfPlace_0
  refine dp_s1 hF (i := .iload_n 1) rfl (fun _ => rfl) ?_
  refine dp_s1 hF (i := .bipush 100) rfl (fun _ => rfl) ?_
  refine dp_s1 hF (i := .irem) rfl (fun _ => rfl) ?_
  refine dp_s1w (v1 - v1 / (100 : Int32) * (100 : Int32)) (fun (y1 : Int32) => (5, [some (.ref 114), some (.int v1), some (.int y1)], [], M)) hF (i := .istore_n 2) rfl (fun _ => rfl) (fun y1 => ?_)
  refine dp_s1 hF (i := .iload_n 1) rfl (fun _ => rfl) ?_
  refine dp_s1 hF (i := .bipush 100) rfl (fun _ => rfl) ?_
  refine dp_s1 hF (i := .idiv) rfl (fun _ => rfl) ?_
  refine (dp_s (E := fun k => if (v1 / (100 : Int32)) = (1 : Int32) then k (48, [some (.ref 114), some (.int v1), some (.int y1)], [], M) else if (v1 / (100 : Int32)) = (2 : Int32) then k (95, [some (.ref 114), some (.int v1), some (.int y1)], [], M) else if (v1 / (100 : Int32)) = (3 : Int32) then k (113, [some (.ref 114), some (.int v1), some (.int y1)], [], M) else if (v1 / (100 : Int32)) = (4 : Int32) then k (131, [some (.ref 114), some (.int v1), some (.int y1)], [], M) else if (v1 / (100 : Int32)) = (5 : Int32) then k (150, [some (.ref 114), some (.int v1), some (.int y1)], [], M) else if (v1 / (100 : Int32)) = (6 : Int32) then k (169, [some (.ref 114), some (.int v1), some (.int y1)], [], M) else k (193, [some (.ref 114), some (.int v1), some (.int y1)], [], M)) hF (i := .tableswitch 184 1 6 #[39, 86, 104, 122, 141, 160]) rfl (fun _ => rfl)).trans ?_
  refine dp_ifc ?_ ?_
  · refine dp_s1 hF (i := .aload_n 0) rfl (fun _ => rfl) ?_
    refine dp_s1 hF (i := .iload_n 2) rfl (fun _ => rfl) ?_
    refine dp_si (mj := dp_m_X12_isBay) (i := .invokevirtual 440) rfl rfl (Or.inr rfl) rfl (fun _ => rfl) (fun r3 M2 => ?_)
    refine dp_s2 hF (i := .ifCond .eq 40) (a := (93, [some (.ref 114), some (.int v1), some (.int y1)], [], M2)) (b := (56, [some (.ref 114), some (.int v1), some (.int y1)], [], M2)) rfl (fun _ => rfl) ?_ ?_
    · refine dp_s1 hF (i := .iconst (-1)) rfl (fun _ => rfl) ?_
      exact dp_s0 hF (i := .ireturn) rfl (fun _ => rfl)
    refine dp_s1 hF (i := .aload_n 0) rfl (fun _ => rfl) ?_
    refine dp_s1 hF (i := .getfield 30) rfl (fun _ => rfl) ?_
    refine dp_s1 hF (i := .aload_n 0) rfl (fun _ => rfl) ?_
    refine dp_s1 hF (i := .iload_n 2) rfl (fun _ => rfl) ?_
    refine dp_si (mj := dp_m_X12_isBay) (i := .invokevirtual 440) rfl rfl (Or.inr rfl) rfl (fun _ => rfl) (fun r5 M4 => ?_)
    refine dp_s2 hF (i := .ifCond .eq 7) (a := (72, [some (.ref 114), some (.int v1), some (.int y1)], [.ref 120], M4)) (b := (68, [some (.ref 114), some (.int v1), some (.int y1)], [.ref 120], M4)) rfl (fun _ => rfl) ?_ ?_
    · refine dp_s1 hF (i := .iconst 0) rfl (fun _ => rfl) ?_
      exact rfl
    refine dp_s1 hF (i := .iload_n 2) rfl (fun _ => rfl) ?_
    refine dp_s1 hF (i := .goto 4) rfl (fun _ => rfl) ?_
    exact rfl
  refine dp_ifc ?_ ?_
  · refine dp_s1 hF (i := .aload_n 0) rfl (fun _ => rfl) ?_
    refine dp_s1 hF (i := .iload_n 2) rfl (fun _ => rfl) ?_
    refine dp_si (mj := dp_m_X12_isYardRow) (i := .invokevirtual 569) rfl rfl (Or.inr rfl) rfl (fun _ => rfl) (fun r7 M6 => ?_)
    refine dp_s2 hF (i := .ifCond .eq 11) (a := (111, [some (.ref 114), some (.int v1), some (.int y1)], [], M6)) (b := (103, [some (.ref 114), some (.int v1), some (.int y1)], [], M6)) rfl (fun _ => rfl) ?_ ?_
    · refine dp_s1 hF (i := .iconst (-1)) rfl (fun _ => rfl) ?_
      exact dp_s0 hF (i := .ireturn) rfl (fun _ => rfl)
    refine dp_s1 hF (i := .aload_n 0) rfl (fun _ => rfl) ?_
    refine dp_s1 hF (i := .iload_n 2) rfl (fun _ => rfl) ?_
    refine dp_si (mj := dp_m_X12_heightOf) (i := .invokevirtual 547) rfl rfl (Or.inl rfl) rfl (fun _ => rfl) (fun r9 M8 => ?_)
    refine dp_s1 hF (i := .goto 4) rfl (fun _ => rfl) ?_
    exact dp_s0 hF (i := .ireturn) rfl (fun _ => rfl)
  refine dp_ifc ?_ ?_
  · refine dp_s1 hF (i := .aload_n 0) rfl (fun _ => rfl) ?_
    refine dp_s1 hF (i := .iload_n 2) rfl (fun _ => rfl) ?_
    refine dp_si (mj := dp_m_X12_isYardRow) (i := .invokevirtual 569) rfl rfl (Or.inr rfl) rfl (fun _ => rfl) (fun r11 M10 => ?_)
    refine dp_s2 hF (i := .ifCond .eq 11) (a := (129, [some (.ref 114), some (.int v1), some (.int y1)], [], M10)) (b := (121, [some (.ref 114), some (.int v1), some (.int y1)], [], M10)) rfl (fun _ => rfl) ?_ ?_
    · refine dp_s1 hF (i := .iconst (-1)) rfl (fun _ => rfl) ?_
      exact dp_s0 hF (i := .ireturn) rfl (fun _ => rfl)
    refine dp_s1 hF (i := .aload_n 0) rfl (fun _ => rfl) ?_
    refine dp_s1 hF (i := .iload_n 2) rfl (fun _ => rfl) ?_
    refine dp_si (mj := dp_m_X12_weightOf) (i := .invokevirtual 553) rfl rfl (Or.inl rfl) rfl (fun _ => rfl) (fun r13 M12 => ?_)
    refine dp_s1 hF (i := .goto 4) rfl (fun _ => rfl) ?_
    exact dp_s0 hF (i := .ireturn) rfl (fun _ => rfl)
  refine dp_ifc ?_ ?_
  · refine dp_s1 hF (i := .aload_n 0) rfl (fun _ => rfl) ?_
    refine dp_s1 hF (i := .iload_n 2) rfl (fun _ => rfl) ?_
    refine dp_si (mj := dp_m_X12_isYardRow) (i := .invokevirtual 569) rfl rfl (Or.inr rfl) rfl (fun _ => rfl) (fun r15 M14 => ?_)
    refine dp_s2 hF (i := .ifCond .eq 12) (a := (148, [some (.ref 114), some (.int v1), some (.int y1)], [], M14)) (b := (139, [some (.ref 114), some (.int v1), some (.int y1)], [], M14)) rfl (fun _ => rfl) ?_ ?_
    · refine dp_s1 hF (i := .iconst (-1)) rfl (fun _ => rfl) ?_
      exact dp_s0 hF (i := .ireturn) rfl (fun _ => rfl)
    refine dp_s1 hF (i := .aload_n 0) rfl (fun _ => rfl) ?_
    refine dp_s1 hF (i := .getfield 70) rfl (fun _ => rfl) ?_
    refine dp_s1 hF (i := .iload_n 2) rfl (fun _ => rfl) ?_
    refine dp_s3 hF (i := .iaload) rfl (fun _ => rfl) ?_
    refine dp_s1 hF (i := .goto 4) rfl (fun _ => rfl) ?_
    exact dp_s0 hF (i := .ireturn) rfl (fun _ => rfl)
  refine dp_ifc ?_ ?_
  · refine dp_s1 hF (i := .aload_n 0) rfl (fun _ => rfl) ?_
    refine dp_s1 hF (i := .iload_n 2) rfl (fun _ => rfl) ?_
    refine dp_si (mj := dp_m_X12_isYardRow) (i := .invokevirtual 569) rfl rfl (Or.inr rfl) rfl (fun _ => rfl) (fun r17 M16 => ?_)
    refine dp_s2 hF (i := .ifCond .eq 12) (a := (167, [some (.ref 114), some (.int v1), some (.int y1)], [], M16)) (b := (158, [some (.ref 114), some (.int v1), some (.int y1)], [], M16)) rfl (fun _ => rfl) ?_ ?_
    · refine dp_s1 hF (i := .iconst (-1)) rfl (fun _ => rfl) ?_
      exact dp_s0 hF (i := .ireturn) rfl (fun _ => rfl)
    refine dp_s1 hF (i := .aload_n 0) rfl (fun _ => rfl) ?_
    refine dp_s1 hF (i := .getfield 73) rfl (fun _ => rfl) ?_
    refine dp_s1 hF (i := .iload_n 2) rfl (fun _ => rfl) ?_
    refine dp_s3 hF (i := .iaload) rfl (fun _ => rfl) ?_
    refine dp_s1 hF (i := .goto 4) rfl (fun _ => rfl) ?_
    exact dp_s0 hF (i := .ireturn) rfl (fun _ => rfl)
  refine dp_ifc ?_ ?_
  · refine dp_s1 hF (i := .iload_n 2) rfl (fun _ => rfl) ?_
    refine dp_si (mj := dp_m_X12_isGroup) (i := .invokestatic 657) rfl rfl (Or.inr rfl) rfl (fun _ => rfl) (fun r19 M18 => ?_)
    refine dp_s2 hF (i := .ifCond .eq 18) (a := (191, [some (.ref 114), some (.int v1), some (.int y1)], [], M18)) (b := (176, [some (.ref 114), some (.int v1), some (.int y1)], [], M18)) rfl (fun _ => rfl) ?_ ?_
    · refine dp_s1 hF (i := .iconst (-1)) rfl (fun _ => rfl) ?_
      exact dp_s0 hF (i := .ireturn) rfl (fun _ => rfl)
    refine dp_s1 hF (i := .aload_n 0) rfl (fun _ => rfl) ?_
    refine dp_s1 hF (i := .iload_n 2) rfl (fun _ => rfl) ?_
    refine dp_si (mj := dp_m_X12_allIn) (i := .invokevirtual 660) rfl rfl (Or.inl rfl) rfl (fun _ => rfl) (fun r21 M20 => ?_)
    refine dp_s1 hF (i := .ldc_w 687) rfl (fun _ => rfl) ?_
    refine dp_s1 hF (i := .iand) rfl (fun _ => rfl) ?_
    refine dp_si (mj := dp_m_X12_bits) (i := .invokestatic 684) rfl rfl (Or.inl rfl) rfl (fun _ => rfl) (fun r23 M22 => ?_)
    refine dp_s1 hF (i := .goto 4) rfl (fun _ => rfl) ?_
    exact dp_s0 hF (i := .ireturn) rfl (fun _ => rfl)
  refine dp_s1 hF (i := .iconst (-1)) rfl (fun _ => rfl) ?_
  exact dp_s0 hF (i := .ireturn) rfl (fun _ => rfl)
set_option maxRecDepth 20000 in
theorem D_X12_countOfPlace_73_eq (xs : Nat → Int32) (xl d : Nat) (v1 : Int32) (v2 : Int32) (vs0 : Int32) (M : dp_M) : D_X12_countOfPlace_73 xs xl d v1 v2 vs0 M = if vs0 < 0 ∨ 12 ≤ Int32.toNatClampNeg vs0 then none else (if (dp_I M 120 (Int32.toNatClampNeg vs0)) = 0 then (some (.inl (some (.int (-1 : Int32))), M)) else (if v2 < 0 ∨ 12 ≤ Int32.toNatClampNeg v2 then none else (if v2 < 0 ∨ 12 ≤ Int32.toNatClampNeg v2 then none else (some (.inl (some (.int ((dp_I M 121 (Int32.toNatClampNeg v2)) - (dp_I M 122 (Int32.toNatClampNeg v2))))), M))))) := by
  have hF := dp_den_grow (md := true) (xs := xs) (xl := xl) d
  unfold D_X12_countOfPlace_73
  refine dp_s3 hF (i := .baload) rfl (fun _ => rfl) ?_
  refine dp_s2 hF (i := .ifCond .eq 19) (a := (93, [some (.ref 114), some (.int v1), some (.int v2)], [], M)) (b := (77, [some (.ref 114), some (.int v1), some (.int v2)], [], M)) rfl (fun _ => rfl) ?_ ?_
  · refine dp_s1 hF (i := .iconst (-1)) rfl (fun _ => rfl) ?_
    exact dp_s0 hF (i := .ireturn) rfl (fun _ => rfl)
  refine dp_s1 hF (i := .aload_n 0) rfl (fun _ => rfl) ?_
  refine dp_s1 hF (i := .getfield 33) rfl (fun _ => rfl) ?_
  refine dp_s1 hF (i := .iload_n 2) rfl (fun _ => rfl) ?_
  refine dp_s3 hF (i := .iaload) rfl (fun _ => rfl) ?_
  refine dp_s1 hF (i := .aload_n 0) rfl (fun _ => rfl) ?_
  refine dp_s1 hF (i := .getfield 36) rfl (fun _ => rfl) ?_
  refine dp_s1 hF (i := .iload_n 2) rfl (fun _ => rfl) ?_
  refine dp_s3 hF (i := .iaload) rfl (fun _ => rfl) ?_
  refine dp_s1 hF (i := .isub) rfl (fun _ => rfl) ?_
  refine dp_s1 hF (i := .goto 4) rfl (fun _ => rfl) ?_
  exact dp_s0 hF (i := .ireturn) rfl (fun _ => rfl)
noncomputable def D_X12_countOfBooks_0 (xs : Nat → Int32) (xl d : Nat) (v1 : Int32) (M : dp_M) : Option dp_Res := dp_lim true xs xl (dp_den true xs xl d) dp_m_X12_countOfBooks (0, [some (.ref 114), some (.int v1)], [], M)
noncomputable def D_X12_countOfBooks_22 (xs : Nat → Int32) (xl d : Nat) (v1 : Int32) (M : dp_M) : Option dp_Res := dp_lim true xs xl (dp_den true xs xl d) dp_m_X12_countOfBooks (22, [some (.ref 114), some (.int v1)], [], M)
theorem D_X12_countOfBooks_0_den (xs : Nat → Int32) (xl d : Nat) (a0 : Int32) (M : dp_M) : dp_den true xs xl (d + 1) 589 [.ref 114, .int a0] M = D_X12_countOfBooks_0 xs xl d a0 M := rfl
set_option maxRecDepth 20000 in
theorem D_X12_countOfBooks_0_eq (xs : Nat → Int32) (xl d : Nat) (v1 : Int32) (M : dp_M) : D_X12_countOfBooks_0 xs xl d v1 M = if v1 < (24 : Int32) then (D_X12_countOfBooks_22 xs xl d v1 M) else (if (28 : Int32) ≤ v1 then (D_X12_countOfBooks_22 xs xl d v1 M) else (if (v1 - (24 : Int32)) < 0 ∨ 4 ≤ Int32.toNatClampNeg (v1 - (24 : Int32)) then none else (some (.inl (some (.int (dp_I M 220 (Int32.toNatClampNeg (v1 - (24 : Int32)))))), M)))) := by
  have hF := dp_den_grow (md := true) (xs := xs) (xl := xl) d
  unfold D_X12_countOfBooks_0
  refine dp_s1 hF (i := .iload_n 1) rfl (fun _ => rfl) ?_
  refine dp_s1 hF (i := .bipush 24) rfl (fun _ => rfl) ?_
  refine dp_s2 hF (i := .if_icmp .lt 19) (a := (22, [some (.ref 114), some (.int v1)], [], M)) (b := (6, [some (.ref 114), some (.int v1)], [], M)) rfl (fun _ => rfl) ?_ ?_
  · exact rfl
  refine dp_s1 hF (i := .iload_n 1) rfl (fun _ => rfl) ?_
  refine dp_s1 hF (i := .bipush 28) rfl (fun _ => rfl) ?_
  refine dp_s2 hF (i := .if_icmp .ge 13) (a := (22, [some (.ref 114), some (.int v1)], [], M)) (b := (12, [some (.ref 114), some (.int v1)], [], M)) rfl (fun _ => rfl) ?_ ?_
  · exact rfl
  refine dp_s1 hF (i := .aload_n 0) rfl (fun _ => rfl) ?_
  refine dp_s1 hF (i := .getfield 332) rfl (fun _ => rfl) ?_
  refine dp_s1 hF (i := .iload_n 1) rfl (fun _ => rfl) ?_
  refine dp_s1 hF (i := .bipush 24) rfl (fun _ => rfl) ?_
  refine dp_s1 hF (i := .isub) rfl (fun _ => rfl) ?_
  refine dp_s3 hF (i := .iaload) rfl (fun _ => rfl) ?_
  exact dp_s0 hF (i := .ireturn) rfl (fun _ => rfl)
set_option maxRecDepth 20000 in
theorem D_X12_countOfBooks_22_eq (xs : Nat → Int32) (xl d : Nat) (v1 : Int32) (M : dp_M) : D_X12_countOfBooks_22 xs xl d v1 M = if v1 = (19 : Int32) then (some (.inl (some (.int (dp_I M 114 105))), M)) else if v1 = (20 : Int32) then (some (.inl (some (.int (dp_I M 114 119))), M)) else if v1 = (21 : Int32) then (some (.inl (some (.int (dp_I M 114 133))), M)) else if v1 = (22 : Int32) then (dp_bi (dp_den true xs xl d 586 [.ref 114] M) (fun r4 M3 => some (.inl (some (.int r4)), M3))) else if v1 = (23 : Int32) then (some (.inl (some (.int (dp_I M 114 120))), M)) else if v1 = (24 : Int32) then (if v1 < (36 : Int32) then (some (.inl (some (.int (-1 : Int32))), M)) else (if (40 : Int32) < v1 then (some (.inl (some (.int (-1 : Int32))), M)) else (dp_bi (dp_den true xs xl d 587 [.ref 114, .int (v1 - (36 : Int32))] M) (fun r6 M5 => some (.inl (some (.int r6)), M5))))) else if v1 = (25 : Int32) then (if v1 < (36 : Int32) then (some (.inl (some (.int (-1 : Int32))), M)) else (if (40 : Int32) < v1 then (some (.inl (some (.int (-1 : Int32))), M)) else (dp_bi (dp_den true xs xl d 587 [.ref 114, .int (v1 - (36 : Int32))] M) (fun r8 M7 => some (.inl (some (.int r8)), M7))))) else if v1 = (26 : Int32) then (if v1 < (36 : Int32) then (some (.inl (some (.int (-1 : Int32))), M)) else (if (40 : Int32) < v1 then (some (.inl (some (.int (-1 : Int32))), M)) else (dp_bi (dp_den true xs xl d 587 [.ref 114, .int (v1 - (36 : Int32))] M) (fun r10 M9 => some (.inl (some (.int r10)), M9))))) else if v1 = (27 : Int32) then (if v1 < (36 : Int32) then (some (.inl (some (.int (-1 : Int32))), M)) else (if (40 : Int32) < v1 then (some (.inl (some (.int (-1 : Int32))), M)) else (dp_bi (dp_den true xs xl d 587 [.ref 114, .int (v1 - (36 : Int32))] M) (fun r12 M11 => some (.inl (some (.int r12)), M11))))) else if v1 = (28 : Int32) then (some (.inl (some (.int (dp_I M 114 141))), M)) else if v1 = (29 : Int32) then (some (.inl (some (.int (dp_I M 114 142))), M)) else if v1 = (30 : Int32) then (some (.inl (some (.int (dp_I M 114 143))), M)) else if v1 = (31 : Int32) then (some (.inl (some (.int (dp_I M 114 144))), M)) else if v1 = (32 : Int32) then (some (.inl (some (.int (dp_I M 114 145))), M)) else if v1 = (33 : Int32) then (some (.inl (some (.int (dp_I M 114 146))), M)) else if v1 = (34 : Int32) then (some (.inl (some (.int (dp_I M 114 147))), M)) else if v1 = (35 : Int32) then (some (.inl (some (.int (dp_I M 114 160))), M)) else (if v1 < (36 : Int32) then (some (.inl (some (.int (-1 : Int32))), M)) else (if (40 : Int32) < v1 then (some (.inl (some (.int (-1 : Int32))), M)) else (dp_bi (dp_den true xs xl d 587 [.ref 114, .int (v1 - (36 : Int32))] M) (fun r2 M1 => some (.inl (some (.int r2)), M1))))) := by
  have hF := dp_den_grow (md := true) (xs := xs) (xl := xl) d
  unfold D_X12_countOfBooks_22
  refine dp_s1 hF (i := .iload_n 1) rfl (fun _ => rfl) ?_
  refine (dp_s (E := fun k => if v1 = (19 : Int32) then k (104, [some (.ref 114), some (.int v1)], [], M) else if v1 = (20 : Int32) then k (109, [some (.ref 114), some (.int v1)], [], M) else if v1 = (21 : Int32) then k (114, [some (.ref 114), some (.int v1)], [], M) else if v1 = (22 : Int32) then k (119, [some (.ref 114), some (.int v1)], [], M) else if v1 = (23 : Int32) then k (124, [some (.ref 114), some (.int v1)], [], M) else if v1 = (24 : Int32) then k (169, [some (.ref 114), some (.int v1)], [], M) else if v1 = (25 : Int32) then k (169, [some (.ref 114), some (.int v1)], [], M) else if v1 = (26 : Int32) then k (169, [some (.ref 114), some (.int v1)], [], M) else if v1 = (27 : Int32) then k (169, [some (.ref 114), some (.int v1)], [], M) else if v1 = (28 : Int32) then k (129, [some (.ref 114), some (.int v1)], [], M) else if v1 = (29 : Int32) then k (134, [some (.ref 114), some (.int v1)], [], M) else if v1 = (30 : Int32) then k (139, [some (.ref 114), some (.int v1)], [], M) else if v1 = (31 : Int32) then k (144, [some (.ref 114), some (.int v1)], [], M) else if v1 = (32 : Int32) then k (149, [some (.ref 114), some (.int v1)], [], M) else if v1 = (33 : Int32) then k (154, [some (.ref 114), some (.int v1)], [], M) else if v1 = (34 : Int32) then k (159, [some (.ref 114), some (.int v1)], [], M) else if v1 = (35 : Int32) then k (164, [some (.ref 114), some (.int v1)], [], M) else k (169, [some (.ref 114), some (.int v1)], [], M)) hF (i := .tableswitch 146 19 35 #[81, 86, 91, 96, 101, 146, 146, 146, 146, 106, 111, 116, 121, 126, 131, 136, 141]) rfl (fun _ => rfl)).trans ?_
  refine dp_ifc ?_ ?_
  · refine dp_s1 hF (i := .aload_n 0) rfl (fun _ => rfl) ?_
    refine dp_s1 hF (i := .getfield 885) rfl (fun _ => rfl) ?_
    exact dp_s0 hF (i := .ireturn) rfl (fun _ => rfl)
  refine dp_ifc ?_ ?_
  · refine dp_s1 hF (i := .aload_n 0) rfl (fun _ => rfl) ?_
    refine dp_s1 hF (i := .getfield 911) rfl (fun _ => rfl) ?_
    exact dp_s0 hF (i := .ireturn) rfl (fun _ => rfl)
  refine dp_ifc ?_ ?_
  · refine dp_s1 hF (i := .aload_n 0) rfl (fun _ => rfl) ?_
    refine dp_s1 hF (i := .getfield 923) rfl (fun _ => rfl) ?_
    exact dp_s0 hF (i := .ireturn) rfl (fun _ => rfl)
  refine dp_ifc ?_ ?_
  · refine dp_s1 hF (i := .aload_n 0) rfl (fun _ => rfl) ?_
    refine dp_si (mj := dp_m_X12_liveOnes) (i := .invokevirtual 1067) rfl rfl (Or.inl rfl) rfl (fun _ => rfl) (fun r4 M3 => ?_)
    exact dp_s0 hF (i := .ireturn) rfl (fun _ => rfl)
  refine dp_ifc ?_ ?_
  · refine dp_s1 hF (i := .aload_n 0) rfl (fun _ => rfl) ?_
    refine dp_s1 hF (i := .getfield 917) rfl (fun _ => rfl) ?_
    exact dp_s0 hF (i := .ireturn) rfl (fun _ => rfl)
  refine dp_ifc ?_ ?_
  · refine dp_s1 hF (i := .iload_n 1) rfl (fun _ => rfl) ?_
    refine dp_s1 hF (i := .bipush 36) rfl (fun _ => rfl) ?_
    refine dp_s2 hF (i := .if_icmp .lt 20) (a := (192, [some (.ref 114), some (.int v1)], [], M)) (b := (175, [some (.ref 114), some (.int v1)], [], M)) rfl (fun _ => rfl) ?_ ?_
    · refine dp_s1 hF (i := .iconst (-1)) rfl (fun _ => rfl) ?_
      exact dp_s0 hF (i := .ireturn) rfl (fun _ => rfl)
    refine dp_s1 hF (i := .iload_n 1) rfl (fun _ => rfl) ?_
    refine dp_s1 hF (i := .bipush 40) rfl (fun _ => rfl) ?_
    refine dp_s2 hF (i := .if_icmp .gt 14) (a := (192, [some (.ref 114), some (.int v1)], [], M)) (b := (181, [some (.ref 114), some (.int v1)], [], M)) rfl (fun _ => rfl) ?_ ?_
    · refine dp_s1 hF (i := .iconst (-1)) rfl (fun _ => rfl) ?_
      exact dp_s0 hF (i := .ireturn) rfl (fun _ => rfl)
    refine dp_s1 hF (i := .aload_n 0) rfl (fun _ => rfl) ?_
    refine dp_s1 hF (i := .iload_n 1) rfl (fun _ => rfl) ?_
    refine dp_s1 hF (i := .bipush 36) rfl (fun _ => rfl) ?_
    refine dp_s1 hF (i := .isub) rfl (fun _ => rfl) ?_
    refine dp_si (mj := dp_m_X12_ofState) (i := .invokevirtual 1070) rfl rfl (Or.inl rfl) rfl (fun _ => rfl) (fun r6 M5 => ?_)
    refine dp_s1 hF (i := .goto 4) rfl (fun _ => rfl) ?_
    exact dp_s0 hF (i := .ireturn) rfl (fun _ => rfl)
  refine dp_ifc ?_ ?_
  · refine dp_s1 hF (i := .iload_n 1) rfl (fun _ => rfl) ?_
    refine dp_s1 hF (i := .bipush 36) rfl (fun _ => rfl) ?_
    refine dp_s2 hF (i := .if_icmp .lt 20) (a := (192, [some (.ref 114), some (.int v1)], [], M)) (b := (175, [some (.ref 114), some (.int v1)], [], M)) rfl (fun _ => rfl) ?_ ?_
    · refine dp_s1 hF (i := .iconst (-1)) rfl (fun _ => rfl) ?_
      exact dp_s0 hF (i := .ireturn) rfl (fun _ => rfl)
    refine dp_s1 hF (i := .iload_n 1) rfl (fun _ => rfl) ?_
    refine dp_s1 hF (i := .bipush 40) rfl (fun _ => rfl) ?_
    refine dp_s2 hF (i := .if_icmp .gt 14) (a := (192, [some (.ref 114), some (.int v1)], [], M)) (b := (181, [some (.ref 114), some (.int v1)], [], M)) rfl (fun _ => rfl) ?_ ?_
    · refine dp_s1 hF (i := .iconst (-1)) rfl (fun _ => rfl) ?_
      exact dp_s0 hF (i := .ireturn) rfl (fun _ => rfl)
    refine dp_s1 hF (i := .aload_n 0) rfl (fun _ => rfl) ?_
    refine dp_s1 hF (i := .iload_n 1) rfl (fun _ => rfl) ?_
    refine dp_s1 hF (i := .bipush 36) rfl (fun _ => rfl) ?_
    refine dp_s1 hF (i := .isub) rfl (fun _ => rfl) ?_
    refine dp_si (mj := dp_m_X12_ofState) (i := .invokevirtual 1070) rfl rfl (Or.inl rfl) rfl (fun _ => rfl) (fun r8 M7 => ?_)
    refine dp_s1 hF (i := .goto 4) rfl (fun _ => rfl) ?_
    exact dp_s0 hF (i := .ireturn) rfl (fun _ => rfl)
  refine dp_ifc ?_ ?_
  · refine dp_s1 hF (i := .iload_n 1) rfl (fun _ => rfl) ?_
    refine dp_s1 hF (i := .bipush 36) rfl (fun _ => rfl) ?_
    refine dp_s2 hF (i := .if_icmp .lt 20) (a := (192, [some (.ref 114), some (.int v1)], [], M)) (b := (175, [some (.ref 114), some (.int v1)], [], M)) rfl (fun _ => rfl) ?_ ?_
    · refine dp_s1 hF (i := .iconst (-1)) rfl (fun _ => rfl) ?_
      exact dp_s0 hF (i := .ireturn) rfl (fun _ => rfl)
    refine dp_s1 hF (i := .iload_n 1) rfl (fun _ => rfl) ?_
    refine dp_s1 hF (i := .bipush 40) rfl (fun _ => rfl) ?_
    refine dp_s2 hF (i := .if_icmp .gt 14) (a := (192, [some (.ref 114), some (.int v1)], [], M)) (b := (181, [some (.ref 114), some (.int v1)], [], M)) rfl (fun _ => rfl) ?_ ?_
    · refine dp_s1 hF (i := .iconst (-1)) rfl (fun _ => rfl) ?_
      exact dp_s0 hF (i := .ireturn) rfl (fun _ => rfl)
    refine dp_s1 hF (i := .aload_n 0) rfl (fun _ => rfl) ?_
    refine dp_s1 hF (i := .iload_n 1) rfl (fun _ => rfl) ?_
    refine dp_s1 hF (i := .bipush 36) rfl (fun _ => rfl) ?_
    refine dp_s1 hF (i := .isub) rfl (fun _ => rfl) ?_
    refine dp_si (mj := dp_m_X12_ofState) (i := .invokevirtual 1070) rfl rfl (Or.inl rfl) rfl (fun _ => rfl) (fun r10 M9 => ?_)
    refine dp_s1 hF (i := .goto 4) rfl (fun _ => rfl) ?_
    exact dp_s0 hF (i := .ireturn) rfl (fun _ => rfl)
  refine dp_ifc ?_ ?_
  · refine dp_s1 hF (i := .iload_n 1) rfl (fun _ => rfl) ?_
    refine dp_s1 hF (i := .bipush 36) rfl (fun _ => rfl) ?_
    refine dp_s2 hF (i := .if_icmp .lt 20) (a := (192, [some (.ref 114), some (.int v1)], [], M)) (b := (175, [some (.ref 114), some (.int v1)], [], M)) rfl (fun _ => rfl) ?_ ?_
    · refine dp_s1 hF (i := .iconst (-1)) rfl (fun _ => rfl) ?_
      exact dp_s0 hF (i := .ireturn) rfl (fun _ => rfl)
    refine dp_s1 hF (i := .iload_n 1) rfl (fun _ => rfl) ?_
    refine dp_s1 hF (i := .bipush 40) rfl (fun _ => rfl) ?_
    refine dp_s2 hF (i := .if_icmp .gt 14) (a := (192, [some (.ref 114), some (.int v1)], [], M)) (b := (181, [some (.ref 114), some (.int v1)], [], M)) rfl (fun _ => rfl) ?_ ?_
    · refine dp_s1 hF (i := .iconst (-1)) rfl (fun _ => rfl) ?_
      exact dp_s0 hF (i := .ireturn) rfl (fun _ => rfl)
    refine dp_s1 hF (i := .aload_n 0) rfl (fun _ => rfl) ?_
    refine dp_s1 hF (i := .iload_n 1) rfl (fun _ => rfl) ?_
    refine dp_s1 hF (i := .bipush 36) rfl (fun _ => rfl) ?_
    refine dp_s1 hF (i := .isub) rfl (fun _ => rfl) ?_
    refine dp_si (mj := dp_m_X12_ofState) (i := .invokevirtual 1070) rfl rfl (Or.inl rfl) rfl (fun _ => rfl) (fun r12 M11 => ?_)
    refine dp_s1 hF (i := .goto 4) rfl (fun _ => rfl) ?_
    exact dp_s0 hF (i := .ireturn) rfl (fun _ => rfl)
  refine dp_ifc ?_ ?_
  · refine dp_s1 hF (i := .aload_n 0) rfl (fun _ => rfl) ?_
    refine dp_s1 hF (i := .getfield 966) rfl (fun _ => rfl) ?_
    exact dp_s0 hF (i := .ireturn) rfl (fun _ => rfl)
  refine dp_ifc ?_ ?_
  · refine dp_s1 hF (i := .aload_n 0) rfl (fun _ => rfl) ?_
    refine dp_s1 hF (i := .getfield 992) rfl (fun _ => rfl) ?_
    exact dp_s0 hF (i := .ireturn) rfl (fun _ => rfl)
  refine dp_ifc ?_ ?_
  · refine dp_s1 hF (i := .aload_n 0) rfl (fun _ => rfl) ?_
    refine dp_s1 hF (i := .getfield 335) rfl (fun _ => rfl) ?_
    exact dp_s0 hF (i := .ireturn) rfl (fun _ => rfl)
  refine dp_ifc ?_ ?_
  · refine dp_s1 hF (i := .aload_n 0) rfl (fun _ => rfl) ?_
    refine dp_s1 hF (i := .getfield 338) rfl (fun _ => rfl) ?_
    exact dp_s0 hF (i := .ireturn) rfl (fun _ => rfl)
  refine dp_ifc ?_ ?_
  · refine dp_s1 hF (i := .aload_n 0) rfl (fun _ => rfl) ?_
    refine dp_s1 hF (i := .getfield 998) rfl (fun _ => rfl) ?_
    exact dp_s0 hF (i := .ireturn) rfl (fun _ => rfl)
  refine dp_ifc ?_ ?_
  · refine dp_s1 hF (i := .aload_n 0) rfl (fun _ => rfl) ?_
    refine dp_s1 hF (i := .getfield 341) rfl (fun _ => rfl) ?_
    exact dp_s0 hF (i := .ireturn) rfl (fun _ => rfl)
  refine dp_ifc ?_ ?_
  · refine dp_s1 hF (i := .aload_n 0) rfl (fun _ => rfl) ?_
    refine dp_s1 hF (i := .getfield 1004) rfl (fun _ => rfl) ?_
    exact dp_s0 hF (i := .ireturn) rfl (fun _ => rfl)
  refine dp_ifc ?_ ?_
  · refine dp_s1 hF (i := .aload_n 0) rfl (fun _ => rfl) ?_
    refine dp_s1 hF (i := .getfield 611) rfl (fun _ => rfl) ?_
    exact dp_s0 hF (i := .ireturn) rfl (fun _ => rfl)
  refine dp_s1 hF (i := .iload_n 1) rfl (fun _ => rfl) ?_
  refine dp_s1 hF (i := .bipush 36) rfl (fun _ => rfl) ?_
  refine dp_s2 hF (i := .if_icmp .lt 20) (a := (192, [some (.ref 114), some (.int v1)], [], M)) (b := (175, [some (.ref 114), some (.int v1)], [], M)) rfl (fun _ => rfl) ?_ ?_
  · refine dp_s1 hF (i := .iconst (-1)) rfl (fun _ => rfl) ?_
    exact dp_s0 hF (i := .ireturn) rfl (fun _ => rfl)
  refine dp_s1 hF (i := .iload_n 1) rfl (fun _ => rfl) ?_
  refine dp_s1 hF (i := .bipush 40) rfl (fun _ => rfl) ?_
  refine dp_s2 hF (i := .if_icmp .gt 14) (a := (192, [some (.ref 114), some (.int v1)], [], M)) (b := (181, [some (.ref 114), some (.int v1)], [], M)) rfl (fun _ => rfl) ?_ ?_
  · refine dp_s1 hF (i := .iconst (-1)) rfl (fun _ => rfl) ?_
    exact dp_s0 hF (i := .ireturn) rfl (fun _ => rfl)
  refine dp_s1 hF (i := .aload_n 0) rfl (fun _ => rfl) ?_
  refine dp_s1 hF (i := .iload_n 1) rfl (fun _ => rfl) ?_
  refine dp_s1 hF (i := .bipush 36) rfl (fun _ => rfl) ?_
  refine dp_s1 hF (i := .isub) rfl (fun _ => rfl) ?_
  refine dp_si (mj := dp_m_X12_ofState) (i := .invokevirtual 1070) rfl rfl (Or.inl rfl) rfl (fun _ => rfl) (fun r2 M1 => ?_)
  refine dp_s1 hF (i := .goto 4) rfl (fun _ => rfl) ?_
  exact dp_s0 hF (i := .ireturn) rfl (fun _ => rfl)
noncomputable def D_X12_count_0 (xs : Nat → Int32) (xl d : Nat) (v1 : Int32) (M : dp_M) : Option dp_Res := dp_lim true xs xl (dp_den true xs xl d) dp_m_X12_count (0, [some (.ref 114), some (.int v1)], [], M)
noncomputable def D_X12_count_39 (xs : Nat → Int32) (xl d : Nat) (v1 : Int32) (M : dp_M) : Option dp_Res := dp_lim true xs xl (dp_den true xs xl d) dp_m_X12_count (39, [some (.ref 114), some (.int v1)], [], M)
theorem D_X12_count_0_den (xs : Nat → Int32) (xl d : Nat) (a0 : Int32) (M : dp_M) : dp_den true xs xl (d + 1) 590 [.ref 114, .int a0] M = D_X12_count_0 xs xl d a0 M := rfl
set_option maxRecDepth 20000 in
theorem D_X12_count_0_eq (xs : Nat → Int32) (xl d : Nat) (v1 : Int32) (M : dp_M) : D_X12_count_0 xs xl d v1 M = dp_w (dp_setI M 114 0 (0 : Int32)) (fun M1 => if v1 < (100 : Int32) then (if v1 < (11 : Int32) then (D_X12_count_39 xs xl d v1 M1) else (if (15 : Int32) ≤ v1 then (D_X12_count_39 xs xl d v1 M1) else (if (v1 - (11 : Int32)) < 0 ∨ 4 ≤ Int32.toNatClampNeg (v1 - (11 : Int32)) then none else (some (.inl (some (.int (dp_I M1 153 (Int32.toNatClampNeg (v1 - (11 : Int32)))))), M1))))) else (dp_bi (dp_den true xs xl d 588 [.ref 114, .int v1] M1) (fun r3 M2 => some (.inl (some (.int r3)), M2)))) := by
  have hF := dp_den_grow (md := true) (xs := xs) (xl := xl) d
  unfold D_X12_count_0
  refine dp_s1 hF (i := .aload_n 0) rfl (fun _ => rfl) ?_
  refine dp_s1 hF (i := .iconst 0) rfl (fun _ => rfl) ?_
  refine dp_s1w (dp_setI M 114 0 (0 : Int32)) (fun (M1 : dp_M) => (5, [some (.ref 114), some (.int v1)], [], M1)) hF (i := .putfield 1) rfl (fun _ => rfl) (fun M1 => ?_)
  refine dp_s1 hF (i := .iload_n 1) rfl (fun _ => rfl) ?_
  refine dp_s1 hF (i := .bipush 100) rfl (fun _ => rfl) ?_
  refine dp_s2 hF (i := .if_icmp .lt 9) (a := (17, [some (.ref 114), some (.int v1)], [], M1)) (b := (11, [some (.ref 114), some (.int v1)], [], M1)) rfl (fun _ => rfl) ?_ ?_
  · refine dp_s1 hF (i := .iload_n 1) rfl (fun _ => rfl) ?_
    refine dp_s1 hF (i := .bipush 11) rfl (fun _ => rfl) ?_
    refine dp_s2 hF (i := .if_icmp .lt 19) (a := (39, [some (.ref 114), some (.int v1)], [], M1)) (b := (23, [some (.ref 114), some (.int v1)], [], M1)) rfl (fun _ => rfl) ?_ ?_
    · exact rfl
    refine dp_s1 hF (i := .iload_n 1) rfl (fun _ => rfl) ?_
    refine dp_s1 hF (i := .bipush 15) rfl (fun _ => rfl) ?_
    refine dp_s2 hF (i := .if_icmp .ge 13) (a := (39, [some (.ref 114), some (.int v1)], [], M1)) (b := (29, [some (.ref 114), some (.int v1)], [], M1)) rfl (fun _ => rfl) ?_ ?_
    · exact rfl
    refine dp_s1 hF (i := .aload_n 0) rfl (fun _ => rfl) ?_
    refine dp_s1 hF (i := .getfield 130) rfl (fun _ => rfl) ?_
    refine dp_s1 hF (i := .iload_n 1) rfl (fun _ => rfl) ?_
    refine dp_s1 hF (i := .bipush 11) rfl (fun _ => rfl) ?_
    refine dp_s1 hF (i := .isub) rfl (fun _ => rfl) ?_
    refine dp_s3 hF (i := .iaload) rfl (fun _ => rfl) ?_
    exact dp_s0 hF (i := .ireturn) rfl (fun _ => rfl)
  refine dp_s1 hF (i := .aload_n 0) rfl (fun _ => rfl) ?_
  refine dp_s1 hF (i := .iload_n 1) rfl (fun _ => rfl) ?_
  refine dp_si (mj := dp_m_X12_countOfPlace) (i := .invokevirtual 1073) rfl rfl (Or.inl rfl) rfl (fun _ => rfl) (fun r3 M2 => ?_)
  exact dp_s0 hF (i := .ireturn) rfl (fun _ => rfl)
set_option maxRecDepth 20000 in
theorem D_X12_count_39_eq (xs : Nat → Int32) (xl d : Nat) (v1 : Int32) (M : dp_M) : D_X12_count_39 xs xl d v1 M = if v1 = (0 : Int32) then (some (.inl (some (.int (dp_I M 114 3))), M)) else if v1 = (1 : Int32) then (dp_bi (dp_den true xs xl d 585 [.ref 114, .int v1] M) (fun r4 M3 => some (.inl (some (.int r4)), M3))) else if v1 = (2 : Int32) then (dp_bi (dp_den true xs xl d 585 [.ref 114, .int v1] M) (fun r6 M5 => some (.inl (some (.int r6)), M5))) else if v1 = (3 : Int32) then (some (.inl (some (.int (dp_I M 114 9))), M)) else if v1 = (4 : Int32) then (dp_bi (dp_den true xs xl d 585 [.ref 114, .int v1] M) (fun r8 M7 => some (.inl (some (.int r8)), M7))) else if v1 = (5 : Int32) then (some (.inl (some (.int (dp_I M 114 37))), M)) else if v1 = (6 : Int32) then (some (.inl (some (.int (dp_I M 114 38))), M)) else if v1 = (7 : Int32) then (dp_bi (dp_den true xs xl d 585 [.ref 114, .int v1] M) (fun r10 M9 => some (.inl (some (.int r10)), M9))) else if v1 = (8 : Int32) then (some (.inl (some (.int (dp_I M 114 44))), M)) else if v1 = (9 : Int32) then (some (.inl (some (.int (dp_I M 114 52))), M)) else if v1 = (10 : Int32) then (dp_bi (dp_den true xs xl d 585 [.ref 114, .int v1] M) (fun r12 M11 => some (.inl (some (.int r12)), M11))) else if v1 = (11 : Int32) then (dp_bi (dp_den true xs xl d 589 [.ref 114, .int v1] M) (fun r14 M13 => some (.inl (some (.int r14)), M13))) else if v1 = (12 : Int32) then (dp_bi (dp_den true xs xl d 589 [.ref 114, .int v1] M) (fun r16 M15 => some (.inl (some (.int r16)), M15))) else if v1 = (13 : Int32) then (dp_bi (dp_den true xs xl d 589 [.ref 114, .int v1] M) (fun r18 M17 => some (.inl (some (.int r18)), M17))) else if v1 = (14 : Int32) then (dp_bi (dp_den true xs xl d 589 [.ref 114, .int v1] M) (fun r20 M19 => some (.inl (some (.int r20)), M19))) else if v1 = (15 : Int32) then (some (.inl (some (.int (dp_I M 114 55))), M)) else if v1 = (16 : Int32) then (some (.inl (some (.int (dp_I M 114 72))), M)) else if v1 = (17 : Int32) then (some (.inl (some (.int (dp_I M 114 75))), M)) else if v1 = (18 : Int32) then (some (.inl (some (.int (dp_I M 114 104))), M)) else (dp_bi (dp_den true xs xl d 589 [.ref 114, .int v1] M) (fun r2 M1 => some (.inl (some (.int r2)), M1))) := by
  have hF := dp_den_grow (md := true) (xs := xs) (xl := xl) d
  unfold D_X12_count_39
  refine dp_s1 hF (i := .iload_n 1) rfl (fun _ => rfl) ?_
  refine (dp_s (E := fun k => if v1 = (0 : Int32) then k (132, [some (.ref 114), some (.int v1)], [], M) else if v1 = (1 : Int32) then k (137, [some (.ref 114), some (.int v1)], [], M) else if v1 = (2 : Int32) then k (137, [some (.ref 114), some (.int v1)], [], M) else if v1 = (3 : Int32) then k (143, [some (.ref 114), some (.int v1)], [], M) else if v1 = (4 : Int32) then k (137, [some (.ref 114), some (.int v1)], [], M) else if v1 = (5 : Int32) then k (148, [some (.ref 114), some (.int v1)], [], M) else if v1 = (6 : Int32) then k (153, [some (.ref 114), some (.int v1)], [], M) else if v1 = (7 : Int32) then k (137, [some (.ref 114), some (.int v1)], [], M) else if v1 = (8 : Int32) then k (158, [some (.ref 114), some (.int v1)], [], M) else if v1 = (9 : Int32) then k (163, [some (.ref 114), some (.int v1)], [], M) else if v1 = (10 : Int32) then k (137, [some (.ref 114), some (.int v1)], [], M) else if v1 = (11 : Int32) then k (188, [some (.ref 114), some (.int v1)], [], M) else if v1 = (12 : Int32) then k (188, [some (.ref 114), some (.int v1)], [], M) else if v1 = (13 : Int32) then k (188, [some (.ref 114), some (.int v1)], [], M) else if v1 = (14 : Int32) then k (188, [some (.ref 114), some (.int v1)], [], M) else if v1 = (15 : Int32) then k (168, [some (.ref 114), some (.int v1)], [], M) else if v1 = (16 : Int32) then k (173, [some (.ref 114), some (.int v1)], [], M) else if v1 = (17 : Int32) then k (178, [some (.ref 114), some (.int v1)], [], M) else if v1 = (18 : Int32) then k (183, [some (.ref 114), some (.int v1)], [], M) else k (188, [some (.ref 114), some (.int v1)], [], M)) hF (i := .tableswitch 148 0 18 #[92, 97, 97, 103, 97, 108, 113, 97, 118, 123, 97, 148, 148, 148, 148, 128, 133, 138, 143]) rfl (fun _ => rfl)).trans ?_
  refine dp_ifc ?_ ?_
  · refine dp_s1 hF (i := .aload_n 0) rfl (fun _ => rfl) ?_
    refine dp_s1 hF (i := .getfield 437) rfl (fun _ => rfl) ?_
    exact dp_s0 hF (i := .ireturn) rfl (fun _ => rfl)
  refine dp_ifc ?_ ?_
  · refine dp_s1 hF (i := .aload_n 0) rfl (fun _ => rfl) ?_
    refine dp_s1 hF (i := .iload_n 1) rfl (fun _ => rfl) ?_
    refine dp_si (mj := dp_m_X12_manyBoxes) (i := .invokevirtual 1076) rfl rfl (Or.inl rfl) rfl (fun _ => rfl) (fun r4 M3 => ?_)
    exact dp_s0 hF (i := .ireturn) rfl (fun _ => rfl)
  refine dp_ifc ?_ ?_
  · refine dp_s1 hF (i := .aload_n 0) rfl (fun _ => rfl) ?_
    refine dp_s1 hF (i := .iload_n 1) rfl (fun _ => rfl) ?_
    refine dp_si (mj := dp_m_X12_manyBoxes) (i := .invokevirtual 1076) rfl rfl (Or.inl rfl) rfl (fun _ => rfl) (fun r6 M5 => ?_)
    exact dp_s0 hF (i := .ireturn) rfl (fun _ => rfl)
  refine dp_ifc ?_ ?_
  · refine dp_s1 hF (i := .aload_n 0) rfl (fun _ => rfl) ?_
    refine dp_s1 hF (i := .getfield 538) rfl (fun _ => rfl) ?_
    exact dp_s0 hF (i := .ireturn) rfl (fun _ => rfl)
  refine dp_ifc ?_ ?_
  · refine dp_s1 hF (i := .aload_n 0) rfl (fun _ => rfl) ?_
    refine dp_s1 hF (i := .iload_n 1) rfl (fun _ => rfl) ?_
    refine dp_si (mj := dp_m_X12_manyBoxes) (i := .invokevirtual 1076) rfl rfl (Or.inl rfl) rfl (fun _ => rfl) (fun r8 M7 => ?_)
    exact dp_s0 hF (i := .ireturn) rfl (fun _ => rfl)
  refine dp_ifc ?_ ?_
  · refine dp_s1 hF (i := .aload_n 0) rfl (fun _ => rfl) ?_
    refine dp_s1 hF (i := .getfield 575) rfl (fun _ => rfl) ?_
    exact dp_s0 hF (i := .ireturn) rfl (fun _ => rfl)
  refine dp_ifc ?_ ?_
  · refine dp_s1 hF (i := .aload_n 0) rfl (fun _ => rfl) ?_
    refine dp_s1 hF (i := .getfield 572) rfl (fun _ => rfl) ?_
    exact dp_s0 hF (i := .ireturn) rfl (fun _ => rfl)
  refine dp_ifc ?_ ?_
  · refine dp_s1 hF (i := .aload_n 0) rfl (fun _ => rfl) ?_
    refine dp_s1 hF (i := .iload_n 1) rfl (fun _ => rfl) ?_
    refine dp_si (mj := dp_m_X12_manyBoxes) (i := .invokevirtual 1076) rfl rfl (Or.inl rfl) rfl (fun _ => rfl) (fun r10 M9 => ?_)
    exact dp_s0 hF (i := .ireturn) rfl (fun _ => rfl)
  refine dp_ifc ?_ ?_
  · refine dp_s1 hF (i := .aload_n 0) rfl (fun _ => rfl) ?_
    refine dp_s1 hF (i := .getfield 602) rfl (fun _ => rfl) ?_
    exact dp_s0 hF (i := .ireturn) rfl (fun _ => rfl)
  refine dp_ifc ?_ ?_
  · refine dp_s1 hF (i := .aload_n 0) rfl (fun _ => rfl) ?_
    refine dp_s1 hF (i := .getfield 599) rfl (fun _ => rfl) ?_
    exact dp_s0 hF (i := .ireturn) rfl (fun _ => rfl)
  refine dp_ifc ?_ ?_
  · refine dp_s1 hF (i := .aload_n 0) rfl (fun _ => rfl) ?_
    refine dp_s1 hF (i := .iload_n 1) rfl (fun _ => rfl) ?_
    refine dp_si (mj := dp_m_X12_manyBoxes) (i := .invokevirtual 1076) rfl rfl (Or.inl rfl) rfl (fun _ => rfl) (fun r12 M11 => ?_)
    exact dp_s0 hF (i := .ireturn) rfl (fun _ => rfl)
  refine dp_ifc ?_ ?_
  · refine dp_s1 hF (i := .aload_n 0) rfl (fun _ => rfl) ?_
    refine dp_s1 hF (i := .iload_n 1) rfl (fun _ => rfl) ?_
    refine dp_si (mj := dp_m_X12_countOfBooks) (i := .invokevirtual 1079) rfl rfl (Or.inl rfl) rfl (fun _ => rfl) (fun r14 M13 => ?_)
    exact dp_s0 hF (i := .ireturn) rfl (fun _ => rfl)
  refine dp_ifc ?_ ?_
  · refine dp_s1 hF (i := .aload_n 0) rfl (fun _ => rfl) ?_
    refine dp_s1 hF (i := .iload_n 1) rfl (fun _ => rfl) ?_
    refine dp_si (mj := dp_m_X12_countOfBooks) (i := .invokevirtual 1079) rfl rfl (Or.inl rfl) rfl (fun _ => rfl) (fun r16 M15 => ?_)
    exact dp_s0 hF (i := .ireturn) rfl (fun _ => rfl)
  refine dp_ifc ?_ ?_
  · refine dp_s1 hF (i := .aload_n 0) rfl (fun _ => rfl) ?_
    refine dp_s1 hF (i := .iload_n 1) rfl (fun _ => rfl) ?_
    refine dp_si (mj := dp_m_X12_countOfBooks) (i := .invokevirtual 1079) rfl rfl (Or.inl rfl) rfl (fun _ => rfl) (fun r18 M17 => ?_)
    exact dp_s0 hF (i := .ireturn) rfl (fun _ => rfl)
  refine dp_ifc ?_ ?_
  · refine dp_s1 hF (i := .aload_n 0) rfl (fun _ => rfl) ?_
    refine dp_s1 hF (i := .iload_n 1) rfl (fun _ => rfl) ?_
    refine dp_si (mj := dp_m_X12_countOfBooks) (i := .invokevirtual 1079) rfl rfl (Or.inl rfl) rfl (fun _ => rfl) (fun r20 M19 => ?_)
    exact dp_s0 hF (i := .ireturn) rfl (fun _ => rfl)
  refine dp_ifc ?_ ?_
  · refine dp_s1 hF (i := .aload_n 0) rfl (fun _ => rfl) ?_
    refine dp_s1 hF (i := .getfield 666) rfl (fun _ => rfl) ?_
    exact dp_s0 hF (i := .ireturn) rfl (fun _ => rfl)
  refine dp_ifc ?_ ?_
  · refine dp_s1 hF (i := .aload_n 0) rfl (fun _ => rfl) ?_
    refine dp_s1 hF (i := .getfield 714) rfl (fun _ => rfl) ?_
    exact dp_s0 hF (i := .ireturn) rfl (fun _ => rfl)
  refine dp_ifc ?_ ?_
  · refine dp_s1 hF (i := .aload_n 0) rfl (fun _ => rfl) ?_
    refine dp_s1 hF (i := .getfield 717) rfl (fun _ => rfl) ?_
    exact dp_s0 hF (i := .ireturn) rfl (fun _ => rfl)
  refine dp_ifc ?_ ?_
  · refine dp_s1 hF (i := .aload_n 0) rfl (fun _ => rfl) ?_
    refine dp_s1 hF (i := .getfield 848) rfl (fun _ => rfl) ?_
    exact dp_s0 hF (i := .ireturn) rfl (fun _ => rfl)
  refine dp_s1 hF (i := .aload_n 0) rfl (fun _ => rfl) ?_
  refine dp_s1 hF (i := .iload_n 1) rfl (fun _ => rfl) ?_
  refine dp_si (mj := dp_m_X12_countOfBooks) (i := .invokevirtual 1079) rfl rfl (Or.inl rfl) rfl (fun _ => rfl) (fun r2 M1 => ?_)
  exact dp_s0 hF (i := .ireturn) rfl (fun _ => rfl)
