noncomputable def D_X12_notice_0 (xs : Nat → Int32) (xl d : Nat) (v1 : Int32) (M : dp_M) : Option dp_Res := dp_lim true xs xl (dp_den true xs xl d) dp_m_X12_notice (0, [some (.ref 114), some (.int v1)], [], M)
theorem D_X12_notice_0_den (xs : Nat → Int32) (xl d : Nat) (a0 : Int32) (M : dp_M) : dp_den true xs xl (d + 1) 441 [.ref 114, .int a0] M = D_X12_notice_0 xs xl d a0 M := rfl
set_option maxRecDepth 20000 in
theorem D_X12_notice_0_eq (xs : Nat → Int32) (xl d : Nat) (v1 : Int32) (M : dp_M) : D_X12_notice_0 xs xl d v1 M = dp_w (dp_setI M 114 0 (0 : Int32)) (fun M1 => if v1 < 0 then (some (.inl (some (.int (-1 : Int32))), M1)) else (if (dp_I M1 114 52) ≤ v1 then (some (.inl (some (.int (-1 : Int32))), M1)) else (if v1 < (64 : Int32) then (if v1 < 0 ∨ 64 ≤ Int32.toNatClampNeg v1 then none else (some (.inl (some (.int (dp_I M1 154 (Int32.toNatClampNeg v1)))), M1))) else (some (.inl (some (.int (-1 : Int32))), M1))))) := by
  have hF := dp_den_grow (md := true) (xs := xs) (xl := xl) d
  unfold D_X12_notice_0
  refine dp_s1 hF (i := .aload_n 0) rfl (fun _ => rfl) ?_
  refine dp_s1 hF (i := .iconst 0) rfl (fun _ => rfl) ?_
  refine dp_s1w (dp_setI M 114 0 (0 : Int32)) (fun (M1 : dp_M) => (5, [some (.ref 114), some (.int v1)], [], M1)) hF (i := .putfield 1) rfl (fun _ => rfl) (fun M1 => ?_)
  refine dp_s1 hF (i := .iload_n 1) rfl (fun _ => rfl) ?_
  refine dp_s2 hF (i := .ifCond .lt 17) (a := (23, [some (.ref 114), some (.int v1)], [], M1)) (b := (9, [some (.ref 114), some (.int v1)], [], M1)) rfl (fun _ => rfl) ?_ ?_
  · refine dp_s1 hF (i := .iconst (-1)) rfl (fun _ => rfl) ?_
    refine dp_s1 hF (i := .goto 9) rfl (fun _ => rfl) ?_
    exact dp_s0 hF (i := .ireturn) rfl (fun _ => rfl)
  refine dp_s1 hF (i := .iload_n 1) rfl (fun _ => rfl) ?_
  refine dp_s1 hF (i := .aload_n 0) rfl (fun _ => rfl) ?_
  refine dp_s1 hF (i := .getfield 599) rfl (fun _ => rfl) ?_
  refine dp_s2 hF (i := .if_icmp .ge 9) (a := (23, [some (.ref 114), some (.int v1)], [], M1)) (b := (17, [some (.ref 114), some (.int v1)], [], M1)) rfl (fun _ => rfl) ?_ ?_
  · refine dp_s1 hF (i := .iconst (-1)) rfl (fun _ => rfl) ?_
    refine dp_s1 hF (i := .goto 9) rfl (fun _ => rfl) ?_
    exact dp_s0 hF (i := .ireturn) rfl (fun _ => rfl)
  refine dp_s1 hF (i := .iload_n 1) rfl (fun _ => rfl) ?_
  refine dp_s1 hF (i := .bipush 64) rfl (fun _ => rfl) ?_
  refine dp_s2 hF (i := .if_icmp .lt 7) (a := (27, [some (.ref 114), some (.int v1)], [], M1)) (b := (23, [some (.ref 114), some (.int v1)], [], M1)) rfl (fun _ => rfl) ?_ ?_
  · refine dp_s1 hF (i := .aload_n 0) rfl (fun _ => rfl) ?_
    refine dp_s1 hF (i := .getfield 133) rfl (fun _ => rfl) ?_
    refine dp_s1 hF (i := .iload_n 1) rfl (fun _ => rfl) ?_
    refine dp_s3 hF (i := .iaload) rfl (fun _ => rfl) ?_
    exact dp_s0 hF (i := .ireturn) rfl (fun _ => rfl)
  refine dp_s1 hF (i := .iconst (-1)) rfl (fun _ => rfl) ?_
  refine dp_s1 hF (i := .goto 9) rfl (fun _ => rfl) ?_
  exact dp_s0 hF (i := .ireturn) rfl (fun _ => rfl)
noncomputable def D_X12_look_0 (xs : Nat → Int32) (xl d : Nat) (v1 : Int32) (v2 : Int32) (M : dp_M) : Option dp_Res := dp_lim true xs xl (dp_den true xs xl d) dp_m_X12_look (0, [some (.ref 114), some (.int v1), some (.int v2), none, none, none], [], M)
noncomputable def D_X12_look_39 (xs : Nat → Int32) (xl d : Nat) (v1 : Int32) (v2 : Int32) (v3 : Int32) (v4 : Int32) (M : dp_M) : Option dp_Res := dp_lim true xs xl (dp_den true xs xl d) dp_m_X12_look (39, [some (.ref 114), some (.int v1), some (.int v2), some (.int v3), some (.int v4), none], [], M)
noncomputable def D_X12_look_81 (xs : Nat → Int32) (xl d : Nat) (v1 : Int32) (v2 : Int32) (v3 : Int32) (v4 : Int32) (v5 : Int32) (M : dp_M) : Option dp_Res := dp_lim true xs xl (dp_den true xs xl d) dp_m_X12_look (81, [some (.ref 114), some (.int v1), some (.int v2), some (.int v3), some (.int v4), some (.int v5)], [], M)
theorem D_X12_look_0_den (xs : Nat → Int32) (xl d : Nat) (a0 : Int32) (a1 : Int32) (M : dp_M) : dp_den true xs xl (d + 1) 442 [.ref 114, .int a0, .int a1] M = D_X12_look_0 xs xl d a0 a1 M := rfl
set_option maxRecDepth 20000 in
theorem D_X12_look_0_eq (xs : Nat → Int32) (xl d : Nat) (v1 : Int32) (v2 : Int32) (M : dp_M) : D_X12_look_0 xs xl d v1 v2 M = dp_bi (dp_den true xs xl d 371 [.ref 114, .int v1] M) (fun r2 M1 => if r2 = 0 then (dp_bi (dp_den true xs xl d 366 [.ref 114, .int (1 : Int32)] M1) (fun r4 M3 => some (.inl (some (.int r4)), M3))) else (dp_bi (dp_den true xs xl d 367 [.long (Int32.toInt64 v2), .long (0 : Int64), .long (5 : Int64)] M1) (fun r6 M5 => if r6 = 0 then (dp_bi (dp_den true xs xl d 366 [.ref 114, .int (1 : Int32)] M5) (fun r8 M7 => some (.inl (some (.int r8)), M7))) else (dp_w (dp_setI M5 114 0 (0 : Int32)) (fun M9 => dp_w (0 : Int32) (fun y10 => dp_w ((40 : Int32) * v1) (fun y11 => D_X12_look_39 xs xl d v1 v2 y10 y11 M9))))))) := by
  have hF := dp_den_grow (md := true) (xs := xs) (xl := xl) d
  unfold D_X12_look_0
  refine dp_s1 hF (i := .aload_n 0) rfl (fun _ => rfl) ?_
  refine dp_s1 hF (i := .iload_n 1) rfl (fun _ => rfl) ?_
  refine dp_si (mj := dp_m_X12_isBox) (i := .invokevirtual 470) rfl rfl (Or.inr rfl) rfl (fun _ => rfl) (fun r2 M1 => ?_)
  refine dp_s2 hF (i := .ifCond .eq 15) (a := (20, [some (.ref 114), some (.int v1), some (.int v2), none, none, none], [], M1)) (b := (8, [some (.ref 114), some (.int v1), some (.int v2), none, none, none], [], M1)) rfl (fun _ => rfl) ?_ ?_
  · refine dp_s1 hF (i := .aload_n 0) rfl (fun _ => rfl) ?_
    refine dp_s1 hF (i := .iconst 1) rfl (fun _ => rfl) ?_
    refine dp_si (mj := dp_m_X12_refuse) (i := .invokevirtual 460) rfl rfl (Or.inl rfl) rfl (fun _ => rfl) (fun r4 M3 => ?_)
    exact dp_s0 hF (i := .ireturn) rfl (fun _ => rfl)
  refine dp_s1 hF (i := .iload_n 2) rfl (fun _ => rfl) ?_
  refine dp_s1 hF (i := .i2l) rfl (fun _ => rfl) ?_
  refine dp_s1 hF (i := .lconst 0) rfl (fun _ => rfl) ?_
  refine dp_s1 hF (i := .ldc2_w 450) rfl (fun _ => rfl) ?_
  refine dp_si (mj := dp_m_X12_in) (i := .invokestatic 446) rfl rfl (Or.inr rfl) rfl (fun _ => rfl) (fun r6 M5 => ?_)
  refine dp_s2 hF (i := .ifCond .ne 9) (a := (20, [some (.ref 114), some (.int v1), some (.int v2), none, none, none], [], M5)) (b := (26, [some (.ref 114), some (.int v1), some (.int v2), none, none, none], [], M5)) rfl (fun _ => rfl) ?_ ?_
  · refine dp_s1 hF (i := .aload_n 0) rfl (fun _ => rfl) ?_
    refine dp_s1 hF (i := .iconst 1) rfl (fun _ => rfl) ?_
    refine dp_si (mj := dp_m_X12_refuse) (i := .invokevirtual 460) rfl rfl (Or.inl rfl) rfl (fun _ => rfl) (fun r8 M7 => ?_)
    exact dp_s0 hF (i := .ireturn) rfl (fun _ => rfl)
  refine dp_s1 hF (i := .aload_n 0) rfl (fun _ => rfl) ?_
  refine dp_s1 hF (i := .iconst 0) rfl (fun _ => rfl) ?_
  refine dp_s1w (dp_setI M5 114 0 (0 : Int32)) (fun (M9 : dp_M) => (31, [some (.ref 114), some (.int v1), some (.int v2), none, none, none], [], M9)) hF (i := .putfield 1) rfl (fun _ => rfl) (fun M9 => ?_)
  refine dp_s1 hF (i := .iconst 0) rfl (fun _ => rfl) ?_
  refine dp_s1w (0 : Int32) (fun (y10 : Int32) => (33, [some (.ref 114), some (.int v1), some (.int v2), some (.int y10), none, none], [], M9)) hF (i := .istore_n 3) rfl (fun _ => rfl) (fun y10 => ?_)
  refine dp_s1 hF (i := .bipush 40) rfl (fun _ => rfl) ?_
  refine dp_s1 hF (i := .iload_n 1) rfl (fun _ => rfl) ?_
  refine dp_s1 hF (i := .imul) rfl (fun _ => rfl) ?_
  refine dp_s1w ((40 : Int32) * v1) (fun (y11 : Int32) => (39, [some (.ref 114), some (.int v1), some (.int v2), some (.int y10), some (.int y11), none], [], M9)) hF (i := .istore 4) rfl (fun _ => rfl) (fun y11 => ?_)
  exact rfl
set_option maxRecDepth 20000 in
theorem D_X12_look_39_eq (xs : Nat → Int32) (xl d : Nat) (v1 : Int32) (v2 : Int32) (v3 : Int32) (v4 : Int32) (M : dp_M) : D_X12_look_39 xs xl d v1 v2 v3 v4 M = if (((40 : Int32) * v1) + (40 : Int32)) ≤ v4 then (dp_w (0 : Int32) (fun y1 => dp_w (0 : Int32) (fun y2 => D_X12_look_81 xs xl d v1 v2 v3 y1 y2 M))) else (if v4 < 0 ∨ 4000 ≤ Int32.toNatClampNeg v4 then none else (if (dp_I M 149 (Int32.toNatClampNeg v4)) ≤ 0 then (dp_w (v3 + (0 : Int32)) (fun y3 => dp_w (v4 + (1 : Int32)) (fun y4 => D_X12_look_39 xs xl d v1 v2 y3 y4 M))) else (dp_w (v3 + (1 : Int32)) (fun y5 => dp_w (v4 + (1 : Int32)) (fun y6 => D_X12_look_39 xs xl d v1 v2 y5 y6 M))))) := by
  have hF := dp_den_grow (md := true) (xs := xs) (xl := xl) d
  unfold D_X12_look_39
  refine dp_s1 hF (i := .iload 4) rfl (fun _ => rfl) ?_
  refine dp_s1 hF (i := .bipush 40) rfl (fun _ => rfl) ?_
  refine dp_s1 hF (i := .iload_n 1) rfl (fun _ => rfl) ?_
  refine dp_s1 hF (i := .imul) rfl (fun _ => rfl) ?_
  refine dp_s1 hF (i := .bipush 40) rfl (fun _ => rfl) ?_
  refine dp_s1 hF (i := .iadd) rfl (fun _ => rfl) ?_
  refine dp_s2 hF (i := .if_icmp .ge 27) (a := (75, [some (.ref 114), some (.int v1), some (.int v2), some (.int v3), some (.int v4), none], [], M)) (b := (51, [some (.ref 114), some (.int v1), some (.int v2), some (.int v3), some (.int v4), none], [], M)) rfl (fun _ => rfl) ?_ ?_
  · refine dp_s1 hF (i := .iconst 0) rfl (fun _ => rfl) ?_
    refine dp_s1w (0 : Int32) (fun (y1 : Int32) => (78, [some (.ref 114), some (.int v1), some (.int v2), some (.int v3), some (.int y1), none], [], M)) hF (i := .istore 4) rfl (fun _ => rfl) (fun y1 => ?_)
    refine dp_s1 hF (i := .iconst 0) rfl (fun _ => rfl) ?_
    refine dp_s1w (0 : Int32) (fun (y2 : Int32) => (81, [some (.ref 114), some (.int v1), some (.int v2), some (.int v3), some (.int y1), some (.int y2)], [], M)) hF (i := .istore 5) rfl (fun _ => rfl) (fun y2 => ?_)
    exact rfl
  refine dp_s1 hF (i := .iload_n 3) rfl (fun _ => rfl) ?_
  refine dp_s1 hF (i := .aload_n 0) rfl (fun _ => rfl) ?_
  refine dp_s1 hF (i := .getfield 118) rfl (fun _ => rfl) ?_
  refine dp_s1 hF (i := .iload 4) rfl (fun _ => rfl) ?_
  refine dp_s3 hF (i := .iaload) rfl (fun _ => rfl) ?_
  refine dp_s2 hF (i := .ifCond .le 7) (a := (66, [some (.ref 114), some (.int v1), some (.int v2), some (.int v3), some (.int v4), none], [.int v3], M)) (b := (62, [some (.ref 114), some (.int v1), some (.int v2), some (.int v3), some (.int v4), none], [.int v3], M)) rfl (fun _ => rfl) ?_ ?_
  · refine dp_s1 hF (i := .iconst 0) rfl (fun _ => rfl) ?_
    refine dp_s1 hF (i := .iadd) rfl (fun _ => rfl) ?_
    refine dp_s1w (v3 + (0 : Int32)) (fun (y3 : Int32) => (69, [some (.ref 114), some (.int v1), some (.int v2), some (.int y3), some (.int v4), none], [], M)) hF (i := .istore_n 3) rfl (fun _ => rfl) (fun y3 => ?_)
    refine dp_s1w (v4 + (1 : Int32)) (fun (y4 : Int32) => (72, [some (.ref 114), some (.int v1), some (.int v2), some (.int y3), some (.int y4), none], [], M)) hF (i := .iinc 4 1) rfl (fun _ => rfl) (fun y4 => ?_)
    refine dp_s1 hF (i := .goto (-33)) rfl (fun _ => rfl) ?_
    exact rfl
  refine dp_s1 hF (i := .iconst 1) rfl (fun _ => rfl) ?_
  refine dp_s1 hF (i := .goto 4) rfl (fun _ => rfl) ?_
  refine dp_s1 hF (i := .iadd) rfl (fun _ => rfl) ?_
  refine dp_s1w (v3 + (1 : Int32)) (fun (y5 : Int32) => (69, [some (.ref 114), some (.int v1), some (.int v2), some (.int y5), some (.int v4), none], [], M)) hF (i := .istore_n 3) rfl (fun _ => rfl) (fun y5 => ?_)
  refine dp_s1w (v4 + (1 : Int32)) (fun (y6 : Int32) => (72, [some (.ref 114), some (.int v1), some (.int v2), some (.int y5), some (.int y6), none], [], M)) hF (i := .iinc 4 1) rfl (fun _ => rfl) (fun y6 => ?_)
  refine dp_s1 hF (i := .goto (-33)) rfl (fun _ => rfl) ?_
  exact rfl
set_option maxRecDepth 20000 in
theorem D_X12_look_81_eq (xs : Nat → Int32) (xl d : Nat) (v1 : Int32) (v2 : Int32) (v3 : Int32) (v4 : Int32) (v5 : Int32) (M : dp_M) : D_X12_look_81 xs xl d v1 v2 v3 v4 v5 M = if (dp_I M 114 3) ≤ v5 then (if v2 = (0 : Int32) then (if v1 < 0 ∨ 100 ≤ Int32.toNatClampNeg v1 then none else (some (.inl (some (.int (dp_I M 144 (Int32.toNatClampNeg v1)))), M))) else if v2 = (1 : Int32) then (if v1 < 0 ∨ 100 ≤ Int32.toNatClampNeg v1 then none else (some (.inl (some (.int (dp_I M 145 (Int32.toNatClampNeg v1)))), M))) else if v2 = (2 : Int32) then (some (.inl (some (.int v3)), M)) else if v2 = (3 : Int32) then (dp_bi (dp_den true xs xl d 425 [.ref 114, .int v1] M) (fun r2 M1 => some (.inl (some (.int r2)), M1))) else if v2 = (4 : Int32) then (if v1 < 0 ∨ 100 ≤ Int32.toNatClampNeg v1 then none else (some (.inl (some (.int (dp_I M 146 (Int32.toNatClampNeg v1)))), M))) else (some (.inl (some (.int v4)), M))) else (if v5 < 0 ∨ 100 ≤ Int32.toNatClampNeg v5 then none else (if v1 < 0 ∨ 100 ≤ Int32.toNatClampNeg v1 then none else (if (dp_I M 146 (Int32.toNatClampNeg v5)) = (dp_I M 146 (Int32.toNatClampNeg v1)) then (dp_w (v4 + (1 : Int32)) (fun y3 => dp_w (v5 + (1 : Int32)) (fun y4 => D_X12_look_81 xs xl d v1 v2 v3 y3 y4 M))) else (dp_w (v4 + (0 : Int32)) (fun y5 => dp_w (v5 + (1 : Int32)) (fun y6 => D_X12_look_81 xs xl d v1 v2 v3 y5 y6 M)))))) := by
  have hF := dp_den_grow (md := true) (xs := xs) (xl := xl) d
  unfold D_X12_look_81
  refine dp_s1 hF (i := .iload 5) rfl (fun _ => rfl) ?_
  refine dp_s1 hF (i := .aload_n 0) rfl (fun _ => rfl) ?_
  refine dp_s1 hF (i := .getfield 437) rfl (fun _ => rfl) ?_
  refine dp_s2 hF (i := .if_icmp .ge 35) (a := (122, [some (.ref 114), some (.int v1), some (.int v2), some (.int v3), some (.int v4), some (.int v5)], [], M)) (b := (90, [some (.ref 114), some (.int v1), some (.int v2), some (.int v3), some (.int v4), some (.int v5)], [], M)) rfl (fun _ => rfl) ?_ ?_
  · refine dp_s1 hF (i := .iload_n 2) rfl (fun _ => rfl) ?_
    refine (dp_s (E := fun k => if v2 = (0 : Int32) then k (156, [some (.ref 114), some (.int v1), some (.int v2), some (.int v3), some (.int v4), some (.int v5)], [], M) else if v2 = (1 : Int32) then k (163, [some (.ref 114), some (.int v1), some (.int v2), some (.int v3), some (.int v4), some (.int v5)], [], M) else if v2 = (2 : Int32) then k (170, [some (.ref 114), some (.int v1), some (.int v2), some (.int v3), some (.int v4), some (.int v5)], [], M) else if v2 = (3 : Int32) then k (172, [some (.ref 114), some (.int v1), some (.int v2), some (.int v3), some (.int v4), some (.int v5)], [], M) else if v2 = (4 : Int32) then k (178, [some (.ref 114), some (.int v1), some (.int v2), some (.int v3), some (.int v4), some (.int v5)], [], M) else k (185, [some (.ref 114), some (.int v1), some (.int v2), some (.int v3), some (.int v4), some (.int v5)], [], M)) hF (i := .tableswitch 62 0 4 #[33, 40, 47, 49, 55]) rfl (fun _ => rfl)).trans ?_
    refine dp_ifc ?_ ?_
    · refine dp_s1 hF (i := .aload_n 0) rfl (fun _ => rfl) ?_
      refine dp_s1 hF (i := .getfield 103) rfl (fun _ => rfl) ?_
      refine dp_s1 hF (i := .iload_n 1) rfl (fun _ => rfl) ?_
      refine dp_s3 hF (i := .iaload) rfl (fun _ => rfl) ?_
      exact dp_s0 hF (i := .ireturn) rfl (fun _ => rfl)
    refine dp_ifc ?_ ?_
    · refine dp_s1 hF (i := .aload_n 0) rfl (fun _ => rfl) ?_
      refine dp_s1 hF (i := .getfield 106) rfl (fun _ => rfl) ?_
      refine dp_s1 hF (i := .iload_n 1) rfl (fun _ => rfl) ?_
      refine dp_s3 hF (i := .iaload) rfl (fun _ => rfl) ?_
      exact dp_s0 hF (i := .ireturn) rfl (fun _ => rfl)
    refine dp_ifc ?_ ?_
    · refine dp_s1 hF (i := .iload_n 3) rfl (fun _ => rfl) ?_
      exact dp_s0 hF (i := .ireturn) rfl (fun _ => rfl)
    refine dp_ifc ?_ ?_
    · refine dp_s1 hF (i := .aload_n 0) rfl (fun _ => rfl) ?_
      refine dp_s1 hF (i := .iload_n 1) rfl (fun _ => rfl) ?_
      refine dp_si (mj := dp_m_X12_manyIn) (i := .invokevirtual 617) rfl rfl (Or.inl rfl) rfl (fun _ => rfl) (fun r2 M1 => ?_)
      exact dp_s0 hF (i := .ireturn) rfl (fun _ => rfl)
    refine dp_ifc ?_ ?_
    · refine dp_s1 hF (i := .aload_n 0) rfl (fun _ => rfl) ?_
      refine dp_s1 hF (i := .getfield 109) rfl (fun _ => rfl) ?_
      refine dp_s1 hF (i := .iload_n 1) rfl (fun _ => rfl) ?_
      refine dp_s3 hF (i := .iaload) rfl (fun _ => rfl) ?_
      exact dp_s0 hF (i := .ireturn) rfl (fun _ => rfl)
    refine dp_s1 hF (i := .iload 4) rfl (fun _ => rfl) ?_
    exact dp_s0 hF (i := .ireturn) rfl (fun _ => rfl)
  refine dp_s1 hF (i := .iload 4) rfl (fun _ => rfl) ?_
  refine dp_s1 hF (i := .aload_n 0) rfl (fun _ => rfl) ?_
  refine dp_s1 hF (i := .getfield 109) rfl (fun _ => rfl) ?_
  refine dp_s1 hF (i := .iload 5) rfl (fun _ => rfl) ?_
  refine dp_s3 hF (i := .iaload) rfl (fun _ => rfl) ?_
  refine dp_s1 hF (i := .aload_n 0) rfl (fun _ => rfl) ?_
  refine dp_s1 hF (i := .getfield 109) rfl (fun _ => rfl) ?_
  refine dp_s1 hF (i := .iload_n 1) rfl (fun _ => rfl) ?_
  refine dp_s3 hF (i := .iaload) rfl (fun _ => rfl) ?_
  refine dp_s2 hF (i := .if_icmp .ne 7) (a := (108, [some (.ref 114), some (.int v1), some (.int v2), some (.int v3), some (.int v4), some (.int v5)], [.int v4], M)) (b := (112, [some (.ref 114), some (.int v1), some (.int v2), some (.int v3), some (.int v4), some (.int v5)], [.int v4], M)) rfl (fun _ => rfl) ?_ ?_
  · refine dp_s1 hF (i := .iconst 1) rfl (fun _ => rfl) ?_
    refine dp_s1 hF (i := .goto 4) rfl (fun _ => rfl) ?_
    refine dp_s1 hF (i := .iadd) rfl (fun _ => rfl) ?_
    refine dp_s1w (v4 + (1 : Int32)) (fun (y3 : Int32) => (116, [some (.ref 114), some (.int v1), some (.int v2), some (.int v3), some (.int y3), some (.int v5)], [], M)) hF (i := .istore 4) rfl (fun _ => rfl) (fun y3 => ?_)
    refine dp_s1w (v5 + (1 : Int32)) (fun (y4 : Int32) => (119, [some (.ref 114), some (.int v1), some (.int v2), some (.int v3), some (.int y3), some (.int y4)], [], M)) hF (i := .iinc 5 1) rfl (fun _ => rfl) (fun y4 => ?_)
    refine dp_s1 hF (i := .goto (-38)) rfl (fun _ => rfl) ?_
    exact rfl
  refine dp_s1 hF (i := .iconst 0) rfl (fun _ => rfl) ?_
  refine dp_s1 hF (i := .iadd) rfl (fun _ => rfl) ?_
  refine dp_s1w (v4 + (0 : Int32)) (fun (y5 : Int32) => (116, [some (.ref 114), some (.int v1), some (.int v2), some (.int v3), some (.int y5), some (.int v5)], [], M)) hF (i := .istore 4) rfl (fun _ => rfl) (fun y5 => ?_)
  refine dp_s1w (v5 + (1 : Int32)) (fun (y6 : Int32) => (119, [some (.ref 114), some (.int v1), some (.int v2), some (.int v3), some (.int y5), some (.int y6)], [], M)) hF (i := .iinc 5 1) rfl (fun _ => rfl) (fun y6 => ?_)
  refine dp_s1 hF (i := .goto (-38)) rfl (fun _ => rfl) ?_
  exact rfl
noncomputable def D_X12_isGroup_0 (xs : Nat → Int32) (xl d : Nat) (v0 : Int32) (M : dp_M) : Option dp_Res := dp_lim true xs xl (dp_den true xs xl d) dp_m_X12_isGroup (0, [some (.int v0)], [], M)
theorem D_X12_isGroup_0_den (xs : Nat → Int32) (xl d : Nat) (a0 : Int32) (M : dp_M) : dp_den true xs xl (d + 1) 443 [.int a0] M = D_X12_isGroup_0 xs xl d a0 M := rfl
set_option maxRecDepth 20000 in
theorem D_X12_isGroup_0_eq (xs : Nat → Int32) (xl d : Nat) (v0 : Int32) (M : dp_M) : D_X12_isGroup_0 xs xl d v0 M = dp_bi (dp_den true xs xl d 367 [.long (Int32.toInt64 v0), .long (16 : Int64), .long (23 : Int64)] M) (fun r2 M1 => if r2 = 0 ∨ r2 = 1 then some (.inl (some (.int r2)), M1) else none) := by
  have hF := dp_den_grow (md := true) (xs := xs) (xl := xl) d
  unfold D_X12_isGroup_0
  refine dp_s1 hF (i := .iload_n 0) rfl (fun _ => rfl) ?_
  refine dp_s1 hF (i := .i2l) rfl (fun _ => rfl) ?_
  refine dp_s1 hF (i := .ldc2_w 641) rfl (fun _ => rfl) ?_
  refine dp_s1 hF (i := .ldc2_w 643) rfl (fun _ => rfl) ?_
  refine dp_si (mj := dp_m_X12_in) (i := .invokestatic 446) rfl rfl (Or.inr rfl) rfl (fun _ => rfl) (fun r2 M1 => ?_)
  exact dp_s0 hF (i := .ireturn) rfl (fun _ => rfl)
noncomputable def D_X12_isLand_0 (xs : Nat → Int32) (xl d : Nat) (v0 : Int32) (M : dp_M) : Option dp_Res := dp_lim true xs xl (dp_den true xs xl d) dp_m_X12_isLand (0, [some (.int v0)], [], M)
theorem D_X12_isLand_0_den (xs : Nat → Int32) (xl d : Nat) (a0 : Int32) (M : dp_M) : dp_den true xs xl (d + 1) 444 [.int a0] M = D_X12_isLand_0 xs xl d a0 M := rfl
set_option maxRecDepth 20000 in
theorem D_X12_isLand_0_eq (xs : Nat → Int32) (xl d : Nat) (v0 : Int32) (M : dp_M) : D_X12_isLand_0 xs xl d v0 M = dp_bi (dp_den true xs xl d 367 [.long (Int32.toInt64 v0), .long (0 : Int64), .long (15 : Int64)] M) (fun r2 M1 => if r2 = 0 ∨ r2 = 1 then some (.inl (some (.int r2)), M1) else none) := by
  have hF := dp_den_grow (md := true) (xs := xs) (xl := xl) d
  unfold D_X12_isLand_0
  refine dp_s1 hF (i := .iload_n 0) rfl (fun _ => rfl) ?_
  refine dp_s1 hF (i := .i2l) rfl (fun _ => rfl) ?_
  refine dp_s1 hF (i := .lconst 0) rfl (fun _ => rfl) ?_
  refine dp_s1 hF (i := .ldc2_w 483) rfl (fun _ => rfl) ?_
  refine dp_si (mj := dp_m_X12_in) (i := .invokestatic 446) rfl rfl (Or.inr rfl) rfl (fun _ => rfl) (fun r2 M1 => ?_)
  exact dp_s0 hF (i := .ireturn) rfl (fun _ => rfl)
noncomputable def D_X12_isDay_0 (xs : Nat → Int32) (xl d : Nat) (v0 : Int32) (M : dp_M) : Option dp_Res := dp_lim true xs xl (dp_den true xs xl d) dp_m_X12_isDay (0, [some (.int v0)], [], M)
theorem D_X12_isDay_0_den (xs : Nat → Int32) (xl d : Nat) (a0 : Int32) (M : dp_M) : dp_den true xs xl (d + 1) 445 [.int a0] M = D_X12_isDay_0 xs xl d a0 M := rfl
set_option maxRecDepth 20000 in
theorem D_X12_isDay_0_eq (xs : Nat → Int32) (xl d : Nat) (v0 : Int32) (M : dp_M) : D_X12_isDay_0 xs xl d v0 M = dp_bi (dp_den true xs xl d 367 [.long (Int32.toInt64 v0), .long (0 : Int64), .long (10000 : Int64)] M) (fun r2 M1 => if r2 = 0 ∨ r2 = 1 then some (.inl (some (.int r2)), M1) else none) := by
  have hF := dp_den_grow (md := true) (xs := xs) (xl := xl) d
  unfold D_X12_isDay_0
  refine dp_s1 hF (i := .iload_n 0) rfl (fun _ => rfl) ?_
  refine dp_s1 hF (i := .i2l) rfl (fun _ => rfl) ?_
  refine dp_s1 hF (i := .lconst 0) rfl (fun _ => rfl) ?_
  refine dp_s1 hF (i := .ldc2_w 645) rfl (fun _ => rfl) ?_
  refine dp_si (mj := dp_m_X12_in) (i := .invokestatic 446) rfl rfl (Or.inr rfl) rfl (fun _ => rfl) (fun r2 M1 => ?_)
  exact dp_s0 hF (i := .ireturn) rfl (fun _ => rfl)
noncomputable def D_X12_digitsOf_0 (xs : Nat → Int32) (xl d : Nat) (v0 : Int32) (M : dp_M) : Option dp_Res := dp_lim true xs xl (dp_den true xs xl d) dp_m_X12_digitsOf (0, [some (.int v0)], [], M)
theorem D_X12_digitsOf_0_den (xs : Nat → Int32) (xl d : Nat) (a0 : Int32) (M : dp_M) : dp_den true xs xl (d + 1) 446 [.int a0] M = D_X12_digitsOf_0 xs xl d a0 M := rfl
set_option maxRecDepth 20000 in
theorem D_X12_digitsOf_0_eq (xs : Nat → Int32) (xl d : Nat) (v0 : Int32) (M : dp_M) : D_X12_digitsOf_0 xs xl d v0 M = dp_bi (dp_den true xs xl d 367 [.long (Int32.toInt64 v0), .long (10 : Int64), .long (99 : Int64)] M) (fun r2 M1 => if r2 = 0 then (dp_bi (dp_den true xs xl d 367 [.long (Int32.toInt64 v0), .long (1000 : Int64), .long (9999 : Int64)] M1) (fun r4 M3 => if r4 = 0 then (dp_bi (dp_den true xs xl d 367 [.long (Int32.toInt64 v0), .long (100000 : Int64), .long (999999 : Int64)] M3) (fun r6 M5 => if r6 = 0 then (some (.inl (some (.int (0 : Int32))), M5)) else (some (.inl (some (.int (6 : Int32))), M5)))) else (some (.inl (some (.int (4 : Int32))), M3)))) else (some (.inl (some (.int (2 : Int32))), M1))) := by
  have hF := dp_den_grow (md := true) (xs := xs) (xl := xl) d
  unfold D_X12_digitsOf_0
  refine dp_s1 hF (i := .iload_n 0) rfl (fun _ => rfl) ?_
  refine dp_s1 hF (i := .i2l) rfl (fun _ => rfl) ?_
  refine dp_s1 hF (i := .ldc2_w 647) rfl (fun _ => rfl) ?_
  refine dp_s1 hF (i := .ldc2_w 649) rfl (fun _ => rfl) ?_
  refine dp_si (mj := dp_m_X12_in) (i := .invokestatic 446) rfl rfl (Or.inr rfl) rfl (fun _ => rfl) (fun r2 M1 => ?_)
  refine dp_s2 hF (i := .ifCond .eq 7) (a := (18, [some (.int v0)], [], M1)) (b := (14, [some (.int v0)], [], M1)) rfl (fun _ => rfl) ?_ ?_
  · refine dp_s1 hF (i := .iload_n 0) rfl (fun _ => rfl) ?_
    refine dp_s1 hF (i := .i2l) rfl (fun _ => rfl) ?_
    refine dp_s1 hF (i := .ldc2_w 456) rfl (fun _ => rfl) ?_
    refine dp_s1 hF (i := .ldc2_w 651) rfl (fun _ => rfl) ?_
    refine dp_si (mj := dp_m_X12_in) (i := .invokestatic 446) rfl rfl (Or.inr rfl) rfl (fun _ => rfl) (fun r4 M3 => ?_)
    refine dp_s2 hF (i := .ifCond .eq 7) (a := (36, [some (.int v0)], [], M3)) (b := (32, [some (.int v0)], [], M3)) rfl (fun _ => rfl) ?_ ?_
    · refine dp_s1 hF (i := .iload_n 0) rfl (fun _ => rfl) ?_
      refine dp_s1 hF (i := .i2l) rfl (fun _ => rfl) ?_
      refine dp_s1 hF (i := .ldc2_w 653) rfl (fun _ => rfl) ?_
      refine dp_s1 hF (i := .ldc2_w 655) rfl (fun _ => rfl) ?_
      refine dp_si (mj := dp_m_X12_in) (i := .invokestatic 446) rfl rfl (Or.inr rfl) rfl (fun _ => rfl) (fun r6 M5 => ?_)
      refine dp_s2 hF (i := .ifCond .eq 8) (a := (55, [some (.int v0)], [], M5)) (b := (50, [some (.int v0)], [], M5)) rfl (fun _ => rfl) ?_ ?_
      · refine dp_s1 hF (i := .iconst 0) rfl (fun _ => rfl) ?_
        exact dp_s0 hF (i := .ireturn) rfl (fun _ => rfl)
      refine dp_s1 hF (i := .bipush 6) rfl (fun _ => rfl) ?_
      refine dp_s1 hF (i := .goto 4) rfl (fun _ => rfl) ?_
      exact dp_s0 hF (i := .ireturn) rfl (fun _ => rfl)
    refine dp_s1 hF (i := .iconst 4) rfl (fun _ => rfl) ?_
    refine dp_s1 hF (i := .goto 23) rfl (fun _ => rfl) ?_
    exact dp_s0 hF (i := .ireturn) rfl (fun _ => rfl)
  refine dp_s1 hF (i := .iconst 2) rfl (fun _ => rfl) ?_
  refine dp_s1 hF (i := .goto 41) rfl (fun _ => rfl) ?_
  exact dp_s0 hF (i := .ireturn) rfl (fun _ => rfl)
noncomputable def D_X12_bits_0 (xs : Nat → Int32) (xl d : Nat) (v0 : Int32) (M : dp_M) : Option dp_Res := dp_lim true xs xl (dp_den true xs xl d) dp_m_X12_bits (0, [some (.int v0), none, none], [], M)
noncomputable def D_X12_bits_4 (xs : Nat → Int32) (xl d : Nat) (v0 : Int32) (v1 : Int32) (v2 : Int32) (M : dp_M) : Option dp_Res := dp_lim true xs xl (dp_den true xs xl d) dp_m_X12_bits (4, [some (.int v0), some (.int v1), some (.int v2)], [], M)
theorem D_X12_bits_0_den (xs : Nat → Int32) (xl d : Nat) (a0 : Int32) (M : dp_M) : dp_den true xs xl (d + 1) 447 [.int a0] M = D_X12_bits_0 xs xl d a0 M := rfl
set_option maxRecDepth 20000 in
theorem D_X12_bits_0_eq (xs : Nat → Int32) (xl d : Nat) (v0 : Int32) (M : dp_M) : D_X12_bits_0 xs xl d v0 M = dp_w (0 : Int32) (fun y1 => dp_w (0 : Int32) (fun y2 => D_X12_bits_4 xs xl d v0 y1 y2 M)) := by
  have hF := dp_den_grow (md := true) (xs := xs) (xl := xl) d
  unfold D_X12_bits_0
  refine dp_s1 hF (i := .iconst 0) rfl (fun _ => rfl) ?_
  refine dp_s1w (0 : Int32) (fun (y1 : Int32) => (2, [some (.int v0), some (.int y1), none], [], M)) hF (i := .istore_n 1) rfl (fun _ => rfl) (fun y1 => ?_)
  refine dp_s1 hF (i := .iconst 0) rfl (fun _ => rfl) ?_
  refine dp_s1w (0 : Int32) (fun (y2 : Int32) => (4, [some (.int v0), some (.int y1), some (.int y2)], [], M)) hF (i := .istore_n 2) rfl (fun _ => rfl) (fun y2 => ?_)
  exact rfl
set_option maxRecDepth 20000 in
theorem D_X12_bits_4_eq (xs : Nat → Int32) (xl d : Nat) (v0 : Int32) (v1 : Int32) (v2 : Int32) (M : dp_M) : D_X12_bits_4 xs xl d v0 v1 v2 M = if (32 : Int32) ≤ v2 then (some (.inl (some (.int v1)), M)) else (dp_w (v1 + ((v0 >>> (v2 &&& 31)) &&& (1 : Int32))) (fun y1 => dp_w (v2 + (1 : Int32)) (fun y2 => D_X12_bits_4 xs xl d v0 y1 y2 M))) := by
  have hF := dp_den_grow (md := true) (xs := xs) (xl := xl) d
  unfold D_X12_bits_4
  refine dp_s1 hF (i := .iload_n 2) rfl (fun _ => rfl) ?_
  refine dp_s1 hF (i := .bipush 32) rfl (fun _ => rfl) ?_
  refine dp_s2 hF (i := .if_icmp .ge 17) (a := (24, [some (.int v0), some (.int v1), some (.int v2)], [], M)) (b := (10, [some (.int v0), some (.int v1), some (.int v2)], [], M)) rfl (fun _ => rfl) ?_ ?_
  · refine dp_s1 hF (i := .iload_n 1) rfl (fun _ => rfl) ?_
    exact dp_s0 hF (i := .ireturn) rfl (fun _ => rfl)
  refine dp_s1 hF (i := .iload_n 1) rfl (fun _ => rfl) ?_
  refine dp_s1 hF (i := .iload_n 0) rfl (fun _ => rfl) ?_
  refine dp_s1 hF (i := .iload_n 2) rfl (fun _ => rfl) ?_
  refine dp_s1 hF (i := .ishr) rfl (fun _ => rfl) ?_
  refine dp_s1 hF (i := .iconst 1) rfl (fun _ => rfl) ?_
  refine dp_s1 hF (i := .iand) rfl (fun _ => rfl) ?_
  refine dp_s1 hF (i := .iadd) rfl (fun _ => rfl) ?_
  refine dp_s1w (v1 + ((v0 >>> (v2 &&& 31)) &&& (1 : Int32))) (fun (y1 : Int32) => (18, [some (.int v0), some (.int y1), some (.int v2)], [], M)) hF (i := .istore_n 1) rfl (fun _ => rfl) (fun y1 => ?_)
  refine dp_s1w (v2 + (1 : Int32)) (fun (y2 : Int32) => (21, [some (.int v0), some (.int y1), some (.int y2)], [], M)) hF (i := .iinc 2 1) rfl (fun _ => rfl) (fun y2 => ?_)
  refine dp_s1 hF (i := .goto (-17)) rfl (fun _ => rfl) ?_
  exact rfl
noncomputable def D_X12_allIn_0 (xs : Nat → Int32) (xl d : Nat) (v1 : Int32) (M : dp_M) : Option dp_Res := dp_lim true xs xl (dp_den true xs xl d) dp_m_X12_allIn (0, [some (.ref 114), some (.int v1), none, none, none], [], M)
noncomputable def D_X12_allIn_12 (xs : Nat → Int32) (xl d : Nat) (v1 : Int32) (v2 : Int32) (v3 : Int32) (M : dp_M) : Option dp_Res := dp_lim true xs xl (dp_den true xs xl d) dp_m_X12_allIn (12, [some (.ref 114), some (.int v1), some (.int v2), some (.int v3), none], [], M)
noncomputable def D_X12_allIn_21 (xs : Nat → Int32) (xl d : Nat) (v1 : Int32) (v2 : Int32) (v3 : Int32) (v4 : Int32) (M : dp_M) : Option dp_Res := dp_lim true xs xl (dp_den true xs xl d) dp_m_X12_allIn (21, [some (.ref 114), some (.int v1), some (.int v2), some (.int v3), some (.int v4)], [], M)
noncomputable def D_X12_allIn_12_a (xs : Nat → Int32) (xl d : Nat) (v1 : Int32) (v2 : Int32) (v3 : Int32) (v4 : Int32) (M : dp_M) : Option dp_Res := dp_lim true xs xl (dp_den true xs xl d) dp_m_X12_allIn (12, [some (.ref 114), some (.int v1), some (.int v2), some (.int v3), some (.int v4)], [], M)
theorem D_X12_allIn_0_den (xs : Nat → Int32) (xl d : Nat) (a0 : Int32) (M : dp_M) : dp_den true xs xl (d + 1) 448 [.ref 114, .int a0] M = D_X12_allIn_0 xs xl d a0 M := rfl
set_option maxRecDepth 20000 in
theorem D_X12_allIn_0_eq (xs : Nat → Int32) (xl d : Nat) (v1 : Int32) (M : dp_M) : D_X12_allIn_0 xs xl d v1 M = if (v1 - (16 : Int32)) < 0 ∨ 8 ≤ Int32.toNatClampNeg (v1 - (16 : Int32)) then none else (dp_w (dp_I M 155 (Int32.toNatClampNeg (v1 - (16 : Int32)))) (fun y1 => dp_w (0 : Int32) (fun y2 => D_X12_allIn_12 xs xl d v1 y1 y2 M))) := by
  have hF := dp_den_grow (md := true) (xs := xs) (xl := xl) d
  unfold D_X12_allIn_0
  refine dp_s1 hF (i := .aload_n 0) rfl (fun _ => rfl) ?_
  refine dp_s1 hF (i := .getfield 136) rfl (fun _ => rfl) ?_
  refine dp_s1 hF (i := .iload_n 1) rfl (fun _ => rfl) ?_
  refine dp_s1 hF (i := .bipush 16) rfl (fun _ => rfl) ?_
  refine dp_s1 hF (i := .isub) rfl (fun _ => rfl) ?_
  refine dp_s3 hF (i := .iaload) rfl (fun _ => rfl) ?_
  refine dp_s1w (dp_I M 155 (Int32.toNatClampNeg (v1 - (16 : Int32)))) (fun (y1 : Int32) => (10, [some (.ref 114), some (.int v1), some (.int y1), none, none], [], M)) hF (i := .istore_n 2) rfl (fun _ => rfl) (fun y1 => ?_)
  refine dp_s1 hF (i := .iconst 0) rfl (fun _ => rfl) ?_
  refine dp_s1w (0 : Int32) (fun (y2 : Int32) => (12, [some (.ref 114), some (.int v1), some (.int y1), some (.int y2), none], [], M)) hF (i := .istore_n 3) rfl (fun _ => rfl) (fun y2 => ?_)
  exact rfl
set_option maxRecDepth 20000 in
theorem D_X12_allIn_12_eq (xs : Nat → Int32) (xl d : Nat) (v1 : Int32) (v2 : Int32) (v3 : Int32) (M : dp_M) : D_X12_allIn_12 xs xl d v1 v2 v3 M = if (8 : Int32) ≤ v3 then (some (.inl (some (.int v2)), M)) else (dp_w (0 : Int32) (fun y1 => D_X12_allIn_21 xs xl d v1 v2 v3 y1 M)) := by
  have hF := dp_den_grow (md := true) (xs := xs) (xl := xl) d
  unfold D_X12_allIn_12
  refine dp_s1 hF (i := .iload_n 3) rfl (fun _ => rfl) ?_
  refine dp_s1 hF (i := .bipush 8) rfl (fun _ => rfl) ?_
  refine dp_s2 hF (i := .if_icmp .ge 52) (a := (67, [some (.ref 114), some (.int v1), some (.int v2), some (.int v3), none], [], M)) (b := (18, [some (.ref 114), some (.int v1), some (.int v2), some (.int v3), none], [], M)) rfl (fun _ => rfl) ?_ ?_
  · refine dp_s1 hF (i := .iload_n 2) rfl (fun _ => rfl) ?_
    exact dp_s0 hF (i := .ireturn) rfl (fun _ => rfl)
  refine dp_s1 hF (i := .iconst 0) rfl (fun _ => rfl) ?_
  refine dp_s1w (0 : Int32) (fun (y1 : Int32) => (21, [some (.ref 114), some (.int v1), some (.int v2), some (.int v3), some (.int y1)], [], M)) hF (i := .istore 4) rfl (fun _ => rfl) (fun y1 => ?_)
  exact rfl
set_option maxRecDepth 20000 in
theorem D_X12_allIn_21_eq (xs : Nat → Int32) (xl d : Nat) (v1 : Int32) (v2 : Int32) (v3 : Int32) (v4 : Int32) (M : dp_M) : D_X12_allIn_21 xs xl d v1 v2 v3 v4 M = if (8 : Int32) ≤ v4 then (dp_w (v3 + (1 : Int32)) (fun y1 => D_X12_allIn_12_a xs xl d v1 v2 y1 v4 M)) else (if ((v2 >>> (((16 : Int32) + v4) &&& 31)) &&& (1 : Int32)) = (1 : Int32) then (if v4 < 0 ∨ 8 ≤ Int32.toNatClampNeg v4 then none else (dp_w (v2 ||| (dp_I M 155 (Int32.toNatClampNeg v4))) (fun y2 => dp_w (v4 + (1 : Int32)) (fun y3 => D_X12_allIn_21 xs xl d v1 y2 v3 y3 M)))) else (dp_w (v2 ||| (0 : Int32)) (fun y4 => dp_w (v4 + (1 : Int32)) (fun y5 => D_X12_allIn_21 xs xl d v1 y4 v3 y5 M)))) := by
  have hF := dp_den_grow (md := true) (xs := xs) (xl := xl) d
  unfold D_X12_allIn_21
  refine dp_s1 hF (i := .iload 4) rfl (fun _ => rfl) ?_
  refine dp_s1 hF (i := .bipush 8) rfl (fun _ => rfl) ?_
  refine dp_s2 hF (i := .if_icmp .ge 36) (a := (61, [some (.ref 114), some (.int v1), some (.int v2), some (.int v3), some (.int v4)], [], M)) (b := (28, [some (.ref 114), some (.int v1), some (.int v2), some (.int v3), some (.int v4)], [], M)) rfl (fun _ => rfl) ?_ ?_
  · refine dp_s1w (v3 + (1 : Int32)) (fun (y1 : Int32) => (64, [some (.ref 114), some (.int v1), some (.int v2), some (.int y1), some (.int v4)], [], M)) hF (i := .iinc 3 1) rfl (fun _ => rfl) (fun y1 => ?_)
    refine dp_s1 hF (i := .goto (-52)) rfl (fun _ => rfl) ?_
    exact rfl
  refine dp_s1 hF (i := .iload_n 2) rfl (fun _ => rfl) ?_
  refine dp_s1 hF (i := .iload_n 2) rfl (fun _ => rfl) ?_
  refine dp_s1 hF (i := .bipush 16) rfl (fun _ => rfl) ?_
  refine dp_s1 hF (i := .iload 4) rfl (fun _ => rfl) ?_
  refine dp_s1 hF (i := .iadd) rfl (fun _ => rfl) ?_
  refine dp_s1 hF (i := .ishr) rfl (fun _ => rfl) ?_
  refine dp_s1 hF (i := .iconst 1) rfl (fun _ => rfl) ?_
  refine dp_s1 hF (i := .iand) rfl (fun _ => rfl) ?_
  refine dp_s1 hF (i := .iconst 1) rfl (fun _ => rfl) ?_
  refine dp_s2 hF (i := .if_icmp .ne 13) (a := (42, [some (.ref 114), some (.int v1), some (.int v2), some (.int v3), some (.int v4)], [.int v2], M)) (b := (52, [some (.ref 114), some (.int v1), some (.int v2), some (.int v3), some (.int v4)], [.int v2], M)) rfl (fun _ => rfl) ?_ ?_
  · refine dp_s1 hF (i := .aload_n 0) rfl (fun _ => rfl) ?_
    refine dp_s1 hF (i := .getfield 136) rfl (fun _ => rfl) ?_
    refine dp_s1 hF (i := .iload 4) rfl (fun _ => rfl) ?_
    refine dp_s3 hF (i := .iaload) rfl (fun _ => rfl) ?_
    refine dp_s1 hF (i := .goto 4) rfl (fun _ => rfl) ?_
    refine dp_s1 hF (i := .ior) rfl (fun _ => rfl) ?_
    refine dp_s1w (v2 ||| (dp_I M 155 (Int32.toNatClampNeg v4))) (fun (y2 : Int32) => (55, [some (.ref 114), some (.int v1), some (.int y2), some (.int v3), some (.int v4)], [], M)) hF (i := .istore_n 2) rfl (fun _ => rfl) (fun y2 => ?_)
    refine dp_s1w (v4 + (1 : Int32)) (fun (y3 : Int32) => (58, [some (.ref 114), some (.int v1), some (.int y2), some (.int v3), some (.int y3)], [], M)) hF (i := .iinc 4 1) rfl (fun _ => rfl) (fun y3 => ?_)
    refine dp_s1 hF (i := .goto (-37)) rfl (fun _ => rfl) ?_
    exact rfl
  refine dp_s1 hF (i := .iconst 0) rfl (fun _ => rfl) ?_
  refine dp_s1 hF (i := .ior) rfl (fun _ => rfl) ?_
  refine dp_s1w (v2 ||| (0 : Int32)) (fun (y4 : Int32) => (55, [some (.ref 114), some (.int v1), some (.int y4), some (.int v3), some (.int v4)], [], M)) hF (i := .istore_n 2) rfl (fun _ => rfl) (fun y4 => ?_)
  refine dp_s1w (v4 + (1 : Int32)) (fun (y5 : Int32) => (58, [some (.ref 114), some (.int v1), some (.int y4), some (.int v3), some (.int y5)], [], M)) hF (i := .iinc 4 1) rfl (fun _ => rfl) (fun y5 => ?_)
  refine dp_s1 hF (i := .goto (-37)) rfl (fun _ => rfl) ?_
  exact rfl
set_option maxRecDepth 20000 in
theorem D_X12_allIn_12_a_eq (xs : Nat → Int32) (xl d : Nat) (v1 : Int32) (v2 : Int32) (v3 : Int32) (v4 : Int32) (M : dp_M) : D_X12_allIn_12_a xs xl d v1 v2 v3 v4 M = if (8 : Int32) ≤ v3 then (some (.inl (some (.int v2)), M)) else (dp_w (0 : Int32) (fun y1 => D_X12_allIn_21 xs xl d v1 v2 v3 y1 M)) := by
  have hF := dp_den_grow (md := true) (xs := xs) (xl := xl) d
  unfold D_X12_allIn_12_a
  refine dp_s1 hF (i := .iload_n 3) rfl (fun _ => rfl) ?_
  refine dp_s1 hF (i := .bipush 8) rfl (fun _ => rfl) ?_
  refine dp_s2 hF (i := .if_icmp .ge 52) (a := (67, [some (.ref 114), some (.int v1), some (.int v2), some (.int v3), some (.int v4)], [], M)) (b := (18, [some (.ref 114), some (.int v1), some (.int v2), some (.int v3), some (.int v4)], [], M)) rfl (fun _ => rfl) ?_ ?_
  · refine dp_s1 hF (i := .iload_n 2) rfl (fun _ => rfl) ?_
    exact dp_s0 hF (i := .ireturn) rfl (fun _ => rfl)
  refine dp_s1 hF (i := .iconst 0) rfl (fun _ => rfl) ?_
  refine dp_s1w (0 : Int32) (fun (y1 : Int32) => (21, [some (.ref 114), some (.int v1), some (.int v2), some (.int v3), some (.int y1)], [], M)) hF (i := .istore 4) rfl (fun _ => rfl) (fun y1 => ?_)
  exact rfl
noncomputable def D_X12_isIn_0 (xs : Nat → Int32) (xl d : Nat) (v1 : Int32) (v2 : Int32) (M : dp_M) : Option dp_Res := dp_lim true xs xl (dp_den true xs xl d) dp_m_X12_isIn (0, [some (.ref 114), some (.int v1), some (.int v2)], [], M)
theorem D_X12_isIn_0_den (xs : Nat → Int32) (xl d : Nat) (a0 : Int32) (a1 : Int32) (M : dp_M) : dp_den true xs xl (d + 1) 449 [.ref 114, .int a0, .int a1] M = D_X12_isIn_0 xs xl d a0 a1 M := rfl
set_option maxRecDepth 20000 in
theorem D_X12_isIn_0_eq (xs : Nat → Int32) (xl d : Nat) (v1 : Int32) (v2 : Int32) (M : dp_M) : D_X12_isIn_0 xs xl d v1 v2 M = if v2 = (31 : Int32) then (some (.inl (some (.int (1 : Int32))), M)) else (if v2 = v1 then (some (.inl (some (.int (1 : Int32))), M)) else (dp_bi (dp_den true xs xl d 443 [.int v2] M) (fun r2 M1 => if r2 = 0 then (some (.inl (some (.int (0 : Int32))), M1)) else (dp_bi (dp_den true xs xl d 443 [.int v2] M1) (fun r4 M3 => if r4 = 0 then (dp_bi (dp_den true xs xl d 448 [.ref 114, .int (16 : Int32)] M3) (fun r6 M5 => if ((r6 >>> (v1 &&& 31)) &&& (1 : Int32)) = (1 : Int32) then (some (.inl (some (.int (1 : Int32))), M5)) else (some (.inl (some (.int (0 : Int32))), M5)))) else (dp_bi (dp_den true xs xl d 448 [.ref 114, .int v2] M3) (fun r8 M7 => if ((r8 >>> (v1 &&& 31)) &&& (1 : Int32)) = (1 : Int32) then (some (.inl (some (.int (1 : Int32))), M7)) else (some (.inl (some (.int (0 : Int32))), M7))))))))) := by
  have hF := dp_den_grow (md := true) (xs := xs) (xl := xl) d
  unfold D_X12_isIn_0
  refine dp_s1 hF (i := .iload_n 2) rfl (fun _ => rfl) ?_
  refine dp_s1 hF (i := .bipush 31) rfl (fun _ => rfl) ?_
  refine dp_s2 hF (i := .if_icmp .eq 40) (a := (43, [some (.ref 114), some (.int v1), some (.int v2)], [], M)) (b := (6, [some (.ref 114), some (.int v1), some (.int v2)], [], M)) rfl (fun _ => rfl) ?_ ?_
  · refine dp_s1 hF (i := .iconst 1) rfl (fun _ => rfl) ?_
    refine dp_s1 hF (i := .goto 4) rfl (fun _ => rfl) ?_
    exact dp_s0 hF (i := .ireturn) rfl (fun _ => rfl)
  refine dp_s1 hF (i := .iload_n 2) rfl (fun _ => rfl) ?_
  refine dp_s1 hF (i := .iload_n 1) rfl (fun _ => rfl) ?_
  refine dp_s2 hF (i := .if_icmp .eq 35) (a := (43, [some (.ref 114), some (.int v1), some (.int v2)], [], M)) (b := (11, [some (.ref 114), some (.int v1), some (.int v2)], [], M)) rfl (fun _ => rfl) ?_ ?_
  · refine dp_s1 hF (i := .iconst 1) rfl (fun _ => rfl) ?_
    refine dp_s1 hF (i := .goto 4) rfl (fun _ => rfl) ?_
    exact dp_s0 hF (i := .ireturn) rfl (fun _ => rfl)
  refine dp_s1 hF (i := .iload_n 2) rfl (fun _ => rfl) ?_
  refine dp_si (mj := dp_m_X12_isGroup) (i := .invokestatic 657) rfl rfl (Or.inr rfl) rfl (fun _ => rfl) (fun r2 M1 => ?_)
  refine dp_s2 hF (i := .ifCond .eq 32) (a := (47, [some (.ref 114), some (.int v1), some (.int v2)], [], M1)) (b := (18, [some (.ref 114), some (.int v1), some (.int v2)], [], M1)) rfl (fun _ => rfl) ?_ ?_
  · refine dp_s1 hF (i := .iconst 0) rfl (fun _ => rfl) ?_
    exact dp_s0 hF (i := .ireturn) rfl (fun _ => rfl)
  refine dp_s1 hF (i := .aload_n 0) rfl (fun _ => rfl) ?_
  refine dp_s1 hF (i := .iload_n 2) rfl (fun _ => rfl) ?_
  refine dp_si (mj := dp_m_X12_isGroup) (i := .invokestatic 657) rfl rfl (Or.inr rfl) rfl (fun _ => rfl) (fun r4 M3 => ?_)
  refine dp_s2 hF (i := .ifCond .eq 7) (a := (30, [some (.ref 114), some (.int v1), some (.int v2)], [.ref 114], M3)) (b := (26, [some (.ref 114), some (.int v1), some (.int v2)], [.ref 114], M3)) rfl (fun _ => rfl) ?_ ?_
  · refine dp_s1 hF (i := .bipush 16) rfl (fun _ => rfl) ?_
    refine dp_si (mj := dp_m_X12_allIn) (i := .invokevirtual 660) rfl rfl (Or.inl rfl) rfl (fun _ => rfl) (fun r6 M5 => ?_)
    refine dp_s1 hF (i := .iload_n 1) rfl (fun _ => rfl) ?_
    refine dp_s1 hF (i := .ishr) rfl (fun _ => rfl) ?_
    refine dp_s1 hF (i := .iconst 1) rfl (fun _ => rfl) ?_
    refine dp_s1 hF (i := .iand) rfl (fun _ => rfl) ?_
    refine dp_s1 hF (i := .iconst 1) rfl (fun _ => rfl) ?_
    refine dp_s2 hF (i := .if_icmp .ne 7) (a := (43, [some (.ref 114), some (.int v1), some (.int v2)], [], M5)) (b := (47, [some (.ref 114), some (.int v1), some (.int v2)], [], M5)) rfl (fun _ => rfl) ?_ ?_
    · refine dp_s1 hF (i := .iconst 1) rfl (fun _ => rfl) ?_
      refine dp_s1 hF (i := .goto 4) rfl (fun _ => rfl) ?_
      exact dp_s0 hF (i := .ireturn) rfl (fun _ => rfl)
    refine dp_s1 hF (i := .iconst 0) rfl (fun _ => rfl) ?_
    exact dp_s0 hF (i := .ireturn) rfl (fun _ => rfl)
  refine dp_s1 hF (i := .iload_n 2) rfl (fun _ => rfl) ?_
  refine dp_s1 hF (i := .goto 5) rfl (fun _ => rfl) ?_
  refine dp_si (mj := dp_m_X12_allIn) (i := .invokevirtual 660) rfl rfl (Or.inl rfl) rfl (fun _ => rfl) (fun r8 M7 => ?_)
  refine dp_s1 hF (i := .iload_n 1) rfl (fun _ => rfl) ?_
  refine dp_s1 hF (i := .ishr) rfl (fun _ => rfl) ?_
  refine dp_s1 hF (i := .iconst 1) rfl (fun _ => rfl) ?_
  refine dp_s1 hF (i := .iand) rfl (fun _ => rfl) ?_
  refine dp_s1 hF (i := .iconst 1) rfl (fun _ => rfl) ?_
  refine dp_s2 hF (i := .if_icmp .ne 7) (a := (43, [some (.ref 114), some (.int v1), some (.int v2)], [], M7)) (b := (47, [some (.ref 114), some (.int v1), some (.int v2)], [], M7)) rfl (fun _ => rfl) ?_ ?_
  · refine dp_s1 hF (i := .iconst 1) rfl (fun _ => rfl) ?_
    refine dp_s1 hF (i := .goto 4) rfl (fun _ => rfl) ?_
    exact dp_s0 hF (i := .ireturn) rfl (fun _ => rfl)
  refine dp_s1 hF (i := .iconst 0) rfl (fun _ => rfl) ?_
  exact dp_s0 hF (i := .ireturn) rfl (fun _ => rfl)
noncomputable def D_X12_member_0 (xs : Nat → Int32) (xl d : Nat) (v1 : Int32) (v2 : Int32) (M : dp_M) : Option dp_Res := dp_lim true xs xl (dp_den true xs xl d) dp_m_X12_member (0, [some (.ref 114), some (.int v1), some (.int v2)], [], M)
noncomputable def D_X12_member_26 (xs : Nat → Int32) (xl d : Nat) (v1 : Int32) (v2 : Int32) (M : dp_M) : Option dp_Res := dp_lim true xs xl (dp_den true xs xl d) dp_m_X12_member (26, [some (.ref 114), some (.int v1), some (.int v2)], [], M)
theorem D_X12_member_0_den (xs : Nat → Int32) (xl d : Nat) (a0 : Int32) (a1 : Int32) (M : dp_M) : dp_den true xs xl (d + 1) 450 [.ref 114, .int a0, .int a1] M = D_X12_member_0 xs xl d a0 a1 M := rfl
set_option maxRecDepth 20000 in
theorem D_X12_member_0_eq (xs : Nat → Int32) (xl d : Nat) (v1 : Int32) (v2 : Int32) (M : dp_M) : D_X12_member_0 xs xl d v1 v2 M = dp_w (dp_setI M 114 0 (0 : Int32)) (fun M1 => dp_bi (dp_den true xs xl d 443 [.int v1] M1) (fun r3 M2 => if r3 = 0 then (some (.inl (some (.int (0 : Int32))), M2)) else (dp_bi (dp_den true xs xl d 444 [.int v2] M2) (fun r5 M4 => if r5 = 0 then (dp_bi (dp_den true xs xl d 443 [.int v2] M4) (fun r7 M6 => if r7 = 0 then (some (.inl (some (.int (0 : Int32))), M6)) else (D_X12_member_26 xs xl d v1 v2 M6))) else (D_X12_member_26 xs xl d v1 v2 M4))))) := by
  have hF := dp_den_grow (md := true) (xs := xs) (xl := xl) d
  unfold D_X12_member_0
  refine dp_s1 hF (i := .aload_n 0) rfl (fun _ => rfl) ?_
  refine dp_s1 hF (i := .iconst 0) rfl (fun _ => rfl) ?_
  refine dp_s1w (dp_setI M 114 0 (0 : Int32)) (fun (M1 : dp_M) => (5, [some (.ref 114), some (.int v1), some (.int v2)], [], M1)) hF (i := .putfield 1) rfl (fun _ => rfl) (fun M1 => ?_)
  refine dp_s1 hF (i := .iload_n 1) rfl (fun _ => rfl) ?_
  refine dp_si (mj := dp_m_X12_isGroup) (i := .invokestatic 657) rfl rfl (Or.inr rfl) rfl (fun _ => rfl) (fun r3 M2 => ?_)
  refine dp_s2 hF (i := .ifCond .eq 59) (a := (68, [some (.ref 114), some (.int v1), some (.int v2)], [], M2)) (b := (12, [some (.ref 114), some (.int v1), some (.int v2)], [], M2)) rfl (fun _ => rfl) ?_ ?_
  · refine dp_s1 hF (i := .iconst 0) rfl (fun _ => rfl) ?_
    exact dp_s0 hF (i := .ireturn) rfl (fun _ => rfl)
  refine dp_s1 hF (i := .iload_n 2) rfl (fun _ => rfl) ?_
  refine dp_si (mj := dp_m_X12_isLand) (i := .invokestatic 663) rfl rfl (Or.inr rfl) rfl (fun _ => rfl) (fun r5 M4 => ?_)
  refine dp_s2 hF (i := .ifCond .ne 10) (a := (19, [some (.ref 114), some (.int v1), some (.int v2)], [], M4)) (b := (26, [some (.ref 114), some (.int v1), some (.int v2)], [], M4)) rfl (fun _ => rfl) ?_ ?_
  · refine dp_s1 hF (i := .iload_n 2) rfl (fun _ => rfl) ?_
    refine dp_si (mj := dp_m_X12_isGroup) (i := .invokestatic 657) rfl rfl (Or.inr rfl) rfl (fun _ => rfl) (fun r7 M6 => ?_)
    refine dp_s2 hF (i := .ifCond .eq 45) (a := (68, [some (.ref 114), some (.int v1), some (.int v2)], [], M6)) (b := (26, [some (.ref 114), some (.int v1), some (.int v2)], [], M6)) rfl (fun _ => rfl) ?_ ?_
    · refine dp_s1 hF (i := .iconst 0) rfl (fun _ => rfl) ?_
      exact dp_s0 hF (i := .ireturn) rfl (fun _ => rfl)
    exact rfl
  exact rfl
set_option maxRecDepth 20000 in
theorem D_X12_member_26_eq (xs : Nat → Int32) (xl d : Nat) (v1 : Int32) (v2 : Int32) (M : dp_M) : D_X12_member_26 xs xl d v1 v2 M = if (v1 - (16 : Int32)) < 0 ∨ 8 ≤ Int32.toNatClampNeg (v1 - (16 : Int32)) then none else (if (((dp_I M 155 (Int32.toNatClampNeg (v1 - (16 : Int32)))) >>> (v2 &&& 31)) &&& (1 : Int32)) = (1 : Int32) then (some (.inl (some (.int (0 : Int32))), M)) else (dp_bi (dp_den true xs xl d 443 [.int v2] M) (fun r2 M1 => if r2 = 0 then (if (v1 - (16 : Int32)) < 0 ∨ 8 ≤ Int32.toNatClampNeg (v1 - (16 : Int32)) then none else (if (v1 - (16 : Int32)) < 0 ∨ 8 ≤ Int32.toNatClampNeg (v1 - (16 : Int32)) then none else dp_w (dp_setI M1 155 (Int32.toNatClampNeg (v1 - (16 : Int32))) ((dp_I M1 155 (Int32.toNatClampNeg (v1 - (16 : Int32)))) ||| ((1 : Int32) <<< (v2 &&& 31)))) (fun M3 => some (.inl (some (.int (1 : Int32))), M3)))) else (if v2 = v1 then (some (.inl (some (.int (0 : Int32))), M1)) else (dp_bi (dp_den true xs xl d 448 [.ref 114, .int v2] M1) (fun r5 M4 => if ((r5 >>> (v1 &&& 31)) &&& (1 : Int32)) = (1 : Int32) then (some (.inl (some (.int (0 : Int32))), M4)) else (if (v1 - (16 : Int32)) < 0 ∨ 8 ≤ Int32.toNatClampNeg (v1 - (16 : Int32)) then none else (if (v1 - (16 : Int32)) < 0 ∨ 8 ≤ Int32.toNatClampNeg (v1 - (16 : Int32)) then none else dp_w (dp_setI M4 155 (Int32.toNatClampNeg (v1 - (16 : Int32))) ((dp_I M4 155 (Int32.toNatClampNeg (v1 - (16 : Int32)))) ||| ((1 : Int32) <<< (v2 &&& 31)))) (fun M6 => some (.inl (some (.int (1 : Int32))), M6)))))))))) := by
  have hF := dp_den_grow (md := true) (xs := xs) (xl := xl) d
  unfold D_X12_member_26
  refine dp_s1 hF (i := .aload_n 0) rfl (fun _ => rfl) ?_
  refine dp_s1 hF (i := .getfield 136) rfl (fun _ => rfl) ?_
  refine dp_s1 hF (i := .iload_n 1) rfl (fun _ => rfl) ?_
  refine dp_s1 hF (i := .bipush 16) rfl (fun _ => rfl) ?_
  refine dp_s1 hF (i := .isub) rfl (fun _ => rfl) ?_
  refine dp_s3 hF (i := .iaload) rfl (fun _ => rfl) ?_
  refine dp_s1 hF (i := .iload_n 2) rfl (fun _ => rfl) ?_
  refine dp_s1 hF (i := .ishr) rfl (fun _ => rfl) ?_
  refine dp_s1 hF (i := .iconst 1) rfl (fun _ => rfl) ?_
  refine dp_s1 hF (i := .iand) rfl (fun _ => rfl) ?_
  refine dp_s1 hF (i := .iconst 1) rfl (fun _ => rfl) ?_
  refine dp_s2 hF (i := .if_icmp .eq 28) (a := (68, [some (.ref 114), some (.int v1), some (.int v2)], [], M)) (b := (43, [some (.ref 114), some (.int v1), some (.int v2)], [], M)) rfl (fun _ => rfl) ?_ ?_
  · refine dp_s1 hF (i := .iconst 0) rfl (fun _ => rfl) ?_
    exact dp_s0 hF (i := .ireturn) rfl (fun _ => rfl)
  refine dp_s1 hF (i := .iload_n 2) rfl (fun _ => rfl) ?_
  refine dp_si (mj := dp_m_X12_isGroup) (i := .invokestatic 657) rfl rfl (Or.inr rfl) rfl (fun _ => rfl) (fun r2 M1 => ?_)
  refine dp_s2 hF (i := .ifCond .eq 23) (a := (70, [some (.ref 114), some (.int v1), some (.int v2)], [], M1)) (b := (50, [some (.ref 114), some (.int v1), some (.int v2)], [], M1)) rfl (fun _ => rfl) ?_ ?_
  · refine dp_s1 hF (i := .aload_n 0) rfl (fun _ => rfl) ?_
    refine dp_s1 hF (i := .getfield 136) rfl (fun _ => rfl) ?_
    refine dp_s1 hF (i := .iload_n 1) rfl (fun _ => rfl) ?_
    refine dp_s1 hF (i := .bipush 16) rfl (fun _ => rfl) ?_
    refine dp_s1 hF (i := .isub) rfl (fun _ => rfl) ?_
    refine dp_s1 hF (i := .dup2) rfl (fun _ => rfl) ?_
    refine dp_s3 hF (i := .iaload) rfl (fun _ => rfl) ?_
    refine dp_s1 hF (i := .iconst 1) rfl (fun _ => rfl) ?_
    refine dp_s1 hF (i := .iload_n 2) rfl (fun _ => rfl) ?_
    refine dp_s1 hF (i := .ishl) rfl (fun _ => rfl) ?_
    refine dp_s1 hF (i := .ior) rfl (fun _ => rfl) ?_
    refine dp_s3w (dp_setI M1 155 (Int32.toNatClampNeg (v1 - (16 : Int32))) ((dp_I M1 155 (Int32.toNatClampNeg (v1 - (16 : Int32)))) ||| ((1 : Int32) <<< (v2 &&& 31)))) (fun (M3 : dp_M) => (85, [some (.ref 114), some (.int v1), some (.int v2)], [], M3)) hF (i := .iastore) rfl (fun _ => rfl) (fun M3 => ?_)
    refine dp_s1 hF (i := .iconst 1) rfl (fun _ => rfl) ?_
    exact dp_s0 hF (i := .ireturn) rfl (fun _ => rfl)
  refine dp_s1 hF (i := .iload_n 2) rfl (fun _ => rfl) ?_
  refine dp_s1 hF (i := .iload_n 1) rfl (fun _ => rfl) ?_
  refine dp_s2 hF (i := .if_icmp .eq 16) (a := (68, [some (.ref 114), some (.int v1), some (.int v2)], [], M1)) (b := (55, [some (.ref 114), some (.int v1), some (.int v2)], [], M1)) rfl (fun _ => rfl) ?_ ?_
  · refine dp_s1 hF (i := .iconst 0) rfl (fun _ => rfl) ?_
    exact dp_s0 hF (i := .ireturn) rfl (fun _ => rfl)
  refine dp_s1 hF (i := .aload_n 0) rfl (fun _ => rfl) ?_
  refine dp_s1 hF (i := .iload_n 2) rfl (fun _ => rfl) ?_
  refine dp_si (mj := dp_m_X12_allIn) (i := .invokevirtual 660) rfl rfl (Or.inl rfl) rfl (fun _ => rfl) (fun r5 M4 => ?_)
  refine dp_s1 hF (i := .iload_n 1) rfl (fun _ => rfl) ?_
  refine dp_s1 hF (i := .ishr) rfl (fun _ => rfl) ?_
  refine dp_s1 hF (i := .iconst 1) rfl (fun _ => rfl) ?_
  refine dp_s1 hF (i := .iand) rfl (fun _ => rfl) ?_
  refine dp_s1 hF (i := .iconst 1) rfl (fun _ => rfl) ?_
  refine dp_s2 hF (i := .if_icmp .ne 5) (a := (68, [some (.ref 114), some (.int v1), some (.int v2)], [], M4)) (b := (70, [some (.ref 114), some (.int v1), some (.int v2)], [], M4)) rfl (fun _ => rfl) ?_ ?_
  · refine dp_s1 hF (i := .iconst 0) rfl (fun _ => rfl) ?_
    exact dp_s0 hF (i := .ireturn) rfl (fun _ => rfl)
  refine dp_s1 hF (i := .aload_n 0) rfl (fun _ => rfl) ?_
  refine dp_s1 hF (i := .getfield 136) rfl (fun _ => rfl) ?_
  refine dp_s1 hF (i := .iload_n 1) rfl (fun _ => rfl) ?_
  refine dp_s1 hF (i := .bipush 16) rfl (fun _ => rfl) ?_
  refine dp_s1 hF (i := .isub) rfl (fun _ => rfl) ?_
  refine dp_s1 hF (i := .dup2) rfl (fun _ => rfl) ?_
  refine dp_s3 hF (i := .iaload) rfl (fun _ => rfl) ?_
  refine dp_s1 hF (i := .iconst 1) rfl (fun _ => rfl) ?_
  refine dp_s1 hF (i := .iload_n 2) rfl (fun _ => rfl) ?_
  refine dp_s1 hF (i := .ishl) rfl (fun _ => rfl) ?_
  refine dp_s1 hF (i := .ior) rfl (fun _ => rfl) ?_
  refine dp_s3w (dp_setI M4 155 (Int32.toNatClampNeg (v1 - (16 : Int32))) ((dp_I M4 155 (Int32.toNatClampNeg (v1 - (16 : Int32)))) ||| ((1 : Int32) <<< (v2 &&& 31)))) (fun (M6 : dp_M) => (85, [some (.ref 114), some (.int v1), some (.int v2)], [], M6)) hF (i := .iastore) rfl (fun _ => rfl) (fun M6 => ?_)
  refine dp_s1 hF (i := .iconst 1) rfl (fun _ => rfl) ?_
  exact dp_s0 hF (i := .ireturn) rfl (fun _ => rfl)
noncomputable def D_X12_isMeasure_0 (xs : Nat → Int32) (xl d : Nat) (v1 : Int32) (M : dp_M) : Option dp_Res := dp_lim true xs xl (dp_den true xs xl d) dp_m_X12_isMeasure (0, [some (.ref 114), some (.int v1)], [], M)
theorem D_X12_isMeasure_0_den (xs : Nat → Int32) (xl d : Nat) (a0 : Int32) (M : dp_M) : dp_den true xs xl (d + 1) 451 [.ref 114, .int a0] M = D_X12_isMeasure_0 xs xl d a0 M := rfl
set_option maxRecDepth 20000 in
theorem D_X12_isMeasure_0_eq (xs : Nat → Int32) (xl d : Nat) (v1 : Int32) (M : dp_M) : D_X12_isMeasure_0 xs xl d v1 M = if v1 < (1 : Int32) then (some (.inl (some (.int (0 : Int32))), M)) else (if (dp_I M 114 55) < v1 then (some (.inl (some (.int (0 : Int32))), M)) else (some (.inl (some (.int (1 : Int32))), M))) := by
  have hF := dp_den_grow (md := true) (xs := xs) (xl := xl) d
  unfold D_X12_isMeasure_0
  refine dp_s1 hF (i := .iload_n 1) rfl (fun _ => rfl) ?_
  refine dp_s1 hF (i := .iconst 1) rfl (fun _ => rfl) ?_
  refine dp_s2 hF (i := .if_icmp .lt 15) (a := (17, [some (.ref 114), some (.int v1)], [], M)) (b := (5, [some (.ref 114), some (.int v1)], [], M)) rfl (fun _ => rfl) ?_ ?_
  · refine dp_s1 hF (i := .iconst 0) rfl (fun _ => rfl) ?_
    exact dp_s0 hF (i := .ireturn) rfl (fun _ => rfl)
  refine dp_s1 hF (i := .iload_n 1) rfl (fun _ => rfl) ?_
  refine dp_s1 hF (i := .aload_n 0) rfl (fun _ => rfl) ?_
  refine dp_s1 hF (i := .getfield 666) rfl (fun _ => rfl) ?_
  refine dp_s2 hF (i := .if_icmp .gt 7) (a := (17, [some (.ref 114), some (.int v1)], [], M)) (b := (13, [some (.ref 114), some (.int v1)], [], M)) rfl (fun _ => rfl) ?_ ?_
  · refine dp_s1 hF (i := .iconst 0) rfl (fun _ => rfl) ?_
    exact dp_s0 hF (i := .ireturn) rfl (fun _ => rfl)
  refine dp_s1 hF (i := .iconst 1) rfl (fun _ => rfl) ?_
  refine dp_s1 hF (i := .goto 4) rfl (fun _ => rfl) ?_
  exact dp_s0 hF (i := .ireturn) rfl (fun _ => rfl)
noncomputable def D_X12_lastOf_0 (xs : Nat → Int32) (xl d : Nat) (v1 : Int32) (v2 : Int32) (M : dp_M) : Option dp_Res := dp_lim true xs xl (dp_den true xs xl d) dp_m_X12_lastOf (0, [some (.ref 114), some (.int v1), some (.int v2), none, none, none], [], M)
noncomputable def D_X12_lastOf_5 (xs : Nat → Int32) (xl d : Nat) (v1 : Int32) (v2 : Int32) (v3 : Int32) (v4 : Int32) (M : dp_M) : Option dp_Res := dp_lim true xs xl (dp_den true xs xl d) dp_m_X12_lastOf (5, [some (.ref 114), some (.int v1), some (.int v2), some (.int v3), some (.int v4), none], [], M)
noncomputable def D_X12_lastOf_5_a (xs : Nat → Int32) (xl d : Nat) (v1 : Int32) (v2 : Int32) (v3 : Int32) (v4 : Int32) (v5 : Int32) (M : dp_M) : Option dp_Res := dp_lim true xs xl (dp_den true xs xl d) dp_m_X12_lastOf (5, [some (.ref 114), some (.int v1), some (.int v2), some (.int v3), some (.int v4), some (.int v5)], [], M)
theorem D_X12_lastOf_0_den (xs : Nat → Int32) (xl d : Nat) (a0 : Int32) (a1 : Int32) (M : dp_M) : dp_den true xs xl (d + 1) 452 [.ref 114, .int a0, .int a1] M = D_X12_lastOf_0 xs xl d a0 a1 M := rfl
set_option maxRecDepth 20000 in
theorem D_X12_lastOf_0_eq (xs : Nat → Int32) (xl d : Nat) (v1 : Int32) (v2 : Int32) (M : dp_M) : D_X12_lastOf_0 xs xl d v1 v2 M = dp_w (0 : Int32) (fun y1 => dp_w (1 : Int32) (fun y2 => D_X12_lastOf_5 xs xl d v1 v2 y1 y2 M)) := by
  have hF := dp_den_grow (md := true) (xs := xs) (xl := xl) d
  unfold D_X12_lastOf_0
  refine dp_s1 hF (i := .iconst 0) rfl (fun _ => rfl) ?_
  refine dp_s1w (0 : Int32) (fun (y1 : Int32) => (2, [some (.ref 114), some (.int v1), some (.int v2), some (.int y1), none, none], [], M)) hF (i := .istore_n 3) rfl (fun _ => rfl) (fun y1 => ?_)
  refine dp_s1 hF (i := .iconst 1) rfl (fun _ => rfl) ?_
  refine dp_s1w (1 : Int32) (fun (y2 : Int32) => (5, [some (.ref 114), some (.int v1), some (.int v2), some (.int y1), some (.int y2), none], [], M)) hF (i := .istore 4) rfl (fun _ => rfl) (fun y2 => ?_)
  exact rfl
set_option maxRecDepth 20000 in
theorem D_X12_lastOf_5_eq (xs : Nat → Int32) (xl d : Nat) (v1 : Int32) (v2 : Int32) (v3 : Int32) (v4 : Int32) (M : dp_M) : D_X12_lastOf_5 xs xl d v1 v2 v3 v4 M = if v1 < 0 ∨ 301 ≤ Int32.toNatClampNeg v1 then none else (if (dp_I M 164 (Int32.toNatClampNeg v1)) ≤ v4 then (if (((8 : Int32) * v1) + v3) < 0 ∨ 2408 ≤ Int32.toNatClampNeg (((8 : Int32) * v1) + v3) then none else (some (.inl (some (.int (dp_I M 165 (Int32.toNatClampNeg (((8 : Int32) * v1) + v3))))), M))) else (dp_w (((8 : Int32) * v1) + v4) (fun y1 => if y1 < 0 ∨ 2408 ≤ Int32.toNatClampNeg y1 then none else (if v2 < (dp_I M 166 (Int32.toNatClampNeg y1)) then (dp_w (v4 + (1 : Int32)) (fun y2 => D_X12_lastOf_5_a xs xl d v1 v2 v3 y2 y1 M)) else (if (((8 : Int32) * v1) + v3) < 0 ∨ 2408 ≤ Int32.toNatClampNeg (((8 : Int32) * v1) + v3) then none else (if v2 < (dp_I M 166 (Int32.toNatClampNeg (((8 : Int32) * v1) + v3))) then (dp_w (v4 + (1 : Int32)) (fun y3 => D_X12_lastOf_5_a xs xl d v1 v2 v4 y3 y1 M)) else (if y1 < 0 ∨ 2408 ≤ Int32.toNatClampNeg y1 then none else (if (((8 : Int32) * v1) + v3) < 0 ∨ 2408 ≤ Int32.toNatClampNeg (((8 : Int32) * v1) + v3) then none else (if (dp_I M 166 (Int32.toNatClampNeg y1)) < (dp_I M 166 (Int32.toNatClampNeg (((8 : Int32) * v1) + v3))) then (dp_w (v4 + (1 : Int32)) (fun y4 => D_X12_lastOf_5_a xs xl d v1 v2 v3 y4 y1 M)) else (dp_w (v4 + (1 : Int32)) (fun y5 => D_X12_lastOf_5_a xs xl d v1 v2 v4 y5 y1 M))))))))))) := by
  have hF := dp_den_grow (md := true) (xs := xs) (xl := xl) d
  unfold D_X12_lastOf_5
  refine dp_s1 hF (i := .iload 4) rfl (fun _ => rfl) ?_
  refine dp_s1 hF (i := .aload_n 0) rfl (fun _ => rfl) ?_
  refine dp_s1 hF (i := .getfield 163) rfl (fun _ => rfl) ?_
  refine dp_s1 hF (i := .iload_n 1) rfl (fun _ => rfl) ?_
  refine dp_s3 hF (i := .iaload) rfl (fun _ => rfl) ?_
  refine dp_s2 hF (i := .if_icmp .ge 72) (a := (85, [some (.ref 114), some (.int v1), some (.int v2), some (.int v3), some (.int v4), none], [], M)) (b := (16, [some (.ref 114), some (.int v1), some (.int v2), some (.int v3), some (.int v4), none], [], M)) rfl (fun _ => rfl) ?_ ?_
  · refine dp_s1 hF (i := .aload_n 0) rfl (fun _ => rfl) ?_
    refine dp_s1 hF (i := .getfield 166) rfl (fun _ => rfl) ?_
    refine dp_s1 hF (i := .bipush 8) rfl (fun _ => rfl) ?_
    refine dp_s1 hF (i := .iload_n 1) rfl (fun _ => rfl) ?_
    refine dp_s1 hF (i := .imul) rfl (fun _ => rfl) ?_
    refine dp_s1 hF (i := .iload_n 3) rfl (fun _ => rfl) ?_
    refine dp_s1 hF (i := .iadd) rfl (fun _ => rfl) ?_
    refine dp_s3 hF (i := .iaload) rfl (fun _ => rfl) ?_
    exact dp_s0 hF (i := .ireturn) rfl (fun _ => rfl)
  refine dp_s1 hF (i := .bipush 8) rfl (fun _ => rfl) ?_
  refine dp_s1 hF (i := .iload_n 1) rfl (fun _ => rfl) ?_
  refine dp_s1 hF (i := .imul) rfl (fun _ => rfl) ?_
  refine dp_s1 hF (i := .iload 4) rfl (fun _ => rfl) ?_
  refine dp_s1 hF (i := .iadd) rfl (fun _ => rfl) ?_
  refine dp_s1w (((8 : Int32) * v1) + v4) (fun (y1 : Int32) => (25, [some (.ref 114), some (.int v1), some (.int v2), some (.int v3), some (.int v4), some (.int y1)], [], M)) hF (i := .istore 5) rfl (fun _ => rfl) (fun y1 => ?_)
  refine dp_s1 hF (i := .aload_n 0) rfl (fun _ => rfl) ?_
  refine dp_s1 hF (i := .getfield 169) rfl (fun _ => rfl) ?_
  refine dp_s1 hF (i := .iload 5) rfl (fun _ => rfl) ?_
  refine dp_s3 hF (i := .iaload) rfl (fun _ => rfl) ?_
  refine dp_s1 hF (i := .iload_n 2) rfl (fun _ => rfl) ?_
  refine dp_s2 hF (i := .if_icmp .gt 44) (a := (77, [some (.ref 114), some (.int v1), some (.int v2), some (.int v3), some (.int v4), some (.int y1)], [], M)) (b := (36, [some (.ref 114), some (.int v1), some (.int v2), some (.int v3), some (.int v4), some (.int y1)], [], M)) rfl (fun _ => rfl) ?_ ?_
  · refine dp_s1 hF (i := .iload_n 3) rfl (fun _ => rfl) ?_
    refine dp_s1 hF (i := .istore_n 3) rfl (fun _ => rfl) ?_
    refine dp_s1w (v4 + (1 : Int32)) (fun (y2 : Int32) => (82, [some (.ref 114), some (.int v1), some (.int v2), some (.int v3), some (.int y2), some (.int y1)], [], M)) hF (i := .iinc 4 1) rfl (fun _ => rfl) (fun y2 => ?_)
    refine dp_s1 hF (i := .goto (-77)) rfl (fun _ => rfl) ?_
    exact rfl
  refine dp_s1 hF (i := .aload_n 0) rfl (fun _ => rfl) ?_
  refine dp_s1 hF (i := .getfield 169) rfl (fun _ => rfl) ?_
  refine dp_s1 hF (i := .bipush 8) rfl (fun _ => rfl) ?_
  refine dp_s1 hF (i := .iload_n 1) rfl (fun _ => rfl) ?_
  refine dp_s1 hF (i := .imul) rfl (fun _ => rfl) ?_
  refine dp_s1 hF (i := .iload_n 3) rfl (fun _ => rfl) ?_
  refine dp_s1 hF (i := .iadd) rfl (fun _ => rfl) ?_
  refine dp_s3 hF (i := .iaload) rfl (fun _ => rfl) ?_
  refine dp_s1 hF (i := .iload_n 2) rfl (fun _ => rfl) ?_
  refine dp_s2 hF (i := .if_icmp .gt 24) (a := (72, [some (.ref 114), some (.int v1), some (.int v2), some (.int v3), some (.int v4), some (.int y1)], [], M)) (b := (51, [some (.ref 114), some (.int v1), some (.int v2), some (.int v3), some (.int v4), some (.int y1)], [], M)) rfl (fun _ => rfl) ?_ ?_
  · refine dp_s1 hF (i := .iload 4) rfl (fun _ => rfl) ?_
    refine dp_s1 hF (i := .goto 4) rfl (fun _ => rfl) ?_
    refine dp_s1 hF (i := .istore_n 3) rfl (fun _ => rfl) ?_
    refine dp_s1w (v4 + (1 : Int32)) (fun (y3 : Int32) => (82, [some (.ref 114), some (.int v1), some (.int v2), some (.int v4), some (.int y3), some (.int y1)], [], M)) hF (i := .iinc 4 1) rfl (fun _ => rfl) (fun y3 => ?_)
    refine dp_s1 hF (i := .goto (-77)) rfl (fun _ => rfl) ?_
    exact rfl
  refine dp_s1 hF (i := .aload_n 0) rfl (fun _ => rfl) ?_
  refine dp_s1 hF (i := .getfield 169) rfl (fun _ => rfl) ?_
  refine dp_s1 hF (i := .iload 5) rfl (fun _ => rfl) ?_
  refine dp_s3 hF (i := .iaload) rfl (fun _ => rfl) ?_
  refine dp_s1 hF (i := .aload_n 0) rfl (fun _ => rfl) ?_
  refine dp_s1 hF (i := .getfield 169) rfl (fun _ => rfl) ?_
  refine dp_s1 hF (i := .bipush 8) rfl (fun _ => rfl) ?_
  refine dp_s1 hF (i := .iload_n 1) rfl (fun _ => rfl) ?_
  refine dp_s1 hF (i := .imul) rfl (fun _ => rfl) ?_
  refine dp_s1 hF (i := .iload_n 3) rfl (fun _ => rfl) ?_
  refine dp_s1 hF (i := .iadd) rfl (fun _ => rfl) ?_
  refine dp_s3 hF (i := .iaload) rfl (fun _ => rfl) ?_
  refine dp_s2 hF (i := .if_icmp .lt 8) (a := (77, [some (.ref 114), some (.int v1), some (.int v2), some (.int v3), some (.int v4), some (.int y1)], [], M)) (b := (72, [some (.ref 114), some (.int v1), some (.int v2), some (.int v3), some (.int v4), some (.int y1)], [], M)) rfl (fun _ => rfl) ?_ ?_
  · refine dp_s1 hF (i := .iload_n 3) rfl (fun _ => rfl) ?_
    refine dp_s1 hF (i := .istore_n 3) rfl (fun _ => rfl) ?_
    refine dp_s1w (v4 + (1 : Int32)) (fun (y4 : Int32) => (82, [some (.ref 114), some (.int v1), some (.int v2), some (.int v3), some (.int y4), some (.int y1)], [], M)) hF (i := .iinc 4 1) rfl (fun _ => rfl) (fun y4 => ?_)
    refine dp_s1 hF (i := .goto (-77)) rfl (fun _ => rfl) ?_
    exact rfl
  refine dp_s1 hF (i := .iload 4) rfl (fun _ => rfl) ?_
  refine dp_s1 hF (i := .goto 4) rfl (fun _ => rfl) ?_
  refine dp_s1 hF (i := .istore_n 3) rfl (fun _ => rfl) ?_
  refine dp_s1w (v4 + (1 : Int32)) (fun (y5 : Int32) => (82, [some (.ref 114), some (.int v1), some (.int v2), some (.int v4), some (.int y5), some (.int y1)], [], M)) hF (i := .iinc 4 1) rfl (fun _ => rfl) (fun y5 => ?_)
  refine dp_s1 hF (i := .goto (-77)) rfl (fun _ => rfl) ?_
  exact rfl
set_option maxRecDepth 20000 in
theorem D_X12_lastOf_5_a_eq (xs : Nat → Int32) (xl d : Nat) (v1 : Int32) (v2 : Int32) (v3 : Int32) (v4 : Int32) (v5 : Int32) (M : dp_M) : D_X12_lastOf_5_a xs xl d v1 v2 v3 v4 v5 M = if v1 < 0 ∨ 301 ≤ Int32.toNatClampNeg v1 then none else (if (dp_I M 164 (Int32.toNatClampNeg v1)) ≤ v4 then (if (((8 : Int32) * v1) + v3) < 0 ∨ 2408 ≤ Int32.toNatClampNeg (((8 : Int32) * v1) + v3) then none else (some (.inl (some (.int (dp_I M 165 (Int32.toNatClampNeg (((8 : Int32) * v1) + v3))))), M))) else (dp_w (((8 : Int32) * v1) + v4) (fun y1 => if y1 < 0 ∨ 2408 ≤ Int32.toNatClampNeg y1 then none else (if v2 < (dp_I M 166 (Int32.toNatClampNeg y1)) then (dp_w (v4 + (1 : Int32)) (fun y2 => D_X12_lastOf_5_a xs xl d v1 v2 v3 y2 y1 M)) else (if (((8 : Int32) * v1) + v3) < 0 ∨ 2408 ≤ Int32.toNatClampNeg (((8 : Int32) * v1) + v3) then none else (if v2 < (dp_I M 166 (Int32.toNatClampNeg (((8 : Int32) * v1) + v3))) then (dp_w (v4 + (1 : Int32)) (fun y3 => D_X12_lastOf_5_a xs xl d v1 v2 v4 y3 y1 M)) else (if y1 < 0 ∨ 2408 ≤ Int32.toNatClampNeg y1 then none else (if (((8 : Int32) * v1) + v3) < 0 ∨ 2408 ≤ Int32.toNatClampNeg (((8 : Int32) * v1) + v3) then none else (if (dp_I M 166 (Int32.toNatClampNeg y1)) < (dp_I M 166 (Int32.toNatClampNeg (((8 : Int32) * v1) + v3))) then (dp_w (v4 + (1 : Int32)) (fun y4 => D_X12_lastOf_5_a xs xl d v1 v2 v3 y4 y1 M)) else (dp_w (v4 + (1 : Int32)) (fun y5 => D_X12_lastOf_5_a xs xl d v1 v2 v4 y5 y1 M))))))))))) := by
  have hF := dp_den_grow (md := true) (xs := xs) (xl := xl) d
  unfold D_X12_lastOf_5_a
  refine dp_s1 hF (i := .iload 4) rfl (fun _ => rfl) ?_
  refine dp_s1 hF (i := .aload_n 0) rfl (fun _ => rfl) ?_
  refine dp_s1 hF (i := .getfield 163) rfl (fun _ => rfl) ?_
  refine dp_s1 hF (i := .iload_n 1) rfl (fun _ => rfl) ?_
  refine dp_s3 hF (i := .iaload) rfl (fun _ => rfl) ?_
  refine dp_s2 hF (i := .if_icmp .ge 72) (a := (85, [some (.ref 114), some (.int v1), some (.int v2), some (.int v3), some (.int v4), some (.int v5)], [], M)) (b := (16, [some (.ref 114), some (.int v1), some (.int v2), some (.int v3), some (.int v4), some (.int v5)], [], M)) rfl (fun _ => rfl) ?_ ?_
  · refine dp_s1 hF (i := .aload_n 0) rfl (fun _ => rfl) ?_
    refine dp_s1 hF (i := .getfield 166) rfl (fun _ => rfl) ?_
    refine dp_s1 hF (i := .bipush 8) rfl (fun _ => rfl) ?_
    refine dp_s1 hF (i := .iload_n 1) rfl (fun _ => rfl) ?_
    refine dp_s1 hF (i := .imul) rfl (fun _ => rfl) ?_
    refine dp_s1 hF (i := .iload_n 3) rfl (fun _ => rfl) ?_
    refine dp_s1 hF (i := .iadd) rfl (fun _ => rfl) ?_
    refine dp_s3 hF (i := .iaload) rfl (fun _ => rfl) ?_
    exact dp_s0 hF (i := .ireturn) rfl (fun _ => rfl)
  refine dp_s1 hF (i := .bipush 8) rfl (fun _ => rfl) ?_
  refine dp_s1 hF (i := .iload_n 1) rfl (fun _ => rfl) ?_
  refine dp_s1 hF (i := .imul) rfl (fun _ => rfl) ?_
  refine dp_s1 hF (i := .iload 4) rfl (fun _ => rfl) ?_
  refine dp_s1 hF (i := .iadd) rfl (fun _ => rfl) ?_
  refine dp_s1w (((8 : Int32) * v1) + v4) (fun (y1 : Int32) => (25, [some (.ref 114), some (.int v1), some (.int v2), some (.int v3), some (.int v4), some (.int y1)], [], M)) hF (i := .istore 5) rfl (fun _ => rfl) (fun y1 => ?_)
  refine dp_s1 hF (i := .aload_n 0) rfl (fun _ => rfl) ?_
  refine dp_s1 hF (i := .getfield 169) rfl (fun _ => rfl) ?_
  refine dp_s1 hF (i := .iload 5) rfl (fun _ => rfl) ?_
  refine dp_s3 hF (i := .iaload) rfl (fun _ => rfl) ?_
  refine dp_s1 hF (i := .iload_n 2) rfl (fun _ => rfl) ?_
  refine dp_s2 hF (i := .if_icmp .gt 44) (a := (77, [some (.ref 114), some (.int v1), some (.int v2), some (.int v3), some (.int v4), some (.int y1)], [], M)) (b := (36, [some (.ref 114), some (.int v1), some (.int v2), some (.int v3), some (.int v4), some (.int y1)], [], M)) rfl (fun _ => rfl) ?_ ?_
  · refine dp_s1 hF (i := .iload_n 3) rfl (fun _ => rfl) ?_
    refine dp_s1 hF (i := .istore_n 3) rfl (fun _ => rfl) ?_
    refine dp_s1w (v4 + (1 : Int32)) (fun (y2 : Int32) => (82, [some (.ref 114), some (.int v1), some (.int v2), some (.int v3), some (.int y2), some (.int y1)], [], M)) hF (i := .iinc 4 1) rfl (fun _ => rfl) (fun y2 => ?_)
    refine dp_s1 hF (i := .goto (-77)) rfl (fun _ => rfl) ?_
    exact rfl
  refine dp_s1 hF (i := .aload_n 0) rfl (fun _ => rfl) ?_
  refine dp_s1 hF (i := .getfield 169) rfl (fun _ => rfl) ?_
  refine dp_s1 hF (i := .bipush 8) rfl (fun _ => rfl) ?_
  refine dp_s1 hF (i := .iload_n 1) rfl (fun _ => rfl) ?_
  refine dp_s1 hF (i := .imul) rfl (fun _ => rfl) ?_
  refine dp_s1 hF (i := .iload_n 3) rfl (fun _ => rfl) ?_
  refine dp_s1 hF (i := .iadd) rfl (fun _ => rfl) ?_
  refine dp_s3 hF (i := .iaload) rfl (fun _ => rfl) ?_
  refine dp_s1 hF (i := .iload_n 2) rfl (fun _ => rfl) ?_
  refine dp_s2 hF (i := .if_icmp .gt 24) (a := (72, [some (.ref 114), some (.int v1), some (.int v2), some (.int v3), some (.int v4), some (.int y1)], [], M)) (b := (51, [some (.ref 114), some (.int v1), some (.int v2), some (.int v3), some (.int v4), some (.int y1)], [], M)) rfl (fun _ => rfl) ?_ ?_
  · refine dp_s1 hF (i := .iload 4) rfl (fun _ => rfl) ?_
    refine dp_s1 hF (i := .goto 4) rfl (fun _ => rfl) ?_
    refine dp_s1 hF (i := .istore_n 3) rfl (fun _ => rfl) ?_
    refine dp_s1w (v4 + (1 : Int32)) (fun (y3 : Int32) => (82, [some (.ref 114), some (.int v1), some (.int v2), some (.int v4), some (.int y3), some (.int y1)], [], M)) hF (i := .iinc 4 1) rfl (fun _ => rfl) (fun y3 => ?_)
    refine dp_s1 hF (i := .goto (-77)) rfl (fun _ => rfl) ?_
    exact rfl
  refine dp_s1 hF (i := .aload_n 0) rfl (fun _ => rfl) ?_
  refine dp_s1 hF (i := .getfield 169) rfl (fun _ => rfl) ?_
  refine dp_s1 hF (i := .iload 5) rfl (fun _ => rfl) ?_
  refine dp_s3 hF (i := .iaload) rfl (fun _ => rfl) ?_
  refine dp_s1 hF (i := .aload_n 0) rfl (fun _ => rfl) ?_
  refine dp_s1 hF (i := .getfield 169) rfl (fun _ => rfl) ?_
  refine dp_s1 hF (i := .bipush 8) rfl (fun _ => rfl) ?_
  refine dp_s1 hF (i := .iload_n 1) rfl (fun _ => rfl) ?_
  refine dp_s1 hF (i := .imul) rfl (fun _ => rfl) ?_
  refine dp_s1 hF (i := .iload_n 3) rfl (fun _ => rfl) ?_
  refine dp_s1 hF (i := .iadd) rfl (fun _ => rfl) ?_
  refine dp_s3 hF (i := .iaload) rfl (fun _ => rfl) ?_
  refine dp_s2 hF (i := .if_icmp .lt 8) (a := (77, [some (.ref 114), some (.int v1), some (.int v2), some (.int v3), some (.int v4), some (.int y1)], [], M)) (b := (72, [some (.ref 114), some (.int v1), some (.int v2), some (.int v3), some (.int v4), some (.int y1)], [], M)) rfl (fun _ => rfl) ?_ ?_
  · refine dp_s1 hF (i := .iload_n 3) rfl (fun _ => rfl) ?_
    refine dp_s1 hF (i := .istore_n 3) rfl (fun _ => rfl) ?_
    refine dp_s1w (v4 + (1 : Int32)) (fun (y4 : Int32) => (82, [some (.ref 114), some (.int v1), some (.int v2), some (.int v3), some (.int y4), some (.int y1)], [], M)) hF (i := .iinc 4 1) rfl (fun _ => rfl) (fun y4 => ?_)
    refine dp_s1 hF (i := .goto (-77)) rfl (fun _ => rfl) ?_
    exact rfl
  refine dp_s1 hF (i := .iload 4) rfl (fun _ => rfl) ?_
  refine dp_s1 hF (i := .goto 4) rfl (fun _ => rfl) ?_
  refine dp_s1 hF (i := .istore_n 3) rfl (fun _ => rfl) ?_
  refine dp_s1w (v4 + (1 : Int32)) (fun (y5 : Int32) => (82, [some (.ref 114), some (.int v1), some (.int v2), some (.int v4), some (.int y5), some (.int y1)], [], M)) hF (i := .iinc 4 1) rfl (fun _ => rfl) (fun y5 => ?_)
  refine dp_s1 hF (i := .goto (-77)) rfl (fun _ => rfl) ?_
  exact rfl
noncomputable def D_X12_row_0 (xs : Nat → Int32) (xl d : Nat) (v1 : Int32) (v2 : Int32) (v3 : Int32) (v4 : Int32) (v5 : Int32) (v6 : Int32) (v7 : Int32) (M : dp_M) : Option dp_Res := dp_lim true xs xl (dp_den true xs xl d) dp_m_X12_row (0, [some (.ref 114), some (.int v1), some (.int v2), some (.int v3), some (.int v4), some (.int v5), some (.int v6), some (.int v7), none], [], M)
noncomputable def D_X12_row_25 (xs : Nat → Int32) (xl d : Nat) (v1 : Int32) (v2 : Int32) (v3 : Int32) (v4 : Int32) (v5 : Int32) (v6 : Int32) (v7 : Int32) (M : dp_M) : Option dp_Res := dp_lim true xs xl (dp_den true xs xl d) dp_m_X12_row (25, [some (.ref 114), some (.int v1), some (.int v2), some (.int v3), some (.int v4), some (.int v5), some (.int v6), some (.int v7), none], [], M)
noncomputable def D_X12_row_48 (xs : Nat → Int32) (xl d : Nat) (v1 : Int32) (v2 : Int32) (v3 : Int32) (v4 : Int32) (v5 : Int32) (v6 : Int32) (v7 : Int32) (M : dp_M) : Option dp_Res := dp_lim true xs xl (dp_den true xs xl d) dp_m_X12_row (48, [some (.ref 114), some (.int v1), some (.int v2), some (.int v3), some (.int v4), some (.int v5), some (.int v6), some (.int v7), none], [], M)
noncomputable def D_X12_row_118 (xs : Nat → Int32) (xl d : Nat) (v1 : Int32) (v2 : Int32) (v3 : Int32) (v4 : Int32) (v5 : Int32) (v6 : Int32) (v7 : Int32) (v8 : Int32) (M : dp_M) : Option dp_Res := dp_lim true xs xl (dp_den true xs xl d) dp_m_X12_row (118, [some (.ref 114), some (.int v1), some (.int v2), some (.int v3), some (.int v4), some (.int v5), some (.int v6), some (.int v7), some (.int v8)], [], M)
theorem D_X12_row_0_den (xs : Nat → Int32) (xl d : Nat) (a0 : Int32) (a1 : Int32) (a2 : Int32) (a3 : Int32) (a4 : Int32) (a5 : Int32) (a6 : Int32) (M : dp_M) : dp_den true xs xl (d + 1) 453 [.ref 114, .int a0, .int a1, .int a2, .int a3, .int a4, .int a5, .int a6] M = D_X12_row_0 xs xl d a0 a1 a2 a3 a4 a5 a6 M := rfl
set_option maxRecDepth 20000 in
theorem D_X12_row_0_eq (xs : Nat → Int32) (xl d : Nat) (v1 : Int32) (v2 : Int32) (v3 : Int32) (v4 : Int32) (v5 : Int32) (v6 : Int32) (v7 : Int32) (M : dp_M) : D_X12_row_0 xs xl d v1 v2 v3 v4 v5 v6 v7 M = dp_bi (dp_den true xs xl d 446 [.int v1] M) (fun r2 M1 => if r2 = 0 then (dp_bi (dp_den true xs xl d 366 [.ref 114, .int (1 : Int32)] M1) (fun r4 M3 => some (.inl (some (.int r4)), M3))) else (dp_bi (dp_den true xs xl d 367 [.long (Int32.toInt64 v2), .long (0 : Int64), .long (23 : Int64)] M1) (fun r6 M5 => if r6 = 0 then (if v2 = (31 : Int32) then (D_X12_row_25 xs xl d v1 v2 v3 v4 v5 v6 v7 M5) else (dp_bi (dp_den true xs xl d 366 [.ref 114, .int (1 : Int32)] M5) (fun r8 M7 => some (.inl (some (.int r8)), M7)))) else (D_X12_row_25 xs xl d v1 v2 v3 v4 v5 v6 v7 M5)))) := by
  have hF := dp_den_grow (md := true) (xs := xs) (xl := xl) d
  unfold D_X12_row_0
  refine dp_s1 hF (i := .iload_n 1) rfl (fun _ => rfl) ?_
  refine dp_si (mj := dp_m_X12_digitsOf) (i := .invokestatic 669) rfl rfl (Or.inl rfl) rfl (fun _ => rfl) (fun r2 M1 => ?_)
  refine dp_s2 hF (i := .ifCond .eq 84) (a := (88, [some (.ref 114), some (.int v1), some (.int v2), some (.int v3), some (.int v4), some (.int v5), some (.int v6), some (.int v7), none], [], M1)) (b := (7, [some (.ref 114), some (.int v1), some (.int v2), some (.int v3), some (.int v4), some (.int v5), some (.int v6), some (.int v7), none], [], M1)) rfl (fun _ => rfl) ?_ ?_
  · refine dp_s1 hF (i := .aload_n 0) rfl (fun _ => rfl) ?_
    refine dp_s1 hF (i := .iconst 1) rfl (fun _ => rfl) ?_
    refine dp_si (mj := dp_m_X12_refuse) (i := .invokevirtual 460) rfl rfl (Or.inl rfl) rfl (fun _ => rfl) (fun r4 M3 => ?_)
    exact dp_s0 hF (i := .ireturn) rfl (fun _ => rfl)
  refine dp_s1 hF (i := .iload_n 2) rfl (fun _ => rfl) ?_
  refine dp_s1 hF (i := .i2l) rfl (fun _ => rfl) ?_
  refine dp_s1 hF (i := .lconst 0) rfl (fun _ => rfl) ?_
  refine dp_s1 hF (i := .ldc2_w 643) rfl (fun _ => rfl) ?_
  refine dp_si (mj := dp_m_X12_in) (i := .invokestatic 446) rfl rfl (Or.inr rfl) rfl (fun _ => rfl) (fun r6 M5 => ?_)
  refine dp_s2 hF (i := .ifCond .ne 9) (a := (19, [some (.ref 114), some (.int v1), some (.int v2), some (.int v3), some (.int v4), some (.int v5), some (.int v6), some (.int v7), none], [], M5)) (b := (25, [some (.ref 114), some (.int v1), some (.int v2), some (.int v3), some (.int v4), some (.int v5), some (.int v6), some (.int v7), none], [], M5)) rfl (fun _ => rfl) ?_ ?_
  · refine dp_s1 hF (i := .iload_n 2) rfl (fun _ => rfl) ?_
    refine dp_s1 hF (i := .bipush 31) rfl (fun _ => rfl) ?_
    refine dp_s2 hF (i := .if_icmp .ne 66) (a := (25, [some (.ref 114), some (.int v1), some (.int v2), some (.int v3), some (.int v4), some (.int v5), some (.int v6), some (.int v7), none], [], M5)) (b := (88, [some (.ref 114), some (.int v1), some (.int v2), some (.int v3), some (.int v4), some (.int v5), some (.int v6), some (.int v7), none], [], M5)) rfl (fun _ => rfl) ?_ ?_
    · exact rfl
    refine dp_s1 hF (i := .aload_n 0) rfl (fun _ => rfl) ?_
    refine dp_s1 hF (i := .iconst 1) rfl (fun _ => rfl) ?_
    refine dp_si (mj := dp_m_X12_refuse) (i := .invokevirtual 460) rfl rfl (Or.inl rfl) rfl (fun _ => rfl) (fun r8 M7 => ?_)
    exact dp_s0 hF (i := .ireturn) rfl (fun _ => rfl)
  exact rfl
set_option maxRecDepth 20000 in
theorem D_X12_row_25_eq (xs : Nat → Int32) (xl d : Nat) (v1 : Int32) (v2 : Int32) (v3 : Int32) (v4 : Int32) (v5 : Int32) (v6 : Int32) (v7 : Int32) (M : dp_M) : D_X12_row_25 xs xl d v1 v2 v3 v4 v5 v6 v7 M = dp_bi (dp_den true xs xl d 445 [.int v3] M) (fun r2 M1 => if r2 = 0 then (dp_bi (dp_den true xs xl d 366 [.ref 114, .int (1 : Int32)] M1) (fun r4 M3 => some (.inl (some (.int r4)), M3))) else (dp_bi (dp_den true xs xl d 445 [.int v4] M1) (fun r6 M5 => if r6 = 0 then (if v4 = (20000 : Int32) then (D_X12_row_48 xs xl d v1 v2 v3 v4 v5 v6 v7 M5) else (dp_bi (dp_den true xs xl d 366 [.ref 114, .int (1 : Int32)] M5) (fun r8 M7 => some (.inl (some (.int r8)), M7)))) else (D_X12_row_48 xs xl d v1 v2 v3 v4 v5 v6 v7 M5)))) := by
  have hF := dp_den_grow (md := true) (xs := xs) (xl := xl) d
  unfold D_X12_row_25
  refine dp_s1 hF (i := .iload_n 3) rfl (fun _ => rfl) ?_
  refine dp_si (mj := dp_m_X12_isDay) (i := .invokestatic 672) rfl rfl (Or.inr rfl) rfl (fun _ => rfl) (fun r2 M1 => ?_)
  refine dp_s2 hF (i := .ifCond .eq 59) (a := (88, [some (.ref 114), some (.int v1), some (.int v2), some (.int v3), some (.int v4), some (.int v5), some (.int v6), some (.int v7), none], [], M1)) (b := (32, [some (.ref 114), some (.int v1), some (.int v2), some (.int v3), some (.int v4), some (.int v5), some (.int v6), some (.int v7), none], [], M1)) rfl (fun _ => rfl) ?_ ?_
  · refine dp_s1 hF (i := .aload_n 0) rfl (fun _ => rfl) ?_
    refine dp_s1 hF (i := .iconst 1) rfl (fun _ => rfl) ?_
    refine dp_si (mj := dp_m_X12_refuse) (i := .invokevirtual 460) rfl rfl (Or.inl rfl) rfl (fun _ => rfl) (fun r4 M3 => ?_)
    exact dp_s0 hF (i := .ireturn) rfl (fun _ => rfl)
  refine dp_s1 hF (i := .iload 4) rfl (fun _ => rfl) ?_
  refine dp_si (mj := dp_m_X12_isDay) (i := .invokestatic 672) rfl rfl (Or.inr rfl) rfl (fun _ => rfl) (fun r6 M5 => ?_)
  refine dp_s2 hF (i := .ifCond .ne 11) (a := (40, [some (.ref 114), some (.int v1), some (.int v2), some (.int v3), some (.int v4), some (.int v5), some (.int v6), some (.int v7), none], [], M5)) (b := (48, [some (.ref 114), some (.int v1), some (.int v2), some (.int v3), some (.int v4), some (.int v5), some (.int v6), some (.int v7), none], [], M5)) rfl (fun _ => rfl) ?_ ?_
  · refine dp_s1 hF (i := .iload 4) rfl (fun _ => rfl) ?_
    refine dp_s1 hF (i := .sipush 20000) rfl (fun _ => rfl) ?_
    refine dp_s2 hF (i := .if_icmp .ne 43) (a := (48, [some (.ref 114), some (.int v1), some (.int v2), some (.int v3), some (.int v4), some (.int v5), some (.int v6), some (.int v7), none], [], M5)) (b := (88, [some (.ref 114), some (.int v1), some (.int v2), some (.int v3), some (.int v4), some (.int v5), some (.int v6), some (.int v7), none], [], M5)) rfl (fun _ => rfl) ?_ ?_
    · exact rfl
    refine dp_s1 hF (i := .aload_n 0) rfl (fun _ => rfl) ?_
    refine dp_s1 hF (i := .iconst 1) rfl (fun _ => rfl) ?_
    refine dp_si (mj := dp_m_X12_refuse) (i := .invokevirtual 460) rfl rfl (Or.inl rfl) rfl (fun _ => rfl) (fun r8 M7 => ?_)
    exact dp_s0 hF (i := .ireturn) rfl (fun _ => rfl)
  exact rfl
set_option maxRecDepth 20000 in
theorem D_X12_row_48_eq (xs : Nat → Int32) (xl d : Nat) (v1 : Int32) (v2 : Int32) (v3 : Int32) (v4 : Int32) (v5 : Int32) (v6 : Int32) (v7 : Int32) (M : dp_M) : D_X12_row_48 xs xl d v1 v2 v3 v4 v5 v6 v7 M = if v4 < v3 then (dp_bi (dp_den true xs xl d 366 [.ref 114, .int (1 : Int32)] M) (fun r2 M1 => some (.inl (some (.int r2)), M1))) else (dp_bi (dp_den true xs xl d 367 [.long (Int32.toInt64 v5), .long (0 : Int64), .long (7 : Int64)] M) (fun r4 M3 => if r4 = 0 then (dp_bi (dp_den true xs xl d 366 [.ref 114, .int (1 : Int32)] M3) (fun r6 M5 => some (.inl (some (.int r6)), M5))) else (dp_bi (dp_den true xs xl d 367 [.long (Int32.toInt64 v6), .long (0 : Int64), .long (9 : Int64)] M3) (fun r8 M7 => if r8 = 0 then (dp_bi (dp_den true xs xl d 366 [.ref 114, .int (1 : Int32)] M7) (fun r10 M9 => some (.inl (some (.int r10)), M9))) else (dp_bi (dp_den true xs xl d 445 [.int v7] M7) (fun r12 M11 => if r12 = 0 then (dp_bi (dp_den true xs xl d 366 [.ref 114, .int (1 : Int32)] M11) (fun r14 M13 => some (.inl (some (.int r14)), M13))) else (if (dp_I M11 114 55) = (300 : Int32) then (dp_bi (dp_den true xs xl d 366 [.ref 114, .int (2 : Int32)] M11) (fun r16 M15 => some (.inl (some (.int r16)), M15))) else (dp_w (dp_setI M11 114 0 (0 : Int32)) (fun M17 => dp_w (1 : Int32) (fun y18 => D_X12_row_118 xs xl d v1 v2 v3 v4 v5 v6 v7 y18 M17)))))))))) := by
  have hF := dp_den_grow (md := true) (xs := xs) (xl := xl) d
  unfold D_X12_row_48
  refine dp_s1 hF (i := .iload 4) rfl (fun _ => rfl) ?_
  refine dp_s1 hF (i := .iload_n 3) rfl (fun _ => rfl) ?_
  refine dp_s2 hF (i := .if_icmp .lt 37) (a := (88, [some (.ref 114), some (.int v1), some (.int v2), some (.int v3), some (.int v4), some (.int v5), some (.int v6), some (.int v7), none], [], M)) (b := (54, [some (.ref 114), some (.int v1), some (.int v2), some (.int v3), some (.int v4), some (.int v5), some (.int v6), some (.int v7), none], [], M)) rfl (fun _ => rfl) ?_ ?_
  · refine dp_s1 hF (i := .aload_n 0) rfl (fun _ => rfl) ?_
    refine dp_s1 hF (i := .iconst 1) rfl (fun _ => rfl) ?_
    refine dp_si (mj := dp_m_X12_refuse) (i := .invokevirtual 460) rfl rfl (Or.inl rfl) rfl (fun _ => rfl) (fun r2 M1 => ?_)
    exact dp_s0 hF (i := .ireturn) rfl (fun _ => rfl)
  refine dp_s1 hF (i := .iload 5) rfl (fun _ => rfl) ?_
  refine dp_s1 hF (i := .i2l) rfl (fun _ => rfl) ?_
  refine dp_s1 hF (i := .lconst 0) rfl (fun _ => rfl) ?_
  refine dp_s1 hF (i := .ldc2_w 477) rfl (fun _ => rfl) ?_
  refine dp_si (mj := dp_m_X12_in) (i := .invokestatic 446) rfl rfl (Or.inr rfl) rfl (fun _ => rfl) (fun r4 M3 => ?_)
  refine dp_s2 hF (i := .ifCond .eq 24) (a := (88, [some (.ref 114), some (.int v1), some (.int v2), some (.int v3), some (.int v4), some (.int v5), some (.int v6), some (.int v7), none], [], M3)) (b := (67, [some (.ref 114), some (.int v1), some (.int v2), some (.int v3), some (.int v4), some (.int v5), some (.int v6), some (.int v7), none], [], M3)) rfl (fun _ => rfl) ?_ ?_
  · refine dp_s1 hF (i := .aload_n 0) rfl (fun _ => rfl) ?_
    refine dp_s1 hF (i := .iconst 1) rfl (fun _ => rfl) ?_
    refine dp_si (mj := dp_m_X12_refuse) (i := .invokevirtual 460) rfl rfl (Or.inl rfl) rfl (fun _ => rfl) (fun r6 M5 => ?_)
    exact dp_s0 hF (i := .ireturn) rfl (fun _ => rfl)
  refine dp_s1 hF (i := .iload 6) rfl (fun _ => rfl) ?_
  refine dp_s1 hF (i := .i2l) rfl (fun _ => rfl) ?_
  refine dp_s1 hF (i := .lconst 0) rfl (fun _ => rfl) ?_
  refine dp_s1 hF (i := .ldc2_w 458) rfl (fun _ => rfl) ?_
  refine dp_si (mj := dp_m_X12_in) (i := .invokestatic 446) rfl rfl (Or.inr rfl) rfl (fun _ => rfl) (fun r8 M7 => ?_)
  refine dp_s2 hF (i := .ifCond .eq 11) (a := (88, [some (.ref 114), some (.int v1), some (.int v2), some (.int v3), some (.int v4), some (.int v5), some (.int v6), some (.int v7), none], [], M7)) (b := (80, [some (.ref 114), some (.int v1), some (.int v2), some (.int v3), some (.int v4), some (.int v5), some (.int v6), some (.int v7), none], [], M7)) rfl (fun _ => rfl) ?_ ?_
  · refine dp_s1 hF (i := .aload_n 0) rfl (fun _ => rfl) ?_
    refine dp_s1 hF (i := .iconst 1) rfl (fun _ => rfl) ?_
    refine dp_si (mj := dp_m_X12_refuse) (i := .invokevirtual 460) rfl rfl (Or.inl rfl) rfl (fun _ => rfl) (fun r10 M9 => ?_)
    exact dp_s0 hF (i := .ireturn) rfl (fun _ => rfl)
  refine dp_s1 hF (i := .iload 7) rfl (fun _ => rfl) ?_
  refine dp_si (mj := dp_m_X12_isDay) (i := .invokestatic 672) rfl rfl (Or.inr rfl) rfl (fun _ => rfl) (fun r12 M11 => ?_)
  refine dp_s2 hF (i := .ifCond .ne 9) (a := (88, [some (.ref 114), some (.int v1), some (.int v2), some (.int v3), some (.int v4), some (.int v5), some (.int v6), some (.int v7), none], [], M11)) (b := (94, [some (.ref 114), some (.int v1), some (.int v2), some (.int v3), some (.int v4), some (.int v5), some (.int v6), some (.int v7), none], [], M11)) rfl (fun _ => rfl) ?_ ?_
  · refine dp_s1 hF (i := .aload_n 0) rfl (fun _ => rfl) ?_
    refine dp_s1 hF (i := .iconst 1) rfl (fun _ => rfl) ?_
    refine dp_si (mj := dp_m_X12_refuse) (i := .invokevirtual 460) rfl rfl (Or.inl rfl) rfl (fun _ => rfl) (fun r14 M13 => ?_)
    exact dp_s0 hF (i := .ireturn) rfl (fun _ => rfl)
  refine dp_s1 hF (i := .aload_n 0) rfl (fun _ => rfl) ?_
  refine dp_s1 hF (i := .getfield 666) rfl (fun _ => rfl) ?_
  refine dp_s1 hF (i := .sipush 300) rfl (fun _ => rfl) ?_
  refine dp_s2 hF (i := .if_icmp .ne 9) (a := (104, [some (.ref 114), some (.int v1), some (.int v2), some (.int v3), some (.int v4), some (.int v5), some (.int v6), some (.int v7), none], [], M11)) (b := (110, [some (.ref 114), some (.int v1), some (.int v2), some (.int v3), some (.int v4), some (.int v5), some (.int v6), some (.int v7), none], [], M11)) rfl (fun _ => rfl) ?_ ?_
  · refine dp_s1 hF (i := .aload_n 0) rfl (fun _ => rfl) ?_
    refine dp_s1 hF (i := .iconst 2) rfl (fun _ => rfl) ?_
    refine dp_si (mj := dp_m_X12_refuse) (i := .invokevirtual 460) rfl rfl (Or.inl rfl) rfl (fun _ => rfl) (fun r16 M15 => ?_)
    exact dp_s0 hF (i := .ireturn) rfl (fun _ => rfl)
  refine dp_s1 hF (i := .aload_n 0) rfl (fun _ => rfl) ?_
  refine dp_s1 hF (i := .iconst 0) rfl (fun _ => rfl) ?_
  refine dp_s1w (dp_setI M11 114 0 (0 : Int32)) (fun (M17 : dp_M) => (115, [some (.ref 114), some (.int v1), some (.int v2), some (.int v3), some (.int v4), some (.int v5), some (.int v6), some (.int v7), none], [], M17)) hF (i := .putfield 1) rfl (fun _ => rfl) (fun M17 => ?_)
  refine dp_s1 hF (i := .iconst 1) rfl (fun _ => rfl) ?_
  refine dp_s1w (1 : Int32) (fun (y18 : Int32) => (118, [some (.ref 114), some (.int v1), some (.int v2), some (.int v3), some (.int v4), some (.int v5), some (.int v6), some (.int v7), some (.int y18)], [], M17)) hF (i := .istore 8) rfl (fun _ => rfl) (fun y18 => ?_)
  exact rfl
set_option maxRecDepth 20000 in
theorem D_X12_row_118_eq (xs : Nat → Int32) (xl d : Nat) (v1 : Int32) (v2 : Int32) (v3 : Int32) (v4 : Int32) (v5 : Int32) (v6 : Int32) (v7 : Int32) (v8 : Int32) (M : dp_M) : D_X12_row_118 xs xl d v1 v2 v3 v4 v5 v6 v7 v8 M = if (dp_I M 114 55) < v8 then (dp_w (dp_setI M 114 55 ((dp_I M 114 55) + (1 : Int32))) (fun M1 => dp_w (dp_I M1 114 55) (fun y2 => if y2 < 0 ∨ 301 ≤ Int32.toNatClampNeg y2 then none else dp_w (dp_setI M1 156 (Int32.toNatClampNeg y2) v1) (fun M3 => if y2 < 0 ∨ 301 ≤ Int32.toNatClampNeg y2 then none else dp_w (dp_setI M3 157 (Int32.toNatClampNeg y2) v2) (fun M4 => if y2 < 0 ∨ 301 ≤ Int32.toNatClampNeg y2 then none else dp_w (dp_setI M4 158 (Int32.toNatClampNeg y2) v3) (fun M5 => if y2 < 0 ∨ 301 ≤ Int32.toNatClampNeg y2 then none else dp_w (dp_setI M5 159 (Int32.toNatClampNeg y2) v5) (fun M6 => if y2 < 0 ∨ 301 ≤ Int32.toNatClampNeg y2 then none else dp_w (dp_setI M6 160 (Int32.toNatClampNeg y2) v6) (fun M7 => if y2 < 0 ∨ 301 ≤ Int32.toNatClampNeg y2 then none else dp_w (dp_setI M7 161 (Int32.toNatClampNeg y2) v7) (fun M8 => if y2 < 0 ∨ 301 ≤ Int32.toNatClampNeg y2 then none else dp_w (dp_setI M8 164 (Int32.toNatClampNeg y2) (1 : Int32)) (fun M9 => if ((8 : Int32) * y2) < 0 ∨ 2408 ≤ Int32.toNatClampNeg ((8 : Int32) * y2) then none else dp_w (dp_setI M9 165 (Int32.toNatClampNeg ((8 : Int32) * y2)) v4) (fun M10 => if ((8 : Int32) * y2) < 0 ∨ 2408 ≤ Int32.toNatClampNeg ((8 : Int32) * y2) then none else dp_w (dp_setI M10 166 (Int32.toNatClampNeg ((8 : Int32) * y2)) v7) (fun M11 => if v7 ≤ (dp_I M11 114 67) then (dp_w (dp_setI M11 114 67 (dp_I M11 114 67)) (fun M12 => some (.inl (some (.int y2)), M12))) else (dp_w (dp_setI M11 114 67 v7) (fun M13 => some (.inl (some (.int y2)), M13))))))))))))))) else (if v8 < 0 ∨ 301 ≤ Int32.toNatClampNeg v8 then none else (if (dp_I M 156 (Int32.toNatClampNeg v8)) = v1 then (if v8 < 0 ∨ 301 ≤ Int32.toNatClampNeg v8 then none else (if (dp_I M 157 (Int32.toNatClampNeg v8)) = v2 then (if v8 < 0 ∨ 301 ≤ Int32.toNatClampNeg v8 then none else (if (dp_I M 159 (Int32.toNatClampNeg v8)) = v5 then (if v8 < 0 ∨ 301 ≤ Int32.toNatClampNeg v8 then none else (if (dp_I M 160 (Int32.toNatClampNeg v8)) = v6 then (if v8 < 0 ∨ 301 ≤ Int32.toNatClampNeg v8 then none else (if v4 < (dp_I M 158 (Int32.toNatClampNeg v8)) then (dp_w (v8 + (1 : Int32)) (fun y14 => D_X12_row_118 xs xl d v1 v2 v3 v4 v5 v6 v7 y14 M)) else (dp_bi (dp_den true xs xl d 452 [.ref 114, .int v8, .int (dp_I M 114 67)] M) (fun r16 M15 => if r16 < v3 then (dp_w (v8 + (1 : Int32)) (fun y17 => D_X12_row_118 xs xl d v1 v2 v3 v4 v5 v6 v7 y17 M15)) else (some (.inl (some (.int ((-1 : Int32) - v8))), M15)))))) else (dp_w (v8 + (1 : Int32)) (fun y18 => D_X12_row_118 xs xl d v1 v2 v3 v4 v5 v6 v7 y18 M)))) else (dp_w (v8 + (1 : Int32)) (fun y19 => D_X12_row_118 xs xl d v1 v2 v3 v4 v5 v6 v7 y19 M)))) else (dp_w (v8 + (1 : Int32)) (fun y20 => D_X12_row_118 xs xl d v1 v2 v3 v4 v5 v6 v7 y20 M)))) else (dp_w (v8 + (1 : Int32)) (fun y21 => D_X12_row_118 xs xl d v1 v2 v3 v4 v5 v6 v7 y21 M)))) := by
  have hF := dp_den_grow (md := true) (xs := xs) (xl := xl) d
  unfold D_X12_row_118
  refine dp_s1 hF (i := .iload 8) rfl (fun _ => rfl) ?_
  refine dp_s1 hF (i := .aload_n 0) rfl (fun _ => rfl) ?_
  refine dp_s1 hF (i := .getfield 666) rfl (fun _ => rfl) ?_
  refine dp_s2 hF (i := .if_icmp .gt 86) (a := (210, [some (.ref 114), some (.int v1), some (.int v2), some (.int v3), some (.int v4), some (.int v5), some (.int v6), some (.int v7), some (.int v8)], [], M)) (b := (127, [some (.ref 114), some (.int v1), some (.int v2), some (.int v3), some (.int v4), some (.int v5), some (.int v6), some (.int v7), some (.int v8)], [], M)) rfl (fun _ => rfl) ?_ ?_
  · refine dp_s1 hF (i := .aload_n 0) rfl (fun _ => rfl) ?_
    refine dp_s1 hF (i := .dup) rfl (fun _ => rfl) ?_
    refine dp_s1 hF (i := .getfield 666) rfl (fun _ => rfl) ?_
    refine dp_s1 hF (i := .iconst 1) rfl (fun _ => rfl) ?_
    refine dp_s1 hF (i := .iadd) rfl (fun _ => rfl) ?_
    refine dp_s1w (dp_setI M 114 55 ((dp_I M 114 55) + (1 : Int32))) (fun (M1 : dp_M) => (220, [some (.ref 114), some (.int v1), some (.int v2), some (.int v3), some (.int v4), some (.int v5), some (.int v6), some (.int v7), some (.int v8)], [], M1)) hF (i := .putfield 666) rfl (fun _ => rfl) (fun M1 => ?_)
    refine dp_s1 hF (i := .aload_n 0) rfl (fun _ => rfl) ?_
    refine dp_s1 hF (i := .getfield 666) rfl (fun _ => rfl) ?_
    refine dp_s1w (dp_I M1 114 55) (fun (y2 : Int32) => (226, [some (.ref 114), some (.int v1), some (.int v2), some (.int v3), some (.int v4), some (.int v5), some (.int v6), some (.int v7), some (.int y2)], [], M1)) hF (i := .istore 8) rfl (fun _ => rfl) (fun y2 => ?_)
    refine dp_s1 hF (i := .aload_n 0) rfl (fun _ => rfl) ?_
    refine dp_s1 hF (i := .getfield 139) rfl (fun _ => rfl) ?_
    refine dp_s1 hF (i := .iload 8) rfl (fun _ => rfl) ?_
    refine dp_s1 hF (i := .iload_n 1) rfl (fun _ => rfl) ?_
    refine dp_s3w (dp_setI M1 156 (Int32.toNatClampNeg y2) v1) (fun (M3 : dp_M) => (234, [some (.ref 114), some (.int v1), some (.int v2), some (.int v3), some (.int v4), some (.int v5), some (.int v6), some (.int v7), some (.int y2)], [], M3)) hF (i := .iastore) rfl (fun _ => rfl) (fun M3 => ?_)
    refine dp_s1 hF (i := .aload_n 0) rfl (fun _ => rfl) ?_
    refine dp_s1 hF (i := .getfield 142) rfl (fun _ => rfl) ?_
    refine dp_s1 hF (i := .iload 8) rfl (fun _ => rfl) ?_
    refine dp_s1 hF (i := .iload_n 2) rfl (fun _ => rfl) ?_
    refine dp_s3w (dp_setI M3 157 (Int32.toNatClampNeg y2) v2) (fun (M4 : dp_M) => (242, [some (.ref 114), some (.int v1), some (.int v2), some (.int v3), some (.int v4), some (.int v5), some (.int v6), some (.int v7), some (.int y2)], [], M4)) hF (i := .iastore) rfl (fun _ => rfl) (fun M4 => ?_)
    refine dp_s1 hF (i := .aload_n 0) rfl (fun _ => rfl) ?_
    refine dp_s1 hF (i := .getfield 145) rfl (fun _ => rfl) ?_
    refine dp_s1 hF (i := .iload 8) rfl (fun _ => rfl) ?_
    refine dp_s1 hF (i := .iload_n 3) rfl (fun _ => rfl) ?_
    refine dp_s3w (dp_setI M4 158 (Int32.toNatClampNeg y2) v3) (fun (M5 : dp_M) => (250, [some (.ref 114), some (.int v1), some (.int v2), some (.int v3), some (.int v4), some (.int v5), some (.int v6), some (.int v7), some (.int y2)], [], M5)) hF (i := .iastore) rfl (fun _ => rfl) (fun M5 => ?_)
    refine dp_s1 hF (i := .aload_n 0) rfl (fun _ => rfl) ?_
    refine dp_s1 hF (i := .getfield 148) rfl (fun _ => rfl) ?_
    refine dp_s1 hF (i := .iload 8) rfl (fun _ => rfl) ?_
    refine dp_s1 hF (i := .iload 5) rfl (fun _ => rfl) ?_
    refine dp_s3w (dp_setI M5 159 (Int32.toNatClampNeg y2) v5) (fun (M6 : dp_M) => (259, [some (.ref 114), some (.int v1), some (.int v2), some (.int v3), some (.int v4), some (.int v5), some (.int v6), some (.int v7), some (.int y2)], [], M6)) hF (i := .iastore) rfl (fun _ => rfl) (fun M6 => ?_)
    refine dp_s1 hF (i := .aload_n 0) rfl (fun _ => rfl) ?_
    refine dp_s1 hF (i := .getfield 151) rfl (fun _ => rfl) ?_
    refine dp_s1 hF (i := .iload 8) rfl (fun _ => rfl) ?_
    refine dp_s1 hF (i := .iload 6) rfl (fun _ => rfl) ?_
    refine dp_s3w (dp_setI M6 160 (Int32.toNatClampNeg y2) v6) (fun (M7 : dp_M) => (268, [some (.ref 114), some (.int v1), some (.int v2), some (.int v3), some (.int v4), some (.int v5), some (.int v6), some (.int v7), some (.int y2)], [], M7)) hF (i := .iastore) rfl (fun _ => rfl) (fun M7 => ?_)
    refine dp_s1 hF (i := .aload_n 0) rfl (fun _ => rfl) ?_
    refine dp_s1 hF (i := .getfield 154) rfl (fun _ => rfl) ?_
    refine dp_s1 hF (i := .iload 8) rfl (fun _ => rfl) ?_
    refine dp_s1 hF (i := .iload 7) rfl (fun _ => rfl) ?_
    refine dp_s3w (dp_setI M7 161 (Int32.toNatClampNeg y2) v7) (fun (M8 : dp_M) => (277, [some (.ref 114), some (.int v1), some (.int v2), some (.int v3), some (.int v4), some (.int v5), some (.int v6), some (.int v7), some (.int y2)], [], M8)) hF (i := .iastore) rfl (fun _ => rfl) (fun M8 => ?_)
    refine dp_s1 hF (i := .aload_n 0) rfl (fun _ => rfl) ?_
    refine dp_s1 hF (i := .getfield 163) rfl (fun _ => rfl) ?_
    refine dp_s1 hF (i := .iload 8) rfl (fun _ => rfl) ?_
    refine dp_s1 hF (i := .iconst 1) rfl (fun _ => rfl) ?_
    refine dp_s3w (dp_setI M8 164 (Int32.toNatClampNeg y2) (1 : Int32)) (fun (M9 : dp_M) => (285, [some (.ref 114), some (.int v1), some (.int v2), some (.int v3), some (.int v4), some (.int v5), some (.int v6), some (.int v7), some (.int y2)], [], M9)) hF (i := .iastore) rfl (fun _ => rfl) (fun M9 => ?_)
    refine dp_s1 hF (i := .aload_n 0) rfl (fun _ => rfl) ?_
    refine dp_s1 hF (i := .getfield 166) rfl (fun _ => rfl) ?_
    refine dp_s1 hF (i := .bipush 8) rfl (fun _ => rfl) ?_
    refine dp_s1 hF (i := .iload 8) rfl (fun _ => rfl) ?_
    refine dp_s1 hF (i := .imul) rfl (fun _ => rfl) ?_
    refine dp_s1 hF (i := .iload 4) rfl (fun _ => rfl) ?_
    refine dp_s3w (dp_setI M9 165 (Int32.toNatClampNeg ((8 : Int32) * y2)) v4) (fun (M10 : dp_M) => (297, [some (.ref 114), some (.int v1), some (.int v2), some (.int v3), some (.int v4), some (.int v5), some (.int v6), some (.int v7), some (.int y2)], [], M10)) hF (i := .iastore) rfl (fun _ => rfl) (fun M10 => ?_)
    refine dp_s1 hF (i := .aload_n 0) rfl (fun _ => rfl) ?_
    refine dp_s1 hF (i := .getfield 169) rfl (fun _ => rfl) ?_
    refine dp_s1 hF (i := .bipush 8) rfl (fun _ => rfl) ?_
    refine dp_s1 hF (i := .iload 8) rfl (fun _ => rfl) ?_
    refine dp_s1 hF (i := .imul) rfl (fun _ => rfl) ?_
    refine dp_s1 hF (i := .iload 7) rfl (fun _ => rfl) ?_
    refine dp_s3w (dp_setI M10 166 (Int32.toNatClampNeg ((8 : Int32) * y2)) v7) (fun (M11 : dp_M) => (309, [some (.ref 114), some (.int v1), some (.int v2), some (.int v3), some (.int v4), some (.int v5), some (.int v6), some (.int v7), some (.int y2)], [], M11)) hF (i := .iastore) rfl (fun _ => rfl) (fun M11 => ?_)
    refine dp_s1 hF (i := .aload_n 0) rfl (fun _ => rfl) ?_
    refine dp_s1 hF (i := .iload 7) rfl (fun _ => rfl) ?_
    refine dp_s1 hF (i := .aload_n 0) rfl (fun _ => rfl) ?_
    refine dp_s1 hF (i := .getfield 675) rfl (fun _ => rfl) ?_
    refine dp_s2 hF (i := .if_icmp .le 8) (a := (324, [some (.ref 114), some (.int v1), some (.int v2), some (.int v3), some (.int v4), some (.int v5), some (.int v6), some (.int v7), some (.int y2)], [.ref 114], M11)) (b := (319, [some (.ref 114), some (.int v1), some (.int v2), some (.int v3), some (.int v4), some (.int v5), some (.int v6), some (.int v7), some (.int y2)], [.ref 114], M11)) rfl (fun _ => rfl) ?_ ?_
    · refine dp_s1 hF (i := .aload_n 0) rfl (fun _ => rfl) ?_
      refine dp_s1 hF (i := .getfield 675) rfl (fun _ => rfl) ?_
      refine dp_s1w (dp_setI M11 114 67 (dp_I M11 114 67)) (fun (M12 : dp_M) => (331, [some (.ref 114), some (.int v1), some (.int v2), some (.int v3), some (.int v4), some (.int v5), some (.int v6), some (.int v7), some (.int y2)], [], M12)) hF (i := .putfield 675) rfl (fun _ => rfl) (fun M12 => ?_)
      refine dp_s1 hF (i := .iload 8) rfl (fun _ => rfl) ?_
      exact dp_s0 hF (i := .ireturn) rfl (fun _ => rfl)
    refine dp_s1 hF (i := .iload 7) rfl (fun _ => rfl) ?_
    refine dp_s1 hF (i := .goto 7) rfl (fun _ => rfl) ?_
    refine dp_s1w (dp_setI M11 114 67 v7) (fun (M13 : dp_M) => (331, [some (.ref 114), some (.int v1), some (.int v2), some (.int v3), some (.int v4), some (.int v5), some (.int v6), some (.int v7), some (.int y2)], [], M13)) hF (i := .putfield 675) rfl (fun _ => rfl) (fun M13 => ?_)
    refine dp_s1 hF (i := .iload 8) rfl (fun _ => rfl) ?_
    exact dp_s0 hF (i := .ireturn) rfl (fun _ => rfl)
  refine dp_s1 hF (i := .aload_n 0) rfl (fun _ => rfl) ?_
  refine dp_s1 hF (i := .getfield 139) rfl (fun _ => rfl) ?_
  refine dp_s1 hF (i := .iload 8) rfl (fun _ => rfl) ?_
  refine dp_s3 hF (i := .iaload) rfl (fun _ => rfl) ?_
  refine dp_s1 hF (i := .iload_n 1) rfl (fun _ => rfl) ?_
  refine dp_s2 hF (i := .if_icmp .ne 69) (a := (138, [some (.ref 114), some (.int v1), some (.int v2), some (.int v3), some (.int v4), some (.int v5), some (.int v6), some (.int v7), some (.int v8)], [], M)) (b := (204, [some (.ref 114), some (.int v1), some (.int v2), some (.int v3), some (.int v4), some (.int v5), some (.int v6), some (.int v7), some (.int v8)], [], M)) rfl (fun _ => rfl) ?_ ?_
  · refine dp_s1 hF (i := .aload_n 0) rfl (fun _ => rfl) ?_
    refine dp_s1 hF (i := .getfield 142) rfl (fun _ => rfl) ?_
    refine dp_s1 hF (i := .iload 8) rfl (fun _ => rfl) ?_
    refine dp_s3 hF (i := .iaload) rfl (fun _ => rfl) ?_
    refine dp_s1 hF (i := .iload_n 2) rfl (fun _ => rfl) ?_
    refine dp_s2 hF (i := .if_icmp .ne 58) (a := (149, [some (.ref 114), some (.int v1), some (.int v2), some (.int v3), some (.int v4), some (.int v5), some (.int v6), some (.int v7), some (.int v8)], [], M)) (b := (204, [some (.ref 114), some (.int v1), some (.int v2), some (.int v3), some (.int v4), some (.int v5), some (.int v6), some (.int v7), some (.int v8)], [], M)) rfl (fun _ => rfl) ?_ ?_
    · refine dp_s1 hF (i := .aload_n 0) rfl (fun _ => rfl) ?_
      refine dp_s1 hF (i := .getfield 148) rfl (fun _ => rfl) ?_
      refine dp_s1 hF (i := .iload 8) rfl (fun _ => rfl) ?_
      refine dp_s3 hF (i := .iaload) rfl (fun _ => rfl) ?_
      refine dp_s1 hF (i := .iload 5) rfl (fun _ => rfl) ?_
      refine dp_s2 hF (i := .if_icmp .ne 46) (a := (161, [some (.ref 114), some (.int v1), some (.int v2), some (.int v3), some (.int v4), some (.int v5), some (.int v6), some (.int v7), some (.int v8)], [], M)) (b := (204, [some (.ref 114), some (.int v1), some (.int v2), some (.int v3), some (.int v4), some (.int v5), some (.int v6), some (.int v7), some (.int v8)], [], M)) rfl (fun _ => rfl) ?_ ?_
      · refine dp_s1 hF (i := .aload_n 0) rfl (fun _ => rfl) ?_
        refine dp_s1 hF (i := .getfield 151) rfl (fun _ => rfl) ?_
        refine dp_s1 hF (i := .iload 8) rfl (fun _ => rfl) ?_
        refine dp_s3 hF (i := .iaload) rfl (fun _ => rfl) ?_
        refine dp_s1 hF (i := .iload 6) rfl (fun _ => rfl) ?_
        refine dp_s2 hF (i := .if_icmp .ne 34) (a := (173, [some (.ref 114), some (.int v1), some (.int v2), some (.int v3), some (.int v4), some (.int v5), some (.int v6), some (.int v7), some (.int v8)], [], M)) (b := (204, [some (.ref 114), some (.int v1), some (.int v2), some (.int v3), some (.int v4), some (.int v5), some (.int v6), some (.int v7), some (.int v8)], [], M)) rfl (fun _ => rfl) ?_ ?_
        · refine dp_s1 hF (i := .aload_n 0) rfl (fun _ => rfl) ?_
          refine dp_s1 hF (i := .getfield 145) rfl (fun _ => rfl) ?_
          refine dp_s1 hF (i := .iload 8) rfl (fun _ => rfl) ?_
          refine dp_s3 hF (i := .iaload) rfl (fun _ => rfl) ?_
          refine dp_s1 hF (i := .iload 4) rfl (fun _ => rfl) ?_
          refine dp_s2 hF (i := .if_icmp .gt 22) (a := (204, [some (.ref 114), some (.int v1), some (.int v2), some (.int v3), some (.int v4), some (.int v5), some (.int v6), some (.int v7), some (.int v8)], [], M)) (b := (185, [some (.ref 114), some (.int v1), some (.int v2), some (.int v3), some (.int v4), some (.int v5), some (.int v6), some (.int v7), some (.int v8)], [], M)) rfl (fun _ => rfl) ?_ ?_
          · refine dp_s1w (v8 + (1 : Int32)) (fun (y14 : Int32) => (207, [some (.ref 114), some (.int v1), some (.int v2), some (.int v3), some (.int v4), some (.int v5), some (.int v6), some (.int v7), some (.int y14)], [], M)) hF (i := .iinc 8 1) rfl (fun _ => rfl) (fun y14 => ?_)
            refine dp_s1 hF (i := .goto (-89)) rfl (fun _ => rfl) ?_
            exact rfl
          refine dp_s1 hF (i := .iload_n 3) rfl (fun _ => rfl) ?_
          refine dp_s1 hF (i := .aload_n 0) rfl (fun _ => rfl) ?_
          refine dp_s1 hF (i := .iload 8) rfl (fun _ => rfl) ?_
          refine dp_s1 hF (i := .aload_n 0) rfl (fun _ => rfl) ?_
          refine dp_s1 hF (i := .getfield 675) rfl (fun _ => rfl) ?_
          refine dp_si (mj := dp_m_X12_lastOf) (i := .invokevirtual 678) rfl rfl (Or.inl rfl) rfl (fun _ => rfl) (fun r16 M15 => ?_)
          refine dp_s2 hF (i := .if_icmp .gt 8) (a := (204, [some (.ref 114), some (.int v1), some (.int v2), some (.int v3), some (.int v4), some (.int v5), some (.int v6), some (.int v7), some (.int v8)], [], M15)) (b := (199, [some (.ref 114), some (.int v1), some (.int v2), some (.int v3), some (.int v4), some (.int v5), some (.int v6), some (.int v7), some (.int v8)], [], M15)) rfl (fun _ => rfl) ?_ ?_
          · refine dp_s1w (v8 + (1 : Int32)) (fun (y17 : Int32) => (207, [some (.ref 114), some (.int v1), some (.int v2), some (.int v3), some (.int v4), some (.int v5), some (.int v6), some (.int v7), some (.int y17)], [], M15)) hF (i := .iinc 8 1) rfl (fun _ => rfl) (fun y17 => ?_)
            refine dp_s1 hF (i := .goto (-89)) rfl (fun _ => rfl) ?_
            exact rfl
          refine dp_s1 hF (i := .iconst (-1)) rfl (fun _ => rfl) ?_
          refine dp_s1 hF (i := .iload 8) rfl (fun _ => rfl) ?_
          refine dp_s1 hF (i := .isub) rfl (fun _ => rfl) ?_
          exact dp_s0 hF (i := .ireturn) rfl (fun _ => rfl)
        refine dp_s1w (v8 + (1 : Int32)) (fun (y18 : Int32) => (207, [some (.ref 114), some (.int v1), some (.int v2), some (.int v3), some (.int v4), some (.int v5), some (.int v6), some (.int v7), some (.int y18)], [], M)) hF (i := .iinc 8 1) rfl (fun _ => rfl) (fun y18 => ?_)
        refine dp_s1 hF (i := .goto (-89)) rfl (fun _ => rfl) ?_
        exact rfl
      refine dp_s1w (v8 + (1 : Int32)) (fun (y19 : Int32) => (207, [some (.ref 114), some (.int v1), some (.int v2), some (.int v3), some (.int v4), some (.int v5), some (.int v6), some (.int v7), some (.int y19)], [], M)) hF (i := .iinc 8 1) rfl (fun _ => rfl) (fun y19 => ?_)
      refine dp_s1 hF (i := .goto (-89)) rfl (fun _ => rfl) ?_
      exact rfl
    refine dp_s1w (v8 + (1 : Int32)) (fun (y20 : Int32) => (207, [some (.ref 114), some (.int v1), some (.int v2), some (.int v3), some (.int v4), some (.int v5), some (.int v6), some (.int v7), some (.int y20)], [], M)) hF (i := .iinc 8 1) rfl (fun _ => rfl) (fun y20 => ?_)
    refine dp_s1 hF (i := .goto (-89)) rfl (fun _ => rfl) ?_
    exact rfl
  refine dp_s1w (v8 + (1 : Int32)) (fun (y21 : Int32) => (207, [some (.ref 114), some (.int v1), some (.int v2), some (.int v3), some (.int v4), some (.int v5), some (.int v6), some (.int v7), some (.int y21)], [], M)) hF (i := .iinc 8 1) rfl (fun _ => rfl) (fun y21 => ?_)
  refine dp_s1 hF (i := .goto (-89)) rfl (fun _ => rfl) ?_
  exact rfl
noncomputable def D_X12_exclude_0 (xs : Nat → Int32) (xl d : Nat) (v1 : Int32) (v2 : Int32) (M : dp_M) : Option dp_Res := dp_lim true xs xl (dp_den true xs xl d) dp_m_X12_exclude (0, [some (.ref 114), some (.int v1), some (.int v2)], [], M)
theorem D_X12_exclude_0_den (xs : Nat → Int32) (xl d : Nat) (a0 : Int32) (a1 : Int32) (M : dp_M) : dp_den true xs xl (d + 1) 454 [.ref 114, .int a0, .int a1] M = D_X12_exclude_0 xs xl d a0 a1 M := rfl
set_option maxRecDepth 20000 in
theorem D_X12_exclude_0_eq (xs : Nat → Int32) (xl d : Nat) (v1 : Int32) (v2 : Int32) (M : dp_M) : D_X12_exclude_0 xs xl d v1 v2 M = dp_w (dp_setI M 114 0 (0 : Int32)) (fun M1 => dp_bi (dp_den true xs xl d 451 [.ref 114, .int v1] M1) (fun r3 M2 => if r3 = 0 then (some (.inl (some (.int (0 : Int32))), M2)) else (dp_bi (dp_den true xs xl d 444 [.int v2] M2) (fun r5 M4 => if r5 = 0 then (some (.inl (some (.int (0 : Int32))), M4)) else (if v1 < 0 ∨ 301 ≤ Int32.toNatClampNeg v1 then none else (if (((dp_I M4 162 (Int32.toNatClampNeg v1)) >>> (v2 &&& 31)) &&& (1 : Int32)) = (1 : Int32) then (some (.inl (some (.int (0 : Int32))), M4)) else (if v1 < 0 ∨ 301 ≤ Int32.toNatClampNeg v1 then none else (dp_bi (dp_den true xs xl d 447 [.int (dp_I M4 162 (Int32.toNatClampNeg v1))] M4) (fun r7 M6 => if r7 = (4 : Int32) then (some (.inl (some (.int (0 : Int32))), M6)) else (if v1 < 0 ∨ 301 ≤ Int32.toNatClampNeg v1 then none else (if v1 < 0 ∨ 301 ≤ Int32.toNatClampNeg v1 then none else dp_w (dp_setI M6 162 (Int32.toNatClampNeg v1) ((dp_I M6 162 (Int32.toNatClampNeg v1)) ||| ((1 : Int32) <<< (v2 &&& 31)))) (fun M8 => some (.inl (some (.int (1 : Int32))), M8))))))))))))) := by
  have hF := dp_den_grow (md := true) (xs := xs) (xl := xl) d
  unfold D_X12_exclude_0
  refine dp_s1 hF (i := .aload_n 0) rfl (fun _ => rfl) ?_
  refine dp_s1 hF (i := .iconst 0) rfl (fun _ => rfl) ?_
  refine dp_s1w (dp_setI M 114 0 (0 : Int32)) (fun (M1 : dp_M) => (5, [some (.ref 114), some (.int v1), some (.int v2)], [], M1)) hF (i := .putfield 1) rfl (fun _ => rfl) (fun M1 => ?_)
  refine dp_s1 hF (i := .aload_n 0) rfl (fun _ => rfl) ?_
  refine dp_s1 hF (i := .iload_n 1) rfl (fun _ => rfl) ?_
  refine dp_si (mj := dp_m_X12_isMeasure) (i := .invokevirtual 681) rfl rfl (Or.inr rfl) rfl (fun _ => rfl) (fun r3 M2 => ?_)
  refine dp_s2 hF (i := .ifCond .eq 37) (a := (47, [some (.ref 114), some (.int v1), some (.int v2)], [], M2)) (b := (13, [some (.ref 114), some (.int v1), some (.int v2)], [], M2)) rfl (fun _ => rfl) ?_ ?_
  · refine dp_s1 hF (i := .iconst 0) rfl (fun _ => rfl) ?_
    exact dp_s0 hF (i := .ireturn) rfl (fun _ => rfl)
  refine dp_s1 hF (i := .iload_n 2) rfl (fun _ => rfl) ?_
  refine dp_si (mj := dp_m_X12_isLand) (i := .invokestatic 663) rfl rfl (Or.inr rfl) rfl (fun _ => rfl) (fun r5 M4 => ?_)
  refine dp_s2 hF (i := .ifCond .eq 30) (a := (47, [some (.ref 114), some (.int v1), some (.int v2)], [], M4)) (b := (20, [some (.ref 114), some (.int v1), some (.int v2)], [], M4)) rfl (fun _ => rfl) ?_ ?_
  · refine dp_s1 hF (i := .iconst 0) rfl (fun _ => rfl) ?_
    exact dp_s0 hF (i := .ireturn) rfl (fun _ => rfl)
  refine dp_s1 hF (i := .aload_n 0) rfl (fun _ => rfl) ?_
  refine dp_s1 hF (i := .getfield 157) rfl (fun _ => rfl) ?_
  refine dp_s1 hF (i := .iload_n 1) rfl (fun _ => rfl) ?_
  refine dp_s3 hF (i := .iaload) rfl (fun _ => rfl) ?_
  refine dp_s1 hF (i := .iload_n 2) rfl (fun _ => rfl) ?_
  refine dp_s1 hF (i := .ishr) rfl (fun _ => rfl) ?_
  refine dp_s1 hF (i := .iconst 1) rfl (fun _ => rfl) ?_
  refine dp_s1 hF (i := .iand) rfl (fun _ => rfl) ?_
  refine dp_s1 hF (i := .iconst 1) rfl (fun _ => rfl) ?_
  refine dp_s2 hF (i := .if_icmp .eq 16) (a := (47, [some (.ref 114), some (.int v1), some (.int v2)], [], M4)) (b := (34, [some (.ref 114), some (.int v1), some (.int v2)], [], M4)) rfl (fun _ => rfl) ?_ ?_
  · refine dp_s1 hF (i := .iconst 0) rfl (fun _ => rfl) ?_
    exact dp_s0 hF (i := .ireturn) rfl (fun _ => rfl)
  refine dp_s1 hF (i := .aload_n 0) rfl (fun _ => rfl) ?_
  refine dp_s1 hF (i := .getfield 157) rfl (fun _ => rfl) ?_
  refine dp_s1 hF (i := .iload_n 1) rfl (fun _ => rfl) ?_
  refine dp_s3 hF (i := .iaload) rfl (fun _ => rfl) ?_
  refine dp_si (mj := dp_m_X12_bits) (i := .invokestatic 684) rfl rfl (Or.inl rfl) rfl (fun _ => rfl) (fun r7 M6 => ?_)
  refine dp_s1 hF (i := .iconst 4) rfl (fun _ => rfl) ?_
  refine dp_s2 hF (i := .if_icmp .ne 5) (a := (47, [some (.ref 114), some (.int v1), some (.int v2)], [], M6)) (b := (49, [some (.ref 114), some (.int v1), some (.int v2)], [], M6)) rfl (fun _ => rfl) ?_ ?_
  · refine dp_s1 hF (i := .iconst 0) rfl (fun _ => rfl) ?_
    exact dp_s0 hF (i := .ireturn) rfl (fun _ => rfl)
  refine dp_s1 hF (i := .aload_n 0) rfl (fun _ => rfl) ?_
  refine dp_s1 hF (i := .getfield 157) rfl (fun _ => rfl) ?_
  refine dp_s1 hF (i := .iload_n 1) rfl (fun _ => rfl) ?_
  refine dp_s1 hF (i := .dup2) rfl (fun _ => rfl) ?_
  refine dp_s3 hF (i := .iaload) rfl (fun _ => rfl) ?_
  refine dp_s1 hF (i := .iconst 1) rfl (fun _ => rfl) ?_
  refine dp_s1 hF (i := .iload_n 2) rfl (fun _ => rfl) ?_
  refine dp_s1 hF (i := .ishl) rfl (fun _ => rfl) ?_
  refine dp_s1 hF (i := .ior) rfl (fun _ => rfl) ?_
  refine dp_s3w (dp_setI M6 162 (Int32.toNatClampNeg v1) ((dp_I M6 162 (Int32.toNatClampNeg v1)) ||| ((1 : Int32) <<< (v2 &&& 31)))) (fun (M8 : dp_M) => (61, [some (.ref 114), some (.int v1), some (.int v2)], [], M8)) hF (i := .iastore) rfl (fun _ => rfl) (fun M8 => ?_)
  refine dp_s1 hF (i := .iconst 1) rfl (fun _ => rfl) ?_
  exact dp_s0 hF (i := .ireturn) rfl (fun _ => rfl)
noncomputable def D_X12_condition_0 (xs : Nat → Int32) (xl d : Nat) (v1 : Int32) (v2 : Int32) (M : dp_M) : Option dp_Res := dp_lim true xs xl (dp_den true xs xl d) dp_m_X12_condition (0, [some (.ref 114), some (.int v1), some (.int v2)], [], M)
theorem D_X12_condition_0_den (xs : Nat → Int32) (xl d : Nat) (a0 : Int32) (a1 : Int32) (M : dp_M) : dp_den true xs xl (d + 1) 455 [.ref 114, .int a0, .int a1] M = D_X12_condition_0 xs xl d a0 a1 M := rfl
set_option maxRecDepth 20000 in
theorem D_X12_condition_0_eq (xs : Nat → Int32) (xl d : Nat) (v1 : Int32) (v2 : Int32) (M : dp_M) : D_X12_condition_0 xs xl d v1 v2 M = dp_w (dp_setI M 114 0 (0 : Int32)) (fun M1 => dp_bi (dp_den true xs xl d 451 [.ref 114, .int v1] M1) (fun r3 M2 => if r3 = 0 then (some (.inl (some (.int (0 : Int32))), M2)) else (dp_bi (dp_den true xs xl d 367 [.long (Int32.toInt64 v2), .long (0 : Int64), .long (15 : Int64)] M2) (fun r5 M4 => if r5 = 0 then (some (.inl (some (.int (0 : Int32))), M4)) else (if v1 < 0 ∨ 301 ≤ Int32.toNatClampNeg v1 then none else (if (((dp_I M4 163 (Int32.toNatClampNeg v1)) >>> (v2 &&& 31)) &&& (1 : Int32)) = (1 : Int32) then (some (.inl (some (.int (0 : Int32))), M4)) else (if v1 < 0 ∨ 301 ≤ Int32.toNatClampNeg v1 then none else (dp_bi (dp_den true xs xl d 447 [.int (dp_I M4 163 (Int32.toNatClampNeg v1))] M4) (fun r7 M6 => if r7 = (4 : Int32) then (some (.inl (some (.int (0 : Int32))), M6)) else (if v1 < 0 ∨ 301 ≤ Int32.toNatClampNeg v1 then none else (if v1 < 0 ∨ 301 ≤ Int32.toNatClampNeg v1 then none else dp_w (dp_setI M6 163 (Int32.toNatClampNeg v1) ((dp_I M6 163 (Int32.toNatClampNeg v1)) ||| ((1 : Int32) <<< (v2 &&& 31)))) (fun M8 => some (.inl (some (.int (1 : Int32))), M8))))))))))))) := by
  have hF := dp_den_grow (md := true) (xs := xs) (xl := xl) d
  unfold D_X12_condition_0
  refine dp_s1 hF (i := .aload_n 0) rfl (fun _ => rfl) ?_
  refine dp_s1 hF (i := .iconst 0) rfl (fun _ => rfl) ?_
  refine dp_s1w (dp_setI M 114 0 (0 : Int32)) (fun (M1 : dp_M) => (5, [some (.ref 114), some (.int v1), some (.int v2)], [], M1)) hF (i := .putfield 1) rfl (fun _ => rfl) (fun M1 => ?_)
  refine dp_s1 hF (i := .aload_n 0) rfl (fun _ => rfl) ?_
  refine dp_s1 hF (i := .iload_n 1) rfl (fun _ => rfl) ?_
  refine dp_si (mj := dp_m_X12_isMeasure) (i := .invokevirtual 681) rfl rfl (Or.inr rfl) rfl (fun _ => rfl) (fun r3 M2 => ?_)
  refine dp_s2 hF (i := .ifCond .eq 42) (a := (52, [some (.ref 114), some (.int v1), some (.int v2)], [], M2)) (b := (13, [some (.ref 114), some (.int v1), some (.int v2)], [], M2)) rfl (fun _ => rfl) ?_ ?_
  · refine dp_s1 hF (i := .iconst 0) rfl (fun _ => rfl) ?_
    exact dp_s0 hF (i := .ireturn) rfl (fun _ => rfl)
  refine dp_s1 hF (i := .iload_n 2) rfl (fun _ => rfl) ?_
  refine dp_s1 hF (i := .i2l) rfl (fun _ => rfl) ?_
  refine dp_s1 hF (i := .lconst 0) rfl (fun _ => rfl) ?_
  refine dp_s1 hF (i := .ldc2_w 483) rfl (fun _ => rfl) ?_
  refine dp_si (mj := dp_m_X12_in) (i := .invokestatic 446) rfl rfl (Or.inr rfl) rfl (fun _ => rfl) (fun r5 M4 => ?_)
  refine dp_s2 hF (i := .ifCond .eq 30) (a := (52, [some (.ref 114), some (.int v1), some (.int v2)], [], M4)) (b := (25, [some (.ref 114), some (.int v1), some (.int v2)], [], M4)) rfl (fun _ => rfl) ?_ ?_
  · refine dp_s1 hF (i := .iconst 0) rfl (fun _ => rfl) ?_
    exact dp_s0 hF (i := .ireturn) rfl (fun _ => rfl)
  refine dp_s1 hF (i := .aload_n 0) rfl (fun _ => rfl) ?_
  refine dp_s1 hF (i := .getfield 160) rfl (fun _ => rfl) ?_
  refine dp_s1 hF (i := .iload_n 1) rfl (fun _ => rfl) ?_
  refine dp_s3 hF (i := .iaload) rfl (fun _ => rfl) ?_
  refine dp_s1 hF (i := .iload_n 2) rfl (fun _ => rfl) ?_
  refine dp_s1 hF (i := .ishr) rfl (fun _ => rfl) ?_
  refine dp_s1 hF (i := .iconst 1) rfl (fun _ => rfl) ?_
  refine dp_s1 hF (i := .iand) rfl (fun _ => rfl) ?_
  refine dp_s1 hF (i := .iconst 1) rfl (fun _ => rfl) ?_
  refine dp_s2 hF (i := .if_icmp .eq 16) (a := (52, [some (.ref 114), some (.int v1), some (.int v2)], [], M4)) (b := (39, [some (.ref 114), some (.int v1), some (.int v2)], [], M4)) rfl (fun _ => rfl) ?_ ?_
  · refine dp_s1 hF (i := .iconst 0) rfl (fun _ => rfl) ?_
    exact dp_s0 hF (i := .ireturn) rfl (fun _ => rfl)
  refine dp_s1 hF (i := .aload_n 0) rfl (fun _ => rfl) ?_
  refine dp_s1 hF (i := .getfield 160) rfl (fun _ => rfl) ?_
  refine dp_s1 hF (i := .iload_n 1) rfl (fun _ => rfl) ?_
  refine dp_s3 hF (i := .iaload) rfl (fun _ => rfl) ?_
  refine dp_si (mj := dp_m_X12_bits) (i := .invokestatic 684) rfl rfl (Or.inl rfl) rfl (fun _ => rfl) (fun r7 M6 => ?_)
  refine dp_s1 hF (i := .iconst 4) rfl (fun _ => rfl) ?_
  refine dp_s2 hF (i := .if_icmp .ne 5) (a := (52, [some (.ref 114), some (.int v1), some (.int v2)], [], M6)) (b := (54, [some (.ref 114), some (.int v1), some (.int v2)], [], M6)) rfl (fun _ => rfl) ?_ ?_
  · refine dp_s1 hF (i := .iconst 0) rfl (fun _ => rfl) ?_
    exact dp_s0 hF (i := .ireturn) rfl (fun _ => rfl)
  refine dp_s1 hF (i := .aload_n 0) rfl (fun _ => rfl) ?_
  refine dp_s1 hF (i := .getfield 160) rfl (fun _ => rfl) ?_
  refine dp_s1 hF (i := .iload_n 1) rfl (fun _ => rfl) ?_
  refine dp_s1 hF (i := .dup2) rfl (fun _ => rfl) ?_
  refine dp_s3 hF (i := .iaload) rfl (fun _ => rfl) ?_
  refine dp_s1 hF (i := .iconst 1) rfl (fun _ => rfl) ?_
  refine dp_s1 hF (i := .iload_n 2) rfl (fun _ => rfl) ?_
  refine dp_s1 hF (i := .ishl) rfl (fun _ => rfl) ?_
  refine dp_s1 hF (i := .ior) rfl (fun _ => rfl) ?_
  refine dp_s3w (dp_setI M6 163 (Int32.toNatClampNeg v1) ((dp_I M6 163 (Int32.toNatClampNeg v1)) ||| ((1 : Int32) <<< (v2 &&& 31)))) (fun (M8 : dp_M) => (66, [some (.ref 114), some (.int v1), some (.int v2)], [], M8)) hF (i := .iastore) rfl (fun _ => rfl) (fun M8 => ?_)
  refine dp_s1 hF (i := .iconst 1) rfl (fun _ => rfl) ?_
  exact dp_s0 hF (i := .ireturn) rfl (fun _ => rfl)
noncomputable def D_X12_end_0 (xs : Nat → Int32) (xl d : Nat) (v1 : Int32) (v2 : Int32) (v3 : Int32) (M : dp_M) : Option dp_Res := dp_lim true xs xl (dp_den true xs xl d) dp_m_X12_end (0, [some (.ref 114), some (.int v1), some (.int v2), some (.int v3)], [], M)
noncomputable def D_X12_end_28 (xs : Nat → Int32) (xl d : Nat) (v1 : Int32) (v2 : Int32) (v3 : Int32) (M : dp_M) : Option dp_Res := dp_lim true xs xl (dp_den true xs xl d) dp_m_X12_end (28, [some (.ref 114), some (.int v1), some (.int v2), some (.int v3)], [], M)
theorem D_X12_end_0_den (xs : Nat → Int32) (xl d : Nat) (a0 : Int32) (a1 : Int32) (a2 : Int32) (M : dp_M) : dp_den true xs xl (d + 1) 456 [.ref 114, .int a0, .int a1, .int a2] M = D_X12_end_0 xs xl d a0 a1 a2 M := rfl
set_option maxRecDepth 20000 in
theorem D_X12_end_0_eq (xs : Nat → Int32) (xl d : Nat) (v1 : Int32) (v2 : Int32) (v3 : Int32) (M : dp_M) : D_X12_end_0 xs xl d v1 v2 v3 M = dp_bi (dp_den true xs xl d 451 [.ref 114, .int v1] M) (fun r2 M1 => if r2 = 0 then (dp_bi (dp_den true xs xl d 366 [.ref 114, .int (1 : Int32)] M1) (fun r4 M3 => some (.inl (some (.int r4)), M3))) else (dp_bi (dp_den true xs xl d 445 [.int v2] M1) (fun r6 M5 => if r6 = 0 then (if v2 = (20000 : Int32) then (D_X12_end_28 xs xl d v1 v2 v3 M5) else (dp_bi (dp_den true xs xl d 366 [.ref 114, .int (2 : Int32)] M5) (fun r8 M7 => some (.inl (some (.int r8)), M7)))) else (D_X12_end_28 xs xl d v1 v2 v3 M5)))) := by
  have hF := dp_den_grow (md := true) (xs := xs) (xl := xl) d
  unfold D_X12_end_0
  refine dp_s1 hF (i := .aload_n 0) rfl (fun _ => rfl) ?_
  refine dp_s1 hF (i := .iload_n 1) rfl (fun _ => rfl) ?_
  refine dp_si (mj := dp_m_X12_isMeasure) (i := .invokevirtual 681) rfl rfl (Or.inr rfl) rfl (fun _ => rfl) (fun r2 M1 => ?_)
  refine dp_s2 hF (i := .ifCond .ne 9) (a := (8, [some (.ref 114), some (.int v1), some (.int v2), some (.int v3)], [], M1)) (b := (14, [some (.ref 114), some (.int v1), some (.int v2), some (.int v3)], [], M1)) rfl (fun _ => rfl) ?_ ?_
  · refine dp_s1 hF (i := .aload_n 0) rfl (fun _ => rfl) ?_
    refine dp_s1 hF (i := .iconst 1) rfl (fun _ => rfl) ?_
    refine dp_si (mj := dp_m_X12_refuse) (i := .invokevirtual 460) rfl rfl (Or.inl rfl) rfl (fun _ => rfl) (fun r4 M3 => ?_)
    exact dp_s0 hF (i := .ireturn) rfl (fun _ => rfl)
  refine dp_s1 hF (i := .iload_n 2) rfl (fun _ => rfl) ?_
  refine dp_si (mj := dp_m_X12_isDay) (i := .invokestatic 672) rfl rfl (Or.inr rfl) rfl (fun _ => rfl) (fun r6 M5 => ?_)
  refine dp_s2 hF (i := .ifCond .ne 10) (a := (21, [some (.ref 114), some (.int v1), some (.int v2), some (.int v3)], [], M5)) (b := (28, [some (.ref 114), some (.int v1), some (.int v2), some (.int v3)], [], M5)) rfl (fun _ => rfl) ?_ ?_
  · refine dp_s1 hF (i := .iload_n 2) rfl (fun _ => rfl) ?_
    refine dp_s1 hF (i := .sipush 20000) rfl (fun _ => rfl) ?_
    refine dp_s2 hF (i := .if_icmp .ne 10) (a := (28, [some (.ref 114), some (.int v1), some (.int v2), some (.int v3)], [], M5)) (b := (35, [some (.ref 114), some (.int v1), some (.int v2), some (.int v3)], [], M5)) rfl (fun _ => rfl) ?_ ?_
    · exact rfl
    refine dp_s1 hF (i := .aload_n 0) rfl (fun _ => rfl) ?_
    refine dp_s1 hF (i := .iconst 2) rfl (fun _ => rfl) ?_
    refine dp_si (mj := dp_m_X12_refuse) (i := .invokevirtual 460) rfl rfl (Or.inl rfl) rfl (fun _ => rfl) (fun r8 M7 => ?_)
    exact dp_s0 hF (i := .ireturn) rfl (fun _ => rfl)
  exact rfl
set_option maxRecDepth 20000 in
theorem D_X12_end_28_eq (xs : Nat → Int32) (xl d : Nat) (v1 : Int32) (v2 : Int32) (v3 : Int32) (M : dp_M) : D_X12_end_28 xs xl d v1 v2 v3 M = dp_bi (dp_den true xs xl d 445 [.int v3] M) (fun r2 M1 => if r2 = 0 then (dp_bi (dp_den true xs xl d 366 [.ref 114, .int (2 : Int32)] M1) (fun r4 M3 => some (.inl (some (.int r4)), M3))) else (if v1 < 0 ∨ 301 ≤ Int32.toNatClampNeg v1 then none else (if (dp_I M1 164 (Int32.toNatClampNeg v1)) = (8 : Int32) then (dp_bi (dp_den true xs xl d 366 [.ref 114, .int (3 : Int32)] M1) (fun r6 M5 => some (.inl (some (.int r6)), M5))) else (dp_w (dp_setI M1 114 0 (0 : Int32)) (fun M7 => if v1 < 0 ∨ 301 ≤ Int32.toNatClampNeg v1 then none else (if (dp_I M7 158 (Int32.toNatClampNeg v1)) ≤ v2 then (if v1 < 0 ∨ 301 ≤ Int32.toNatClampNeg v1 then none else (if (((8 : Int32) * v1) + (dp_I M7 164 (Int32.toNatClampNeg v1))) < 0 ∨ 2408 ≤ Int32.toNatClampNeg (((8 : Int32) * v1) + (dp_I M7 164 (Int32.toNatClampNeg v1))) then none else dp_w (dp_setI M7 165 (Int32.toNatClampNeg (((8 : Int32) * v1) + (dp_I M7 164 (Int32.toNatClampNeg v1)))) v2) (fun M8 => if v1 < 0 ∨ 301 ≤ Int32.toNatClampNeg v1 then none else (if (((8 : Int32) * v1) + (dp_I M8 164 (Int32.toNatClampNeg v1))) < 0 ∨ 2408 ≤ Int32.toNatClampNeg (((8 : Int32) * v1) + (dp_I M8 164 (Int32.toNatClampNeg v1))) then none else dp_w (dp_setI M8 166 (Int32.toNatClampNeg (((8 : Int32) * v1) + (dp_I M8 164 (Int32.toNatClampNeg v1)))) v3) (fun M9 => if v1 < 0 ∨ 301 ≤ Int32.toNatClampNeg v1 then none else (if v1 < 0 ∨ 301 ≤ Int32.toNatClampNeg v1 then none else dp_w (dp_setI M9 164 (Int32.toNatClampNeg v1) ((dp_I M9 164 (Int32.toNatClampNeg v1)) + (1 : Int32))) (fun M10 => if v3 ≤ (dp_I M10 114 67) then (dp_w (dp_setI M10 114 67 (dp_I M10 114 67)) (fun M11 => if v1 < 0 ∨ 301 ≤ Int32.toNatClampNeg v1 then none else (some (.inl (some (.int (dp_I M11 164 (Int32.toNatClampNeg v1)))), M11)))) else (dp_w (dp_setI M10 114 67 v3) (fun M12 => if v1 < 0 ∨ 301 ≤ Int32.toNatClampNeg v1 then none else (some (.inl (some (.int (dp_I M12 164 (Int32.toNatClampNeg v1)))), M12))))))))))) else (some (.inl (some (.int (0 : Int32))), M7)))))))) := by
  have hF := dp_den_grow (md := true) (xs := xs) (xl := xl) d
  unfold D_X12_end_28
  refine dp_s1 hF (i := .iload_n 3) rfl (fun _ => rfl) ?_
  refine dp_si (mj := dp_m_X12_isDay) (i := .invokestatic 672) rfl rfl (Or.inr rfl) rfl (fun _ => rfl) (fun r2 M1 => ?_)
  refine dp_s2 hF (i := .ifCond .ne 9) (a := (35, [some (.ref 114), some (.int v1), some (.int v2), some (.int v3)], [], M1)) (b := (41, [some (.ref 114), some (.int v1), some (.int v2), some (.int v3)], [], M1)) rfl (fun _ => rfl) ?_ ?_
  · refine dp_s1 hF (i := .aload_n 0) rfl (fun _ => rfl) ?_
    refine dp_s1 hF (i := .iconst 2) rfl (fun _ => rfl) ?_
    refine dp_si (mj := dp_m_X12_refuse) (i := .invokevirtual 460) rfl rfl (Or.inl rfl) rfl (fun _ => rfl) (fun r4 M3 => ?_)
    exact dp_s0 hF (i := .ireturn) rfl (fun _ => rfl)
  refine dp_s1 hF (i := .aload_n 0) rfl (fun _ => rfl) ?_
  refine dp_s1 hF (i := .getfield 163) rfl (fun _ => rfl) ?_
  refine dp_s1 hF (i := .iload_n 1) rfl (fun _ => rfl) ?_
  refine dp_s3 hF (i := .iaload) rfl (fun _ => rfl) ?_
  refine dp_s1 hF (i := .bipush 8) rfl (fun _ => rfl) ?_
  refine dp_s2 hF (i := .if_icmp .ne 9) (a := (52, [some (.ref 114), some (.int v1), some (.int v2), some (.int v3)], [], M1)) (b := (58, [some (.ref 114), some (.int v1), some (.int v2), some (.int v3)], [], M1)) rfl (fun _ => rfl) ?_ ?_
  · refine dp_s1 hF (i := .aload_n 0) rfl (fun _ => rfl) ?_
    refine dp_s1 hF (i := .iconst 3) rfl (fun _ => rfl) ?_
    refine dp_si (mj := dp_m_X12_refuse) (i := .invokevirtual 460) rfl rfl (Or.inl rfl) rfl (fun _ => rfl) (fun r6 M5 => ?_)
    exact dp_s0 hF (i := .ireturn) rfl (fun _ => rfl)
  refine dp_s1 hF (i := .aload_n 0) rfl (fun _ => rfl) ?_
  refine dp_s1 hF (i := .iconst 0) rfl (fun _ => rfl) ?_
  refine dp_s1w (dp_setI M1 114 0 (0 : Int32)) (fun (M7 : dp_M) => (63, [some (.ref 114), some (.int v1), some (.int v2), some (.int v3)], [], M7)) hF (i := .putfield 1) rfl (fun _ => rfl) (fun M7 => ?_)
  refine dp_s1 hF (i := .iload_n 2) rfl (fun _ => rfl) ?_
  refine dp_s1 hF (i := .aload_n 0) rfl (fun _ => rfl) ?_
  refine dp_s1 hF (i := .getfield 145) rfl (fun _ => rfl) ?_
  refine dp_s1 hF (i := .iload_n 1) rfl (fun _ => rfl) ?_
  refine dp_s3 hF (i := .iaload) rfl (fun _ => rfl) ?_
  refine dp_s2 hF (i := .if_icmp .ge 5) (a := (75, [some (.ref 114), some (.int v1), some (.int v2), some (.int v3)], [], M7)) (b := (73, [some (.ref 114), some (.int v1), some (.int v2), some (.int v3)], [], M7)) rfl (fun _ => rfl) ?_ ?_
  · refine dp_s1 hF (i := .aload_n 0) rfl (fun _ => rfl) ?_
    refine dp_s1 hF (i := .getfield 166) rfl (fun _ => rfl) ?_
    refine dp_s1 hF (i := .bipush 8) rfl (fun _ => rfl) ?_
    refine dp_s1 hF (i := .iload_n 1) rfl (fun _ => rfl) ?_
    refine dp_s1 hF (i := .imul) rfl (fun _ => rfl) ?_
    refine dp_s1 hF (i := .aload_n 0) rfl (fun _ => rfl) ?_
    refine dp_s1 hF (i := .getfield 163) rfl (fun _ => rfl) ?_
    refine dp_s1 hF (i := .iload_n 1) rfl (fun _ => rfl) ?_
    refine dp_s3 hF (i := .iaload) rfl (fun _ => rfl) ?_
    refine dp_s1 hF (i := .iadd) rfl (fun _ => rfl) ?_
    refine dp_s1 hF (i := .iload_n 2) rfl (fun _ => rfl) ?_
    refine dp_s3w (dp_setI M7 165 (Int32.toNatClampNeg (((8 : Int32) * v1) + (dp_I M7 164 (Int32.toNatClampNeg v1)))) v2) (fun (M8 : dp_M) => (92, [some (.ref 114), some (.int v1), some (.int v2), some (.int v3)], [], M8)) hF (i := .iastore) rfl (fun _ => rfl) (fun M8 => ?_)
    refine dp_s1 hF (i := .aload_n 0) rfl (fun _ => rfl) ?_
    refine dp_s1 hF (i := .getfield 169) rfl (fun _ => rfl) ?_
    refine dp_s1 hF (i := .bipush 8) rfl (fun _ => rfl) ?_
    refine dp_s1 hF (i := .iload_n 1) rfl (fun _ => rfl) ?_
    refine dp_s1 hF (i := .imul) rfl (fun _ => rfl) ?_
    refine dp_s1 hF (i := .aload_n 0) rfl (fun _ => rfl) ?_
    refine dp_s1 hF (i := .getfield 163) rfl (fun _ => rfl) ?_
    refine dp_s1 hF (i := .iload_n 1) rfl (fun _ => rfl) ?_
    refine dp_s3 hF (i := .iaload) rfl (fun _ => rfl) ?_
    refine dp_s1 hF (i := .iadd) rfl (fun _ => rfl) ?_
    refine dp_s1 hF (i := .iload_n 3) rfl (fun _ => rfl) ?_
    refine dp_s3w (dp_setI M8 166 (Int32.toNatClampNeg (((8 : Int32) * v1) + (dp_I M8 164 (Int32.toNatClampNeg v1)))) v3) (fun (M9 : dp_M) => (109, [some (.ref 114), some (.int v1), some (.int v2), some (.int v3)], [], M9)) hF (i := .iastore) rfl (fun _ => rfl) (fun M9 => ?_)
    refine dp_s1 hF (i := .aload_n 0) rfl (fun _ => rfl) ?_
    refine dp_s1 hF (i := .getfield 163) rfl (fun _ => rfl) ?_
    refine dp_s1 hF (i := .iload_n 1) rfl (fun _ => rfl) ?_
    refine dp_s1 hF (i := .dup2) rfl (fun _ => rfl) ?_
    refine dp_s3 hF (i := .iaload) rfl (fun _ => rfl) ?_
    refine dp_s1 hF (i := .iconst 1) rfl (fun _ => rfl) ?_
    refine dp_s1 hF (i := .iadd) rfl (fun _ => rfl) ?_
    refine dp_s3w (dp_setI M9 164 (Int32.toNatClampNeg v1) ((dp_I M9 164 (Int32.toNatClampNeg v1)) + (1 : Int32))) (fun (M10 : dp_M) => (119, [some (.ref 114), some (.int v1), some (.int v2), some (.int v3)], [], M10)) hF (i := .iastore) rfl (fun _ => rfl) (fun M10 => ?_)
    refine dp_s1 hF (i := .aload_n 0) rfl (fun _ => rfl) ?_
    refine dp_s1 hF (i := .iload_n 3) rfl (fun _ => rfl) ?_
    refine dp_s1 hF (i := .aload_n 0) rfl (fun _ => rfl) ?_
    refine dp_s1 hF (i := .getfield 675) rfl (fun _ => rfl) ?_
    refine dp_s2 hF (i := .if_icmp .le 7) (a := (132, [some (.ref 114), some (.int v1), some (.int v2), some (.int v3)], [.ref 114], M10)) (b := (128, [some (.ref 114), some (.int v1), some (.int v2), some (.int v3)], [.ref 114], M10)) rfl (fun _ => rfl) ?_ ?_
    · refine dp_s1 hF (i := .aload_n 0) rfl (fun _ => rfl) ?_
      refine dp_s1 hF (i := .getfield 675) rfl (fun _ => rfl) ?_
      refine dp_s1w (dp_setI M10 114 67 (dp_I M10 114 67)) (fun (M11 : dp_M) => (139, [some (.ref 114), some (.int v1), some (.int v2), some (.int v3)], [], M11)) hF (i := .putfield 675) rfl (fun _ => rfl) (fun M11 => ?_)
      refine dp_s1 hF (i := .aload_n 0) rfl (fun _ => rfl) ?_
      refine dp_s1 hF (i := .getfield 163) rfl (fun _ => rfl) ?_
      refine dp_s1 hF (i := .iload_n 1) rfl (fun _ => rfl) ?_
      refine dp_s3 hF (i := .iaload) rfl (fun _ => rfl) ?_
      exact dp_s0 hF (i := .ireturn) rfl (fun _ => rfl)
    refine dp_s1 hF (i := .iload_n 3) rfl (fun _ => rfl) ?_
    refine dp_s1 hF (i := .goto 7) rfl (fun _ => rfl) ?_
    refine dp_s1w (dp_setI M10 114 67 v3) (fun (M12 : dp_M) => (139, [some (.ref 114), some (.int v1), some (.int v2), some (.int v3)], [], M12)) hF (i := .putfield 675) rfl (fun _ => rfl) (fun M12 => ?_)
    refine dp_s1 hF (i := .aload_n 0) rfl (fun _ => rfl) ?_
    refine dp_s1 hF (i := .getfield 163) rfl (fun _ => rfl) ?_
    refine dp_s1 hF (i := .iload_n 1) rfl (fun _ => rfl) ?_
    refine dp_s3 hF (i := .iaload) rfl (fun _ => rfl) ?_
    exact dp_s0 hF (i := .ireturn) rfl (fun _ => rfl)
  refine dp_s1 hF (i := .iconst 0) rfl (fun _ => rfl) ?_
  exact dp_s0 hF (i := .ireturn) rfl (fun _ => rfl)
noncomputable def D_X12_papers_0 (xs : Nat → Int32) (xl d : Nat) (v1 : Int32) (M : dp_M) : Option dp_Res := dp_lim true xs xl (dp_den true xs xl d) dp_m_X12_papers (0, [some (.ref 114), some (.int v1)], [], M)
theorem D_X12_papers_0_den (xs : Nat → Int32) (xl d : Nat) (a0 : Int32) (M : dp_M) : dp_den true xs xl (d + 1) 457 [.ref 114, .int a0] M = D_X12_papers_0 xs xl d a0 M := rfl
set_option maxRecDepth 20000 in
theorem D_X12_papers_0_eq (xs : Nat → Int32) (xl d : Nat) (v1 : Int32) (M : dp_M) : D_X12_papers_0 xs xl d v1 M = dp_w (dp_setI M 114 0 (0 : Int32)) (fun M1 => dp_w (dp_setI M1 114 68 (v1 &&& (65535 : Int32))) (fun M2 => some (.inl none, M2))) := by
  have hF := dp_den_grow (md := true) (xs := xs) (xl := xl) d
  unfold D_X12_papers_0
  refine dp_s1 hF (i := .aload_n 0) rfl (fun _ => rfl) ?_
  refine dp_s1 hF (i := .iconst 0) rfl (fun _ => rfl) ?_
  refine dp_s1w (dp_setI M 114 0 (0 : Int32)) (fun (M1 : dp_M) => (5, [some (.ref 114), some (.int v1)], [], M1)) hF (i := .putfield 1) rfl (fun _ => rfl) (fun M1 => ?_)
  refine dp_s1 hF (i := .aload_n 0) rfl (fun _ => rfl) ?_
  refine dp_s1 hF (i := .iload_n 1) rfl (fun _ => rfl) ?_
  refine dp_s1 hF (i := .ldc_w 687) rfl (fun _ => rfl) ?_
  refine dp_s1 hF (i := .iand) rfl (fun _ => rfl) ?_
  refine dp_s1w (dp_setI M1 114 68 (v1 &&& (65535 : Int32))) (fun (M2 : dp_M) => (14, [some (.ref 114), some (.int v1)], [], M2)) hF (i := .putfield 688) rfl (fun _ => rfl) (fun M2 => ?_)
  exact dp_s0 hF (i := .return_) rfl (fun _ => rfl)
noncomputable def D_X12_isUnder_0 (xs : Nat → Int32) (xl d : Nat) (v0 : Int32) (v1 : Int32) (M : dp_M) : Option dp_Res := dp_lim true xs xl (dp_den true xs xl d) dp_m_X12_isUnder (0, [some (.int v0), some (.int v1), none], [], M)
noncomputable def D_X12_isUnder_2 (xs : Nat → Int32) (xl d : Nat) (v0 : Int32) (v1 : Int32) (v2 : Int32) (M : dp_M) : Option dp_Res := dp_lim true xs xl (dp_den true xs xl d) dp_m_X12_isUnder (2, [some (.int v0), some (.int v1), some (.int v2)], [], M)
theorem D_X12_isUnder_0_den (xs : Nat → Int32) (xl d : Nat) (a0 : Int32) (a1 : Int32) (M : dp_M) : dp_den true xs xl (d + 1) 458 [.int a0, .int a1] M = D_X12_isUnder_0 xs xl d a0 a1 M := rfl
set_option maxRecDepth 20000 in
theorem D_X12_isUnder_0_eq (xs : Nat → Int32) (xl d : Nat) (v0 : Int32) (v1 : Int32) (M : dp_M) : D_X12_isUnder_0 xs xl d v0 v1 M = D_X12_isUnder_2 xs xl d v0 v1 v0 M := by
  have hF := dp_den_grow (md := true) (xs := xs) (xl := xl) d
  unfold D_X12_isUnder_0
  refine dp_s1 hF (i := .iload_n 0) rfl (fun _ => rfl) ?_
  refine dp_s1 hF (i := .istore_n 2) rfl (fun _ => rfl) ?_
  exact rfl
set_option maxRecDepth 20000 in
theorem D_X12_isUnder_2_eq (xs : Nat → Int32) (xl d : Nat) (v0 : Int32) (v1 : Int32) (v2 : Int32) (M : dp_M) : D_X12_isUnder_2 xs xl d v0 v1 v2 M = if v2 ≤ v1 then (if v2 = v1 then (some (.inl (some (.int (1 : Int32))), M)) else (some (.inl (some (.int (0 : Int32))), M))) else (dp_w (v2 / (100 : Int32)) (fun y1 => D_X12_isUnder_2 xs xl d v0 v1 y1 M)) := by
  have hF := dp_den_grow (md := true) (xs := xs) (xl := xl) d
  unfold D_X12_isUnder_2
  refine dp_s1 hF (i := .iload_n 2) rfl (fun _ => rfl) ?_
  refine dp_s1 hF (i := .iload_n 1) rfl (fun _ => rfl) ?_
  refine dp_s2 hF (i := .if_icmp .le 11) (a := (15, [some (.int v0), some (.int v1), some (.int v2)], [], M)) (b := (7, [some (.int v0), some (.int v1), some (.int v2)], [], M)) rfl (fun _ => rfl) ?_ ?_
  · refine dp_s1 hF (i := .iload_n 2) rfl (fun _ => rfl) ?_
    refine dp_s1 hF (i := .iload_n 1) rfl (fun _ => rfl) ?_
    refine dp_s2 hF (i := .if_icmp .ne 7) (a := (20, [some (.int v0), some (.int v1), some (.int v2)], [], M)) (b := (24, [some (.int v0), some (.int v1), some (.int v2)], [], M)) rfl (fun _ => rfl) ?_ ?_
    · refine dp_s1 hF (i := .iconst 1) rfl (fun _ => rfl) ?_
      refine dp_s1 hF (i := .goto 4) rfl (fun _ => rfl) ?_
      exact dp_s0 hF (i := .ireturn) rfl (fun _ => rfl)
    refine dp_s1 hF (i := .iconst 0) rfl (fun _ => rfl) ?_
    exact dp_s0 hF (i := .ireturn) rfl (fun _ => rfl)
  refine dp_s1 hF (i := .iload_n 2) rfl (fun _ => rfl) ?_
  refine dp_s1 hF (i := .bipush 100) rfl (fun _ => rfl) ?_
  refine dp_s1 hF (i := .idiv) rfl (fun _ => rfl) ?_
  refine dp_s1w (v2 / (100 : Int32)) (fun (y1 : Int32) => (12, [some (.int v0), some (.int v1), some (.int y1)], [], M)) hF (i := .istore_n 2) rfl (fun _ => rfl) (fun y1 => ?_)
  refine dp_s1 hF (i := .goto (-10)) rfl (fun _ => rfl) ?_
  exact rfl
noncomputable def D_X12_isOf_0 (xs : Nat → Int32) (xl d : Nat) (v1 : Int32) (v2 : Int32) (v3 : Int32) (v4 : Int32) (v5 : Int32) (M : dp_M) : Option dp_Res := dp_lim true xs xl (dp_den true xs xl d) dp_m_X12_isOf (0, [some (.ref 114), some (.int v1), some (.int v2), some (.int v3), some (.int v4), some (.int v5)], [], M)
theorem D_X12_isOf_0_den (xs : Nat → Int32) (xl d : Nat) (a0 : Int32) (a1 : Int32) (a2 : Int32) (a3 : Int32) (a4 : Int32) (M : dp_M) : dp_den true xs xl (d + 1) 459 [.ref 114, .int a0, .int a1, .int a2, .int a3, .int a4] M = D_X12_isOf_0 xs xl d a0 a1 a2 a3 a4 M := rfl
set_option maxRecDepth 20000 in
theorem D_X12_isOf_0_eq (xs : Nat → Int32) (xl d : Nat) (v1 : Int32) (v2 : Int32) (v3 : Int32) (v4 : Int32) (v5 : Int32) (M : dp_M) : D_X12_isOf_0 xs xl d v1 v2 v3 v4 v5 M = if v1 < 0 ∨ 301 ≤ Int32.toNatClampNeg v1 then none else (if v5 < (dp_I M 161 (Int32.toNatClampNeg v1)) then (some (.inl (some (.int (0 : Int32))), M)) else (if v1 < 0 ∨ 301 ≤ Int32.toNatClampNeg v1 then none else (dp_bi (dp_den true xs xl d 458 [.int v2, .int (dp_I M 156 (Int32.toNatClampNeg v1))] M) (fun r2 M1 => if r2 = 0 then (some (.inl (some (.int (0 : Int32))), M1)) else (if v1 < 0 ∨ 301 ≤ Int32.toNatClampNeg v1 then none else (dp_bi (dp_den true xs xl d 449 [.ref 114, .int v3, .int (dp_I M1 157 (Int32.toNatClampNeg v1))] M1) (fun r4 M3 => if r4 = 0 then (some (.inl (some (.int (0 : Int32))), M3)) else (if v1 < 0 ∨ 301 ≤ Int32.toNatClampNeg v1 then none else (if (((dp_I M3 162 (Int32.toNatClampNeg v1)) >>> (v3 &&& 31)) &&& (1 : Int32)) = 0 then (if v1 < 0 ∨ 301 ≤ Int32.toNatClampNeg v1 then none else (if v4 < (dp_I M3 158 (Int32.toNatClampNeg v1)) then (some (.inl (some (.int (0 : Int32))), M3)) else (dp_bi (dp_den true xs xl d 452 [.ref 114, .int v1, .int v5] M3) (fun r6 M5 => if r6 < v4 then (some (.inl (some (.int (0 : Int32))), M5)) else (some (.inl (some (.int (1 : Int32))), M5)))))) else (some (.inl (some (.int (0 : Int32))), M3))))))))))) := by
  have hF := dp_den_grow (md := true) (xs := xs) (xl := xl) d
  unfold D_X12_isOf_0
  refine dp_s1 hF (i := .aload_n 0) rfl (fun _ => rfl) ?_
  refine dp_s1 hF (i := .getfield 154) rfl (fun _ => rfl) ?_
  refine dp_s1 hF (i := .iload_n 1) rfl (fun _ => rfl) ?_
  refine dp_s3 hF (i := .iaload) rfl (fun _ => rfl) ?_
  refine dp_s1 hF (i := .iload 5) rfl (fun _ => rfl) ?_
  refine dp_s2 hF (i := .if_icmp .gt 70) (a := (78, [some (.ref 114), some (.int v1), some (.int v2), some (.int v3), some (.int v4), some (.int v5)], [], M)) (b := (11, [some (.ref 114), some (.int v1), some (.int v2), some (.int v3), some (.int v4), some (.int v5)], [], M)) rfl (fun _ => rfl) ?_ ?_
  · refine dp_s1 hF (i := .iconst 0) rfl (fun _ => rfl) ?_
    exact dp_s0 hF (i := .ireturn) rfl (fun _ => rfl)
  refine dp_s1 hF (i := .iload_n 2) rfl (fun _ => rfl) ?_
  refine dp_s1 hF (i := .aload_n 0) rfl (fun _ => rfl) ?_
  refine dp_s1 hF (i := .getfield 139) rfl (fun _ => rfl) ?_
  refine dp_s1 hF (i := .iload_n 1) rfl (fun _ => rfl) ?_
  refine dp_s3 hF (i := .iaload) rfl (fun _ => rfl) ?_
  refine dp_si (mj := dp_m_X12_isUnder) (i := .invokestatic 691) rfl rfl (Or.inr rfl) rfl (fun _ => rfl) (fun r2 M1 => ?_)
  refine dp_s2 hF (i := .ifCond .eq 57) (a := (78, [some (.ref 114), some (.int v1), some (.int v2), some (.int v3), some (.int v4), some (.int v5)], [], M1)) (b := (24, [some (.ref 114), some (.int v1), some (.int v2), some (.int v3), some (.int v4), some (.int v5)], [], M1)) rfl (fun _ => rfl) ?_ ?_
  · refine dp_s1 hF (i := .iconst 0) rfl (fun _ => rfl) ?_
    exact dp_s0 hF (i := .ireturn) rfl (fun _ => rfl)
  refine dp_s1 hF (i := .aload_n 0) rfl (fun _ => rfl) ?_
  refine dp_s1 hF (i := .iload_n 3) rfl (fun _ => rfl) ?_
  refine dp_s1 hF (i := .aload_n 0) rfl (fun _ => rfl) ?_
  refine dp_s1 hF (i := .getfield 142) rfl (fun _ => rfl) ?_
  refine dp_s1 hF (i := .iload_n 1) rfl (fun _ => rfl) ?_
  refine dp_s3 hF (i := .iaload) rfl (fun _ => rfl) ?_
  refine dp_si (mj := dp_m_X12_isIn) (i := .invokevirtual 694) rfl rfl (Or.inr rfl) rfl (fun _ => rfl) (fun r4 M3 => ?_)
  refine dp_s2 hF (i := .ifCond .eq 43) (a := (78, [some (.ref 114), some (.int v1), some (.int v2), some (.int v3), some (.int v4), some (.int v5)], [], M3)) (b := (38, [some (.ref 114), some (.int v1), some (.int v2), some (.int v3), some (.int v4), some (.int v5)], [], M3)) rfl (fun _ => rfl) ?_ ?_
  · refine dp_s1 hF (i := .iconst 0) rfl (fun _ => rfl) ?_
    exact dp_s0 hF (i := .ireturn) rfl (fun _ => rfl)
  refine dp_s1 hF (i := .aload_n 0) rfl (fun _ => rfl) ?_
  refine dp_s1 hF (i := .getfield 157) rfl (fun _ => rfl) ?_
  refine dp_s1 hF (i := .iload_n 1) rfl (fun _ => rfl) ?_
  refine dp_s3 hF (i := .iaload) rfl (fun _ => rfl) ?_
  refine dp_s1 hF (i := .iload_n 3) rfl (fun _ => rfl) ?_
  refine dp_s1 hF (i := .ishr) rfl (fun _ => rfl) ?_
  refine dp_s1 hF (i := .iconst 1) rfl (fun _ => rfl) ?_
  refine dp_s1 hF (i := .iand) rfl (fun _ => rfl) ?_
  refine dp_s2 hF (i := .ifCond .ne 30) (a := (51, [some (.ref 114), some (.int v1), some (.int v2), some (.int v3), some (.int v4), some (.int v5)], [], M3)) (b := (78, [some (.ref 114), some (.int v1), some (.int v2), some (.int v3), some (.int v4), some (.int v5)], [], M3)) rfl (fun _ => rfl) ?_ ?_
  · refine dp_s1 hF (i := .iload 4) rfl (fun _ => rfl) ?_
    refine dp_s1 hF (i := .aload_n 0) rfl (fun _ => rfl) ?_
    refine dp_s1 hF (i := .getfield 145) rfl (fun _ => rfl) ?_
    refine dp_s1 hF (i := .iload_n 1) rfl (fun _ => rfl) ?_
    refine dp_s3 hF (i := .iaload) rfl (fun _ => rfl) ?_
    refine dp_s2 hF (i := .if_icmp .lt 19) (a := (78, [some (.ref 114), some (.int v1), some (.int v2), some (.int v3), some (.int v4), some (.int v5)], [], M3)) (b := (62, [some (.ref 114), some (.int v1), some (.int v2), some (.int v3), some (.int v4), some (.int v5)], [], M3)) rfl (fun _ => rfl) ?_ ?_
    · refine dp_s1 hF (i := .iconst 0) rfl (fun _ => rfl) ?_
      exact dp_s0 hF (i := .ireturn) rfl (fun _ => rfl)
    refine dp_s1 hF (i := .iload 4) rfl (fun _ => rfl) ?_
    refine dp_s1 hF (i := .aload_n 0) rfl (fun _ => rfl) ?_
    refine dp_s1 hF (i := .iload_n 1) rfl (fun _ => rfl) ?_
    refine dp_s1 hF (i := .iload 5) rfl (fun _ => rfl) ?_
    refine dp_si (mj := dp_m_X12_lastOf) (i := .invokevirtual 678) rfl rfl (Or.inl rfl) rfl (fun _ => rfl) (fun r6 M5 => ?_)
    refine dp_s2 hF (i := .if_icmp .gt 7) (a := (78, [some (.ref 114), some (.int v1), some (.int v2), some (.int v3), some (.int v4), some (.int v5)], [], M5)) (b := (74, [some (.ref 114), some (.int v1), some (.int v2), some (.int v3), some (.int v4), some (.int v5)], [], M5)) rfl (fun _ => rfl) ?_ ?_
    · refine dp_s1 hF (i := .iconst 0) rfl (fun _ => rfl) ?_
      exact dp_s0 hF (i := .ireturn) rfl (fun _ => rfl)
    refine dp_s1 hF (i := .iconst 1) rfl (fun _ => rfl) ?_
    refine dp_s1 hF (i := .goto 4) rfl (fun _ => rfl) ?_
    exact dp_s0 hF (i := .ireturn) rfl (fun _ => rfl)
  refine dp_s1 hF (i := .iconst 0) rfl (fun _ => rfl) ?_
  exact dp_s0 hF (i := .ireturn) rfl (fun _ => rfl)
noncomputable def D_X12_beats_0 (xs : Nat → Int32) (xl d : Nat) (v1 : Int32) (v2 : Int32) (M : dp_M) : Option dp_Res := dp_lim true xs xl (dp_den true xs xl d) dp_m_X12_beats (0, [some (.ref 114), some (.int v1), some (.int v2), none, none], [], M)
theorem D_X12_beats_0_den (xs : Nat → Int32) (xl d : Nat) (a0 : Int32) (a1 : Int32) (M : dp_M) : dp_den true xs xl (d + 1) 460 [.ref 114, .int a0, .int a1] M = D_X12_beats_0 xs xl d a0 a1 M := rfl
set_option maxRecDepth 20000 in
theorem D_X12_beats_0_eq (xs : Nat → Int32) (xl d : Nat) (v1 : Int32) (v2 : Int32) (M : dp_M) : D_X12_beats_0 xs xl d v1 v2 M = if v1 < 0 ∨ 301 ≤ Int32.toNatClampNeg v1 then none else (dp_bi (dp_den true xs xl d 446 [.int (dp_I M 156 (Int32.toNatClampNeg v1))] M) (fun r2 M1 => if v2 < 0 ∨ 301 ≤ Int32.toNatClampNeg v2 then none else (dp_bi (dp_den true xs xl d 446 [.int (dp_I M1 156 (Int32.toNatClampNeg v2))] M1) (fun r4 M3 => if v1 < 0 ∨ 301 ≤ Int32.toNatClampNeg v1 then none else (if v2 < 0 ∨ 301 ≤ Int32.toNatClampNeg v2 then none else (if (dp_I M3 159 (Int32.toNatClampNeg v1)) = (dp_I M3 159 (Int32.toNatClampNeg v2)) then (if r4 < r2 then (some (.inl (some (.int (1 : Int32))), M3)) else (if r2 = r4 then (if v1 < 0 ∨ 301 ≤ Int32.toNatClampNeg v1 then none else (if v2 < 0 ∨ 301 ≤ Int32.toNatClampNeg v2 then none else (if (dp_I M3 160 (Int32.toNatClampNeg v1)) ≤ (dp_I M3 160 (Int32.toNatClampNeg v2)) then (some (.inl (some (.int (0 : Int32))), M3)) else (some (.inl (some (.int (1 : Int32))), M3))))) else (some (.inl (some (.int (0 : Int32))), M3)))) else (some (.inl (some (.int (0 : Int32))), M3)))))))) := by
  have hF := dp_den_grow (md := true) (xs := xs) (xl := xl) d
  unfold D_X12_beats_0
  refine dp_s1 hF (i := .aload_n 0) rfl (fun _ => rfl) ?_
  refine dp_s1 hF (i := .getfield 139) rfl (fun _ => rfl) ?_
  refine dp_s1 hF (i := .iload_n 1) rfl (fun _ => rfl) ?_
  refine dp_s3 hF (i := .iaload) rfl (fun _ => rfl) ?_
  refine dp_si (mj := dp_m_X12_digitsOf) (i := .invokestatic 669) rfl rfl (Or.inl rfl) rfl (fun _ => rfl) (fun r2 M1 => ?_)
  refine dp_s1 hF (i := .istore_n 3) rfl (fun _ => rfl) ?_
  refine dp_s1 hF (i := .aload_n 0) rfl (fun _ => rfl) ?_
  refine dp_s1 hF (i := .getfield 139) rfl (fun _ => rfl) ?_
  refine dp_s1 hF (i := .iload_n 2) rfl (fun _ => rfl) ?_
  refine dp_s3 hF (i := .iaload) rfl (fun _ => rfl) ?_
  refine dp_si (mj := dp_m_X12_digitsOf) (i := .invokestatic 669) rfl rfl (Or.inl rfl) rfl (fun _ => rfl) (fun r4 M3 => ?_)
  refine dp_s1 hF (i := .istore 4) rfl (fun _ => rfl) ?_
  refine dp_s1 hF (i := .aload_n 0) rfl (fun _ => rfl) ?_
  refine dp_s1 hF (i := .getfield 148) rfl (fun _ => rfl) ?_
  refine dp_s1 hF (i := .iload_n 1) rfl (fun _ => rfl) ?_
  refine dp_s3 hF (i := .iaload) rfl (fun _ => rfl) ?_
  refine dp_s1 hF (i := .aload_n 0) rfl (fun _ => rfl) ?_
  refine dp_s1 hF (i := .getfield 148) rfl (fun _ => rfl) ?_
  refine dp_s1 hF (i := .iload_n 2) rfl (fun _ => rfl) ?_
  refine dp_s3 hF (i := .iaload) rfl (fun _ => rfl) ?_
  refine dp_s2 hF (i := .if_icmp .ne 34) (a := (36, [some (.ref 114), some (.int v1), some (.int v2), some (.int r2), some (.int r4)], [], M3)) (b := (67, [some (.ref 114), some (.int v1), some (.int v2), some (.int r2), some (.int r4)], [], M3)) rfl (fun _ => rfl) ?_ ?_
  · refine dp_s1 hF (i := .iload_n 3) rfl (fun _ => rfl) ?_
    refine dp_s1 hF (i := .iload 4) rfl (fun _ => rfl) ?_
    refine dp_s2 hF (i := .if_icmp .gt 24) (a := (63, [some (.ref 114), some (.int v1), some (.int v2), some (.int r2), some (.int r4)], [], M3)) (b := (42, [some (.ref 114), some (.int v1), some (.int v2), some (.int r2), some (.int r4)], [], M3)) rfl (fun _ => rfl) ?_ ?_
    · refine dp_s1 hF (i := .iconst 1) rfl (fun _ => rfl) ?_
      refine dp_s1 hF (i := .goto 4) rfl (fun _ => rfl) ?_
      exact dp_s0 hF (i := .ireturn) rfl (fun _ => rfl)
    refine dp_s1 hF (i := .iload_n 3) rfl (fun _ => rfl) ?_
    refine dp_s1 hF (i := .iload 4) rfl (fun _ => rfl) ?_
    refine dp_s2 hF (i := .if_icmp .ne 22) (a := (48, [some (.ref 114), some (.int v1), some (.int v2), some (.int r2), some (.int r4)], [], M3)) (b := (67, [some (.ref 114), some (.int v1), some (.int v2), some (.int r2), some (.int r4)], [], M3)) rfl (fun _ => rfl) ?_ ?_
    · refine dp_s1 hF (i := .aload_n 0) rfl (fun _ => rfl) ?_
      refine dp_s1 hF (i := .getfield 151) rfl (fun _ => rfl) ?_
      refine dp_s1 hF (i := .iload_n 1) rfl (fun _ => rfl) ?_
      refine dp_s3 hF (i := .iaload) rfl (fun _ => rfl) ?_
      refine dp_s1 hF (i := .aload_n 0) rfl (fun _ => rfl) ?_
      refine dp_s1 hF (i := .getfield 151) rfl (fun _ => rfl) ?_
      refine dp_s1 hF (i := .iload_n 2) rfl (fun _ => rfl) ?_
      refine dp_s3 hF (i := .iaload) rfl (fun _ => rfl) ?_
      refine dp_s2 hF (i := .if_icmp .le 7) (a := (67, [some (.ref 114), some (.int v1), some (.int v2), some (.int r2), some (.int r4)], [], M3)) (b := (63, [some (.ref 114), some (.int v1), some (.int v2), some (.int r2), some (.int r4)], [], M3)) rfl (fun _ => rfl) ?_ ?_
      · refine dp_s1 hF (i := .iconst 0) rfl (fun _ => rfl) ?_
        exact dp_s0 hF (i := .ireturn) rfl (fun _ => rfl)
      refine dp_s1 hF (i := .iconst 1) rfl (fun _ => rfl) ?_
      refine dp_s1 hF (i := .goto 4) rfl (fun _ => rfl) ?_
      exact dp_s0 hF (i := .ireturn) rfl (fun _ => rfl)
    refine dp_s1 hF (i := .iconst 0) rfl (fun _ => rfl) ?_
    exact dp_s0 hF (i := .ireturn) rfl (fun _ => rfl)
  refine dp_s1 hF (i := .iconst 0) rfl (fun _ => rfl) ?_
  exact dp_s0 hF (i := .ireturn) rfl (fun _ => rfl)
noncomputable def D_X12_finds_0 (xs : Nat → Int32) (xl d : Nat) (v1 : Int32) (v2 : Int32) (v3 : Int32) (v4 : Int32) (M : dp_M) : Option dp_Res := dp_lim true xs xl (dp_den true xs xl d) dp_m_X12_finds (0, [some (.ref 114), some (.int v1), some (.int v2), some (.int v3), some (.int v4), none, none, none, none], [], M)
noncomputable def D_X12_finds_3 (xs : Nat → Int32) (xl d : Nat) (v1 : Int32) (v2 : Int32) (v3 : Int32) (v4 : Int32) (v5 : Int32) (M : dp_M) : Option dp_Res := dp_lim true xs xl (dp_den true xs xl d) dp_m_X12_finds (3, [some (.ref 114), some (.int v1), some (.int v2), some (.int v3), some (.int v4), some (.int v5), none, none, none], [], M)
noncomputable def D_X12_finds_77 (xs : Nat → Int32) (xl d : Nat) (v1 : Int32) (v2 : Int32) (v3 : Int32) (v4 : Int32) (v5 : Int32) (M : dp_M) : Option dp_Res := dp_lim true xs xl (dp_den true xs xl d) dp_m_X12_finds (77, [some (.ref 114), some (.int v1), some (.int v2), some (.int v3), some (.int v4), some (.int v5), none, none, none], [], M)
noncomputable def D_X12_finds_87 (xs : Nat → Int32) (xl d : Nat) (v1 : Int32) (v2 : Int32) (v3 : Int32) (v4 : Int32) (v5 : Int32) (v6 : Int32) (M : dp_M) : Option dp_Res := dp_lim true xs xl (dp_den true xs xl d) dp_m_X12_finds (87, [some (.ref 114), some (.int v1), some (.int v2), some (.int v3), some (.int v4), some (.int v5), some (.int v6), none, none], [], M)
noncomputable def D_X12_finds_77_a (xs : Nat → Int32) (xl d : Nat) (v1 : Int32) (v2 : Int32) (v3 : Int32) (v4 : Int32) (v5 : Int32) (v6 : Int32) (M : dp_M) : Option dp_Res := dp_lim true xs xl (dp_den true xs xl d) dp_m_X12_finds (77, [some (.ref 114), some (.int v1), some (.int v2), some (.int v3), some (.int v4), some (.int v5), some (.int v6), none, none], [], M)
noncomputable def D_X12_finds_128 (xs : Nat → Int32) (xl d : Nat) (v1 : Int32) (v2 : Int32) (v3 : Int32) (v4 : Int32) (v5 : Int32) (v6 : Int32) (v7 : Int32) (v8 : Int32) (M : dp_M) : Option dp_Res := dp_lim true xs xl (dp_den true xs xl d) dp_m_X12_finds (128, [some (.ref 114), some (.int v1), some (.int v2), some (.int v3), some (.int v4), some (.int v5), some (.int v6), some (.int v7), some (.int v8)], [], M)
noncomputable def D_X12_finds_182 (xs : Nat → Int32) (xl d : Nat) (v1 : Int32) (v2 : Int32) (v3 : Int32) (v4 : Int32) (v5 : Int32) (v6 : Int32) (v7 : Int32) (v8 : Int32) (M : dp_M) : Option dp_Res := dp_lim true xs xl (dp_den true xs xl d) dp_m_X12_finds (182, [some (.ref 114), some (.int v1), some (.int v2), some (.int v3), some (.int v4), some (.int v5), some (.int v6), some (.int v7), some (.int v8)], [], M)
noncomputable def D_X12_finds_87_a (xs : Nat → Int32) (xl d : Nat) (v1 : Int32) (v2 : Int32) (v3 : Int32) (v4 : Int32) (v5 : Int32) (v6 : Int32) (v7 : Int32) (v8 : Int32) (M : dp_M) : Option dp_Res := dp_lim true xs xl (dp_den true xs xl d) dp_m_X12_finds (87, [some (.ref 114), some (.int v1), some (.int v2), some (.int v3), some (.int v4), some (.int v5), some (.int v6), some (.int v7), some (.int v8)], [], M)
noncomputable def D_X12_finds_77_b (xs : Nat → Int32) (xl d : Nat) (v1 : Int32) (v2 : Int32) (v3 : Int32) (v4 : Int32) (v5 : Int32) (v6 : Int32) (v7 : Int32) (v8 : Int32) (M : dp_M) : Option dp_Res := dp_lim true xs xl (dp_den true xs xl d) dp_m_X12_finds (77, [some (.ref 114), some (.int v1), some (.int v2), some (.int v3), some (.int v4), some (.int v5), some (.int v6), some (.int v7), some (.int v8)], [], M)
theorem D_X12_finds_0_den (xs : Nat → Int32) (xl d : Nat) (a0 : Int32) (a1 : Int32) (a2 : Int32) (a3 : Int32) (M : dp_M) : dp_den true xs xl (d + 1) 461 [.ref 114, .int a0, .int a1, .int a2, .int a3] M = D_X12_finds_0 xs xl d a0 a1 a2 a3 M := rfl
set_option maxRecDepth 20000 in
theorem D_X12_finds_0_eq (xs : Nat → Int32) (xl d : Nat) (v1 : Int32) (v2 : Int32) (v3 : Int32) (v4 : Int32) (M : dp_M) : D_X12_finds_0 xs xl d v1 v2 v3 v4 M = dp_w (1 : Int32) (fun y1 => D_X12_finds_3 xs xl d v1 v2 v3 v4 y1 M) := by
  have hF := dp_den_grow (md := true) (xs := xs) (xl := xl) d
  unfold D_X12_finds_0
  refine dp_s1 hF (i := .iconst 1) rfl (fun _ => rfl) ?_
  refine dp_s1w (1 : Int32) (fun (y1 : Int32) => (3, [some (.ref 114), some (.int v1), some (.int v2), some (.int v3), some (.int v4), some (.int y1), none, none, none], [], M)) hF (i := .istore 5) rfl (fun _ => rfl) (fun y1 => ?_)
  exact rfl
set_option maxRecDepth 20000 in
theorem D_X12_finds_3_eq (xs : Nat → Int32) (xl d : Nat) (v1 : Int32) (v2 : Int32) (v3 : Int32) (v4 : Int32) (v5 : Int32) (M : dp_M) : D_X12_finds_3 xs xl d v1 v2 v3 v4 v5 M = if (dp_I M 114 55) < v5 then (dp_w (dp_setI M 114 70 (0 : Int32)) (fun M1 => dp_w (0 : Int32) (fun y2 => D_X12_finds_77 xs xl d v1 v2 v3 v4 y2 M1))) else (dp_bi (dp_den true xs xl d 459 [.ref 114, .int v5, .int v1, .int v2, .int v3, .int v4] M) (fun r4 M3 => if r4 = 0 then (if v5 < 0 ∨ 301 ≤ Int32.toNatClampNeg v5 then none else dp_w (dp_setI M3 169 (Int32.toNatClampNeg v5) ((0 : Int32) &&& 1)) (fun M5 => dp_w (v5 + (1 : Int32)) (fun y6 => D_X12_finds_3 xs xl d v1 v2 v3 v4 y6 M5))) else (if v5 < 0 ∨ 301 ≤ Int32.toNatClampNeg v5 then none else (if (dp_I M3 163 (Int32.toNatClampNeg v5)) = 0 then (if v5 < 0 ∨ 301 ≤ Int32.toNatClampNeg v5 then none else dp_w (dp_setI M3 169 (Int32.toNatClampNeg v5) ((1 : Int32) &&& 1)) (fun M7 => dp_w (v5 + (1 : Int32)) (fun y8 => D_X12_finds_3 xs xl d v1 v2 v3 v4 y8 M7))) else (if v5 < 0 ∨ 301 ≤ Int32.toNatClampNeg v5 then none else (if ((dp_I M3 163 (Int32.toNatClampNeg v5)) &&& (dp_I M3 114 68)) = 0 then (if v5 < 0 ∨ 301 ≤ Int32.toNatClampNeg v5 then none else dp_w (dp_setI M3 169 (Int32.toNatClampNeg v5) ((0 : Int32) &&& 1)) (fun M9 => dp_w (v5 + (1 : Int32)) (fun y10 => D_X12_finds_3 xs xl d v1 v2 v3 v4 y10 M9))) else (if v5 < 0 ∨ 301 ≤ Int32.toNatClampNeg v5 then none else dp_w (dp_setI M3 169 (Int32.toNatClampNeg v5) ((1 : Int32) &&& 1)) (fun M11 => dp_w (v5 + (1 : Int32)) (fun y12 => D_X12_finds_3 xs xl d v1 v2 v3 v4 y12 M11))))))))) := by
  have hF := dp_den_grow (md := true) (xs := xs) (xl := xl) d
  unfold D_X12_finds_3
  refine dp_s1 hF (i := .iload 5) rfl (fun _ => rfl) ?_
  refine dp_s1 hF (i := .aload_n 0) rfl (fun _ => rfl) ?_
  refine dp_s1 hF (i := .getfield 666) rfl (fun _ => rfl) ?_
  refine dp_s2 hF (i := .if_icmp .gt 60) (a := (69, [some (.ref 114), some (.int v1), some (.int v2), some (.int v3), some (.int v4), some (.int v5), none, none, none], [], M)) (b := (12, [some (.ref 114), some (.int v1), some (.int v2), some (.int v3), some (.int v4), some (.int v5), none, none, none], [], M)) rfl (fun _ => rfl) ?_ ?_
  · refine dp_s1 hF (i := .aload_n 0) rfl (fun _ => rfl) ?_
    refine dp_s1 hF (i := .iconst 0) rfl (fun _ => rfl) ?_
    refine dp_s1w (dp_setI M 114 70 (0 : Int32)) (fun (M1 : dp_M) => (74, [some (.ref 114), some (.int v1), some (.int v2), some (.int v3), some (.int v4), some (.int v5), none, none, none], [], M1)) hF (i := .putfield 701) rfl (fun _ => rfl) (fun M1 => ?_)
    refine dp_s1 hF (i := .iconst 0) rfl (fun _ => rfl) ?_
    refine dp_s1w (0 : Int32) (fun (y2 : Int32) => (77, [some (.ref 114), some (.int v1), some (.int v2), some (.int v3), some (.int v4), some (.int y2), none, none, none], [], M1)) hF (i := .istore 5) rfl (fun _ => rfl) (fun y2 => ?_)
    exact rfl
  refine dp_s1 hF (i := .aload_n 0) rfl (fun _ => rfl) ?_
  refine dp_s1 hF (i := .getfield 178) rfl (fun _ => rfl) ?_
  refine dp_s1 hF (i := .iload 5) rfl (fun _ => rfl) ?_
  refine dp_s1 hF (i := .aload_n 0) rfl (fun _ => rfl) ?_
  refine dp_s1 hF (i := .iload 5) rfl (fun _ => rfl) ?_
  refine dp_s1 hF (i := .iload_n 1) rfl (fun _ => rfl) ?_
  refine dp_s1 hF (i := .iload_n 2) rfl (fun _ => rfl) ?_
  refine dp_s1 hF (i := .iload_n 3) rfl (fun _ => rfl) ?_
  refine dp_s1 hF (i := .iload 4) rfl (fun _ => rfl) ?_
  refine dp_si (mj := dp_m_X12_isOf) (i := .invokevirtual 697) rfl rfl (Or.inr rfl) rfl (fun _ => rfl) (fun r4 M3 => ?_)
  refine dp_s2 hF (i := .ifCond .eq 32) (a := (61, [some (.ref 114), some (.int v1), some (.int v2), some (.int v3), some (.int v4), some (.int v5), none, none, none], [.int v5, .ref 169], M3)) (b := (32, [some (.ref 114), some (.int v1), some (.int v2), some (.int v3), some (.int v4), some (.int v5), none, none, none], [.int v5, .ref 169], M3)) rfl (fun _ => rfl) ?_ ?_
  · refine dp_s1 hF (i := .iconst 0) rfl (fun _ => rfl) ?_
    refine dp_s3w (dp_setI M3 169 (Int32.toNatClampNeg v5) ((0 : Int32) &&& 1)) (fun (M5 : dp_M) => (63, [some (.ref 114), some (.int v1), some (.int v2), some (.int v3), some (.int v4), some (.int v5), none, none, none], [], M5)) hF (i := .bastore) rfl (fun _ => rfl) (fun M5 => ?_)
    refine dp_s1w (v5 + (1 : Int32)) (fun (y6 : Int32) => (66, [some (.ref 114), some (.int v1), some (.int v2), some (.int v3), some (.int v4), some (.int y6), none, none, none], [], M5)) hF (i := .iinc 5 1) rfl (fun _ => rfl) (fun y6 => ?_)
    refine dp_s1 hF (i := .goto (-63)) rfl (fun _ => rfl) ?_
    exact rfl
  refine dp_s1 hF (i := .aload_n 0) rfl (fun _ => rfl) ?_
  refine dp_s1 hF (i := .getfield 160) rfl (fun _ => rfl) ?_
  refine dp_s1 hF (i := .iload 5) rfl (fun _ => rfl) ?_
  refine dp_s3 hF (i := .iaload) rfl (fun _ => rfl) ?_
  refine dp_s2 hF (i := .ifCond .eq 18) (a := (57, [some (.ref 114), some (.int v1), some (.int v2), some (.int v3), some (.int v4), some (.int v5), none, none, none], [.int v5, .ref 169], M3)) (b := (42, [some (.ref 114), some (.int v1), some (.int v2), some (.int v3), some (.int v4), some (.int v5), none, none, none], [.int v5, .ref 169], M3)) rfl (fun _ => rfl) ?_ ?_
  · refine dp_s1 hF (i := .iconst 1) rfl (fun _ => rfl) ?_
    refine dp_s1 hF (i := .goto 4) rfl (fun _ => rfl) ?_
    refine dp_s3w (dp_setI M3 169 (Int32.toNatClampNeg v5) ((1 : Int32) &&& 1)) (fun (M7 : dp_M) => (63, [some (.ref 114), some (.int v1), some (.int v2), some (.int v3), some (.int v4), some (.int v5), none, none, none], [], M7)) hF (i := .bastore) rfl (fun _ => rfl) (fun M7 => ?_)
    refine dp_s1w (v5 + (1 : Int32)) (fun (y8 : Int32) => (66, [some (.ref 114), some (.int v1), some (.int v2), some (.int v3), some (.int v4), some (.int y8), none, none, none], [], M7)) hF (i := .iinc 5 1) rfl (fun _ => rfl) (fun y8 => ?_)
    refine dp_s1 hF (i := .goto (-63)) rfl (fun _ => rfl) ?_
    exact rfl
  refine dp_s1 hF (i := .aload_n 0) rfl (fun _ => rfl) ?_
  refine dp_s1 hF (i := .getfield 160) rfl (fun _ => rfl) ?_
  refine dp_s1 hF (i := .iload 5) rfl (fun _ => rfl) ?_
  refine dp_s3 hF (i := .iaload) rfl (fun _ => rfl) ?_
  refine dp_s1 hF (i := .aload_n 0) rfl (fun _ => rfl) ?_
  refine dp_s1 hF (i := .getfield 688) rfl (fun _ => rfl) ?_
  refine dp_s1 hF (i := .iand) rfl (fun _ => rfl) ?_
  refine dp_s2 hF (i := .ifCond .eq 7) (a := (61, [some (.ref 114), some (.int v1), some (.int v2), some (.int v3), some (.int v4), some (.int v5), none, none, none], [.int v5, .ref 169], M3)) (b := (57, [some (.ref 114), some (.int v1), some (.int v2), some (.int v3), some (.int v4), some (.int v5), none, none, none], [.int v5, .ref 169], M3)) rfl (fun _ => rfl) ?_ ?_
  · refine dp_s1 hF (i := .iconst 0) rfl (fun _ => rfl) ?_
    refine dp_s3w (dp_setI M3 169 (Int32.toNatClampNeg v5) ((0 : Int32) &&& 1)) (fun (M9 : dp_M) => (63, [some (.ref 114), some (.int v1), some (.int v2), some (.int v3), some (.int v4), some (.int v5), none, none, none], [], M9)) hF (i := .bastore) rfl (fun _ => rfl) (fun M9 => ?_)
    refine dp_s1w (v5 + (1 : Int32)) (fun (y10 : Int32) => (66, [some (.ref 114), some (.int v1), some (.int v2), some (.int v3), some (.int v4), some (.int y10), none, none, none], [], M9)) hF (i := .iinc 5 1) rfl (fun _ => rfl) (fun y10 => ?_)
    refine dp_s1 hF (i := .goto (-63)) rfl (fun _ => rfl) ?_
    exact rfl
  refine dp_s1 hF (i := .iconst 1) rfl (fun _ => rfl) ?_
  refine dp_s1 hF (i := .goto 4) rfl (fun _ => rfl) ?_
  refine dp_s3w (dp_setI M3 169 (Int32.toNatClampNeg v5) ((1 : Int32) &&& 1)) (fun (M11 : dp_M) => (63, [some (.ref 114), some (.int v1), some (.int v2), some (.int v3), some (.int v4), some (.int v5), none, none, none], [], M11)) hF (i := .bastore) rfl (fun _ => rfl) (fun M11 => ?_)
  refine dp_s1w (v5 + (1 : Int32)) (fun (y12 : Int32) => (66, [some (.ref 114), some (.int v1), some (.int v2), some (.int v3), some (.int v4), some (.int y12), none, none, none], [], M11)) hF (i := .iinc 5 1) rfl (fun _ => rfl) (fun y12 => ?_)
  refine dp_s1 hF (i := .goto (-63)) rfl (fun _ => rfl) ?_
  exact rfl
set_option maxRecDepth 20000 in
theorem D_X12_finds_77_eq (xs : Nat → Int32) (xl d : Nat) (v1 : Int32) (v2 : Int32) (v3 : Int32) (v4 : Int32) (v5 : Int32) (M : dp_M) : D_X12_finds_77 xs xl d v1 v2 v3 v4 v5 M = if (8 : Int32) ≤ v5 then (some (.inl none, M)) else (dp_w (1 : Int32) (fun y1 => D_X12_finds_87 xs xl d v1 v2 v3 v4 v5 y1 M)) := by
  have hF := dp_den_grow (md := true) (xs := xs) (xl := xl) d
  unfold D_X12_finds_77
  refine dp_s1 hF (i := .iload 5) rfl (fun _ => rfl) ?_
  refine dp_s1 hF (i := .bipush 8) rfl (fun _ => rfl) ?_
  refine dp_s2 hF (i := .if_icmp .ge 139) (a := (220, [some (.ref 114), some (.int v1), some (.int v2), some (.int v3), some (.int v4), some (.int v5), none, none, none], [], M)) (b := (84, [some (.ref 114), some (.int v1), some (.int v2), some (.int v3), some (.int v4), some (.int v5), none, none, none], [], M)) rfl (fun _ => rfl) ?_ ?_
  · exact dp_s0 hF (i := .return_) rfl (fun _ => rfl)
  refine dp_s1 hF (i := .iconst 1) rfl (fun _ => rfl) ?_
  refine dp_s1w (1 : Int32) (fun (y1 : Int32) => (87, [some (.ref 114), some (.int v1), some (.int v2), some (.int v3), some (.int v4), some (.int v5), some (.int y1), none, none], [], M)) hF (i := .istore 6) rfl (fun _ => rfl) (fun y1 => ?_)
  exact rfl
set_option maxRecDepth 20000 in
theorem D_X12_finds_87_eq (xs : Nat → Int32) (xl d : Nat) (v1 : Int32) (v2 : Int32) (v3 : Int32) (v4 : Int32) (v5 : Int32) (v6 : Int32) (M : dp_M) : D_X12_finds_87 xs xl d v1 v2 v3 v4 v5 v6 M = if (dp_I M 114 55) < v6 then (dp_w (v5 + (1 : Int32)) (fun y1 => D_X12_finds_77_a xs xl d v1 v2 v3 v4 y1 v6 M)) else (if v6 < 0 ∨ 301 ≤ Int32.toNatClampNeg v6 then none else (if (dp_I M 169 (Int32.toNatClampNeg v6)) = 0 then (dp_w (0 : Int32) (fun y2 => dp_w (1 : Int32) (fun y3 => D_X12_finds_128 xs xl d v1 v2 v3 v4 v5 v6 y2 y3 M))) else (if v6 < 0 ∨ 301 ≤ Int32.toNatClampNeg v6 then none else (if (dp_I M 159 (Int32.toNatClampNeg v6)) = v5 then (dp_w (1 : Int32) (fun y4 => dp_w (1 : Int32) (fun y5 => D_X12_finds_128 xs xl d v1 v2 v3 v4 v5 v6 y4 y5 M))) else (dp_w (0 : Int32) (fun y6 => dp_w (1 : Int32) (fun y7 => D_X12_finds_128 xs xl d v1 v2 v3 v4 v5 v6 y6 y7 M))))))) := by
  have hF := dp_den_grow (md := true) (xs := xs) (xl := xl) d
  unfold D_X12_finds_87
  refine dp_s1 hF (i := .iload 6) rfl (fun _ => rfl) ?_
  refine dp_s1 hF (i := .aload_n 0) rfl (fun _ => rfl) ?_
  refine dp_s1 hF (i := .getfield 666) rfl (fun _ => rfl) ?_
  refine dp_s2 hF (i := .if_icmp .gt 121) (a := (214, [some (.ref 114), some (.int v1), some (.int v2), some (.int v3), some (.int v4), some (.int v5), some (.int v6), none, none], [], M)) (b := (96, [some (.ref 114), some (.int v1), some (.int v2), some (.int v3), some (.int v4), some (.int v5), some (.int v6), none, none], [], M)) rfl (fun _ => rfl) ?_ ?_
  · refine dp_s1w (v5 + (1 : Int32)) (fun (y1 : Int32) => (217, [some (.ref 114), some (.int v1), some (.int v2), some (.int v3), some (.int v4), some (.int y1), some (.int v6), none, none], [], M)) hF (i := .iinc 5 1) rfl (fun _ => rfl) (fun y1 => ?_)
    refine dp_s1 hF (i := .goto (-140)) rfl (fun _ => rfl) ?_
    exact rfl
  refine dp_s1 hF (i := .aload_n 0) rfl (fun _ => rfl) ?_
  refine dp_s1 hF (i := .getfield 178) rfl (fun _ => rfl) ?_
  refine dp_s1 hF (i := .iload 6) rfl (fun _ => rfl) ?_
  refine dp_s3 hF (i := .baload) rfl (fun _ => rfl) ?_
  refine dp_s2 hF (i := .ifCond .eq 19) (a := (122, [some (.ref 114), some (.int v1), some (.int v2), some (.int v3), some (.int v4), some (.int v5), some (.int v6), none, none], [], M)) (b := (106, [some (.ref 114), some (.int v1), some (.int v2), some (.int v3), some (.int v4), some (.int v5), some (.int v6), none, none], [], M)) rfl (fun _ => rfl) ?_ ?_
  · refine dp_s1 hF (i := .iconst 0) rfl (fun _ => rfl) ?_
    refine dp_s1w (0 : Int32) (fun (y2 : Int32) => (125, [some (.ref 114), some (.int v1), some (.int v2), some (.int v3), some (.int v4), some (.int v5), some (.int v6), some (.int y2), none], [], M)) hF (i := .istore 7) rfl (fun _ => rfl) (fun y2 => ?_)
    refine dp_s1 hF (i := .iconst 1) rfl (fun _ => rfl) ?_
    refine dp_s1w (1 : Int32) (fun (y3 : Int32) => (128, [some (.ref 114), some (.int v1), some (.int v2), some (.int v3), some (.int v4), some (.int v5), some (.int v6), some (.int y2), some (.int y3)], [], M)) hF (i := .istore 8) rfl (fun _ => rfl) (fun y3 => ?_)
    exact rfl
  refine dp_s1 hF (i := .aload_n 0) rfl (fun _ => rfl) ?_
  refine dp_s1 hF (i := .getfield 148) rfl (fun _ => rfl) ?_
  refine dp_s1 hF (i := .iload 6) rfl (fun _ => rfl) ?_
  refine dp_s3 hF (i := .iaload) rfl (fun _ => rfl) ?_
  refine dp_s1 hF (i := .iload 5) rfl (fun _ => rfl) ?_
  refine dp_s2 hF (i := .if_icmp .ne 7) (a := (118, [some (.ref 114), some (.int v1), some (.int v2), some (.int v3), some (.int v4), some (.int v5), some (.int v6), none, none], [], M)) (b := (122, [some (.ref 114), some (.int v1), some (.int v2), some (.int v3), some (.int v4), some (.int v5), some (.int v6), none, none], [], M)) rfl (fun _ => rfl) ?_ ?_
  · refine dp_s1 hF (i := .iconst 1) rfl (fun _ => rfl) ?_
    refine dp_s1 hF (i := .goto 4) rfl (fun _ => rfl) ?_
    refine dp_s1w (1 : Int32) (fun (y4 : Int32) => (125, [some (.ref 114), some (.int v1), some (.int v2), some (.int v3), some (.int v4), some (.int v5), some (.int v6), some (.int y4), none], [], M)) hF (i := .istore 7) rfl (fun _ => rfl) (fun y4 => ?_)
    refine dp_s1 hF (i := .iconst 1) rfl (fun _ => rfl) ?_
    refine dp_s1w (1 : Int32) (fun (y5 : Int32) => (128, [some (.ref 114), some (.int v1), some (.int v2), some (.int v3), some (.int v4), some (.int v5), some (.int v6), some (.int y4), some (.int y5)], [], M)) hF (i := .istore 8) rfl (fun _ => rfl) (fun y5 => ?_)
    exact rfl
  refine dp_s1 hF (i := .iconst 0) rfl (fun _ => rfl) ?_
  refine dp_s1w (0 : Int32) (fun (y6 : Int32) => (125, [some (.ref 114), some (.int v1), some (.int v2), some (.int v3), some (.int v4), some (.int v5), some (.int v6), some (.int y6), none], [], M)) hF (i := .istore 7) rfl (fun _ => rfl) (fun y6 => ?_)
  refine dp_s1 hF (i := .iconst 1) rfl (fun _ => rfl) ?_
  refine dp_s1w (1 : Int32) (fun (y7 : Int32) => (128, [some (.ref 114), some (.int v1), some (.int v2), some (.int v3), some (.int v4), some (.int v5), some (.int v6), some (.int y6), some (.int y7)], [], M)) hF (i := .istore 8) rfl (fun _ => rfl) (fun y7 => ?_)
  exact rfl
set_option maxRecDepth 20000 in
theorem D_X12_finds_77_a_eq (xs : Nat → Int32) (xl d : Nat) (v1 : Int32) (v2 : Int32) (v3 : Int32) (v4 : Int32) (v5 : Int32) (v6 : Int32) (M : dp_M) : D_X12_finds_77_a xs xl d v1 v2 v3 v4 v5 v6 M = if (8 : Int32) ≤ v5 then (some (.inl none, M)) else (dp_w (1 : Int32) (fun y1 => D_X12_finds_87 xs xl d v1 v2 v3 v4 v5 y1 M)) := by
  have hF := dp_den_grow (md := true) (xs := xs) (xl := xl) d
  unfold D_X12_finds_77_a
  refine dp_s1 hF (i := .iload 5) rfl (fun _ => rfl) ?_
  refine dp_s1 hF (i := .bipush 8) rfl (fun _ => rfl) ?_
  refine dp_s2 hF (i := .if_icmp .ge 139) (a := (220, [some (.ref 114), some (.int v1), some (.int v2), some (.int v3), some (.int v4), some (.int v5), some (.int v6), none, none], [], M)) (b := (84, [some (.ref 114), some (.int v1), some (.int v2), some (.int v3), some (.int v4), some (.int v5), some (.int v6), none, none], [], M)) rfl (fun _ => rfl) ?_ ?_
  · exact dp_s0 hF (i := .return_) rfl (fun _ => rfl)
  refine dp_s1 hF (i := .iconst 1) rfl (fun _ => rfl) ?_
  refine dp_s1w (1 : Int32) (fun (y1 : Int32) => (87, [some (.ref 114), some (.int v1), some (.int v2), some (.int v3), some (.int v4), some (.int v5), some (.int y1), none, none], [], M)) hF (i := .istore 6) rfl (fun _ => rfl) (fun y1 => ?_)
  exact rfl
set_option maxRecDepth 20000 in
theorem D_X12_finds_128_eq (xs : Nat → Int32) (xl d : Nat) (v1 : Int32) (v2 : Int32) (v3 : Int32) (v4 : Int32) (v5 : Int32) (v6 : Int32) (v7 : Int32) (v8 : Int32) (M : dp_M) : D_X12_finds_128 xs xl d v1 v2 v3 v4 v5 v6 v7 v8 M = if (dp_I M 114 55) < v8 then (D_X12_finds_182 xs xl d v1 v2 v3 v4 v5 v6 v7 v8 M) else (if (4 : Int32) ≤ v5 then (D_X12_finds_182 xs xl d v1 v2 v3 v4 v5 v6 v7 v8 M) else (if v7 = 0 then (D_X12_finds_182 xs xl d v1 v2 v3 v4 v5 v6 v7 v8 M) else (if v8 < 0 ∨ 301 ≤ Int32.toNatClampNeg v8 then none else (if (dp_I M 169 (Int32.toNatClampNeg v8)) = 0 then (dp_w (1 : Int32) (fun y1 => dp_w (v8 + (1 : Int32)) (fun y2 => D_X12_finds_128 xs xl d v1 v2 v3 v4 v5 v6 y1 y2 M))) else (dp_bi (dp_den true xs xl d 460 [.ref 114, .int v8, .int v6] M) (fun r4 M3 => if r4 = 0 then (dp_w (1 : Int32) (fun y5 => dp_w (v8 + (1 : Int32)) (fun y6 => D_X12_finds_128 xs xl d v1 v2 v3 v4 v5 v6 y5 y6 M3))) else (dp_w (0 : Int32) (fun y7 => dp_w (v8 + (1 : Int32)) (fun y8 => D_X12_finds_128 xs xl d v1 v2 v3 v4 v5 v6 y7 y8 M3))))))))) := by
  have hF := dp_den_grow (md := true) (xs := xs) (xl := xl) d
  unfold D_X12_finds_128
  refine dp_s1 hF (i := .iload 8) rfl (fun _ => rfl) ?_
  refine dp_s1 hF (i := .aload_n 0) rfl (fun _ => rfl) ?_
  refine dp_s1 hF (i := .getfield 666) rfl (fun _ => rfl) ?_
  refine dp_s2 hF (i := .if_icmp .gt 48) (a := (182, [some (.ref 114), some (.int v1), some (.int v2), some (.int v3), some (.int v4), some (.int v5), some (.int v6), some (.int v7), some (.int v8)], [], M)) (b := (137, [some (.ref 114), some (.int v1), some (.int v2), some (.int v3), some (.int v4), some (.int v5), some (.int v6), some (.int v7), some (.int v8)], [], M)) rfl (fun _ => rfl) ?_ ?_
  · exact rfl
  refine dp_s1 hF (i := .iload 5) rfl (fun _ => rfl) ?_
  refine dp_s1 hF (i := .iconst 4) rfl (fun _ => rfl) ?_
  refine dp_s2 hF (i := .if_icmp .ge 42) (a := (182, [some (.ref 114), some (.int v1), some (.int v2), some (.int v3), some (.int v4), some (.int v5), some (.int v6), some (.int v7), some (.int v8)], [], M)) (b := (143, [some (.ref 114), some (.int v1), some (.int v2), some (.int v3), some (.int v4), some (.int v5), some (.int v6), some (.int v7), some (.int v8)], [], M)) rfl (fun _ => rfl) ?_ ?_
  · exact rfl
  refine dp_s1 hF (i := .iload 7) rfl (fun _ => rfl) ?_
  refine dp_s2 hF (i := .ifCond .eq 37) (a := (182, [some (.ref 114), some (.int v1), some (.int v2), some (.int v3), some (.int v4), some (.int v5), some (.int v6), some (.int v7), some (.int v8)], [], M)) (b := (148, [some (.ref 114), some (.int v1), some (.int v2), some (.int v3), some (.int v4), some (.int v5), some (.int v6), some (.int v7), some (.int v8)], [], M)) rfl (fun _ => rfl) ?_ ?_
  · exact rfl
  refine dp_s1 hF (i := .aload_n 0) rfl (fun _ => rfl) ?_
  refine dp_s1 hF (i := .getfield 178) rfl (fun _ => rfl) ?_
  refine dp_s1 hF (i := .iload 8) rfl (fun _ => rfl) ?_
  refine dp_s3 hF (i := .baload) rfl (fun _ => rfl) ?_
  refine dp_s2 hF (i := .ifCond .eq 14) (a := (169, [some (.ref 114), some (.int v1), some (.int v2), some (.int v3), some (.int v4), some (.int v5), some (.int v6), some (.int v7), some (.int v8)], [], M)) (b := (158, [some (.ref 114), some (.int v1), some (.int v2), some (.int v3), some (.int v4), some (.int v5), some (.int v6), some (.int v7), some (.int v8)], [], M)) rfl (fun _ => rfl) ?_ ?_
  · refine dp_s1 hF (i := .iconst 1) rfl (fun _ => rfl) ?_
    refine dp_s1 hF (i := .goto 4) rfl (fun _ => rfl) ?_
    refine dp_s1w (1 : Int32) (fun (y1 : Int32) => (176, [some (.ref 114), some (.int v1), some (.int v2), some (.int v3), some (.int v4), some (.int v5), some (.int v6), some (.int y1), some (.int v8)], [], M)) hF (i := .istore 7) rfl (fun _ => rfl) (fun y1 => ?_)
    refine dp_s1w (v8 + (1 : Int32)) (fun (y2 : Int32) => (179, [some (.ref 114), some (.int v1), some (.int v2), some (.int v3), some (.int v4), some (.int v5), some (.int v6), some (.int y1), some (.int y2)], [], M)) hF (i := .iinc 8 1) rfl (fun _ => rfl) (fun y2 => ?_)
    refine dp_s1 hF (i := .goto (-51)) rfl (fun _ => rfl) ?_
    exact rfl
  refine dp_s1 hF (i := .aload_n 0) rfl (fun _ => rfl) ?_
  refine dp_s1 hF (i := .iload 8) rfl (fun _ => rfl) ?_
  refine dp_s1 hF (i := .iload 6) rfl (fun _ => rfl) ?_
  refine dp_si (mj := dp_m_X12_beats) (i := .invokevirtual 704) rfl rfl (Or.inr rfl) rfl (fun _ => rfl) (fun r4 M3 => ?_)
  refine dp_s2 hF (i := .ifCond .ne 7) (a := (169, [some (.ref 114), some (.int v1), some (.int v2), some (.int v3), some (.int v4), some (.int v5), some (.int v6), some (.int v7), some (.int v8)], [], M3)) (b := (173, [some (.ref 114), some (.int v1), some (.int v2), some (.int v3), some (.int v4), some (.int v5), some (.int v6), some (.int v7), some (.int v8)], [], M3)) rfl (fun _ => rfl) ?_ ?_
  · refine dp_s1 hF (i := .iconst 1) rfl (fun _ => rfl) ?_
    refine dp_s1 hF (i := .goto 4) rfl (fun _ => rfl) ?_
    refine dp_s1w (1 : Int32) (fun (y5 : Int32) => (176, [some (.ref 114), some (.int v1), some (.int v2), some (.int v3), some (.int v4), some (.int v5), some (.int v6), some (.int y5), some (.int v8)], [], M3)) hF (i := .istore 7) rfl (fun _ => rfl) (fun y5 => ?_)
    refine dp_s1w (v8 + (1 : Int32)) (fun (y6 : Int32) => (179, [some (.ref 114), some (.int v1), some (.int v2), some (.int v3), some (.int v4), some (.int v5), some (.int v6), some (.int y5), some (.int y6)], [], M3)) hF (i := .iinc 8 1) rfl (fun _ => rfl) (fun y6 => ?_)
    refine dp_s1 hF (i := .goto (-51)) rfl (fun _ => rfl) ?_
    exact rfl
  refine dp_s1 hF (i := .iconst 0) rfl (fun _ => rfl) ?_
  refine dp_s1w (0 : Int32) (fun (y7 : Int32) => (176, [some (.ref 114), some (.int v1), some (.int v2), some (.int v3), some (.int v4), some (.int v5), some (.int v6), some (.int y7), some (.int v8)], [], M3)) hF (i := .istore 7) rfl (fun _ => rfl) (fun y7 => ?_)
  refine dp_s1w (v8 + (1 : Int32)) (fun (y8 : Int32) => (179, [some (.ref 114), some (.int v1), some (.int v2), some (.int v3), some (.int v4), some (.int v5), some (.int v6), some (.int y7), some (.int y8)], [], M3)) hF (i := .iinc 8 1) rfl (fun _ => rfl) (fun y8 => ?_)
  refine dp_s1 hF (i := .goto (-51)) rfl (fun _ => rfl) ?_
  exact rfl
set_option maxRecDepth 20000 in
theorem D_X12_finds_182_eq (xs : Nat → Int32) (xl d : Nat) (v1 : Int32) (v2 : Int32) (v3 : Int32) (v4 : Int32) (v5 : Int32) (v6 : Int32) (v7 : Int32) (v8 : Int32) (M : dp_M) : D_X12_finds_182 xs xl d v1 v2 v3 v4 v5 v6 v7 v8 M = if v7 = 0 then (dp_w (v6 + (1 : Int32)) (fun y1 => D_X12_finds_87_a xs xl d v1 v2 v3 v4 v5 y1 v7 v8 M)) else (if (dp_I M 114 70) < 0 ∨ 300 ≤ Int32.toNatClampNeg (dp_I M 114 70) then none else dp_w (dp_setI M 167 (Int32.toNatClampNeg (dp_I M 114 70)) v6) (fun M2 => dp_w (dp_setI M2 114 70 ((dp_I M2 114 70) + (1 : Int32))) (fun M3 => dp_w (v6 + (1 : Int32)) (fun y4 => D_X12_finds_87_a xs xl d v1 v2 v3 v4 v5 y4 v7 v8 M3)))) := by
  have hF := dp_den_grow (md := true) (xs := xs) (xl := xl) d
  unfold D_X12_finds_182
  refine dp_s1 hF (i := .iload 7) rfl (fun _ => rfl) ?_
  refine dp_s2 hF (i := .ifCond .eq 24) (a := (208, [some (.ref 114), some (.int v1), some (.int v2), some (.int v3), some (.int v4), some (.int v5), some (.int v6), some (.int v7), some (.int v8)], [], M)) (b := (187, [some (.ref 114), some (.int v1), some (.int v2), some (.int v3), some (.int v4), some (.int v5), some (.int v6), some (.int v7), some (.int v8)], [], M)) rfl (fun _ => rfl) ?_ ?_
  · refine dp_s1w (v6 + (1 : Int32)) (fun (y1 : Int32) => (211, [some (.ref 114), some (.int v1), some (.int v2), some (.int v3), some (.int v4), some (.int v5), some (.int y1), some (.int v7), some (.int v8)], [], M)) hF (i := .iinc 6 1) rfl (fun _ => rfl) (fun y1 => ?_)
    refine dp_s1 hF (i := .goto (-124)) rfl (fun _ => rfl) ?_
    exact rfl
  refine dp_s1 hF (i := .aload_n 0) rfl (fun _ => rfl) ?_
  refine dp_s1 hF (i := .getfield 172) rfl (fun _ => rfl) ?_
  refine dp_s1 hF (i := .aload_n 0) rfl (fun _ => rfl) ?_
  refine dp_s1 hF (i := .getfield 701) rfl (fun _ => rfl) ?_
  refine dp_s1 hF (i := .iload 6) rfl (fun _ => rfl) ?_
  refine dp_s3w (dp_setI M 167 (Int32.toNatClampNeg (dp_I M 114 70)) v6) (fun (M2 : dp_M) => (198, [some (.ref 114), some (.int v1), some (.int v2), some (.int v3), some (.int v4), some (.int v5), some (.int v6), some (.int v7), some (.int v8)], [], M2)) hF (i := .iastore) rfl (fun _ => rfl) (fun M2 => ?_)
  refine dp_s1 hF (i := .aload_n 0) rfl (fun _ => rfl) ?_
  refine dp_s1 hF (i := .dup) rfl (fun _ => rfl) ?_
  refine dp_s1 hF (i := .getfield 701) rfl (fun _ => rfl) ?_
  refine dp_s1 hF (i := .iconst 1) rfl (fun _ => rfl) ?_
  refine dp_s1 hF (i := .iadd) rfl (fun _ => rfl) ?_
  refine dp_s1w (dp_setI M2 114 70 ((dp_I M2 114 70) + (1 : Int32))) (fun (M3 : dp_M) => (208, [some (.ref 114), some (.int v1), some (.int v2), some (.int v3), some (.int v4), some (.int v5), some (.int v6), some (.int v7), some (.int v8)], [], M3)) hF (i := .putfield 701) rfl (fun _ => rfl) (fun M3 => ?_)
  refine dp_s1w (v6 + (1 : Int32)) (fun (y4 : Int32) => (211, [some (.ref 114), some (.int v1), some (.int v2), some (.int v3), some (.int v4), some (.int v5), some (.int y4), some (.int v7), some (.int v8)], [], M3)) hF (i := .iinc 6 1) rfl (fun _ => rfl) (fun y4 => ?_)
  refine dp_s1 hF (i := .goto (-124)) rfl (fun _ => rfl) ?_
  exact rfl
set_option maxRecDepth 20000 in
theorem D_X12_finds_87_a_eq (xs : Nat → Int32) (xl d : Nat) (v1 : Int32) (v2 : Int32) (v3 : Int32) (v4 : Int32) (v5 : Int32) (v6 : Int32) (v7 : Int32) (v8 : Int32) (M : dp_M) : D_X12_finds_87_a xs xl d v1 v2 v3 v4 v5 v6 v7 v8 M = if (dp_I M 114 55) < v6 then (dp_w (v5 + (1 : Int32)) (fun y1 => D_X12_finds_77_b xs xl d v1 v2 v3 v4 y1 v6 v7 v8 M)) else (if v6 < 0 ∨ 301 ≤ Int32.toNatClampNeg v6 then none else (if (dp_I M 169 (Int32.toNatClampNeg v6)) = 0 then (dp_w (0 : Int32) (fun y2 => dp_w (1 : Int32) (fun y3 => D_X12_finds_128 xs xl d v1 v2 v3 v4 v5 v6 y2 y3 M))) else (if v6 < 0 ∨ 301 ≤ Int32.toNatClampNeg v6 then none else (if (dp_I M 159 (Int32.toNatClampNeg v6)) = v5 then (dp_w (1 : Int32) (fun y4 => dp_w (1 : Int32) (fun y5 => D_X12_finds_128 xs xl d v1 v2 v3 v4 v5 v6 y4 y5 M))) else (dp_w (0 : Int32) (fun y6 => dp_w (1 : Int32) (fun y7 => D_X12_finds_128 xs xl d v1 v2 v3 v4 v5 v6 y6 y7 M))))))) := by
  have hF := dp_den_grow (md := true) (xs := xs) (xl := xl) d
  unfold D_X12_finds_87_a
  refine dp_s1 hF (i := .iload 6) rfl (fun _ => rfl) ?_
  refine dp_s1 hF (i := .aload_n 0) rfl (fun _ => rfl) ?_
  refine dp_s1 hF (i := .getfield 666) rfl (fun _ => rfl) ?_
  refine dp_s2 hF (i := .if_icmp .gt 121) (a := (214, [some (.ref 114), some (.int v1), some (.int v2), some (.int v3), some (.int v4), some (.int v5), some (.int v6), some (.int v7), some (.int v8)], [], M)) (b := (96, [some (.ref 114), some (.int v1), some (.int v2), some (.int v3), some (.int v4), some (.int v5), some (.int v6), some (.int v7), some (.int v8)], [], M)) rfl (fun _ => rfl) ?_ ?_
  · refine dp_s1w (v5 + (1 : Int32)) (fun (y1 : Int32) => (217, [some (.ref 114), some (.int v1), some (.int v2), some (.int v3), some (.int v4), some (.int y1), some (.int v6), some (.int v7), some (.int v8)], [], M)) hF (i := .iinc 5 1) rfl (fun _ => rfl) (fun y1 => ?_)
    refine dp_s1 hF (i := .goto (-140)) rfl (fun _ => rfl) ?_
    exact rfl
  refine dp_s1 hF (i := .aload_n 0) rfl (fun _ => rfl) ?_
  refine dp_s1 hF (i := .getfield 178) rfl (fun _ => rfl) ?_
  refine dp_s1 hF (i := .iload 6) rfl (fun _ => rfl) ?_
  refine dp_s3 hF (i := .baload) rfl (fun _ => rfl) ?_
  refine dp_s2 hF (i := .ifCond .eq 19) (a := (122, [some (.ref 114), some (.int v1), some (.int v2), some (.int v3), some (.int v4), some (.int v5), some (.int v6), some (.int v7), some (.int v8)], [], M)) (b := (106, [some (.ref 114), some (.int v1), some (.int v2), some (.int v3), some (.int v4), some (.int v5), some (.int v6), some (.int v7), some (.int v8)], [], M)) rfl (fun _ => rfl) ?_ ?_
  · refine dp_s1 hF (i := .iconst 0) rfl (fun _ => rfl) ?_
    refine dp_s1w (0 : Int32) (fun (y2 : Int32) => (125, [some (.ref 114), some (.int v1), some (.int v2), some (.int v3), some (.int v4), some (.int v5), some (.int v6), some (.int y2), some (.int v8)], [], M)) hF (i := .istore 7) rfl (fun _ => rfl) (fun y2 => ?_)
    refine dp_s1 hF (i := .iconst 1) rfl (fun _ => rfl) ?_
    refine dp_s1w (1 : Int32) (fun (y3 : Int32) => (128, [some (.ref 114), some (.int v1), some (.int v2), some (.int v3), some (.int v4), some (.int v5), some (.int v6), some (.int y2), some (.int y3)], [], M)) hF (i := .istore 8) rfl (fun _ => rfl) (fun y3 => ?_)
    exact rfl
  refine dp_s1 hF (i := .aload_n 0) rfl (fun _ => rfl) ?_
  refine dp_s1 hF (i := .getfield 148) rfl (fun _ => rfl) ?_
  refine dp_s1 hF (i := .iload 6) rfl (fun _ => rfl) ?_
  refine dp_s3 hF (i := .iaload) rfl (fun _ => rfl) ?_
  refine dp_s1 hF (i := .iload 5) rfl (fun _ => rfl) ?_
  refine dp_s2 hF (i := .if_icmp .ne 7) (a := (118, [some (.ref 114), some (.int v1), some (.int v2), some (.int v3), some (.int v4), some (.int v5), some (.int v6), some (.int v7), some (.int v8)], [], M)) (b := (122, [some (.ref 114), some (.int v1), some (.int v2), some (.int v3), some (.int v4), some (.int v5), some (.int v6), some (.int v7), some (.int v8)], [], M)) rfl (fun _ => rfl) ?_ ?_
  · refine dp_s1 hF (i := .iconst 1) rfl (fun _ => rfl) ?_
    refine dp_s1 hF (i := .goto 4) rfl (fun _ => rfl) ?_
    refine dp_s1w (1 : Int32) (fun (y4 : Int32) => (125, [some (.ref 114), some (.int v1), some (.int v2), some (.int v3), some (.int v4), some (.int v5), some (.int v6), some (.int y4), some (.int v8)], [], M)) hF (i := .istore 7) rfl (fun _ => rfl) (fun y4 => ?_)
    refine dp_s1 hF (i := .iconst 1) rfl (fun _ => rfl) ?_
    refine dp_s1w (1 : Int32) (fun (y5 : Int32) => (128, [some (.ref 114), some (.int v1), some (.int v2), some (.int v3), some (.int v4), some (.int v5), some (.int v6), some (.int y4), some (.int y5)], [], M)) hF (i := .istore 8) rfl (fun _ => rfl) (fun y5 => ?_)
    exact rfl
  refine dp_s1 hF (i := .iconst 0) rfl (fun _ => rfl) ?_
  refine dp_s1w (0 : Int32) (fun (y6 : Int32) => (125, [some (.ref 114), some (.int v1), some (.int v2), some (.int v3), some (.int v4), some (.int v5), some (.int v6), some (.int y6), some (.int v8)], [], M)) hF (i := .istore 7) rfl (fun _ => rfl) (fun y6 => ?_)
  refine dp_s1 hF (i := .iconst 1) rfl (fun _ => rfl) ?_
  refine dp_s1w (1 : Int32) (fun (y7 : Int32) => (128, [some (.ref 114), some (.int v1), some (.int v2), some (.int v3), some (.int v4), some (.int v5), some (.int v6), some (.int y6), some (.int y7)], [], M)) hF (i := .istore 8) rfl (fun _ => rfl) (fun y7 => ?_)
  exact rfl
set_option maxRecDepth 20000 in
theorem D_X12_finds_77_b_eq (xs : Nat → Int32) (xl d : Nat) (v1 : Int32) (v2 : Int32) (v3 : Int32) (v4 : Int32) (v5 : Int32) (v6 : Int32) (v7 : Int32) (v8 : Int32) (M : dp_M) : D_X12_finds_77_b xs xl d v1 v2 v3 v4 v5 v6 v7 v8 M = if (8 : Int32) ≤ v5 then (some (.inl none, M)) else (dp_w (1 : Int32) (fun y1 => D_X12_finds_87_a xs xl d v1 v2 v3 v4 v5 y1 v7 v8 M)) := by
  have hF := dp_den_grow (md := true) (xs := xs) (xl := xl) d
  unfold D_X12_finds_77_b
  refine dp_s1 hF (i := .iload 5) rfl (fun _ => rfl) ?_
  refine dp_s1 hF (i := .bipush 8) rfl (fun _ => rfl) ?_
  refine dp_s2 hF (i := .if_icmp .ge 139) (a := (220, [some (.ref 114), some (.int v1), some (.int v2), some (.int v3), some (.int v4), some (.int v5), some (.int v6), some (.int v7), some (.int v8)], [], M)) (b := (84, [some (.ref 114), some (.int v1), some (.int v2), some (.int v3), some (.int v4), some (.int v5), some (.int v6), some (.int v7), some (.int v8)], [], M)) rfl (fun _ => rfl) ?_ ?_
  · exact dp_s0 hF (i := .return_) rfl (fun _ => rfl)
  refine dp_s1 hF (i := .iconst 1) rfl (fun _ => rfl) ?_
  refine dp_s1w (1 : Int32) (fun (y1 : Int32) => (87, [some (.ref 114), some (.int v1), some (.int v2), some (.int v3), some (.int v4), some (.int v5), some (.int y1), some (.int v7), some (.int v8)], [], M)) hF (i := .istore 6) rfl (fun _ => rfl) (fun y1 => ?_)
  exact rfl
noncomputable def D_X12_isSix_0 (xs : Nat → Int32) (xl d : Nat) (v0 : Int32) (M : dp_M) : Option dp_Res := dp_lim true xs xl (dp_den true xs xl d) dp_m_X12_isSix (0, [some (.int v0)], [], M)
theorem D_X12_isSix_0_den (xs : Nat → Int32) (xl d : Nat) (a0 : Int32) (M : dp_M) : dp_den true xs xl (d + 1) 462 [.int a0] M = D_X12_isSix_0 xs xl d a0 M := rfl
set_option maxRecDepth 20000 in
theorem D_X12_isSix_0_eq (xs : Nat → Int32) (xl d : Nat) (v0 : Int32) (M : dp_M) : D_X12_isSix_0 xs xl d v0 M = dp_bi (dp_den true xs xl d 367 [.long (Int32.toInt64 v0), .long (100000 : Int64), .long (999999 : Int64)] M) (fun r2 M1 => if r2 = 0 ∨ r2 = 1 then some (.inl (some (.int r2)), M1) else none) := by
  have hF := dp_den_grow (md := true) (xs := xs) (xl := xl) d
  unfold D_X12_isSix_0
  refine dp_s1 hF (i := .iload_n 0) rfl (fun _ => rfl) ?_
  refine dp_s1 hF (i := .i2l) rfl (fun _ => rfl) ?_
  refine dp_s1 hF (i := .ldc2_w 653) rfl (fun _ => rfl) ?_
  refine dp_s1 hF (i := .ldc2_w 655) rfl (fun _ => rfl) ?_
  refine dp_si (mj := dp_m_X12_in) (i := .invokestatic 446) rfl rfl (Or.inr rfl) rfl (fun _ => rfl) (fun r2 M1 => ?_)
  exact dp_s0 hF (i := .ireturn) rfl (fun _ => rfl)
noncomputable def D_X12_apply_0 (xs : Nat → Int32) (xl d : Nat) (v1 : Int32) (v2 : Int32) (v3 : Int32) (v4 : Int32) (M : dp_M) : Option dp_Res := dp_lim true xs xl (dp_den true xs xl d) dp_m_X12_apply (0, [some (.ref 114), some (.int v1), some (.int v2), some (.int v3), some (.int v4), none], [], M)
noncomputable def D_X12_apply_60 (xs : Nat → Int32) (xl d : Nat) (v1 : Int32) (v2 : Int32) (v3 : Int32) (v4 : Int32) (v5 : Int32) (M : dp_M) : Option dp_Res := dp_lim true xs xl (dp_den true xs xl d) dp_m_X12_apply (60, [some (.ref 114), some (.int v1), some (.int v2), some (.int v3), some (.int v4), some (.int v5)], [], M)
theorem D_X12_apply_0_den (xs : Nat → Int32) (xl d : Nat) (a0 : Int32) (a1 : Int32) (a2 : Int32) (a3 : Int32) (M : dp_M) : dp_den true xs xl (d + 1) 463 [.ref 114, .int a0, .int a1, .int a2, .int a3] M = D_X12_apply_0 xs xl d a0 a1 a2 a3 M := rfl
set_option maxRecDepth 20000 in
theorem D_X12_apply_0_eq (xs : Nat → Int32) (xl d : Nat) (v1 : Int32) (v2 : Int32) (v3 : Int32) (v4 : Int32) (M : dp_M) : D_X12_apply_0 xs xl d v1 v2 v3 v4 M = dp_bi (dp_den true xs xl d 462 [.int v1] M) (fun r2 M1 => if r2 = 0 then (dp_bi (dp_den true xs xl d 366 [.ref 114, .int (1 : Int32)] M1) (fun r4 M3 => some (.inl (some (.int r4)), M3))) else (dp_bi (dp_den true xs xl d 444 [.int v2] M1) (fun r6 M5 => if r6 = 0 then (dp_bi (dp_den true xs xl d 366 [.ref 114, .int (1 : Int32)] M5) (fun r8 M7 => some (.inl (some (.int r8)), M7))) else (dp_bi (dp_den true xs xl d 445 [.int v3] M5) (fun r10 M9 => if r10 = 0 then (dp_bi (dp_den true xs xl d 366 [.ref 114, .int (1 : Int32)] M9) (fun r12 M11 => some (.inl (some (.int r12)), M11))) else (dp_bi (dp_den true xs xl d 445 [.int v4] M9) (fun r14 M13 => if r14 = 0 then (dp_bi (dp_den true xs xl d 366 [.ref 114, .int (1 : Int32)] M13) (fun r16 M15 => some (.inl (some (.int r16)), M15))) else (dp_w (dp_setI M13 114 0 (0 : Int32)) (fun M17 => dp_bv (dp_den true xs xl d 461 [.ref 114, .int v1, .int v2, .int v3, .int v4] M17) (fun M18 => dp_w (dp_setI M18 114 72 (dp_I M18 114 70)) (fun M19 => dp_w (0 : Int32) (fun y20 => D_X12_apply_60 xs xl d v1 v2 v3 v4 y20 M19)))))))))))) := by
  have hF := dp_den_grow (md := true) (xs := xs) (xl := xl) d
  unfold D_X12_apply_0
  refine dp_s1 hF (i := .iload_n 1) rfl (fun _ => rfl) ?_
  refine dp_si (mj := dp_m_X12_isSix) (i := .invokestatic 707) rfl rfl (Or.inr rfl) rfl (fun _ => rfl) (fun r2 M1 => ?_)
  refine dp_s2 hF (i := .ifCond .eq 25) (a := (29, [some (.ref 114), some (.int v1), some (.int v2), some (.int v3), some (.int v4), none], [], M1)) (b := (7, [some (.ref 114), some (.int v1), some (.int v2), some (.int v3), some (.int v4), none], [], M1)) rfl (fun _ => rfl) ?_ ?_
  · refine dp_s1 hF (i := .aload_n 0) rfl (fun _ => rfl) ?_
    refine dp_s1 hF (i := .iconst 1) rfl (fun _ => rfl) ?_
    refine dp_si (mj := dp_m_X12_refuse) (i := .invokevirtual 460) rfl rfl (Or.inl rfl) rfl (fun _ => rfl) (fun r4 M3 => ?_)
    exact dp_s0 hF (i := .ireturn) rfl (fun _ => rfl)
  refine dp_s1 hF (i := .iload_n 2) rfl (fun _ => rfl) ?_
  refine dp_si (mj := dp_m_X12_isLand) (i := .invokestatic 663) rfl rfl (Or.inr rfl) rfl (fun _ => rfl) (fun r6 M5 => ?_)
  refine dp_s2 hF (i := .ifCond .eq 18) (a := (29, [some (.ref 114), some (.int v1), some (.int v2), some (.int v3), some (.int v4), none], [], M5)) (b := (14, [some (.ref 114), some (.int v1), some (.int v2), some (.int v3), some (.int v4), none], [], M5)) rfl (fun _ => rfl) ?_ ?_
  · refine dp_s1 hF (i := .aload_n 0) rfl (fun _ => rfl) ?_
    refine dp_s1 hF (i := .iconst 1) rfl (fun _ => rfl) ?_
    refine dp_si (mj := dp_m_X12_refuse) (i := .invokevirtual 460) rfl rfl (Or.inl rfl) rfl (fun _ => rfl) (fun r8 M7 => ?_)
    exact dp_s0 hF (i := .ireturn) rfl (fun _ => rfl)
  refine dp_s1 hF (i := .iload_n 3) rfl (fun _ => rfl) ?_
  refine dp_si (mj := dp_m_X12_isDay) (i := .invokestatic 672) rfl rfl (Or.inr rfl) rfl (fun _ => rfl) (fun r10 M9 => ?_)
  refine dp_s2 hF (i := .ifCond .eq 11) (a := (29, [some (.ref 114), some (.int v1), some (.int v2), some (.int v3), some (.int v4), none], [], M9)) (b := (21, [some (.ref 114), some (.int v1), some (.int v2), some (.int v3), some (.int v4), none], [], M9)) rfl (fun _ => rfl) ?_ ?_
  · refine dp_s1 hF (i := .aload_n 0) rfl (fun _ => rfl) ?_
    refine dp_s1 hF (i := .iconst 1) rfl (fun _ => rfl) ?_
    refine dp_si (mj := dp_m_X12_refuse) (i := .invokevirtual 460) rfl rfl (Or.inl rfl) rfl (fun _ => rfl) (fun r12 M11 => ?_)
    exact dp_s0 hF (i := .ireturn) rfl (fun _ => rfl)
  refine dp_s1 hF (i := .iload 4) rfl (fun _ => rfl) ?_
  refine dp_si (mj := dp_m_X12_isDay) (i := .invokestatic 672) rfl rfl (Or.inr rfl) rfl (fun _ => rfl) (fun r14 M13 => ?_)
  refine dp_s2 hF (i := .ifCond .ne 9) (a := (29, [some (.ref 114), some (.int v1), some (.int v2), some (.int v3), some (.int v4), none], [], M13)) (b := (35, [some (.ref 114), some (.int v1), some (.int v2), some (.int v3), some (.int v4), none], [], M13)) rfl (fun _ => rfl) ?_ ?_
  · refine dp_s1 hF (i := .aload_n 0) rfl (fun _ => rfl) ?_
    refine dp_s1 hF (i := .iconst 1) rfl (fun _ => rfl) ?_
    refine dp_si (mj := dp_m_X12_refuse) (i := .invokevirtual 460) rfl rfl (Or.inl rfl) rfl (fun _ => rfl) (fun r16 M15 => ?_)
    exact dp_s0 hF (i := .ireturn) rfl (fun _ => rfl)
  refine dp_s1 hF (i := .aload_n 0) rfl (fun _ => rfl) ?_
  refine dp_s1 hF (i := .iconst 0) rfl (fun _ => rfl) ?_
  refine dp_s1w (dp_setI M13 114 0 (0 : Int32)) (fun (M17 : dp_M) => (40, [some (.ref 114), some (.int v1), some (.int v2), some (.int v3), some (.int v4), none], [], M17)) hF (i := .putfield 1) rfl (fun _ => rfl) (fun M17 => ?_)
  refine dp_s1 hF (i := .aload_n 0) rfl (fun _ => rfl) ?_
  refine dp_s1 hF (i := .iload_n 1) rfl (fun _ => rfl) ?_
  refine dp_s1 hF (i := .iload_n 2) rfl (fun _ => rfl) ?_
  refine dp_s1 hF (i := .iload_n 3) rfl (fun _ => rfl) ?_
  refine dp_s1 hF (i := .iload 4) rfl (fun _ => rfl) ?_
  refine dp_sv (mj := dp_m_X12_finds) (i := .invokevirtual 710) rfl rfl rfl rfl (fun _ => rfl) (fun M18 => ?_)
  refine dp_s1 hF (i := .aload_n 0) rfl (fun _ => rfl) ?_
  refine dp_s1 hF (i := .aload_n 0) rfl (fun _ => rfl) ?_
  refine dp_s1 hF (i := .getfield 701) rfl (fun _ => rfl) ?_
  refine dp_s1w (dp_setI M18 114 72 (dp_I M18 114 70)) (fun (M19 : dp_M) => (57, [some (.ref 114), some (.int v1), some (.int v2), some (.int v3), some (.int v4), none], [], M19)) hF (i := .putfield 714) rfl (fun _ => rfl) (fun M19 => ?_)
  refine dp_s1 hF (i := .iconst 0) rfl (fun _ => rfl) ?_
  refine dp_s1w (0 : Int32) (fun (y20 : Int32) => (60, [some (.ref 114), some (.int v1), some (.int v2), some (.int v3), some (.int v4), some (.int y20)], [], M19)) hF (i := .istore 5) rfl (fun _ => rfl) (fun y20 => ?_)
  exact rfl
set_option maxRecDepth 20000 in
theorem D_X12_apply_60_eq (xs : Nat → Int32) (xl d : Nat) (v1 : Int32) (v2 : Int32) (v3 : Int32) (v4 : Int32) (v5 : Int32) (M : dp_M) : D_X12_apply_60 xs xl d v1 v2 v3 v4 v5 M = if (dp_I M 114 70) ≤ v5 then (some (.inl (some (.int (dp_I M 114 72))), M)) else (if v5 < 0 ∨ 300 ≤ Int32.toNatClampNeg v5 then none else (if v5 < 0 ∨ 300 ≤ Int32.toNatClampNeg v5 then none else dp_w (dp_setI M 168 (Int32.toNatClampNeg v5) (dp_I M 167 (Int32.toNatClampNeg v5))) (fun M1 => dp_w (v5 + (1 : Int32)) (fun y2 => D_X12_apply_60 xs xl d v1 v2 v3 v4 y2 M1)))) := by
  have hF := dp_den_grow (md := true) (xs := xs) (xl := xl) d
  unfold D_X12_apply_60
  refine dp_s1 hF (i := .iload 5) rfl (fun _ => rfl) ?_
  refine dp_s1 hF (i := .aload_n 0) rfl (fun _ => rfl) ?_
  refine dp_s1 hF (i := .getfield 701) rfl (fun _ => rfl) ?_
  refine dp_s2 hF (i := .if_icmp .ge 23) (a := (89, [some (.ref 114), some (.int v1), some (.int v2), some (.int v3), some (.int v4), some (.int v5)], [], M)) (b := (69, [some (.ref 114), some (.int v1), some (.int v2), some (.int v3), some (.int v4), some (.int v5)], [], M)) rfl (fun _ => rfl) ?_ ?_
  · refine dp_s1 hF (i := .aload_n 0) rfl (fun _ => rfl) ?_
    refine dp_s1 hF (i := .getfield 714) rfl (fun _ => rfl) ?_
    exact dp_s0 hF (i := .ireturn) rfl (fun _ => rfl)
  refine dp_s1 hF (i := .aload_n 0) rfl (fun _ => rfl) ?_
  refine dp_s1 hF (i := .getfield 175) rfl (fun _ => rfl) ?_
  refine dp_s1 hF (i := .iload 5) rfl (fun _ => rfl) ?_
  refine dp_s1 hF (i := .aload_n 0) rfl (fun _ => rfl) ?_
  refine dp_s1 hF (i := .getfield 172) rfl (fun _ => rfl) ?_
  refine dp_s1 hF (i := .iload 5) rfl (fun _ => rfl) ?_
  refine dp_s3 hF (i := .iaload) rfl (fun _ => rfl) ?_
  refine dp_s3w (dp_setI M 168 (Int32.toNatClampNeg v5) (dp_I M 167 (Int32.toNatClampNeg v5))) (fun (M1 : dp_M) => (83, [some (.ref 114), some (.int v1), some (.int v2), some (.int v3), some (.int v4), some (.int v5)], [], M1)) hF (i := .iastore) rfl (fun _ => rfl) (fun M1 => ?_)
  refine dp_s1w (v5 + (1 : Int32)) (fun (y2 : Int32) => (86, [some (.ref 114), some (.int v1), some (.int v2), some (.int v3), some (.int v4), some (.int y2)], [], M1)) hF (i := .iinc 5 1) rfl (fun _ => rfl) (fun y2 => ?_)
  refine dp_s1 hF (i := .goto (-26)) rfl (fun _ => rfl) ?_
  exact rfl
noncomputable def D_X12_listed_0 (xs : Nat → Int32) (xl d : Nat) (v1 : Int32) (M : dp_M) : Option dp_Res := dp_lim true xs xl (dp_den true xs xl d) dp_m_X12_listed (0, [some (.ref 114), some (.int v1)], [], M)
theorem D_X12_listed_0_den (xs : Nat → Int32) (xl d : Nat) (a0 : Int32) (M : dp_M) : dp_den true xs xl (d + 1) 464 [.ref 114, .int a0] M = D_X12_listed_0 xs xl d a0 M := rfl
set_option maxRecDepth 20000 in
theorem D_X12_listed_0_eq (xs : Nat → Int32) (xl d : Nat) (v1 : Int32) (M : dp_M) : D_X12_listed_0 xs xl d v1 M = dp_w (dp_setI M 114 0 (0 : Int32)) (fun M1 => if v1 < 0 then (some (.inl (some (.int (-1 : Int32))), M1)) else (if (dp_I M1 114 72) ≤ v1 then (some (.inl (some (.int (-1 : Int32))), M1)) else (if v1 < 0 ∨ 300 ≤ Int32.toNatClampNeg v1 then none else (some (.inl (some (.int (dp_I M1 168 (Int32.toNatClampNeg v1)))), M1))))) := by
  have hF := dp_den_grow (md := true) (xs := xs) (xl := xl) d
  unfold D_X12_listed_0
  refine dp_s1 hF (i := .aload_n 0) rfl (fun _ => rfl) ?_
  refine dp_s1 hF (i := .iconst 0) rfl (fun _ => rfl) ?_
  refine dp_s1w (dp_setI M 114 0 (0 : Int32)) (fun (M1 : dp_M) => (5, [some (.ref 114), some (.int v1)], [], M1)) hF (i := .putfield 1) rfl (fun _ => rfl) (fun M1 => ?_)
  refine dp_s1 hF (i := .iload_n 1) rfl (fun _ => rfl) ?_
  refine dp_s2 hF (i := .ifCond .lt 20) (a := (26, [some (.ref 114), some (.int v1)], [], M1)) (b := (9, [some (.ref 114), some (.int v1)], [], M1)) rfl (fun _ => rfl) ?_ ?_
  · refine dp_s1 hF (i := .iconst (-1)) rfl (fun _ => rfl) ?_
    exact dp_s0 hF (i := .ireturn) rfl (fun _ => rfl)
  refine dp_s1 hF (i := .iload_n 1) rfl (fun _ => rfl) ?_
  refine dp_s1 hF (i := .aload_n 0) rfl (fun _ => rfl) ?_
  refine dp_s1 hF (i := .getfield 714) rfl (fun _ => rfl) ?_
  refine dp_s2 hF (i := .if_icmp .ge 12) (a := (26, [some (.ref 114), some (.int v1)], [], M1)) (b := (17, [some (.ref 114), some (.int v1)], [], M1)) rfl (fun _ => rfl) ?_ ?_
  · refine dp_s1 hF (i := .iconst (-1)) rfl (fun _ => rfl) ?_
    exact dp_s0 hF (i := .ireturn) rfl (fun _ => rfl)
  refine dp_s1 hF (i := .aload_n 0) rfl (fun _ => rfl) ?_
  refine dp_s1 hF (i := .getfield 175) rfl (fun _ => rfl) ?_
  refine dp_s1 hF (i := .iload_n 1) rfl (fun _ => rfl) ?_
  refine dp_s3 hF (i := .iaload) rfl (fun _ => rfl) ?_
  refine dp_s1 hF (i := .goto 4) rfl (fun _ => rfl) ?_
  exact dp_s0 hF (i := .ireturn) rfl (fun _ => rfl)
noncomputable def D_X12_type_0 (xs : Nat → Int32) (xl d : Nat) (v1 : Int64) (v3 : Int32) (M : dp_M) : Option dp_Res := dp_lim true xs xl (dp_den true xs xl d) dp_m_X12_type (0, [some (.ref 114), some (.long v1), none, some (.int v3), none, none], [], M)
noncomputable def D_X12_type_38 (xs : Nat → Int32) (xl d : Nat) (v1 : Int64) (v3 : Int32) (v4 : Int32) (v5 : Int32) (M : dp_M) : Option dp_Res := dp_lim true xs xl (dp_den true xs xl d) dp_m_X12_type (38, [some (.ref 114), some (.long v1), none, some (.int v3), some (.int v4), some (.int v5)], [], M)
noncomputable def D_X12_type_82 (xs : Nat → Int32) (xl d : Nat) (v1 : Int64) (v3 : Int32) (v4 : Int32) (v5 : Int32) (M : dp_M) : Option dp_Res := dp_lim true xs xl (dp_den true xs xl d) dp_m_X12_type (82, [some (.ref 114), some (.long v1), none, some (.int v3), some (.int v4), some (.int v5)], [], M)
theorem D_X12_type_0_den (xs : Nat → Int32) (xl d : Nat) (a0 : Int64) (a1 : Int32) (M : dp_M) : dp_den true xs xl (d + 1) 465 [.ref 114, .long a0, .int a1] M = D_X12_type_0 xs xl d a0 a1 M := rfl
set_option maxRecDepth 20000 in
theorem D_X12_type_0_eq (xs : Nat → Int32) (xl d : Nat) (v1 : Int64) (v3 : Int32) (M : dp_M) : D_X12_type_0 xs xl d v1 v3 M = dp_w (dp_setI M 114 0 (0 : Int32)) (fun M1 => if v3 < (1 : Int32) then (dp_w (0 : Int32) (fun y2 => dp_w (0 : Int32) (fun y3 => D_X12_type_38 xs xl d v1 v3 y2 y3 M1))) else (if (8 : Int32) < v3 then (dp_w (0 : Int32) (fun y4 => dp_w (0 : Int32) (fun y5 => D_X12_type_38 xs xl d v1 v3 y4 y5 M1))) else (if (400 : Int32) < ((dp_I M1 114 75) + v3) then (dp_w (0 : Int32) (fun y6 => dp_w (0 : Int32) (fun y7 => D_X12_type_38 xs xl d v1 v3 y6 y7 M1))) else (dp_w (1 : Int32) (fun y8 => dp_w (0 : Int32) (fun y9 => D_X12_type_38 xs xl d v1 v3 y8 y9 M1)))))) := by
  have hF := dp_den_grow (md := true) (xs := xs) (xl := xl) d
  unfold D_X12_type_0
  refine dp_s1 hF (i := .aload_n 0) rfl (fun _ => rfl) ?_
  refine dp_s1 hF (i := .iconst 0) rfl (fun _ => rfl) ?_
  refine dp_s1w (dp_setI M 114 0 (0 : Int32)) (fun (M1 : dp_M) => (5, [some (.ref 114), some (.long v1), none, some (.int v3), none, none], [], M1)) hF (i := .putfield 1) rfl (fun _ => rfl) (fun M1 => ?_)
  refine dp_s1 hF (i := .iload_n 3) rfl (fun _ => rfl) ?_
  refine dp_s1 hF (i := .iconst 1) rfl (fun _ => rfl) ?_
  refine dp_s2 hF (i := .if_icmp .lt 25) (a := (32, [some (.ref 114), some (.long v1), none, some (.int v3), none, none], [], M1)) (b := (10, [some (.ref 114), some (.long v1), none, some (.int v3), none, none], [], M1)) rfl (fun _ => rfl) ?_ ?_
  · refine dp_s1 hF (i := .iconst 0) rfl (fun _ => rfl) ?_
    refine dp_s1w (0 : Int32) (fun (y2 : Int32) => (35, [some (.ref 114), some (.long v1), none, some (.int v3), some (.int y2), none], [], M1)) hF (i := .istore 4) rfl (fun _ => rfl) (fun y2 => ?_)
    refine dp_s1 hF (i := .iconst 0) rfl (fun _ => rfl) ?_
    refine dp_s1w (0 : Int32) (fun (y3 : Int32) => (38, [some (.ref 114), some (.long v1), none, some (.int v3), some (.int y2), some (.int y3)], [], M1)) hF (i := .istore 5) rfl (fun _ => rfl) (fun y3 => ?_)
    exact rfl
  refine dp_s1 hF (i := .iload_n 3) rfl (fun _ => rfl) ?_
  refine dp_s1 hF (i := .bipush 8) rfl (fun _ => rfl) ?_
  refine dp_s2 hF (i := .if_icmp .gt 19) (a := (32, [some (.ref 114), some (.long v1), none, some (.int v3), none, none], [], M1)) (b := (16, [some (.ref 114), some (.long v1), none, some (.int v3), none, none], [], M1)) rfl (fun _ => rfl) ?_ ?_
  · refine dp_s1 hF (i := .iconst 0) rfl (fun _ => rfl) ?_
    refine dp_s1w (0 : Int32) (fun (y4 : Int32) => (35, [some (.ref 114), some (.long v1), none, some (.int v3), some (.int y4), none], [], M1)) hF (i := .istore 4) rfl (fun _ => rfl) (fun y4 => ?_)
    refine dp_s1 hF (i := .iconst 0) rfl (fun _ => rfl) ?_
    refine dp_s1w (0 : Int32) (fun (y5 : Int32) => (38, [some (.ref 114), some (.long v1), none, some (.int v3), some (.int y4), some (.int y5)], [], M1)) hF (i := .istore 5) rfl (fun _ => rfl) (fun y5 => ?_)
    exact rfl
  refine dp_s1 hF (i := .aload_n 0) rfl (fun _ => rfl) ?_
  refine dp_s1 hF (i := .getfield 717) rfl (fun _ => rfl) ?_
  refine dp_s1 hF (i := .iload_n 3) rfl (fun _ => rfl) ?_
  refine dp_s1 hF (i := .iadd) rfl (fun _ => rfl) ?_
  refine dp_s1 hF (i := .sipush 400) rfl (fun _ => rfl) ?_
  refine dp_s2 hF (i := .if_icmp .gt 7) (a := (32, [some (.ref 114), some (.long v1), none, some (.int v3), none, none], [], M1)) (b := (28, [some (.ref 114), some (.long v1), none, some (.int v3), none, none], [], M1)) rfl (fun _ => rfl) ?_ ?_
  · refine dp_s1 hF (i := .iconst 0) rfl (fun _ => rfl) ?_
    refine dp_s1w (0 : Int32) (fun (y6 : Int32) => (35, [some (.ref 114), some (.long v1), none, some (.int v3), some (.int y6), none], [], M1)) hF (i := .istore 4) rfl (fun _ => rfl) (fun y6 => ?_)
    refine dp_s1 hF (i := .iconst 0) rfl (fun _ => rfl) ?_
    refine dp_s1w (0 : Int32) (fun (y7 : Int32) => (38, [some (.ref 114), some (.long v1), none, some (.int v3), some (.int y6), some (.int y7)], [], M1)) hF (i := .istore 5) rfl (fun _ => rfl) (fun y7 => ?_)
    exact rfl
  refine dp_s1 hF (i := .iconst 1) rfl (fun _ => rfl) ?_
  refine dp_s1 hF (i := .goto 4) rfl (fun _ => rfl) ?_
  refine dp_s1w (1 : Int32) (fun (y8 : Int32) => (35, [some (.ref 114), some (.long v1), none, some (.int v3), some (.int y8), none], [], M1)) hF (i := .istore 4) rfl (fun _ => rfl) (fun y8 => ?_)
  refine dp_s1 hF (i := .iconst 0) rfl (fun _ => rfl) ?_
  refine dp_s1w (0 : Int32) (fun (y9 : Int32) => (38, [some (.ref 114), some (.long v1), none, some (.int v3), some (.int y8), some (.int y9)], [], M1)) hF (i := .istore 5) rfl (fun _ => rfl) (fun y9 => ?_)
  exact rfl
set_option maxRecDepth 20000 in
theorem D_X12_type_38_eq (xs : Nat → Int32) (xl d : Nat) (v1 : Int64) (v3 : Int32) (v4 : Int32) (v5 : Int32) (M : dp_M) : D_X12_type_38 xs xl d v1 v3 v4 v5 M = if v3 ≤ v5 then (dp_w (v3 - (1 : Int32)) (fun y1 => D_X12_type_82 xs xl d v1 v3 v4 y1 M)) else (if v4 = 0 then (dp_w (v3 - (1 : Int32)) (fun y2 => D_X12_type_82 xs xl d v1 v3 v4 y2 M)) else (dp_bi (dp_den true xs xl d 367 [.long (((Int64.toUInt64 v1 >>> ((Int32.toInt64 ((8 : Int32) * v5)).toUInt64 &&& Int64.toUInt64 63)).toInt64) &&& (255 : Int64)), .long (32 : Int64), .long (126 : Int64)] M) (fun r4 M3 => dp_w (v5 + (1 : Int32)) (fun y5 => D_X12_type_38 xs xl d v1 v3 r4 y5 M3)))) := by
  have hF := dp_den_grow (md := true) (xs := xs) (xl := xl) d
  unfold D_X12_type_38
  refine dp_s1 hF (i := .iload 5) rfl (fun _ => rfl) ?_
  refine dp_s1 hF (i := .iload_n 3) rfl (fun _ => rfl) ?_
  refine dp_s2 hF (i := .if_icmp .ge 36) (a := (77, [some (.ref 114), some (.long v1), none, some (.int v3), some (.int v4), some (.int v5)], [], M)) (b := (44, [some (.ref 114), some (.long v1), none, some (.int v3), some (.int v4), some (.int v5)], [], M)) rfl (fun _ => rfl) ?_ ?_
  · refine dp_s1 hF (i := .iload_n 3) rfl (fun _ => rfl) ?_
    refine dp_s1 hF (i := .iconst 1) rfl (fun _ => rfl) ?_
    refine dp_s1 hF (i := .isub) rfl (fun _ => rfl) ?_
    refine dp_s1w (v3 - (1 : Int32)) (fun (y1 : Int32) => (82, [some (.ref 114), some (.long v1), none, some (.int v3), some (.int v4), some (.int y1)], [], M)) hF (i := .istore 5) rfl (fun _ => rfl) (fun y1 => ?_)
    exact rfl
  refine dp_s1 hF (i := .iload 4) rfl (fun _ => rfl) ?_
  refine dp_s2 hF (i := .ifCond .eq 31) (a := (77, [some (.ref 114), some (.long v1), none, some (.int v3), some (.int v4), some (.int v5)], [], M)) (b := (49, [some (.ref 114), some (.long v1), none, some (.int v3), some (.int v4), some (.int v5)], [], M)) rfl (fun _ => rfl) ?_ ?_
  · refine dp_s1 hF (i := .iload_n 3) rfl (fun _ => rfl) ?_
    refine dp_s1 hF (i := .iconst 1) rfl (fun _ => rfl) ?_
    refine dp_s1 hF (i := .isub) rfl (fun _ => rfl) ?_
    refine dp_s1w (v3 - (1 : Int32)) (fun (y2 : Int32) => (82, [some (.ref 114), some (.long v1), none, some (.int v3), some (.int v4), some (.int y2)], [], M)) hF (i := .istore 5) rfl (fun _ => rfl) (fun y2 => ?_)
    exact rfl
  refine dp_s1 hF (i := .lload_n 1) rfl (fun _ => rfl) ?_
  refine dp_s1 hF (i := .bipush 8) rfl (fun _ => rfl) ?_
  refine dp_s1 hF (i := .iload 5) rfl (fun _ => rfl) ?_
  refine dp_s1 hF (i := .imul) rfl (fun _ => rfl) ?_
  refine dp_s1 hF (i := .lushr) rfl (fun _ => rfl) ?_
  refine dp_s1 hF (i := .ldc2_w 720) rfl (fun _ => rfl) ?_
  refine dp_s1 hF (i := .land) rfl (fun _ => rfl) ?_
  refine dp_s1 hF (i := .ldc2_w 722) rfl (fun _ => rfl) ?_
  refine dp_s1 hF (i := .ldc2_w 724) rfl (fun _ => rfl) ?_
  refine dp_si (mj := dp_m_X12_in) (i := .invokestatic 446) rfl rfl (Or.inr rfl) rfl (fun _ => rfl) (fun r4 M3 => ?_)
  refine dp_s1 hF (i := .istore 4) rfl (fun _ => rfl) ?_
  refine dp_s1w (v5 + (1 : Int32)) (fun (y5 : Int32) => (74, [some (.ref 114), some (.long v1), none, some (.int v3), some (.int r4), some (.int y5)], [], M3)) hF (i := .iinc 5 1) rfl (fun _ => rfl) (fun y5 => ?_)
  refine dp_s1 hF (i := .goto (-36)) rfl (fun _ => rfl) ?_
  exact rfl
set_option maxRecDepth 20000 in
theorem D_X12_type_82_eq (xs : Nat → Int32) (xl d : Nat) (v1 : Int64) (v3 : Int32) (v4 : Int32) (v5 : Int32) (M : dp_M) : D_X12_type_82 xs xl d v1 v3 v4 v5 M = if v5 < 0 then (if v4 = 0 ∨ v4 = 1 then some (.inl (some (.int v4)), M) else none) else (if v4 = 0 then (if v4 = 0 ∨ v4 = 1 then some (.inl (some (.int v4)), M) else none) else (if (dp_I M 114 75) < 0 ∨ 400 ≤ Int32.toNatClampNeg (dp_I M 114 75) then none else dp_w (dp_setI M 170 (Int32.toNatClampNeg (dp_I M 114 75)) (Int64.toInt32 (((Int64.toUInt64 v1 >>> ((Int32.toInt64 ((8 : Int32) * v5)).toUInt64 &&& Int64.toUInt64 63)).toInt64) &&& (255 : Int64)))) (fun M1 => dp_w (dp_setI M1 114 75 ((dp_I M1 114 75) + (1 : Int32))) (fun M2 => dp_w (v5 + (-1 : Int32)) (fun y3 => D_X12_type_82 xs xl d v1 v3 v4 y3 M2))))) := by
  have hF := dp_den_grow (md := true) (xs := xs) (xl := xl) d
  unfold D_X12_type_82
  refine dp_s1 hF (i := .iload 5) rfl (fun _ => rfl) ?_
  refine dp_s2 hF (i := .ifCond .lt 45) (a := (129, [some (.ref 114), some (.long v1), none, some (.int v3), some (.int v4), some (.int v5)], [], M)) (b := (87, [some (.ref 114), some (.long v1), none, some (.int v3), some (.int v4), some (.int v5)], [], M)) rfl (fun _ => rfl) ?_ ?_
  · refine dp_s1 hF (i := .iload 4) rfl (fun _ => rfl) ?_
    exact dp_s0 hF (i := .ireturn) rfl (fun _ => rfl)
  refine dp_s1 hF (i := .iload 4) rfl (fun _ => rfl) ?_
  refine dp_s2 hF (i := .ifCond .eq 40) (a := (129, [some (.ref 114), some (.long v1), none, some (.int v3), some (.int v4), some (.int v5)], [], M)) (b := (92, [some (.ref 114), some (.long v1), none, some (.int v3), some (.int v4), some (.int v5)], [], M)) rfl (fun _ => rfl) ?_ ?_
  · refine dp_s1 hF (i := .iload 4) rfl (fun _ => rfl) ?_
    exact dp_s0 hF (i := .ireturn) rfl (fun _ => rfl)
  refine dp_s1 hF (i := .aload_n 0) rfl (fun _ => rfl) ?_
  refine dp_s1 hF (i := .getfield 181) rfl (fun _ => rfl) ?_
  refine dp_s1 hF (i := .aload_n 0) rfl (fun _ => rfl) ?_
  refine dp_s1 hF (i := .getfield 717) rfl (fun _ => rfl) ?_
  refine dp_s1 hF (i := .lload_n 1) rfl (fun _ => rfl) ?_
  refine dp_s1 hF (i := .bipush 8) rfl (fun _ => rfl) ?_
  refine dp_s1 hF (i := .iload 5) rfl (fun _ => rfl) ?_
  refine dp_s1 hF (i := .imul) rfl (fun _ => rfl) ?_
  refine dp_s1 hF (i := .lushr) rfl (fun _ => rfl) ?_
  refine dp_s1 hF (i := .ldc2_w 720) rfl (fun _ => rfl) ?_
  refine dp_s1 hF (i := .land) rfl (fun _ => rfl) ?_
  refine dp_s1 hF (i := .l2i) rfl (fun _ => rfl) ?_
  refine dp_s3w (dp_setI M 170 (Int32.toNatClampNeg (dp_I M 114 75)) (Int64.toInt32 (((Int64.toUInt64 v1 >>> ((Int32.toInt64 ((8 : Int32) * v5)).toUInt64 &&& Int64.toUInt64 63)).toInt64) &&& (255 : Int64)))) (fun (M1 : dp_M) => (113, [some (.ref 114), some (.long v1), none, some (.int v3), some (.int v4), some (.int v5)], [], M1)) hF (i := .iastore) rfl (fun _ => rfl) (fun M1 => ?_)
  refine dp_s1 hF (i := .aload_n 0) rfl (fun _ => rfl) ?_
  refine dp_s1 hF (i := .dup) rfl (fun _ => rfl) ?_
  refine dp_s1 hF (i := .getfield 717) rfl (fun _ => rfl) ?_
  refine dp_s1 hF (i := .iconst 1) rfl (fun _ => rfl) ?_
  refine dp_s1 hF (i := .iadd) rfl (fun _ => rfl) ?_
  refine dp_s1w (dp_setI M1 114 75 ((dp_I M1 114 75) + (1 : Int32))) (fun (M2 : dp_M) => (123, [some (.ref 114), some (.long v1), none, some (.int v3), some (.int v4), some (.int v5)], [], M2)) hF (i := .putfield 717) rfl (fun _ => rfl) (fun M2 => ?_)
  refine dp_s1w (v5 + (-1 : Int32)) (fun (y3 : Int32) => (126, [some (.ref 114), some (.long v1), none, some (.int v3), some (.int v4), some (.int y3)], [], M2)) hF (i := .iinc 5 (-1)) rfl (fun _ => rfl) (fun y3 => ?_)
  refine dp_s1 hF (i := .goto (-44)) rfl (fun _ => rfl) ?_
  exact rfl
noncomputable def D_X12_nextSign_0 (xs : Nat → Int32) (xl d : Nat)  (M : dp_M) : Option dp_Res := dp_lim true xs xl (dp_den true xs xl d) dp_m_X12_nextSign (0, [some (.ref 114)], [], M)
theorem D_X12_nextSign_0_den (xs : Nat → Int32) (xl d : Nat)  (M : dp_M) : dp_den true xs xl (d + 1) 466 [.ref 114] M = D_X12_nextSign_0 xs xl d  M := rfl
set_option maxRecDepth 20000 in
theorem D_X12_nextSign_0_eq (xs : Nat → Int32) (xl d : Nat)  (M : dp_M) : D_X12_nextSign_0 xs xl d  M = if (dp_I M 114 79) ≤ (dp_I M 114 80) then (if (dp_I M 114 79) ≤ (dp_I M 114 80) then (some (.inl (some (.int (-1 : Int32))), M)) else (if (dp_I M 114 80) < 0 ∨ 400 ≤ Int32.toNatClampNeg (dp_I M 114 80) then none else (some (.inl (some (.int (dp_I M 173 (Int32.toNatClampNeg (dp_I M 114 80))))), M)))) else (if (dp_I M 114 80) < 0 ∨ 400 ≤ Int32.toNatClampNeg (dp_I M 114 80) then none else (if (dp_I M 173 (Int32.toNatClampNeg (dp_I M 114 80))) = (32 : Int32) then (dp_w (dp_setI M 114 80 ((dp_I M 114 80) + (1 : Int32))) (fun M1 => D_X12_nextSign_0 xs xl d M1)) else (if (dp_I M 114 79) ≤ (dp_I M 114 80) then (some (.inl (some (.int (-1 : Int32))), M)) else (if (dp_I M 114 80) < 0 ∨ 400 ≤ Int32.toNatClampNeg (dp_I M 114 80) then none else (some (.inl (some (.int (dp_I M 173 (Int32.toNatClampNeg (dp_I M 114 80))))), M)))))) := by
  have hF := dp_den_grow (md := true) (xs := xs) (xl := xl) d
  unfold D_X12_nextSign_0
  refine dp_s1 hF (i := .aload_n 0) rfl (fun _ => rfl) ?_
  refine dp_s1 hF (i := .getfield 726) rfl (fun _ => rfl) ?_
  refine dp_s1 hF (i := .aload_n 0) rfl (fun _ => rfl) ?_
  refine dp_s1 hF (i := .getfield 729) rfl (fun _ => rfl) ?_
  refine dp_s2 hF (i := .if_icmp .ge 30) (a := (38, [some (.ref 114)], [], M)) (b := (11, [some (.ref 114)], [], M)) rfl (fun _ => rfl) ?_ ?_
  · refine dp_s1 hF (i := .aload_n 0) rfl (fun _ => rfl) ?_
    refine dp_s1 hF (i := .getfield 726) rfl (fun _ => rfl) ?_
    refine dp_s1 hF (i := .aload_n 0) rfl (fun _ => rfl) ?_
    refine dp_s1 hF (i := .getfield 729) rfl (fun _ => rfl) ?_
    refine dp_s2 hF (i := .if_icmp .ge 15) (a := (61, [some (.ref 114)], [], M)) (b := (49, [some (.ref 114)], [], M)) rfl (fun _ => rfl) ?_ ?_
    · refine dp_s1 hF (i := .iconst (-1)) rfl (fun _ => rfl) ?_
      exact dp_s0 hF (i := .ireturn) rfl (fun _ => rfl)
    refine dp_s1 hF (i := .aload_n 0) rfl (fun _ => rfl) ?_
    refine dp_s1 hF (i := .getfield 191) rfl (fun _ => rfl) ?_
    refine dp_s1 hF (i := .aload_n 0) rfl (fun _ => rfl) ?_
    refine dp_s1 hF (i := .getfield 726) rfl (fun _ => rfl) ?_
    refine dp_s3 hF (i := .iaload) rfl (fun _ => rfl) ?_
    refine dp_s1 hF (i := .goto 4) rfl (fun _ => rfl) ?_
    exact dp_s0 hF (i := .ireturn) rfl (fun _ => rfl)
  refine dp_s1 hF (i := .aload_n 0) rfl (fun _ => rfl) ?_
  refine dp_s1 hF (i := .getfield 191) rfl (fun _ => rfl) ?_
  refine dp_s1 hF (i := .aload_n 0) rfl (fun _ => rfl) ?_
  refine dp_s1 hF (i := .getfield 726) rfl (fun _ => rfl) ?_
  refine dp_s3 hF (i := .iaload) rfl (fun _ => rfl) ?_
  refine dp_s1 hF (i := .bipush 32) rfl (fun _ => rfl) ?_
  refine dp_s2 hF (i := .if_icmp .ne 16) (a := (25, [some (.ref 114)], [], M)) (b := (38, [some (.ref 114)], [], M)) rfl (fun _ => rfl) ?_ ?_
  · refine dp_s1 hF (i := .aload_n 0) rfl (fun _ => rfl) ?_
    refine dp_s1 hF (i := .dup) rfl (fun _ => rfl) ?_
    refine dp_s1 hF (i := .getfield 726) rfl (fun _ => rfl) ?_
    refine dp_s1 hF (i := .iconst 1) rfl (fun _ => rfl) ?_
    refine dp_s1 hF (i := .iadd) rfl (fun _ => rfl) ?_
    refine dp_s1w (dp_setI M 114 80 ((dp_I M 114 80) + (1 : Int32))) (fun (M1 : dp_M) => (35, [some (.ref 114)], [], M1)) hF (i := .putfield 726) rfl (fun _ => rfl) (fun M1 => ?_)
    refine dp_s1 hF (i := .goto (-35)) rfl (fun _ => rfl) ?_
    exact rfl
  refine dp_s1 hF (i := .aload_n 0) rfl (fun _ => rfl) ?_
  refine dp_s1 hF (i := .getfield 726) rfl (fun _ => rfl) ?_
  refine dp_s1 hF (i := .aload_n 0) rfl (fun _ => rfl) ?_
  refine dp_s1 hF (i := .getfield 729) rfl (fun _ => rfl) ?_
  refine dp_s2 hF (i := .if_icmp .ge 15) (a := (61, [some (.ref 114)], [], M)) (b := (49, [some (.ref 114)], [], M)) rfl (fun _ => rfl) ?_ ?_
  · refine dp_s1 hF (i := .iconst (-1)) rfl (fun _ => rfl) ?_
    exact dp_s0 hF (i := .ireturn) rfl (fun _ => rfl)
  refine dp_s1 hF (i := .aload_n 0) rfl (fun _ => rfl) ?_
  refine dp_s1 hF (i := .getfield 191) rfl (fun _ => rfl) ?_
  refine dp_s1 hF (i := .aload_n 0) rfl (fun _ => rfl) ?_
  refine dp_s1 hF (i := .getfield 726) rfl (fun _ => rfl) ?_
  refine dp_s3 hF (i := .iaload) rfl (fun _ => rfl) ?_
  refine dp_s1 hF (i := .goto 4) rfl (fun _ => rfl) ?_
  exact dp_s0 hF (i := .ireturn) rfl (fun _ => rfl)
noncomputable def D_X12_stops_0 (xs : Nat → Int32) (xl d : Nat) (v1 : Int32) (M : dp_M) : Option dp_Res := dp_lim true xs xl (dp_den true xs xl d) dp_m_X12_stops (0, [some (.ref 114), some (.int v1)], [], M)
theorem D_X12_stops_0_den (xs : Nat → Int32) (xl d : Nat) (a0 : Int32) (M : dp_M) : dp_den true xs xl (d + 1) 467 [.ref 114, .int a0] M = D_X12_stops_0 xs xl d a0 M := rfl
set_option maxRecDepth 20000 in
theorem D_X12_stops_0_eq (xs : Nat → Int32) (xl d : Nat) (v1 : Int32) (M : dp_M) : D_X12_stops_0 xs xl d v1 M = if 0 ≤ (dp_I M 114 81) then (dp_w (dp_setI M 114 81 (dp_I M 114 81)) (fun M1 => some (.inl none, M1))) else (dp_w (dp_setI M 114 81 v1) (fun M2 => some (.inl none, M2))) := by
  have hF := dp_den_grow (md := true) (xs := xs) (xl := xl) d
  unfold D_X12_stops_0
  refine dp_s1 hF (i := .aload_n 0) rfl (fun _ => rfl) ?_
  refine dp_s1 hF (i := .aload_n 0) rfl (fun _ => rfl) ?_
  refine dp_s1 hF (i := .getfield 732) rfl (fun _ => rfl) ?_
  refine dp_s2 hF (i := .ifCond .ge 7) (a := (12, [some (.ref 114), some (.int v1)], [.ref 114], M)) (b := (8, [some (.ref 114), some (.int v1)], [.ref 114], M)) rfl (fun _ => rfl) ?_ ?_
  · refine dp_s1 hF (i := .aload_n 0) rfl (fun _ => rfl) ?_
    refine dp_s1 hF (i := .getfield 732) rfl (fun _ => rfl) ?_
    refine dp_s1w (dp_setI M 114 81 (dp_I M 114 81)) (fun (M1 : dp_M) => (19, [some (.ref 114), some (.int v1)], [], M1)) hF (i := .putfield 732) rfl (fun _ => rfl) (fun M1 => ?_)
    exact dp_s0 hF (i := .return_) rfl (fun _ => rfl)
  refine dp_s1 hF (i := .iload_n 1) rfl (fun _ => rfl) ?_
  refine dp_s1 hF (i := .goto 7) rfl (fun _ => rfl) ?_
  refine dp_s1w (dp_setI M 114 81 v1) (fun (M2 : dp_M) => (19, [some (.ref 114), some (.int v1)], [], M2)) hF (i := .putfield 732) rfl (fun _ => rfl) (fun M2 => ?_)
  exact dp_s0 hF (i := .return_) rfl (fun _ => rfl)
noncomputable def D_X12_takes_0 (xs : Nat → Int32) (xl d : Nat) (v1 : Int32) (M : dp_M) : Option dp_Res := dp_lim true xs xl (dp_den true xs xl d) dp_m_X12_takes (0, [some (.ref 114), some (.int v1)], [], M)
theorem D_X12_takes_0_den (xs : Nat → Int32) (xl d : Nat) (a0 : Int32) (M : dp_M) : dp_den true xs xl (d + 1) 468 [.ref 114, .int a0] M = D_X12_takes_0 xs xl d a0 M := rfl
set_option maxRecDepth 20000 in
theorem D_X12_takes_0_eq (xs : Nat → Int32) (xl d : Nat) (v1 : Int32) (M : dp_M) : D_X12_takes_0 xs xl d v1 M = if (dp_I M 114 81) < 0 then (dp_bi (dp_den true xs xl d 466 [.ref 114] M) (fun r2 M1 => if r2 = v1 then (dp_w (dp_setI M1 114 80 ((dp_I M1 114 80) + (1 : Int32))) (fun M3 => some (.inl none, M3))) else (dp_bv (dp_den true xs xl d 467 [.ref 114, .int (dp_I M1 114 80)] M1) (fun M4 => some (.inl none, M4))))) else (some (.inl none, M)) := by
  have hF := dp_den_grow (md := true) (xs := xs) (xl := xl) d
  unfold D_X12_takes_0
  refine dp_s1 hF (i := .aload_n 0) rfl (fun _ => rfl) ?_
  refine dp_s1 hF (i := .getfield 732) rfl (fun _ => rfl) ?_
  refine dp_s2 hF (i := .ifCond .lt 4) (a := (8, [some (.ref 114), some (.int v1)], [], M)) (b := (7, [some (.ref 114), some (.int v1)], [], M)) rfl (fun _ => rfl) ?_ ?_
  · refine dp_s1 hF (i := .aload_n 0) rfl (fun _ => rfl) ?_
    refine dp_si (mj := dp_m_X12_nextSign) (i := .invokevirtual 735) rfl rfl (Or.inl rfl) rfl (fun _ => rfl) (fun r2 M1 => ?_)
    refine dp_s1 hF (i := .iload_n 1) rfl (fun _ => rfl) ?_
    refine dp_s2 hF (i := .if_icmp .ne 16) (a := (16, [some (.ref 114), some (.int v1)], [], M1)) (b := (29, [some (.ref 114), some (.int v1)], [], M1)) rfl (fun _ => rfl) ?_ ?_
    · refine dp_s1 hF (i := .aload_n 0) rfl (fun _ => rfl) ?_
      refine dp_s1 hF (i := .dup) rfl (fun _ => rfl) ?_
      refine dp_s1 hF (i := .getfield 726) rfl (fun _ => rfl) ?_
      refine dp_s1 hF (i := .iconst 1) rfl (fun _ => rfl) ?_
      refine dp_s1 hF (i := .iadd) rfl (fun _ => rfl) ?_
      refine dp_s1w (dp_setI M1 114 80 ((dp_I M1 114 80) + (1 : Int32))) (fun (M3 : dp_M) => (26, [some (.ref 114), some (.int v1)], [], M3)) hF (i := .putfield 726) rfl (fun _ => rfl) (fun M3 => ?_)
      refine dp_s1 hF (i := .goto 11) rfl (fun _ => rfl) ?_
      exact dp_s0 hF (i := .return_) rfl (fun _ => rfl)
    refine dp_s1 hF (i := .aload_n 0) rfl (fun _ => rfl) ?_
    refine dp_s1 hF (i := .aload_n 0) rfl (fun _ => rfl) ?_
    refine dp_s1 hF (i := .getfield 726) rfl (fun _ => rfl) ?_
    refine dp_sv (mj := dp_m_X12_stops) (i := .invokevirtual 738) rfl rfl rfl rfl (fun _ => rfl) (fun M4 => ?_)
    exact dp_s0 hF (i := .return_) rfl (fun _ => rfl)
  exact dp_s0 hF (i := .return_) rfl (fun _ => rfl)
noncomputable def D_X12_isDigit_0 (xs : Nat → Int32) (xl d : Nat) (v0 : Int32) (M : dp_M) : Option dp_Res := dp_lim true xs xl (dp_den true xs xl d) dp_m_X12_isDigit (0, [some (.int v0)], [], M)
theorem D_X12_isDigit_0_den (xs : Nat → Int32) (xl d : Nat) (a0 : Int32) (M : dp_M) : dp_den true xs xl (d + 1) 469 [.int a0] M = D_X12_isDigit_0 xs xl d a0 M := rfl
set_option maxRecDepth 20000 in
theorem D_X12_isDigit_0_eq (xs : Nat → Int32) (xl d : Nat) (v0 : Int32) (M : dp_M) : D_X12_isDigit_0 xs xl d v0 M = if v0 < (48 : Int32) then (some (.inl (some (.int (0 : Int32))), M)) else (if (57 : Int32) < v0 then (some (.inl (some (.int (0 : Int32))), M)) else (some (.inl (some (.int (1 : Int32))), M))) := by
  have hF := dp_den_grow (md := true) (xs := xs) (xl := xl) d
  unfold D_X12_isDigit_0
  refine dp_s1 hF (i := .iload_n 0) rfl (fun _ => rfl) ?_
  refine dp_s1 hF (i := .bipush 48) rfl (fun _ => rfl) ?_
  refine dp_s2 hF (i := .if_icmp .lt 13) (a := (16, [some (.int v0)], [], M)) (b := (6, [some (.int v0)], [], M)) rfl (fun _ => rfl) ?_ ?_
  · refine dp_s1 hF (i := .iconst 0) rfl (fun _ => rfl) ?_
    exact dp_s0 hF (i := .ireturn) rfl (fun _ => rfl)
  refine dp_s1 hF (i := .iload_n 0) rfl (fun _ => rfl) ?_
  refine dp_s1 hF (i := .bipush 57) rfl (fun _ => rfl) ?_
  refine dp_s2 hF (i := .if_icmp .gt 7) (a := (16, [some (.int v0)], [], M)) (b := (12, [some (.int v0)], [], M)) rfl (fun _ => rfl) ?_ ?_
  · refine dp_s1 hF (i := .iconst 0) rfl (fun _ => rfl) ?_
    exact dp_s0 hF (i := .ireturn) rfl (fun _ => rfl)
  refine dp_s1 hF (i := .iconst 1) rfl (fun _ => rfl) ?_
  refine dp_s1 hF (i := .goto 4) rfl (fun _ => rfl) ?_
  exact dp_s0 hF (i := .ireturn) rfl (fun _ => rfl)
noncomputable def D_X12_isSmall_0 (xs : Nat → Int32) (xl d : Nat) (v0 : Int32) (M : dp_M) : Option dp_Res := dp_lim true xs xl (dp_den true xs xl d) dp_m_X12_isSmall (0, [some (.int v0)], [], M)
theorem D_X12_isSmall_0_den (xs : Nat → Int32) (xl d : Nat) (a0 : Int32) (M : dp_M) : dp_den true xs xl (d + 1) 470 [.int a0] M = D_X12_isSmall_0 xs xl d a0 M := rfl
set_option maxRecDepth 20000 in
theorem D_X12_isSmall_0_eq (xs : Nat → Int32) (xl d : Nat) (v0 : Int32) (M : dp_M) : D_X12_isSmall_0 xs xl d v0 M = if v0 < (97 : Int32) then (some (.inl (some (.int (0 : Int32))), M)) else (if (122 : Int32) < v0 then (some (.inl (some (.int (0 : Int32))), M)) else (some (.inl (some (.int (1 : Int32))), M))) := by
  have hF := dp_den_grow (md := true) (xs := xs) (xl := xl) d
  unfold D_X12_isSmall_0
  refine dp_s1 hF (i := .iload_n 0) rfl (fun _ => rfl) ?_
  refine dp_s1 hF (i := .bipush 97) rfl (fun _ => rfl) ?_
  refine dp_s2 hF (i := .if_icmp .lt 13) (a := (16, [some (.int v0)], [], M)) (b := (6, [some (.int v0)], [], M)) rfl (fun _ => rfl) ?_ ?_
  · refine dp_s1 hF (i := .iconst 0) rfl (fun _ => rfl) ?_
    exact dp_s0 hF (i := .ireturn) rfl (fun _ => rfl)
  refine dp_s1 hF (i := .iload_n 0) rfl (fun _ => rfl) ?_
  refine dp_s1 hF (i := .bipush 122) rfl (fun _ => rfl) ?_
  refine dp_s2 hF (i := .if_icmp .gt 7) (a := (16, [some (.int v0)], [], M)) (b := (12, [some (.int v0)], [], M)) rfl (fun _ => rfl) ?_ ?_
  · refine dp_s1 hF (i := .iconst 0) rfl (fun _ => rfl) ?_
    exact dp_s0 hF (i := .ireturn) rfl (fun _ => rfl)
  refine dp_s1 hF (i := .iconst 1) rfl (fun _ => rfl) ?_
  refine dp_s1 hF (i := .goto 4) rfl (fun _ => rfl) ?_
  exact dp_s0 hF (i := .ireturn) rfl (fun _ => rfl)
noncomputable def D_X12_digitsFrom_0 (xs : Nat → Int32) (xl d : Nat) (v1 : Int32) (M : dp_M) : Option dp_Res := dp_lim true xs xl (dp_den true xs xl d) dp_m_X12_digitsFrom (0, [some (.ref 114), some (.int v1), none], [], M)
noncomputable def D_X12_digitsFrom_2 (xs : Nat → Int32) (xl d : Nat) (v1 : Int32) (v2 : Int32) (M : dp_M) : Option dp_Res := dp_lim true xs xl (dp_den true xs xl d) dp_m_X12_digitsFrom (2, [some (.ref 114), some (.int v1), some (.int v2)], [], M)
theorem D_X12_digitsFrom_0_den (xs : Nat → Int32) (xl d : Nat) (a0 : Int32) (M : dp_M) : dp_den true xs xl (d + 1) 471 [.ref 114, .int a0] M = D_X12_digitsFrom_0 xs xl d a0 M := rfl
set_option maxRecDepth 20000 in
theorem D_X12_digitsFrom_0_eq (xs : Nat → Int32) (xl d : Nat) (v1 : Int32) (M : dp_M) : D_X12_digitsFrom_0 xs xl d v1 M = dp_w (0 : Int32) (fun y1 => D_X12_digitsFrom_2 xs xl d v1 y1 M) := by
  have hF := dp_den_grow (md := true) (xs := xs) (xl := xl) d
  unfold D_X12_digitsFrom_0
  refine dp_s1 hF (i := .iconst 0) rfl (fun _ => rfl) ?_
  refine dp_s1w (0 : Int32) (fun (y1 : Int32) => (2, [some (.ref 114), some (.int v1), some (.int y1)], [], M)) hF (i := .istore_n 2) rfl (fun _ => rfl) (fun y1 => ?_)
  exact rfl
set_option maxRecDepth 20000 in
theorem D_X12_digitsFrom_2_eq (xs : Nat → Int32) (xl d : Nat) (v1 : Int32) (v2 : Int32) (M : dp_M) : D_X12_digitsFrom_2 xs xl d v1 v2 M = if (dp_I M 114 79) ≤ (v1 + v2) then (some (.inl (some (.int v2)), M)) else (if (v1 + v2) < 0 ∨ 400 ≤ Int32.toNatClampNeg (v1 + v2) then none else (dp_bi (dp_den true xs xl d 469 [.int (dp_I M 173 (Int32.toNatClampNeg (v1 + v2)))] M) (fun r2 M1 => if r2 = 0 then (some (.inl (some (.int v2)), M1)) else (dp_w (v2 + (1 : Int32)) (fun y3 => D_X12_digitsFrom_2 xs xl d v1 y3 M1))))) := by
  have hF := dp_den_grow (md := true) (xs := xs) (xl := xl) d
  unfold D_X12_digitsFrom_2
  refine dp_s1 hF (i := .iload_n 1) rfl (fun _ => rfl) ?_
  refine dp_s1 hF (i := .iload_n 2) rfl (fun _ => rfl) ?_
  refine dp_s1 hF (i := .iadd) rfl (fun _ => rfl) ?_
  refine dp_s1 hF (i := .aload_n 0) rfl (fun _ => rfl) ?_
  refine dp_s1 hF (i := .getfield 729) rfl (fun _ => rfl) ?_
  refine dp_s2 hF (i := .if_icmp .ge 23) (a := (32, [some (.ref 114), some (.int v1), some (.int v2)], [], M)) (b := (12, [some (.ref 114), some (.int v1), some (.int v2)], [], M)) rfl (fun _ => rfl) ?_ ?_
  · refine dp_s1 hF (i := .iload_n 2) rfl (fun _ => rfl) ?_
    exact dp_s0 hF (i := .ireturn) rfl (fun _ => rfl)
  refine dp_s1 hF (i := .aload_n 0) rfl (fun _ => rfl) ?_
  refine dp_s1 hF (i := .getfield 191) rfl (fun _ => rfl) ?_
  refine dp_s1 hF (i := .iload_n 1) rfl (fun _ => rfl) ?_
  refine dp_s1 hF (i := .iload_n 2) rfl (fun _ => rfl) ?_
  refine dp_s1 hF (i := .iadd) rfl (fun _ => rfl) ?_
  refine dp_s3 hF (i := .iaload) rfl (fun _ => rfl) ?_
  refine dp_si (mj := dp_m_X12_isDigit) (i := .invokestatic 742) rfl rfl (Or.inr rfl) rfl (fun _ => rfl) (fun r2 M1 => ?_)
  refine dp_s2 hF (i := .ifCond .eq 9) (a := (32, [some (.ref 114), some (.int v1), some (.int v2)], [], M1)) (b := (26, [some (.ref 114), some (.int v1), some (.int v2)], [], M1)) rfl (fun _ => rfl) ?_ ?_
  · refine dp_s1 hF (i := .iload_n 2) rfl (fun _ => rfl) ?_
    exact dp_s0 hF (i := .ireturn) rfl (fun _ => rfl)
  refine dp_s1w (v2 + (1 : Int32)) (fun (y3 : Int32) => (29, [some (.ref 114), some (.int v1), some (.int y3)], [], M1)) hF (i := .iinc 2 1) rfl (fun _ => rfl) (fun y3 => ?_)
  refine dp_s1 hF (i := .goto (-27)) rfl (fun _ => rfl) ?_
  exact rfl
noncomputable def D_X12_valueOf_0 (xs : Nat → Int32) (xl d : Nat) (v1 : Int32) (v2 : Int32) (M : dp_M) : Option dp_Res := dp_lim true xs xl (dp_den true xs xl d) dp_m_X12_valueOf (0, [some (.ref 114), some (.int v1), some (.int v2), none, none], [], M)
noncomputable def D_X12_valueOf_5 (xs : Nat → Int32) (xl d : Nat) (v1 : Int32) (v2 : Int32) (v3 : Int32) (v4 : Int32) (M : dp_M) : Option dp_Res := dp_lim true xs xl (dp_den true xs xl d) dp_m_X12_valueOf (5, [some (.ref 114), some (.int v1), some (.int v2), some (.int v3), some (.int v4)], [], M)
theorem D_X12_valueOf_0_den (xs : Nat → Int32) (xl d : Nat) (a0 : Int32) (a1 : Int32) (M : dp_M) : dp_den true xs xl (d + 1) 472 [.ref 114, .int a0, .int a1] M = D_X12_valueOf_0 xs xl d a0 a1 M := rfl
set_option maxRecDepth 20000 in
theorem D_X12_valueOf_0_eq (xs : Nat → Int32) (xl d : Nat) (v1 : Int32) (v2 : Int32) (M : dp_M) : D_X12_valueOf_0 xs xl d v1 v2 M = dp_w (0 : Int32) (fun y1 => dp_w (0 : Int32) (fun y2 => D_X12_valueOf_5 xs xl d v1 v2 y1 y2 M)) := by
  have hF := dp_den_grow (md := true) (xs := xs) (xl := xl) d
  unfold D_X12_valueOf_0
  refine dp_s1 hF (i := .iconst 0) rfl (fun _ => rfl) ?_
  refine dp_s1w (0 : Int32) (fun (y1 : Int32) => (2, [some (.ref 114), some (.int v1), some (.int v2), some (.int y1), none], [], M)) hF (i := .istore_n 3) rfl (fun _ => rfl) (fun y1 => ?_)
  refine dp_s1 hF (i := .iconst 0) rfl (fun _ => rfl) ?_
  refine dp_s1w (0 : Int32) (fun (y2 : Int32) => (5, [some (.ref 114), some (.int v1), some (.int v2), some (.int y1), some (.int y2)], [], M)) hF (i := .istore 4) rfl (fun _ => rfl) (fun y2 => ?_)
  exact rfl
set_option maxRecDepth 20000 in
theorem D_X12_valueOf_5_eq (xs : Nat → Int32) (xl d : Nat) (v1 : Int32) (v2 : Int32) (v3 : Int32) (v4 : Int32) (M : dp_M) : D_X12_valueOf_5 xs xl d v1 v2 v3 v4 M = if v2 ≤ v4 then (some (.inl (some (.int v3)), M)) else (if (v1 + v4) < 0 ∨ 400 ≤ Int32.toNatClampNeg (v1 + v4) then none else (dp_w ((((10 : Int32) * v3) + (dp_I M 173 (Int32.toNatClampNeg (v1 + v4)))) - (48 : Int32)) (fun y1 => dp_w (v4 + (1 : Int32)) (fun y2 => D_X12_valueOf_5 xs xl d v1 v2 y1 y2 M)))) := by
  have hF := dp_den_grow (md := true) (xs := xs) (xl := xl) d
  unfold D_X12_valueOf_5
  refine dp_s1 hF (i := .iload 4) rfl (fun _ => rfl) ?_
  refine dp_s1 hF (i := .iload_n 2) rfl (fun _ => rfl) ?_
  refine dp_s2 hF (i := .if_icmp .ge 27) (a := (35, [some (.ref 114), some (.int v1), some (.int v2), some (.int v3), some (.int v4)], [], M)) (b := (11, [some (.ref 114), some (.int v1), some (.int v2), some (.int v3), some (.int v4)], [], M)) rfl (fun _ => rfl) ?_ ?_
  · refine dp_s1 hF (i := .iload_n 3) rfl (fun _ => rfl) ?_
    exact dp_s0 hF (i := .ireturn) rfl (fun _ => rfl)
  refine dp_s1 hF (i := .bipush 10) rfl (fun _ => rfl) ?_
  refine dp_s1 hF (i := .iload_n 3) rfl (fun _ => rfl) ?_
  refine dp_s1 hF (i := .imul) rfl (fun _ => rfl) ?_
  refine dp_s1 hF (i := .aload_n 0) rfl (fun _ => rfl) ?_
  refine dp_s1 hF (i := .getfield 191) rfl (fun _ => rfl) ?_
  refine dp_s1 hF (i := .iload_n 1) rfl (fun _ => rfl) ?_
  refine dp_s1 hF (i := .iload 4) rfl (fun _ => rfl) ?_
  refine dp_s1 hF (i := .iadd) rfl (fun _ => rfl) ?_
  refine dp_s3 hF (i := .iaload) rfl (fun _ => rfl) ?_
  refine dp_s1 hF (i := .iadd) rfl (fun _ => rfl) ?_
  refine dp_s1 hF (i := .bipush 48) rfl (fun _ => rfl) ?_
  refine dp_s1 hF (i := .isub) rfl (fun _ => rfl) ?_
  refine dp_s1w ((((10 : Int32) * v3) + (dp_I M 173 (Int32.toNatClampNeg (v1 + v4)))) - (48 : Int32)) (fun (y1 : Int32) => (29, [some (.ref 114), some (.int v1), some (.int v2), some (.int y1), some (.int v4)], [], M)) hF (i := .istore_n 3) rfl (fun _ => rfl) (fun y1 => ?_)
  refine dp_s1w (v4 + (1 : Int32)) (fun (y2 : Int32) => (32, [some (.ref 114), some (.int v1), some (.int v2), some (.int y1), some (.int y2)], [], M)) hF (i := .iinc 4 1) rfl (fun _ => rfl) (fun y2 => ?_)
  refine dp_s1 hF (i := .goto (-27)) rfl (fun _ => rfl) ?_
  exact rfl
noncomputable def D_X12_takesWhole_0 (xs : Nat → Int32) (xl d : Nat)  (M : dp_M) : Option dp_Res := dp_lim true xs xl (dp_den true xs xl d) dp_m_X12_takesWhole (0, [some (.ref 114), none, none], [], M)
noncomputable def D_X12_takesWhole_28 (xs : Nat → Int32) (xl d : Nat) (vs0 : Int32) (M : dp_M) : Option dp_Res := dp_lim true xs xl (dp_den true xs xl d) dp_m_X12_takesWhole (28, [some (.ref 114), none, none], [.int vs0], M)
theorem D_X12_takesWhole_0_den (xs : Nat → Int32) (xl d : Nat)  (M : dp_M) : dp_den true xs xl (d + 1) 473 [.ref 114] M = D_X12_takesWhole_0 xs xl d  M := rfl
set_option maxRecDepth 20000 in
theorem D_X12_takesWhole_0_eq (xs : Nat → Int32) (xl d : Nat)  (M : dp_M) : D_X12_takesWhole_0 xs xl d  M = if (dp_I M 114 81) < 0 then (dp_bi (dp_den true xs xl d 466 [.ref 114] M) (fun r2 M1 => if r2 = (-1 : Int32) then (D_X12_takesWhole_28 xs xl d (dp_I M1 114 79) M1) else (D_X12_takesWhole_28 xs xl d (dp_I M1 114 80) M1))) else (some (.inl (some (.int (0 : Int32))), M)) := by
  have hF := dp_den_grow (md := true) (xs := xs) (xl := xl) d
  unfold D_X12_takesWhole_0
  refine dp_s1 hF (i := .aload_n 0) rfl (fun _ => rfl) ?_
  refine dp_s1 hF (i := .getfield 732) rfl (fun _ => rfl) ?_
  refine dp_s2 hF (i := .ifCond .lt 5) (a := (9, [some (.ref 114), none, none], [], M)) (b := (7, [some (.ref 114), none, none], [], M)) rfl (fun _ => rfl) ?_ ?_
  · refine dp_s1 hF (i := .aload_n 0) rfl (fun _ => rfl) ?_
    refine dp_si (mj := dp_m_X12_nextSign) (i := .invokevirtual 735) rfl rfl (Or.inl rfl) rfl (fun _ => rfl) (fun r2 M1 => ?_)
    refine dp_s1 hF (i := .iconst (-1)) rfl (fun _ => rfl) ?_
    refine dp_s2 hF (i := .if_icmp .ne 10) (a := (17, [some (.ref 114), none, none], [], M1)) (b := (24, [some (.ref 114), none, none], [], M1)) rfl (fun _ => rfl) ?_ ?_
    · refine dp_s1 hF (i := .aload_n 0) rfl (fun _ => rfl) ?_
      refine dp_s1 hF (i := .getfield 729) rfl (fun _ => rfl) ?_
      refine dp_s1 hF (i := .goto 7) rfl (fun _ => rfl) ?_
      exact rfl
    refine dp_s1 hF (i := .aload_n 0) rfl (fun _ => rfl) ?_
    refine dp_s1 hF (i := .getfield 726) rfl (fun _ => rfl) ?_
    exact rfl
  refine dp_s1 hF (i := .iconst 0) rfl (fun _ => rfl) ?_
  exact dp_s0 hF (i := .ireturn) rfl (fun _ => rfl)
set_option maxRecDepth 20000 in
theorem D_X12_takesWhole_28_eq (xs : Nat → Int32) (xl d : Nat) (vs0 : Int32) (M : dp_M) : D_X12_takesWhole_28 xs xl d vs0 M = dp_bi (dp_den true xs xl d 471 [.ref 114, .int vs0] M) (fun r2 M1 => if r2 < (1 : Int32) then (dp_bv (dp_den true xs xl d 467 [.ref 114, .int vs0] M1) (fun M3 => some (.inl (some (.int (0 : Int32))), M3))) else (if r2 ≤ (6 : Int32) then (dp_w (dp_setI M1 114 80 (vs0 + r2)) (fun M4 => dp_bi (dp_den true xs xl d 472 [.ref 114, .int vs0, .int r2] M4) (fun r6 M5 => some (.inl (some (.int r6)), M5)))) else (dp_bv (dp_den true xs xl d 467 [.ref 114, .int vs0] M1) (fun M7 => some (.inl (some (.int (0 : Int32))), M7))))) := by
  have hF := dp_den_grow (md := true) (xs := xs) (xl := xl) d
  unfold D_X12_takesWhole_28
  refine dp_s1 hF (i := .istore_n 1) rfl (fun _ => rfl) ?_
  refine dp_s1 hF (i := .aload_n 0) rfl (fun _ => rfl) ?_
  refine dp_s1 hF (i := .iload_n 1) rfl (fun _ => rfl) ?_
  refine dp_si (mj := dp_m_X12_digitsFrom) (i := .invokevirtual 745) rfl rfl (Or.inl rfl) rfl (fun _ => rfl) (fun r2 M1 => ?_)
  refine dp_s1 hF (i := .istore_n 2) rfl (fun _ => rfl) ?_
  refine dp_s1 hF (i := .iload_n 2) rfl (fun _ => rfl) ?_
  refine dp_s1 hF (i := .iconst 1) rfl (fun _ => rfl) ?_
  refine dp_s2 hF (i := .if_icmp .lt 9) (a := (46, [some (.ref 114), some (.int vs0), some (.int r2)], [], M1)) (b := (40, [some (.ref 114), some (.int vs0), some (.int r2)], [], M1)) rfl (fun _ => rfl) ?_ ?_
  · refine dp_s1 hF (i := .aload_n 0) rfl (fun _ => rfl) ?_
    refine dp_s1 hF (i := .iload_n 1) rfl (fun _ => rfl) ?_
    refine dp_sv (mj := dp_m_X12_stops) (i := .invokevirtual 738) rfl rfl rfl rfl (fun _ => rfl) (fun M3 => ?_)
    refine dp_s1 hF (i := .iconst 0) rfl (fun _ => rfl) ?_
    exact dp_s0 hF (i := .ireturn) rfl (fun _ => rfl)
  refine dp_s1 hF (i := .iload_n 2) rfl (fun _ => rfl) ?_
  refine dp_s1 hF (i := .bipush 6) rfl (fun _ => rfl) ?_
  refine dp_s2 hF (i := .if_icmp .le 10) (a := (53, [some (.ref 114), some (.int vs0), some (.int r2)], [], M1)) (b := (46, [some (.ref 114), some (.int vs0), some (.int r2)], [], M1)) rfl (fun _ => rfl) ?_ ?_
  · refine dp_s1 hF (i := .aload_n 0) rfl (fun _ => rfl) ?_
    refine dp_s1 hF (i := .iload_n 1) rfl (fun _ => rfl) ?_
    refine dp_s1 hF (i := .iload_n 2) rfl (fun _ => rfl) ?_
    refine dp_s1 hF (i := .iadd) rfl (fun _ => rfl) ?_
    refine dp_s1w (dp_setI M1 114 80 (vs0 + r2)) (fun (M4 : dp_M) => (60, [some (.ref 114), some (.int vs0), some (.int r2)], [], M4)) hF (i := .putfield 726) rfl (fun _ => rfl) (fun M4 => ?_)
    refine dp_s1 hF (i := .aload_n 0) rfl (fun _ => rfl) ?_
    refine dp_s1 hF (i := .iload_n 1) rfl (fun _ => rfl) ?_
    refine dp_s1 hF (i := .iload_n 2) rfl (fun _ => rfl) ?_
    refine dp_si (mj := dp_m_X12_valueOf) (i := .invokevirtual 748) rfl rfl (Or.inl rfl) rfl (fun _ => rfl) (fun r6 M5 => ?_)
    exact dp_s0 hF (i := .ireturn) rfl (fun _ => rfl)
  refine dp_s1 hF (i := .aload_n 0) rfl (fun _ => rfl) ?_
  refine dp_s1 hF (i := .iload_n 1) rfl (fun _ => rfl) ?_
  refine dp_sv (mj := dp_m_X12_stops) (i := .invokevirtual 738) rfl rfl rfl rfl (fun _ => rfl) (fun M7 => ?_)
  refine dp_s1 hF (i := .iconst 0) rfl (fun _ => rfl) ?_
  exact dp_s0 hF (i := .ireturn) rfl (fun _ => rfl)
noncomputable def D_X12_takesNumber_0 (xs : Nat → Int32) (xl d : Nat)  (M : dp_M) : Option dp_Res := dp_lim true xs xl (dp_den true xs xl d) dp_m_X12_takesNumber (0, [some (.ref 114), none, none, none, none, none], [], M)
theorem D_X12_takesNumber_0_den (xs : Nat → Int32) (xl d : Nat)  (M : dp_M) : dp_den true xs xl (d + 1) 474 [.ref 114] M = D_X12_takesNumber_0 xs xl d  M := rfl
set_option maxRecDepth 20000 in
theorem D_X12_takesNumber_0_eq (xs : Nat → Int32) (xl d : Nat)  (M : dp_M) : D_X12_takesNumber_0 xs xl d  M = dp_w (dp_I M 114 80) (fun y1 => dp_bi (dp_den true xs xl d 471 [.ref 114, .int y1] M) (fun r3 M2 => if r3 ≤ (5 : Int32) then (dp_w (dp_setI M2 114 80 (y1 + r3)) (fun M4 => dp_bi (dp_den true xs xl d 472 [.ref 114, .int y1, .int r3] M4) (fun r6 M5 => dp_w ((1000 : Int32) * r6) (fun y7 => if (dp_I M5 114 80) = (dp_I M5 114 79) then (some (.inl (some (.int y7)), M5)) else (if (dp_I M5 114 80) < 0 ∨ 400 ≤ Int32.toNatClampNeg (dp_I M5 114 80) then none else (if (dp_I M5 173 (Int32.toNatClampNeg (dp_I M5 114 80))) = (46 : Int32) then (dp_bi (dp_den true xs xl d 471 [.ref 114, .int ((dp_I M5 114 80) + (1 : Int32))] M5) (fun r9 M8 => if r9 < (1 : Int32) then (dp_bv (dp_den true xs xl d 467 [.ref 114, .int y1] M8) (fun M10 => some (.inl (some (.int (0 : Int32))), M10))) else (if r9 ≤ (3 : Int32) then (dp_bi (dp_den true xs xl d 472 [.ref 114, .int ((dp_I M8 114 80) + (1 : Int32)), .int r9] M8) (fun r12 M11 => dp_w (dp_setI M11 114 80 ((dp_I M11 114 80) + ((1 : Int32) + r9))) (fun M13 => if r9 = (1 : Int32) then (some (.inl (some (.int (y7 + ((100 : Int32) * r12)))), M13)) else (if r9 = (2 : Int32) then (some (.inl (some (.int (y7 + ((10 : Int32) * r12)))), M13)) else (some (.inl (some (.int (y7 + r12))), M13)))))) else (dp_bv (dp_den true xs xl d 467 [.ref 114, .int y1] M8) (fun M14 => some (.inl (some (.int (0 : Int32))), M14)))))) else (some (.inl (some (.int y7)), M5)))))))) else (dp_bv (dp_den true xs xl d 467 [.ref 114, .int y1] M2) (fun M15 => some (.inl (some (.int (0 : Int32))), M15))))) := by
  have hF := dp_den_grow (md := true) (xs := xs) (xl := xl) d
  unfold D_X12_takesNumber_0
  refine dp_s1 hF (i := .aload_n 0) rfl (fun _ => rfl) ?_
  refine dp_s1 hF (i := .getfield 726) rfl (fun _ => rfl) ?_
  refine dp_s1w (dp_I M 114 80) (fun (y1 : Int32) => (5, [some (.ref 114), some (.int y1), none, none, none, none], [], M)) hF (i := .istore_n 1) rfl (fun _ => rfl) (fun y1 => ?_)
  refine dp_s1 hF (i := .aload_n 0) rfl (fun _ => rfl) ?_
  refine dp_s1 hF (i := .iload_n 1) rfl (fun _ => rfl) ?_
  refine dp_si (mj := dp_m_X12_digitsFrom) (i := .invokevirtual 745) rfl rfl (Or.inl rfl) rfl (fun _ => rfl) (fun r3 M2 => ?_)
  refine dp_s1 hF (i := .istore_n 2) rfl (fun _ => rfl) ?_
  refine dp_s1 hF (i := .iload_n 2) rfl (fun _ => rfl) ?_
  refine dp_s1 hF (i := .iconst 5) rfl (fun _ => rfl) ?_
  refine dp_s2 hF (i := .if_icmp .le 10) (a := (23, [some (.ref 114), some (.int y1), some (.int r3), none, none, none], [], M2)) (b := (16, [some (.ref 114), some (.int y1), some (.int r3), none, none, none], [], M2)) rfl (fun _ => rfl) ?_ ?_
  · refine dp_s1 hF (i := .aload_n 0) rfl (fun _ => rfl) ?_
    refine dp_s1 hF (i := .iload_n 1) rfl (fun _ => rfl) ?_
    refine dp_s1 hF (i := .iload_n 2) rfl (fun _ => rfl) ?_
    refine dp_s1 hF (i := .iadd) rfl (fun _ => rfl) ?_
    refine dp_s1w (dp_setI M2 114 80 (y1 + r3)) (fun (M4 : dp_M) => (30, [some (.ref 114), some (.int y1), some (.int r3), none, none, none], [], M4)) hF (i := .putfield 726) rfl (fun _ => rfl) (fun M4 => ?_)
    refine dp_s1 hF (i := .sipush 1000) rfl (fun _ => rfl) ?_
    refine dp_s1 hF (i := .aload_n 0) rfl (fun _ => rfl) ?_
    refine dp_s1 hF (i := .iload_n 1) rfl (fun _ => rfl) ?_
    refine dp_s1 hF (i := .iload_n 2) rfl (fun _ => rfl) ?_
    refine dp_si (mj := dp_m_X12_valueOf) (i := .invokevirtual 748) rfl rfl (Or.inl rfl) rfl (fun _ => rfl) (fun r6 M5 => ?_)
    refine dp_s1 hF (i := .imul) rfl (fun _ => rfl) ?_
    refine dp_s1w ((1000 : Int32) * r6) (fun (y7 : Int32) => (41, [some (.ref 114), some (.int y1), some (.int r3), some (.int y7), none, none], [], M5)) hF (i := .istore_n 3) rfl (fun _ => rfl) (fun y7 => ?_)
    refine dp_s1 hF (i := .aload_n 0) rfl (fun _ => rfl) ?_
    refine dp_s1 hF (i := .getfield 726) rfl (fun _ => rfl) ?_
    refine dp_s1 hF (i := .aload_n 0) rfl (fun _ => rfl) ?_
    refine dp_s1 hF (i := .getfield 729) rfl (fun _ => rfl) ?_
    refine dp_s2 hF (i := .if_icmp .eq 17) (a := (66, [some (.ref 114), some (.int y1), some (.int r3), some (.int y7), none, none], [], M5)) (b := (52, [some (.ref 114), some (.int y1), some (.int r3), some (.int y7), none, none], [], M5)) rfl (fun _ => rfl) ?_ ?_
    · refine dp_s1 hF (i := .iload_n 3) rfl (fun _ => rfl) ?_
      exact dp_s0 hF (i := .ireturn) rfl (fun _ => rfl)
    refine dp_s1 hF (i := .aload_n 0) rfl (fun _ => rfl) ?_
    refine dp_s1 hF (i := .getfield 191) rfl (fun _ => rfl) ?_
    refine dp_s1 hF (i := .aload_n 0) rfl (fun _ => rfl) ?_
    refine dp_s1 hF (i := .getfield 726) rfl (fun _ => rfl) ?_
    refine dp_s3 hF (i := .iaload) rfl (fun _ => rfl) ?_
    refine dp_s1 hF (i := .bipush 46) rfl (fun _ => rfl) ?_
    refine dp_s2 hF (i := .if_icmp .eq 5) (a := (68, [some (.ref 114), some (.int y1), some (.int r3), some (.int y7), none, none], [], M5)) (b := (66, [some (.ref 114), some (.int y1), some (.int r3), some (.int y7), none, none], [], M5)) rfl (fun _ => rfl) ?_ ?_
    · refine dp_s1 hF (i := .aload_n 0) rfl (fun _ => rfl) ?_
      refine dp_s1 hF (i := .aload_n 0) rfl (fun _ => rfl) ?_
      refine dp_s1 hF (i := .getfield 726) rfl (fun _ => rfl) ?_
      refine dp_s1 hF (i := .iconst 1) rfl (fun _ => rfl) ?_
      refine dp_s1 hF (i := .iadd) rfl (fun _ => rfl) ?_
      refine dp_si (mj := dp_m_X12_digitsFrom) (i := .invokevirtual 745) rfl rfl (Or.inl rfl) rfl (fun _ => rfl) (fun r9 M8 => ?_)
      refine dp_s1 hF (i := .istore 4) rfl (fun _ => rfl) ?_
      refine dp_s1 hF (i := .iload 4) rfl (fun _ => rfl) ?_
      refine dp_s1 hF (i := .iconst 1) rfl (fun _ => rfl) ?_
      refine dp_s2 hF (i := .if_icmp .lt 9) (a := (92, [some (.ref 114), some (.int y1), some (.int r3), some (.int y7), some (.int r9), none], [], M8)) (b := (86, [some (.ref 114), some (.int y1), some (.int r3), some (.int y7), some (.int r9), none], [], M8)) rfl (fun _ => rfl) ?_ ?_
      · refine dp_s1 hF (i := .aload_n 0) rfl (fun _ => rfl) ?_
        refine dp_s1 hF (i := .iload_n 1) rfl (fun _ => rfl) ?_
        refine dp_sv (mj := dp_m_X12_stops) (i := .invokevirtual 738) rfl rfl rfl rfl (fun _ => rfl) (fun M10 => ?_)
        refine dp_s1 hF (i := .iconst 0) rfl (fun _ => rfl) ?_
        exact dp_s0 hF (i := .ireturn) rfl (fun _ => rfl)
      refine dp_s1 hF (i := .iload 4) rfl (fun _ => rfl) ?_
      refine dp_s1 hF (i := .iconst 3) rfl (fun _ => rfl) ?_
      refine dp_s2 hF (i := .if_icmp .le 10) (a := (99, [some (.ref 114), some (.int y1), some (.int r3), some (.int y7), some (.int r9), none], [], M8)) (b := (92, [some (.ref 114), some (.int y1), some (.int r3), some (.int y7), some (.int r9), none], [], M8)) rfl (fun _ => rfl) ?_ ?_
      · refine dp_s1 hF (i := .aload_n 0) rfl (fun _ => rfl) ?_
        refine dp_s1 hF (i := .aload_n 0) rfl (fun _ => rfl) ?_
        refine dp_s1 hF (i := .getfield 726) rfl (fun _ => rfl) ?_
        refine dp_s1 hF (i := .iconst 1) rfl (fun _ => rfl) ?_
        refine dp_s1 hF (i := .iadd) rfl (fun _ => rfl) ?_
        refine dp_s1 hF (i := .iload 4) rfl (fun _ => rfl) ?_
        refine dp_si (mj := dp_m_X12_valueOf) (i := .invokevirtual 748) rfl rfl (Or.inl rfl) rfl (fun _ => rfl) (fun r12 M11 => ?_)
        refine dp_s1 hF (i := .istore 5) rfl (fun _ => rfl) ?_
        refine dp_s1 hF (i := .aload_n 0) rfl (fun _ => rfl) ?_
        refine dp_s1 hF (i := .dup) rfl (fun _ => rfl) ?_
        refine dp_s1 hF (i := .getfield 726) rfl (fun _ => rfl) ?_
        refine dp_s1 hF (i := .iconst 1) rfl (fun _ => rfl) ?_
        refine dp_s1 hF (i := .iload 4) rfl (fun _ => rfl) ?_
        refine dp_s1 hF (i := .iadd) rfl (fun _ => rfl) ?_
        refine dp_s1 hF (i := .iadd) rfl (fun _ => rfl) ?_
        refine dp_s1w (dp_setI M11 114 80 ((dp_I M11 114 80) + ((1 : Int32) + r9))) (fun (M13 : dp_M) => (126, [some (.ref 114), some (.int y1), some (.int r3), some (.int y7), some (.int r9), some (.int r12)], [], M13)) hF (i := .putfield 726) rfl (fun _ => rfl) (fun M13 => ?_)
        refine dp_s1 hF (i := .iload_n 3) rfl (fun _ => rfl) ?_
        refine dp_s1 hF (i := .iload 4) rfl (fun _ => rfl) ?_
        refine dp_s1 hF (i := .iconst 1) rfl (fun _ => rfl) ?_
        refine dp_s2 hF (i := .if_icmp .ne 11) (a := (133, [some (.ref 114), some (.int y1), some (.int r3), some (.int y7), some (.int r9), some (.int r12)], [.int y7], M13)) (b := (141, [some (.ref 114), some (.int y1), some (.int r3), some (.int y7), some (.int r9), some (.int r12)], [.int y7], M13)) rfl (fun _ => rfl) ?_ ?_
        · refine dp_s1 hF (i := .bipush 100) rfl (fun _ => rfl) ?_
          refine dp_s1 hF (i := .iload 5) rfl (fun _ => rfl) ?_
          refine dp_s1 hF (i := .imul) rfl (fun _ => rfl) ?_
          refine dp_s1 hF (i := .goto 19) rfl (fun _ => rfl) ?_
          refine dp_s1 hF (i := .iadd) rfl (fun _ => rfl) ?_
          exact dp_s0 hF (i := .ireturn) rfl (fun _ => rfl)
        refine dp_s1 hF (i := .iload 4) rfl (fun _ => rfl) ?_
        refine dp_s1 hF (i := .iconst 2) rfl (fun _ => rfl) ?_
        refine dp_s2 hF (i := .if_icmp .ne 11) (a := (147, [some (.ref 114), some (.int y1), some (.int r3), some (.int y7), some (.int r9), some (.int r12)], [.int y7], M13)) (b := (155, [some (.ref 114), some (.int y1), some (.int r3), some (.int y7), some (.int r9), some (.int r12)], [.int y7], M13)) rfl (fun _ => rfl) ?_ ?_
        · refine dp_s1 hF (i := .bipush 10) rfl (fun _ => rfl) ?_
          refine dp_s1 hF (i := .iload 5) rfl (fun _ => rfl) ?_
          refine dp_s1 hF (i := .imul) rfl (fun _ => rfl) ?_
          refine dp_s1 hF (i := .goto 5) rfl (fun _ => rfl) ?_
          refine dp_s1 hF (i := .iadd) rfl (fun _ => rfl) ?_
          exact dp_s0 hF (i := .ireturn) rfl (fun _ => rfl)
        refine dp_s1 hF (i := .iload 5) rfl (fun _ => rfl) ?_
        refine dp_s1 hF (i := .iadd) rfl (fun _ => rfl) ?_
        exact dp_s0 hF (i := .ireturn) rfl (fun _ => rfl)
      refine dp_s1 hF (i := .aload_n 0) rfl (fun _ => rfl) ?_
      refine dp_s1 hF (i := .iload_n 1) rfl (fun _ => rfl) ?_
      refine dp_sv (mj := dp_m_X12_stops) (i := .invokevirtual 738) rfl rfl rfl rfl (fun _ => rfl) (fun M14 => ?_)
      refine dp_s1 hF (i := .iconst 0) rfl (fun _ => rfl) ?_
      exact dp_s0 hF (i := .ireturn) rfl (fun _ => rfl)
    refine dp_s1 hF (i := .iload_n 3) rfl (fun _ => rfl) ?_
    exact dp_s0 hF (i := .ireturn) rfl (fun _ => rfl)
  refine dp_s1 hF (i := .aload_n 0) rfl (fun _ => rfl) ?_
  refine dp_s1 hF (i := .iload_n 1) rfl (fun _ => rfl) ?_
  refine dp_sv (mj := dp_m_X12_stops) (i := .invokevirtual 738) rfl rfl rfl rfl (fun _ => rfl) (fun M15 => ?_)
  refine dp_s1 hF (i := .iconst 0) rfl (fun _ => rfl) ?_
  exact dp_s0 hF (i := .ireturn) rfl (fun _ => rfl)
noncomputable def D_X12_counts_0 (xs : Nat → Int32) (xl d : Nat) (v1 : Int32) (M : dp_M) : Option dp_Res := dp_lim true xs xl (dp_den true xs xl d) dp_m_X12_counts (0, [some (.ref 114), some (.int v1)], [], M)
theorem D_X12_counts_0_den (xs : Nat → Int32) (xl d : Nat) (a0 : Int32) (M : dp_M) : dp_den true xs xl (d + 1) 475 [.ref 114, .int a0] M = D_X12_counts_0 xs xl d a0 M := rfl
set_option maxRecDepth 20000 in
theorem D_X12_counts_0_eq (xs : Nat → Int32) (xl d : Nat) (v1 : Int32) (M : dp_M) : D_X12_counts_0 xs xl d v1 M = if (dp_I M 114 91) = (60 : Int32) then (dp_bv (dp_den true xs xl d 467 [.ref 114, .int v1] M) (fun M1 => some (.inl (some (.int (0 : Int32))), M1))) else (dp_w (dp_setI M 114 91 ((dp_I M 114 91) + (1 : Int32))) (fun M2 => some (.inl (some (.int (1 : Int32))), M2))) := by
  have hF := dp_den_grow (md := true) (xs := xs) (xl := xl) d
  unfold D_X12_counts_0
  refine dp_s1 hF (i := .aload_n 0) rfl (fun _ => rfl) ?_
  refine dp_s1 hF (i := .getfield 751) rfl (fun _ => rfl) ?_
  refine dp_s1 hF (i := .bipush 60) rfl (fun _ => rfl) ?_
  refine dp_s2 hF (i := .if_icmp .ne 10) (a := (9, [some (.ref 114), some (.int v1)], [], M)) (b := (16, [some (.ref 114), some (.int v1)], [], M)) rfl (fun _ => rfl) ?_ ?_
  · refine dp_s1 hF (i := .aload_n 0) rfl (fun _ => rfl) ?_
    refine dp_s1 hF (i := .iload_n 1) rfl (fun _ => rfl) ?_
    refine dp_sv (mj := dp_m_X12_stops) (i := .invokevirtual 738) rfl rfl rfl rfl (fun _ => rfl) (fun M1 => ?_)
    refine dp_s1 hF (i := .iconst 0) rfl (fun _ => rfl) ?_
    exact dp_s0 hF (i := .ireturn) rfl (fun _ => rfl)
  refine dp_s1 hF (i := .aload_n 0) rfl (fun _ => rfl) ?_
  refine dp_s1 hF (i := .dup) rfl (fun _ => rfl) ?_
  refine dp_s1 hF (i := .getfield 751) rfl (fun _ => rfl) ?_
  refine dp_s1 hF (i := .iconst 1) rfl (fun _ => rfl) ?_
  refine dp_s1 hF (i := .iadd) rfl (fun _ => rfl) ?_
  refine dp_s1w (dp_setI M 114 91 ((dp_I M 114 91) + (1 : Int32))) (fun (M2 : dp_M) => (26, [some (.ref 114), some (.int v1)], [], M2)) hF (i := .putfield 751) rfl (fun _ => rfl) (fun M2 => ?_)
  refine dp_s1 hF (i := .iconst 1) rfl (fun _ => rfl) ?_
  exact dp_s0 hF (i := .ireturn) rfl (fun _ => rfl)
noncomputable def D_X12_makes_0 (xs : Nat → Int32) (xl d : Nat) (v1 : Int32) (v2 : Int32) (v3 : Int32) (v4 : Int32) (v5 : Int32) (M : dp_M) : Option dp_Res := dp_lim true xs xl (dp_den true xs xl d) dp_m_X12_makes (0, [some (.ref 114), some (.int v1), some (.int v2), some (.int v3), some (.int v4), some (.int v5), none], [], M)
theorem D_X12_makes_0_den (xs : Nat → Int32) (xl d : Nat) (a0 : Int32) (a1 : Int32) (a2 : Int32) (a3 : Int32) (a4 : Int32) (M : dp_M) : dp_den true xs xl (d + 1) 476 [.ref 114, .int a0, .int a1, .int a2, .int a3, .int a4] M = D_X12_makes_0 xs xl d a0 a1 a2 a3 a4 M := rfl
set_option maxRecDepth 20000 in
theorem D_X12_makes_0_eq (xs : Nat → Int32) (xl d : Nat) (v1 : Int32) (v2 : Int32) (v3 : Int32) (v4 : Int32) (v5 : Int32) (M : dp_M) : D_X12_makes_0 xs xl d v1 v2 v3 v4 v5 M = dp_w (dp_I M 114 90) (fun y1 => dp_w (dp_setI M 114 90 ((dp_I M 114 90) + (1 : Int32))) (fun M2 => if y1 < 0 ∨ 120 ≤ Int32.toNatClampNeg y1 then none else dp_w (dp_setI M2 174 (Int32.toNatClampNeg y1) v1) (fun M3 => if y1 < 0 ∨ 120 ≤ Int32.toNatClampNeg y1 then none else dp_w (dp_setI M3 175 (Int32.toNatClampNeg y1) v2) (fun M4 => if y1 < 0 ∨ 120 ≤ Int32.toNatClampNeg y1 then none else dp_w (dp_setI M4 176 (Int32.toNatClampNeg y1) v3) (fun M5 => if y1 < 0 ∨ 120 ≤ Int32.toNatClampNeg y1 then none else dp_w (dp_setI M5 177 (Int32.toNatClampNeg y1) v4) (fun M6 => if y1 < 0 ∨ 120 ≤ Int32.toNatClampNeg y1 then none else dp_w (dp_setI M6 178 (Int32.toNatClampNeg y1) v5) (fun M7 => if y1 < 0 ∨ 120 ≤ Int32.toNatClampNeg y1 then none else dp_w (dp_setI M7 179 (Int32.toNatClampNeg y1) (0 : Int32)) (fun M8 => some (.inl (some (.int y1)), M8))))))))) := by
  have hF := dp_den_grow (md := true) (xs := xs) (xl := xl) d
  unfold D_X12_makes_0
  refine dp_s1 hF (i := .aload_n 0) rfl (fun _ => rfl) ?_
  refine dp_s1 hF (i := .getfield 754) rfl (fun _ => rfl) ?_
  refine dp_s1w (dp_I M 114 90) (fun (y1 : Int32) => (6, [some (.ref 114), some (.int v1), some (.int v2), some (.int v3), some (.int v4), some (.int v5), some (.int y1)], [], M)) hF (i := .istore 6) rfl (fun _ => rfl) (fun y1 => ?_)
  refine dp_s1 hF (i := .aload_n 0) rfl (fun _ => rfl) ?_
  refine dp_s1 hF (i := .dup) rfl (fun _ => rfl) ?_
  refine dp_s1 hF (i := .getfield 754) rfl (fun _ => rfl) ?_
  refine dp_s1 hF (i := .iconst 1) rfl (fun _ => rfl) ?_
  refine dp_s1 hF (i := .iadd) rfl (fun _ => rfl) ?_
  refine dp_s1w (dp_setI M 114 90 ((dp_I M 114 90) + (1 : Int32))) (fun (M2 : dp_M) => (16, [some (.ref 114), some (.int v1), some (.int v2), some (.int v3), some (.int v4), some (.int v5), some (.int y1)], [], M2)) hF (i := .putfield 754) rfl (fun _ => rfl) (fun M2 => ?_)
  refine dp_s1 hF (i := .aload_n 0) rfl (fun _ => rfl) ?_
  refine dp_s1 hF (i := .getfield 194) rfl (fun _ => rfl) ?_
  refine dp_s1 hF (i := .iload 6) rfl (fun _ => rfl) ?_
  refine dp_s1 hF (i := .iload_n 1) rfl (fun _ => rfl) ?_
  refine dp_s3w (dp_setI M2 174 (Int32.toNatClampNeg y1) v1) (fun (M3 : dp_M) => (24, [some (.ref 114), some (.int v1), some (.int v2), some (.int v3), some (.int v4), some (.int v5), some (.int y1)], [], M3)) hF (i := .iastore) rfl (fun _ => rfl) (fun M3 => ?_)
  refine dp_s1 hF (i := .aload_n 0) rfl (fun _ => rfl) ?_
  refine dp_s1 hF (i := .getfield 197) rfl (fun _ => rfl) ?_
  refine dp_s1 hF (i := .iload 6) rfl (fun _ => rfl) ?_
  refine dp_s1 hF (i := .iload_n 2) rfl (fun _ => rfl) ?_
  refine dp_s3w (dp_setI M3 175 (Int32.toNatClampNeg y1) v2) (fun (M4 : dp_M) => (32, [some (.ref 114), some (.int v1), some (.int v2), some (.int v3), some (.int v4), some (.int v5), some (.int y1)], [], M4)) hF (i := .iastore) rfl (fun _ => rfl) (fun M4 => ?_)
  refine dp_s1 hF (i := .aload_n 0) rfl (fun _ => rfl) ?_
  refine dp_s1 hF (i := .getfield 200) rfl (fun _ => rfl) ?_
  refine dp_s1 hF (i := .iload 6) rfl (fun _ => rfl) ?_
  refine dp_s1 hF (i := .iload_n 3) rfl (fun _ => rfl) ?_
  refine dp_s3w (dp_setI M4 176 (Int32.toNatClampNeg y1) v3) (fun (M5 : dp_M) => (40, [some (.ref 114), some (.int v1), some (.int v2), some (.int v3), some (.int v4), some (.int v5), some (.int y1)], [], M5)) hF (i := .iastore) rfl (fun _ => rfl) (fun M5 => ?_)
  refine dp_s1 hF (i := .aload_n 0) rfl (fun _ => rfl) ?_
  refine dp_s1 hF (i := .getfield 203) rfl (fun _ => rfl) ?_
  refine dp_s1 hF (i := .iload 6) rfl (fun _ => rfl) ?_
  refine dp_s1 hF (i := .iload 4) rfl (fun _ => rfl) ?_
  refine dp_s3w (dp_setI M5 177 (Int32.toNatClampNeg y1) v4) (fun (M6 : dp_M) => (49, [some (.ref 114), some (.int v1), some (.int v2), some (.int v3), some (.int v4), some (.int v5), some (.int y1)], [], M6)) hF (i := .iastore) rfl (fun _ => rfl) (fun M6 => ?_)
  refine dp_s1 hF (i := .aload_n 0) rfl (fun _ => rfl) ?_
  refine dp_s1 hF (i := .getfield 206) rfl (fun _ => rfl) ?_
  refine dp_s1 hF (i := .iload 6) rfl (fun _ => rfl) ?_
  refine dp_s1 hF (i := .iload 5) rfl (fun _ => rfl) ?_
  refine dp_s3w (dp_setI M6 178 (Int32.toNatClampNeg y1) v5) (fun (M7 : dp_M) => (58, [some (.ref 114), some (.int v1), some (.int v2), some (.int v3), some (.int v4), some (.int v5), some (.int y1)], [], M7)) hF (i := .iastore) rfl (fun _ => rfl) (fun M7 => ?_)
  refine dp_s1 hF (i := .aload_n 0) rfl (fun _ => rfl) ?_
  refine dp_s1 hF (i := .getfield 209) rfl (fun _ => rfl) ?_
  refine dp_s1 hF (i := .iload 6) rfl (fun _ => rfl) ?_
  refine dp_s1 hF (i := .iconst 0) rfl (fun _ => rfl) ?_
  refine dp_s3w (dp_setI M7 179 (Int32.toNatClampNeg y1) (0 : Int32)) (fun (M8 : dp_M) => (66, [some (.ref 114), some (.int v1), some (.int v2), some (.int v3), some (.int v4), some (.int v5), some (.int y1)], [], M8)) hF (i := .iastore) rfl (fun _ => rfl) (fun M8 => ?_)
  refine dp_s1 hF (i := .iload 6) rfl (fun _ => rfl) ?_
  exact dp_s0 hF (i := .ireturn) rfl (fun _ => rfl)
noncomputable def D_X12_takesShare_0 (xs : Nat → Int32) (xl d : Nat)  (M : dp_M) : Option dp_Res := dp_lim true xs xl (dp_den true xs xl d) dp_m_X12_takesShare (0, [some (.ref 114), none, none], [], M)
noncomputable def D_X12_takesShare_64 (xs : Nat → Int32) (xl d : Nat) (v1 : Int32) (vs0 : Int32) (M : dp_M) : Option dp_Res := dp_lim true xs xl (dp_den true xs xl d) dp_m_X12_takesShare (64, [some (.ref 114), some (.int v1), none], [.int vs0], M)
theorem D_X12_takesShare_0_den (xs : Nat → Int32) (xl d : Nat)  (M : dp_M) : dp_den true xs xl (d + 1) 477 [.ref 114] M = D_X12_takesShare_0 xs xl d  M := rfl
set_option maxRecDepth 20000 in
theorem D_X12_takesShare_0_eq (xs : Nat → Int32) (xl d : Nat)  (M : dp_M) : D_X12_takesShare_0 xs xl d  M = dp_bi (dp_den true xs xl d 474 [.ref 114] M) (fun r2 M1 => if (dp_I M1 114 81) < 0 then (dp_bi (dp_den true xs xl d 466 [.ref 114] M1) (fun r4 M3 => if r4 = (37 : Int32) then (dp_w (dp_setI M3 114 80 ((dp_I M3 114 80) + (1 : Int32))) (fun M5 => dp_bi (dp_den true xs xl d 476 [.ref 114, .int (1 : Int32), .int r2, .int (-1 : Int32), .int (-1 : Int32), .int (-1 : Int32)] M5) (fun r7 M6 => some (.inl (some (.int r7)), M6)))) else (dp_bv (dp_den true xs xl d 468 [.ref 114, .int (47 : Int32)] M3) (fun M8 => if (dp_I M8 114 81) < 0 then (dp_bi (dp_den true xs xl d 466 [.ref 114] M8) (fun r10 M9 => D_X12_takesShare_64 xs xl d r2 r10 M9)) else (D_X12_takesShare_64 xs xl d r2 (-1 : Int32) M8))))) else (some (.inl (some (.int (-1 : Int32))), M1))) := by
  have hF := dp_den_grow (md := true) (xs := xs) (xl := xl) d
  unfold D_X12_takesShare_0
  refine dp_s1 hF (i := .aload_n 0) rfl (fun _ => rfl) ?_
  refine dp_si (mj := dp_m_X12_takesNumber) (i := .invokevirtual 757) rfl rfl (Or.inl rfl) rfl (fun _ => rfl) (fun r2 M1 => ?_)
  refine dp_s1 hF (i := .istore_n 1) rfl (fun _ => rfl) ?_
  refine dp_s1 hF (i := .aload_n 0) rfl (fun _ => rfl) ?_
  refine dp_s1 hF (i := .getfield 732) rfl (fun _ => rfl) ?_
  refine dp_s2 hF (i := .ifCond .lt 5) (a := (14, [some (.ref 114), some (.int r2), none], [], M1)) (b := (12, [some (.ref 114), some (.int r2), none], [], M1)) rfl (fun _ => rfl) ?_ ?_
  · refine dp_s1 hF (i := .aload_n 0) rfl (fun _ => rfl) ?_
    refine dp_si (mj := dp_m_X12_nextSign) (i := .invokevirtual 735) rfl rfl (Or.inl rfl) rfl (fun _ => rfl) (fun r4 M3 => ?_)
    refine dp_s1 hF (i := .bipush 37) rfl (fun _ => rfl) ?_
    refine dp_s2 hF (i := .if_icmp .ne 23) (a := (23, [some (.ref 114), some (.int r2), none], [], M3)) (b := (43, [some (.ref 114), some (.int r2), none], [], M3)) rfl (fun _ => rfl) ?_ ?_
    · refine dp_s1 hF (i := .aload_n 0) rfl (fun _ => rfl) ?_
      refine dp_s1 hF (i := .dup) rfl (fun _ => rfl) ?_
      refine dp_s1 hF (i := .getfield 726) rfl (fun _ => rfl) ?_
      refine dp_s1 hF (i := .iconst 1) rfl (fun _ => rfl) ?_
      refine dp_s1 hF (i := .iadd) rfl (fun _ => rfl) ?_
      refine dp_s1w (dp_setI M3 114 80 ((dp_I M3 114 80) + (1 : Int32))) (fun (M5 : dp_M) => (33, [some (.ref 114), some (.int r2), none], [], M5)) hF (i := .putfield 726) rfl (fun _ => rfl) (fun M5 => ?_)
      refine dp_s1 hF (i := .aload_n 0) rfl (fun _ => rfl) ?_
      refine dp_s1 hF (i := .iconst 1) rfl (fun _ => rfl) ?_
      refine dp_s1 hF (i := .iload_n 1) rfl (fun _ => rfl) ?_
      refine dp_s1 hF (i := .iconst (-1)) rfl (fun _ => rfl) ?_
      refine dp_s1 hF (i := .iconst (-1)) rfl (fun _ => rfl) ?_
      refine dp_s1 hF (i := .iconst (-1)) rfl (fun _ => rfl) ?_
      refine dp_si (mj := dp_m_X12_makes) (i := .invokevirtual 760) rfl rfl (Or.inl rfl) rfl (fun _ => rfl) (fun r7 M6 => ?_)
      exact dp_s0 hF (i := .ireturn) rfl (fun _ => rfl)
    refine dp_s1 hF (i := .aload_n 0) rfl (fun _ => rfl) ?_
    refine dp_s1 hF (i := .bipush 47) rfl (fun _ => rfl) ?_
    refine dp_sv (mj := dp_m_X12_takes) (i := .invokevirtual 764) rfl rfl rfl rfl (fun _ => rfl) (fun M8 => ?_)
    refine dp_s1 hF (i := .aload_n 0) rfl (fun _ => rfl) ?_
    refine dp_s1 hF (i := .getfield 732) rfl (fun _ => rfl) ?_
    refine dp_s2 hF (i := .ifCond .lt 7) (a := (60, [some (.ref 114), some (.int r2), none], [], M8)) (b := (56, [some (.ref 114), some (.int r2), none], [], M8)) rfl (fun _ => rfl) ?_ ?_
    · refine dp_s1 hF (i := .aload_n 0) rfl (fun _ => rfl) ?_
      refine dp_si (mj := dp_m_X12_nextSign) (i := .invokevirtual 735) rfl rfl (Or.inl rfl) rfl (fun _ => rfl) (fun r10 M9 => ?_)
      exact rfl
    refine dp_s1 hF (i := .iconst (-1)) rfl (fun _ => rfl) ?_
    refine dp_s1 hF (i := .goto 7) rfl (fun _ => rfl) ?_
    exact rfl
  refine dp_s1 hF (i := .iconst (-1)) rfl (fun _ => rfl) ?_
  exact dp_s0 hF (i := .ireturn) rfl (fun _ => rfl)
set_option maxRecDepth 20000 in
theorem D_X12_takesShare_64_eq (xs : Nat → Int32) (xl d : Nat) (v1 : Int32) (vs0 : Int32) (M : dp_M) : D_X12_takesShare_64 xs xl d v1 vs0 M = if vs0 < (65 : Int32) then (dp_bv (dp_den true xs xl d 467 [.ref 114, .int (dp_I M 114 80)] M) (fun M1 => some (.inl (some (.int (-1 : Int32))), M1))) else (if vs0 ≤ (72 : Int32) then (dp_w (dp_setI M 114 80 ((dp_I M 114 80) + (1 : Int32))) (fun M2 => dp_bi (dp_den true xs xl d 476 [.ref 114, .int (2 : Int32), .int v1, .int (vs0 - (65 : Int32)), .int (-1 : Int32), .int (-1 : Int32)] M2) (fun r4 M3 => some (.inl (some (.int r4)), M3)))) else (dp_bv (dp_den true xs xl d 467 [.ref 114, .int (dp_I M 114 80)] M) (fun M5 => some (.inl (some (.int (-1 : Int32))), M5)))) := by
  have hF := dp_den_grow (md := true) (xs := xs) (xl := xl) d
  unfold D_X12_takesShare_64
  refine dp_s1 hF (i := .istore_n 2) rfl (fun _ => rfl) ?_
  refine dp_s1 hF (i := .iload_n 2) rfl (fun _ => rfl) ?_
  refine dp_s1 hF (i := .bipush 65) rfl (fun _ => rfl) ?_
  refine dp_s2 hF (i := .if_icmp .lt 9) (a := (77, [some (.ref 114), some (.int v1), some (.int vs0)], [], M)) (b := (71, [some (.ref 114), some (.int v1), some (.int vs0)], [], M)) rfl (fun _ => rfl) ?_ ?_
  · refine dp_s1 hF (i := .aload_n 0) rfl (fun _ => rfl) ?_
    refine dp_s1 hF (i := .aload_n 0) rfl (fun _ => rfl) ?_
    refine dp_s1 hF (i := .getfield 726) rfl (fun _ => rfl) ?_
    refine dp_sv (mj := dp_m_X12_stops) (i := .invokevirtual 738) rfl rfl rfl rfl (fun _ => rfl) (fun M1 => ?_)
    refine dp_s1 hF (i := .iconst (-1)) rfl (fun _ => rfl) ?_
    exact dp_s0 hF (i := .ireturn) rfl (fun _ => rfl)
  refine dp_s1 hF (i := .iload_n 2) rfl (fun _ => rfl) ?_
  refine dp_s1 hF (i := .bipush 72) rfl (fun _ => rfl) ?_
  refine dp_s2 hF (i := .if_icmp .le 13) (a := (87, [some (.ref 114), some (.int v1), some (.int vs0)], [], M)) (b := (77, [some (.ref 114), some (.int v1), some (.int vs0)], [], M)) rfl (fun _ => rfl) ?_ ?_
  · refine dp_s1 hF (i := .aload_n 0) rfl (fun _ => rfl) ?_
    refine dp_s1 hF (i := .dup) rfl (fun _ => rfl) ?_
    refine dp_s1 hF (i := .getfield 726) rfl (fun _ => rfl) ?_
    refine dp_s1 hF (i := .iconst 1) rfl (fun _ => rfl) ?_
    refine dp_s1 hF (i := .iadd) rfl (fun _ => rfl) ?_
    refine dp_s1w (dp_setI M 114 80 ((dp_I M 114 80) + (1 : Int32))) (fun (M2 : dp_M) => (97, [some (.ref 114), some (.int v1), some (.int vs0)], [], M2)) hF (i := .putfield 726) rfl (fun _ => rfl) (fun M2 => ?_)
    refine dp_s1 hF (i := .aload_n 0) rfl (fun _ => rfl) ?_
    refine dp_s1 hF (i := .iconst 2) rfl (fun _ => rfl) ?_
    refine dp_s1 hF (i := .iload_n 1) rfl (fun _ => rfl) ?_
    refine dp_s1 hF (i := .iload_n 2) rfl (fun _ => rfl) ?_
    refine dp_s1 hF (i := .bipush 65) rfl (fun _ => rfl) ?_
    refine dp_s1 hF (i := .isub) rfl (fun _ => rfl) ?_
    refine dp_s1 hF (i := .iconst (-1)) rfl (fun _ => rfl) ?_
    refine dp_s1 hF (i := .iconst (-1)) rfl (fun _ => rfl) ?_
    refine dp_si (mj := dp_m_X12_makes) (i := .invokevirtual 760) rfl rfl (Or.inl rfl) rfl (fun _ => rfl) (fun r4 M3 => ?_)
    exact dp_s0 hF (i := .ireturn) rfl (fun _ => rfl)
  refine dp_s1 hF (i := .aload_n 0) rfl (fun _ => rfl) ?_
  refine dp_s1 hF (i := .aload_n 0) rfl (fun _ => rfl) ?_
  refine dp_s1 hF (i := .getfield 726) rfl (fun _ => rfl) ?_
  refine dp_sv (mj := dp_m_X12_stops) (i := .invokevirtual 738) rfl rfl rfl rfl (fun _ => rfl) (fun M5 => ?_)
  refine dp_s1 hF (i := .iconst (-1)) rfl (fun _ => rfl) ?_
  exact dp_s0 hF (i := .ireturn) rfl (fun _ => rfl)
noncomputable def D_X12_takesStep_0 (xs : Nat → Int32) (xl d : Nat) (v1 : Int32) (M : dp_M) : Option dp_Res := dp_lim true xs xl (dp_den true xs xl d) dp_m_X12_takesStep (0, [some (.ref 114), some (.int v1), none, none, none, none], [], M)
noncomputable def D_X12_takesStep_19 (xs : Nat → Int32) (xl d : Nat) (v1 : Int32) (vs0 : Int32) (M : dp_M) : Option dp_Res := dp_lim true xs xl (dp_den true xs xl d) dp_m_X12_takesStep (19, [some (.ref 114), some (.int v1), none, none, none, none], [.int vs0], M)
noncomputable def D_X12_takesStep_98 (xs : Nat → Int32) (xl d : Nat) (v1 : Int32) (v2 : Int32) (v3 : Int32) (v4 : Int32) (v5 : Int32) (M : dp_M) : Option dp_Res := dp_lim true xs xl (dp_den true xs xl d) dp_m_X12_takesStep (98, [some (.ref 114), some (.int v1), some (.int v2), some (.int v3), some (.int v4), some (.int v5)], [], M)
theorem D_X12_takesStep_0_den (xs : Nat → Int32) (xl d : Nat) (a0 : Int32) (M : dp_M) : dp_den true xs xl (d + 1) 478 [.ref 114, .int a0] M = D_X12_takesStep_0 xs xl d a0 M := rfl
set_option maxRecDepth 20000 in
theorem D_X12_takesStep_0_eq (xs : Nat → Int32) (xl d : Nat) (v1 : Int32) (M : dp_M) : D_X12_takesStep_0 xs xl d v1 M = dp_bi (dp_den true xs xl d 466 [.ref 114] M) (fun r2 M1 => if r2 = (-1 : Int32) then (D_X12_takesStep_19 xs xl d v1 (dp_I M1 114 79) M1) else (D_X12_takesStep_19 xs xl d v1 (dp_I M1 114 80) M1)) := by
  have hF := dp_den_grow (md := true) (xs := xs) (xl := xl) d
  unfold D_X12_takesStep_0
  refine dp_s1 hF (i := .aload_n 0) rfl (fun _ => rfl) ?_
  refine dp_si (mj := dp_m_X12_nextSign) (i := .invokevirtual 735) rfl rfl (Or.inl rfl) rfl (fun _ => rfl) (fun r2 M1 => ?_)
  refine dp_s1 hF (i := .iconst (-1)) rfl (fun _ => rfl) ?_
  refine dp_s2 hF (i := .if_icmp .ne 10) (a := (8, [some (.ref 114), some (.int v1), none, none, none, none], [], M1)) (b := (15, [some (.ref 114), some (.int v1), none, none, none, none], [], M1)) rfl (fun _ => rfl) ?_ ?_
  · refine dp_s1 hF (i := .aload_n 0) rfl (fun _ => rfl) ?_
    refine dp_s1 hF (i := .getfield 729) rfl (fun _ => rfl) ?_
    refine dp_s1 hF (i := .goto 7) rfl (fun _ => rfl) ?_
    exact rfl
  refine dp_s1 hF (i := .aload_n 0) rfl (fun _ => rfl) ?_
  refine dp_s1 hF (i := .getfield 726) rfl (fun _ => rfl) ?_
  exact rfl
set_option maxRecDepth 20000 in
theorem D_X12_takesStep_19_eq (xs : Nat → Int32) (xl d : Nat) (v1 : Int32) (vs0 : Int32) (M : dp_M) : D_X12_takesStep_19 xs xl d v1 vs0 M = dp_bi (dp_den true xs xl d 473 [.ref 114] M) (fun r2 M1 => dp_bv (dp_den true xs xl d 468 [.ref 114, .int (61 : Int32)] M1) (fun M3 => dp_bi (dp_den true xs xl d 473 [.ref 114] M3) (fun r5 M4 => if (dp_I M4 114 81) < 0 then (if v1 < 0 ∨ 120 ≤ Int32.toNatClampNeg v1 then none else (dp_w (dp_I M4 179 (Int32.toNatClampNeg v1)) (fun y6 => if y6 = (6 : Int32) then (dp_bv (dp_den true xs xl d 467 [.ref 114, .int vs0] M4) (fun M7 => some (.inl none, M7))) else (if y6 ≤ 0 then (D_X12_takesStep_98 xs xl d v1 vs0 r2 r5 y6 M4) else (if y6 ≤ 0 then (if (((6 : Int32) * v1) + (0 : Int32)) < 0 ∨ 720 ≤ Int32.toNatClampNeg (((6 : Int32) * v1) + (0 : Int32)) then none else (if (dp_I M4 180 (Int32.toNatClampNeg (((6 : Int32) * v1) + (0 : Int32)))) < r2 then (D_X12_takesStep_98 xs xl d v1 vs0 r2 r5 y6 M4) else (dp_bv (dp_den true xs xl d 467 [.ref 114, .int vs0] M4) (fun M8 => some (.inl none, M8))))) else (if (((6 : Int32) * v1) + (y6 - (1 : Int32))) < 0 ∨ 720 ≤ Int32.toNatClampNeg (((6 : Int32) * v1) + (y6 - (1 : Int32))) then none else (if (dp_I M4 180 (Int32.toNatClampNeg (((6 : Int32) * v1) + (y6 - (1 : Int32))))) < r2 then (D_X12_takesStep_98 xs xl d v1 vs0 r2 r5 y6 M4) else (dp_bv (dp_den true xs xl d 467 [.ref 114, .int vs0] M4) (fun M9 => some (.inl none, M9)))))))))) else (some (.inl none, M4))))) := by
  have hF := dp_den_grow (md := true) (xs := xs) (xl := xl) d
  unfold D_X12_takesStep_19
  refine dp_s1 hF (i := .istore_n 2) rfl (fun _ => rfl) ?_
  refine dp_s1 hF (i := .aload_n 0) rfl (fun _ => rfl) ?_
  refine dp_si (mj := dp_m_X12_takesWhole) (i := .invokevirtual 767) rfl rfl (Or.inl rfl) rfl (fun _ => rfl) (fun r2 M1 => ?_)
  refine dp_s1 hF (i := .istore_n 3) rfl (fun _ => rfl) ?_
  refine dp_s1 hF (i := .aload_n 0) rfl (fun _ => rfl) ?_
  refine dp_s1 hF (i := .bipush 61) rfl (fun _ => rfl) ?_
  refine dp_sv (mj := dp_m_X12_takes) (i := .invokevirtual 764) rfl rfl rfl rfl (fun _ => rfl) (fun M3 => ?_)
  refine dp_s1 hF (i := .aload_n 0) rfl (fun _ => rfl) ?_
  refine dp_si (mj := dp_m_X12_takesWhole) (i := .invokevirtual 767) rfl rfl (Or.inl rfl) rfl (fun _ => rfl) (fun r5 M4 => ?_)
  refine dp_s1 hF (i := .istore 4) rfl (fun _ => rfl) ?_
  refine dp_s1 hF (i := .aload_n 0) rfl (fun _ => rfl) ?_
  refine dp_s1 hF (i := .getfield 732) rfl (fun _ => rfl) ?_
  refine dp_s2 hF (i := .ifCond .lt 4) (a := (45, [some (.ref 114), some (.int v1), some (.int vs0), some (.int r2), some (.int r5), none], [], M4)) (b := (44, [some (.ref 114), some (.int v1), some (.int vs0), some (.int r2), some (.int r5), none], [], M4)) rfl (fun _ => rfl) ?_ ?_
  · refine dp_s1 hF (i := .aload_n 0) rfl (fun _ => rfl) ?_
    refine dp_s1 hF (i := .getfield 209) rfl (fun _ => rfl) ?_
    refine dp_s1 hF (i := .iload_n 1) rfl (fun _ => rfl) ?_
    refine dp_s3 hF (i := .iaload) rfl (fun _ => rfl) ?_
    refine dp_s1w (dp_I M4 179 (Int32.toNatClampNeg v1)) (fun (y6 : Int32) => (53, [some (.ref 114), some (.int v1), some (.int vs0), some (.int r2), some (.int r5), some (.int y6)], [], M4)) hF (i := .istore 5) rfl (fun _ => rfl) (fun y6 => ?_)
    refine dp_s1 hF (i := .iload 5) rfl (fun _ => rfl) ?_
    refine dp_s1 hF (i := .bipush 6) rfl (fun _ => rfl) ?_
    refine dp_s2 hF (i := .if_icmp .eq 35) (a := (92, [some (.ref 114), some (.int v1), some (.int vs0), some (.int r2), some (.int r5), some (.int y6)], [], M4)) (b := (60, [some (.ref 114), some (.int v1), some (.int vs0), some (.int r2), some (.int r5), some (.int y6)], [], M4)) rfl (fun _ => rfl) ?_ ?_
    · refine dp_s1 hF (i := .aload_n 0) rfl (fun _ => rfl) ?_
      refine dp_s1 hF (i := .iload_n 2) rfl (fun _ => rfl) ?_
      refine dp_sv (mj := dp_m_X12_stops) (i := .invokevirtual 738) rfl rfl rfl rfl (fun _ => rfl) (fun M7 => ?_)
      exact dp_s0 hF (i := .return_) rfl (fun _ => rfl)
    refine dp_s1 hF (i := .iload 5) rfl (fun _ => rfl) ?_
    refine dp_s2 hF (i := .ifCond .le 36) (a := (98, [some (.ref 114), some (.int v1), some (.int vs0), some (.int r2), some (.int r5), some (.int y6)], [], M4)) (b := (65, [some (.ref 114), some (.int v1), some (.int vs0), some (.int r2), some (.int r5), some (.int y6)], [], M4)) rfl (fun _ => rfl) ?_ ?_
    · exact rfl
    refine dp_s1 hF (i := .iload_n 3) rfl (fun _ => rfl) ?_
    refine dp_s1 hF (i := .aload_n 0) rfl (fun _ => rfl) ?_
    refine dp_s1 hF (i := .getfield 212) rfl (fun _ => rfl) ?_
    refine dp_s1 hF (i := .bipush 6) rfl (fun _ => rfl) ?_
    refine dp_s1 hF (i := .iload_n 1) rfl (fun _ => rfl) ?_
    refine dp_s1 hF (i := .imul) rfl (fun _ => rfl) ?_
    refine dp_s1 hF (i := .iload 5) rfl (fun _ => rfl) ?_
    refine dp_s2 hF (i := .ifCond .le 10) (a := (86, [some (.ref 114), some (.int v1), some (.int vs0), some (.int r2), some (.int r5), some (.int y6)], [.int ((6 : Int32) * v1), .ref 180, .int r2], M4)) (b := (79, [some (.ref 114), some (.int v1), some (.int vs0), some (.int r2), some (.int r5), some (.int y6)], [.int ((6 : Int32) * v1), .ref 180, .int r2], M4)) rfl (fun _ => rfl) ?_ ?_
    · refine dp_s1 hF (i := .iconst 0) rfl (fun _ => rfl) ?_
      refine dp_s1 hF (i := .iadd) rfl (fun _ => rfl) ?_
      refine dp_s3 hF (i := .iaload) rfl (fun _ => rfl) ?_
      refine dp_s2 hF (i := .if_icmp .gt 9) (a := (98, [some (.ref 114), some (.int v1), some (.int vs0), some (.int r2), some (.int r5), some (.int y6)], [], M4)) (b := (92, [some (.ref 114), some (.int v1), some (.int vs0), some (.int r2), some (.int r5), some (.int y6)], [], M4)) rfl (fun _ => rfl) ?_ ?_
      · exact rfl
      refine dp_s1 hF (i := .aload_n 0) rfl (fun _ => rfl) ?_
      refine dp_s1 hF (i := .iload_n 2) rfl (fun _ => rfl) ?_
      refine dp_sv (mj := dp_m_X12_stops) (i := .invokevirtual 738) rfl rfl rfl rfl (fun _ => rfl) (fun M8 => ?_)
      exact dp_s0 hF (i := .return_) rfl (fun _ => rfl)
    refine dp_s1 hF (i := .iload 5) rfl (fun _ => rfl) ?_
    refine dp_s1 hF (i := .iconst 1) rfl (fun _ => rfl) ?_
    refine dp_s1 hF (i := .isub) rfl (fun _ => rfl) ?_
    refine dp_s1 hF (i := .goto 4) rfl (fun _ => rfl) ?_
    refine dp_s1 hF (i := .iadd) rfl (fun _ => rfl) ?_
    refine dp_s3 hF (i := .iaload) rfl (fun _ => rfl) ?_
    refine dp_s2 hF (i := .if_icmp .gt 9) (a := (98, [some (.ref 114), some (.int v1), some (.int vs0), some (.int r2), some (.int r5), some (.int y6)], [], M4)) (b := (92, [some (.ref 114), some (.int v1), some (.int vs0), some (.int r2), some (.int r5), some (.int y6)], [], M4)) rfl (fun _ => rfl) ?_ ?_
    · exact rfl
    refine dp_s1 hF (i := .aload_n 0) rfl (fun _ => rfl) ?_
    refine dp_s1 hF (i := .iload_n 2) rfl (fun _ => rfl) ?_
    refine dp_sv (mj := dp_m_X12_stops) (i := .invokevirtual 738) rfl rfl rfl rfl (fun _ => rfl) (fun M9 => ?_)
    exact dp_s0 hF (i := .return_) rfl (fun _ => rfl)
  exact dp_s0 hF (i := .return_) rfl (fun _ => rfl)
set_option maxRecDepth 20000 in
theorem D_X12_takesStep_98_eq (xs : Nat → Int32) (xl d : Nat) (v1 : Int32) (v2 : Int32) (v3 : Int32) (v4 : Int32) (v5 : Int32) (M : dp_M) : D_X12_takesStep_98 xs xl d v1 v2 v3 v4 v5 M = if (((6 : Int32) * v1) + v5) < 0 ∨ 720 ≤ Int32.toNatClampNeg (((6 : Int32) * v1) + v5) then none else dp_w (dp_setI M 180 (Int32.toNatClampNeg (((6 : Int32) * v1) + v5)) v3) (fun M1 => if (((6 : Int32) * v1) + v5) < 0 ∨ 720 ≤ Int32.toNatClampNeg (((6 : Int32) * v1) + v5) then none else dp_w (dp_setI M1 181 (Int32.toNatClampNeg (((6 : Int32) * v1) + v5)) v4) (fun M2 => if v1 < 0 ∨ 120 ≤ Int32.toNatClampNeg v1 then none else (if v1 < 0 ∨ 120 ≤ Int32.toNatClampNeg v1 then none else dp_w (dp_setI M2 179 (Int32.toNatClampNeg v1) ((dp_I M2 179 (Int32.toNatClampNeg v1)) + (1 : Int32))) (fun M3 => some (.inl none, M3))))) := by
  have hF := dp_den_grow (md := true) (xs := xs) (xl := xl) d
  unfold D_X12_takesStep_98
  refine dp_s1 hF (i := .aload_n 0) rfl (fun _ => rfl) ?_
  refine dp_s1 hF (i := .getfield 212) rfl (fun _ => rfl) ?_
  refine dp_s1 hF (i := .bipush 6) rfl (fun _ => rfl) ?_
  refine dp_s1 hF (i := .iload_n 1) rfl (fun _ => rfl) ?_
  refine dp_s1 hF (i := .imul) rfl (fun _ => rfl) ?_
  refine dp_s1 hF (i := .iload 5) rfl (fun _ => rfl) ?_
  refine dp_s1 hF (i := .iadd) rfl (fun _ => rfl) ?_
  refine dp_s1 hF (i := .iload_n 3) rfl (fun _ => rfl) ?_
  refine dp_s3w (dp_setI M 180 (Int32.toNatClampNeg (((6 : Int32) * v1) + v5)) v3) (fun (M1 : dp_M) => (111, [some (.ref 114), some (.int v1), some (.int v2), some (.int v3), some (.int v4), some (.int v5)], [], M1)) hF (i := .iastore) rfl (fun _ => rfl) (fun M1 => ?_)
  refine dp_s1 hF (i := .aload_n 0) rfl (fun _ => rfl) ?_
  refine dp_s1 hF (i := .getfield 215) rfl (fun _ => rfl) ?_
  refine dp_s1 hF (i := .bipush 6) rfl (fun _ => rfl) ?_
  refine dp_s1 hF (i := .iload_n 1) rfl (fun _ => rfl) ?_
  refine dp_s1 hF (i := .imul) rfl (fun _ => rfl) ?_
  refine dp_s1 hF (i := .iload 5) rfl (fun _ => rfl) ?_
  refine dp_s1 hF (i := .iadd) rfl (fun _ => rfl) ?_
  refine dp_s1 hF (i := .iload 4) rfl (fun _ => rfl) ?_
  refine dp_s3w (dp_setI M1 181 (Int32.toNatClampNeg (((6 : Int32) * v1) + v5)) v4) (fun (M2 : dp_M) => (125, [some (.ref 114), some (.int v1), some (.int v2), some (.int v3), some (.int v4), some (.int v5)], [], M2)) hF (i := .iastore) rfl (fun _ => rfl) (fun M2 => ?_)
  refine dp_s1 hF (i := .aload_n 0) rfl (fun _ => rfl) ?_
  refine dp_s1 hF (i := .getfield 209) rfl (fun _ => rfl) ?_
  refine dp_s1 hF (i := .iload_n 1) rfl (fun _ => rfl) ?_
  refine dp_s1 hF (i := .dup2) rfl (fun _ => rfl) ?_
  refine dp_s3 hF (i := .iaload) rfl (fun _ => rfl) ?_
  refine dp_s1 hF (i := .iconst 1) rfl (fun _ => rfl) ?_
  refine dp_s1 hF (i := .iadd) rfl (fun _ => rfl) ?_
  refine dp_s3w (dp_setI M2 179 (Int32.toNatClampNeg v1) ((dp_I M2 179 (Int32.toNatClampNeg v1)) + (1 : Int32))) (fun (M3 : dp_M) => (135, [some (.ref 114), some (.int v1), some (.int v2), some (.int v3), some (.int v4), some (.int v5)], [], M3)) hF (i := .iastore) rfl (fun _ => rfl) (fun M3 => ?_)
  exact dp_s0 hF (i := .return_) rfl (fun _ => rfl)
noncomputable def D_X12_takesSteps_0 (xs : Nat → Int32) (xl d : Nat)  (M : dp_M) : Option dp_Res := dp_lim true xs xl (dp_den true xs xl d) dp_m_X12_takesSteps (0, [some (.ref 114), none, none], [], M)
noncomputable def D_X12_takesSteps_42 (xs : Nat → Int32) (xl d : Nat) (v1 : Int32) (v2 : Int32) (M : dp_M) : Option dp_Res := dp_lim true xs xl (dp_den true xs xl d) dp_m_X12_takesSteps (42, [some (.ref 114), some (.int v1), some (.int v2)], [], M)
theorem D_X12_takesSteps_0_den (xs : Nat → Int32) (xl d : Nat)  (M : dp_M) : dp_den true xs xl (d + 1) 479 [.ref 114] M = D_X12_takesSteps_0 xs xl d  M := rfl
set_option maxRecDepth 20000 in
theorem D_X12_takesSteps_0_eq (xs : Nat → Int32) (xl d : Nat)  (M : dp_M) : D_X12_takesSteps_0 xs xl d  M = dp_bv (dp_den true xs xl d 468 [.ref 114, .int (40 : Int32)] M) (fun M1 => dp_bi (dp_den true xs xl d 473 [.ref 114] M1) (fun r3 M2 => dp_bv (dp_den true xs xl d 468 [.ref 114, .int (58 : Int32)] M2) (fun M4 => if (dp_I M4 114 81) < 0 then (dp_bi (dp_den true xs xl d 476 [.ref 114, .int (7 : Int32), .int r3, .int (-1 : Int32), .int (-1 : Int32), .int (-1 : Int32)] M4) (fun r6 M5 => dp_bv (dp_den true xs xl d 478 [.ref 114, .int r6] M5) (fun M7 => D_X12_takesSteps_42 xs xl d r3 r6 M7))) else (some (.inl (some (.int (-1 : Int32))), M4))))) := by
  have hF := dp_den_grow (md := true) (xs := xs) (xl := xl) d
  unfold D_X12_takesSteps_0
  refine dp_s1 hF (i := .aload_n 0) rfl (fun _ => rfl) ?_
  refine dp_s1 hF (i := .bipush 40) rfl (fun _ => rfl) ?_
  refine dp_sv (mj := dp_m_X12_takes) (i := .invokevirtual 764) rfl rfl rfl rfl (fun _ => rfl) (fun M1 => ?_)
  refine dp_s1 hF (i := .aload_n 0) rfl (fun _ => rfl) ?_
  refine dp_si (mj := dp_m_X12_takesWhole) (i := .invokevirtual 767) rfl rfl (Or.inl rfl) rfl (fun _ => rfl) (fun r3 M2 => ?_)
  refine dp_s1 hF (i := .istore_n 1) rfl (fun _ => rfl) ?_
  refine dp_s1 hF (i := .aload_n 0) rfl (fun _ => rfl) ?_
  refine dp_s1 hF (i := .bipush 58) rfl (fun _ => rfl) ?_
  refine dp_sv (mj := dp_m_X12_takes) (i := .invokevirtual 764) rfl rfl rfl rfl (fun _ => rfl) (fun M4 => ?_)
  refine dp_s1 hF (i := .aload_n 0) rfl (fun _ => rfl) ?_
  refine dp_s1 hF (i := .getfield 732) rfl (fun _ => rfl) ?_
  refine dp_s2 hF (i := .ifCond .lt 5) (a := (26, [some (.ref 114), some (.int r3), none], [], M4)) (b := (24, [some (.ref 114), some (.int r3), none], [], M4)) rfl (fun _ => rfl) ?_ ?_
  · refine dp_s1 hF (i := .aload_n 0) rfl (fun _ => rfl) ?_
    refine dp_s1 hF (i := .bipush 7) rfl (fun _ => rfl) ?_
    refine dp_s1 hF (i := .iload_n 1) rfl (fun _ => rfl) ?_
    refine dp_s1 hF (i := .iconst (-1)) rfl (fun _ => rfl) ?_
    refine dp_s1 hF (i := .iconst (-1)) rfl (fun _ => rfl) ?_
    refine dp_s1 hF (i := .iconst (-1)) rfl (fun _ => rfl) ?_
    refine dp_si (mj := dp_m_X12_makes) (i := .invokevirtual 760) rfl rfl (Or.inl rfl) rfl (fun _ => rfl) (fun r6 M5 => ?_)
    refine dp_s1 hF (i := .istore_n 2) rfl (fun _ => rfl) ?_
    refine dp_s1 hF (i := .aload_n 0) rfl (fun _ => rfl) ?_
    refine dp_s1 hF (i := .iload_n 2) rfl (fun _ => rfl) ?_
    refine dp_sv (mj := dp_m_X12_takesStep) (i := .invokevirtual 770) rfl rfl rfl rfl (fun _ => rfl) (fun M7 => ?_)
    exact rfl
  refine dp_s1 hF (i := .iconst (-1)) rfl (fun _ => rfl) ?_
  exact dp_s0 hF (i := .ireturn) rfl (fun _ => rfl)
set_option maxRecDepth 20000 in
theorem D_X12_takesSteps_42_eq (xs : Nat → Int32) (xl d : Nat) (v1 : Int32) (v2 : Int32) (M : dp_M) : D_X12_takesSteps_42 xs xl d v1 v2 M = if 0 ≤ (dp_I M 114 81) then (dp_bv (dp_den true xs xl d 468 [.ref 114, .int (41 : Int32)] M) (fun M1 => some (.inl (some (.int v2)), M1))) else (dp_bi (dp_den true xs xl d 466 [.ref 114] M) (fun r3 M2 => if r3 = (44 : Int32) then (dp_w (dp_setI M2 114 80 ((dp_I M2 114 80) + (1 : Int32))) (fun M4 => dp_bv (dp_den true xs xl d 478 [.ref 114, .int v2] M4) (fun M5 => D_X12_takesSteps_42 xs xl d v1 v2 M5))) else (dp_bv (dp_den true xs xl d 468 [.ref 114, .int (41 : Int32)] M2) (fun M6 => some (.inl (some (.int v2)), M6))))) := by
  have hF := dp_den_grow (md := true) (xs := xs) (xl := xl) d
  unfold D_X12_takesSteps_42
  refine dp_s1 hF (i := .aload_n 0) rfl (fun _ => rfl) ?_
  refine dp_s1 hF (i := .getfield 732) rfl (fun _ => rfl) ?_
  refine dp_s2 hF (i := .ifCond .ge 30) (a := (76, [some (.ref 114), some (.int v1), some (.int v2)], [], M)) (b := (49, [some (.ref 114), some (.int v1), some (.int v2)], [], M)) rfl (fun _ => rfl) ?_ ?_
  · refine dp_s1 hF (i := .aload_n 0) rfl (fun _ => rfl) ?_
    refine dp_s1 hF (i := .bipush 41) rfl (fun _ => rfl) ?_
    refine dp_sv (mj := dp_m_X12_takes) (i := .invokevirtual 764) rfl rfl rfl rfl (fun _ => rfl) (fun M1 => ?_)
    refine dp_s1 hF (i := .iload_n 2) rfl (fun _ => rfl) ?_
    exact dp_s0 hF (i := .ireturn) rfl (fun _ => rfl)
  refine dp_s1 hF (i := .aload_n 0) rfl (fun _ => rfl) ?_
  refine dp_si (mj := dp_m_X12_nextSign) (i := .invokevirtual 735) rfl rfl (Or.inl rfl) rfl (fun _ => rfl) (fun r3 M2 => ?_)
  refine dp_s1 hF (i := .bipush 44) rfl (fun _ => rfl) ?_
  refine dp_s2 hF (i := .if_icmp .ne 21) (a := (58, [some (.ref 114), some (.int v1), some (.int v2)], [], M2)) (b := (76, [some (.ref 114), some (.int v1), some (.int v2)], [], M2)) rfl (fun _ => rfl) ?_ ?_
  · refine dp_s1 hF (i := .aload_n 0) rfl (fun _ => rfl) ?_
    refine dp_s1 hF (i := .dup) rfl (fun _ => rfl) ?_
    refine dp_s1 hF (i := .getfield 726) rfl (fun _ => rfl) ?_
    refine dp_s1 hF (i := .iconst 1) rfl (fun _ => rfl) ?_
    refine dp_s1 hF (i := .iadd) rfl (fun _ => rfl) ?_
    refine dp_s1w (dp_setI M2 114 80 ((dp_I M2 114 80) + (1 : Int32))) (fun (M4 : dp_M) => (68, [some (.ref 114), some (.int v1), some (.int v2)], [], M4)) hF (i := .putfield 726) rfl (fun _ => rfl) (fun M4 => ?_)
    refine dp_s1 hF (i := .aload_n 0) rfl (fun _ => rfl) ?_
    refine dp_s1 hF (i := .iload_n 2) rfl (fun _ => rfl) ?_
    refine dp_sv (mj := dp_m_X12_takesStep) (i := .invokevirtual 770) rfl rfl rfl rfl (fun _ => rfl) (fun M5 => ?_)
    refine dp_s1 hF (i := .goto (-31)) rfl (fun _ => rfl) ?_
    exact rfl
  refine dp_s1 hF (i := .aload_n 0) rfl (fun _ => rfl) ?_
  refine dp_s1 hF (i := .bipush 41) rfl (fun _ => rfl) ?_
  refine dp_sv (mj := dp_m_X12_takes) (i := .invokevirtual 764) rfl rfl rfl rfl (fun _ => rfl) (fun M6 => ?_)
  refine dp_s1 hF (i := .iload_n 2) rfl (fun _ => rfl) ?_
  exact dp_s0 hF (i := .ireturn) rfl (fun _ => rfl)
noncomputable def D_X12_opens_0 (xs : Nat → Int32) (xl d : Nat) (v1 : Int32) (v2 : Int32) (M : dp_M) : Option dp_Res := dp_lim true xs xl (dp_den true xs xl d) dp_m_X12_opens (0, [some (.ref 114), some (.int v1), some (.int v2)], [], M)
theorem D_X12_opens_0_den (xs : Nat → Int32) (xl d : Nat) (a0 : Int32) (a1 : Int32) (M : dp_M) : dp_den true xs xl (d + 1) 480 [.ref 114, .int a0, .int a1] M = D_X12_opens_0 xs xl d a0 a1 M := rfl
set_option maxRecDepth 20000 in
theorem D_X12_opens_0_eq (xs : Nat → Int32) (xl d : Nat) (v1 : Int32) (v2 : Int32) (M : dp_M) : D_X12_opens_0 xs xl d v1 v2 M = if (dp_I M 114 97) = (13 : Int32) then (dp_bv (dp_den true xs xl d 467 [.ref 114, .int v2] M) (fun M1 => some (.inl none, M1))) else (if (dp_I M 114 97) < 0 ∨ 14 ≤ Int32.toNatClampNeg (dp_I M 114 97) then none else dp_w (dp_setI M 182 (Int32.toNatClampNeg (dp_I M 114 97)) v1) (fun M2 => if (dp_I M2 114 97) < 0 ∨ 14 ≤ Int32.toNatClampNeg (dp_I M2 114 97) then none else dp_w (dp_setI M2 183 (Int32.toNatClampNeg (dp_I M2 114 97)) (-1 : Int32)) (fun M3 => if (dp_I M3 114 97) < 0 ∨ 14 ≤ Int32.toNatClampNeg (dp_I M3 114 97) then none else dp_w (dp_setI M3 184 (Int32.toNatClampNeg (dp_I M3 114 97)) (-1 : Int32)) (fun M4 => if (dp_I M4 114 97) < 0 ∨ 14 ≤ Int32.toNatClampNeg (dp_I M4 114 97) then none else dp_w (dp_setI M4 185 (Int32.toNatClampNeg (dp_I M4 114 97)) (0 : Int32)) (fun M5 => dp_w (dp_setI M5 114 97 ((dp_I M5 114 97) + (1 : Int32))) (fun M6 => some (.inl none, M6))))))) := by
  have hF := dp_den_grow (md := true) (xs := xs) (xl := xl) d
  unfold D_X12_opens_0
  refine dp_s1 hF (i := .aload_n 0) rfl (fun _ => rfl) ?_
  refine dp_s1 hF (i := .getfield 773) rfl (fun _ => rfl) ?_
  refine dp_s1 hF (i := .bipush 13) rfl (fun _ => rfl) ?_
  refine dp_s2 hF (i := .if_icmp .ne 9) (a := (9, [some (.ref 114), some (.int v1), some (.int v2)], [], M)) (b := (15, [some (.ref 114), some (.int v1), some (.int v2)], [], M)) rfl (fun _ => rfl) ?_ ?_
  · refine dp_s1 hF (i := .aload_n 0) rfl (fun _ => rfl) ?_
    refine dp_s1 hF (i := .iload_n 2) rfl (fun _ => rfl) ?_
    refine dp_sv (mj := dp_m_X12_stops) (i := .invokevirtual 738) rfl rfl rfl rfl (fun _ => rfl) (fun M1 => ?_)
    exact dp_s0 hF (i := .return_) rfl (fun _ => rfl)
  refine dp_s1 hF (i := .aload_n 0) rfl (fun _ => rfl) ?_
  refine dp_s1 hF (i := .getfield 218) rfl (fun _ => rfl) ?_
  refine dp_s1 hF (i := .aload_n 0) rfl (fun _ => rfl) ?_
  refine dp_s1 hF (i := .getfield 773) rfl (fun _ => rfl) ?_
  refine dp_s1 hF (i := .iload_n 1) rfl (fun _ => rfl) ?_
  refine dp_s3w (dp_setI M 182 (Int32.toNatClampNeg (dp_I M 114 97)) v1) (fun (M2 : dp_M) => (25, [some (.ref 114), some (.int v1), some (.int v2)], [], M2)) hF (i := .iastore) rfl (fun _ => rfl) (fun M2 => ?_)
  refine dp_s1 hF (i := .aload_n 0) rfl (fun _ => rfl) ?_
  refine dp_s1 hF (i := .getfield 221) rfl (fun _ => rfl) ?_
  refine dp_s1 hF (i := .aload_n 0) rfl (fun _ => rfl) ?_
  refine dp_s1 hF (i := .getfield 773) rfl (fun _ => rfl) ?_
  refine dp_s1 hF (i := .iconst (-1)) rfl (fun _ => rfl) ?_
  refine dp_s3w (dp_setI M2 183 (Int32.toNatClampNeg (dp_I M2 114 97)) (-1 : Int32)) (fun (M3 : dp_M) => (35, [some (.ref 114), some (.int v1), some (.int v2)], [], M3)) hF (i := .iastore) rfl (fun _ => rfl) (fun M3 => ?_)
  refine dp_s1 hF (i := .aload_n 0) rfl (fun _ => rfl) ?_
  refine dp_s1 hF (i := .getfield 224) rfl (fun _ => rfl) ?_
  refine dp_s1 hF (i := .aload_n 0) rfl (fun _ => rfl) ?_
  refine dp_s1 hF (i := .getfield 773) rfl (fun _ => rfl) ?_
  refine dp_s1 hF (i := .iconst (-1)) rfl (fun _ => rfl) ?_
  refine dp_s3w (dp_setI M3 184 (Int32.toNatClampNeg (dp_I M3 114 97)) (-1 : Int32)) (fun (M4 : dp_M) => (45, [some (.ref 114), some (.int v1), some (.int v2)], [], M4)) hF (i := .iastore) rfl (fun _ => rfl) (fun M4 => ?_)
  refine dp_s1 hF (i := .aload_n 0) rfl (fun _ => rfl) ?_
  refine dp_s1 hF (i := .getfield 227) rfl (fun _ => rfl) ?_
  refine dp_s1 hF (i := .aload_n 0) rfl (fun _ => rfl) ?_
  refine dp_s1 hF (i := .getfield 773) rfl (fun _ => rfl) ?_
  refine dp_s1 hF (i := .iconst 0) rfl (fun _ => rfl) ?_
  refine dp_s3w (dp_setI M4 185 (Int32.toNatClampNeg (dp_I M4 114 97)) (0 : Int32)) (fun (M5 : dp_M) => (55, [some (.ref 114), some (.int v1), some (.int v2)], [], M5)) hF (i := .iastore) rfl (fun _ => rfl) (fun M5 => ?_)
  refine dp_s1 hF (i := .aload_n 0) rfl (fun _ => rfl) ?_
  refine dp_s1 hF (i := .dup) rfl (fun _ => rfl) ?_
  refine dp_s1 hF (i := .getfield 773) rfl (fun _ => rfl) ?_
  refine dp_s1 hF (i := .iconst 1) rfl (fun _ => rfl) ?_
  refine dp_s1 hF (i := .iadd) rfl (fun _ => rfl) ?_
  refine dp_s1w (dp_setI M5 114 97 ((dp_I M5 114 97) + (1 : Int32))) (fun (M6 : dp_M) => (65, [some (.ref 114), some (.int v1), some (.int v2)], [], M6)) hF (i := .putfield 773) rfl (fun _ => rfl) (fun M6 => ?_)
  exact dp_s0 hF (i := .return_) rfl (fun _ => rfl)
noncomputable def D_X12_isWord_0 (xs : Nat → Int32) (xl d : Nat) (v1 : Int32) (v2 : Int32) (v3 : Int64) (M : dp_M) : Option dp_Res := dp_lim true xs xl (dp_den true xs xl d) dp_m_X12_isWord (0, [some (.ref 114), some (.int v1), some (.int v2), some (.long v3), none, none, none, none], [], M)
noncomputable def D_X12_isWord_3 (xs : Nat → Int32) (xl d : Nat) (v1 : Int32) (v2 : Int32) (v3 : Int64) (v5 : Int32) (M : dp_M) : Option dp_Res := dp_lim true xs xl (dp_den true xs xl d) dp_m_X12_isWord (3, [some (.ref 114), some (.int v1), some (.int v2), some (.long v3), none, some (.int v5), none, none], [], M)
noncomputable def D_X12_isWord_46 (xs : Nat → Int32) (xl d : Nat) (v1 : Int32) (v2 : Int32) (v3 : Int64) (v5 : Int32) (v6 : Int32) (v7 : Int32) (M : dp_M) : Option dp_Res := dp_lim true xs xl (dp_den true xs xl d) dp_m_X12_isWord (46, [some (.ref 114), some (.int v1), some (.int v2), some (.long v3), none, some (.int v5), some (.int v6), some (.int v7)], [], M)
theorem D_X12_isWord_0_den (xs : Nat → Int32) (xl d : Nat) (a0 : Int32) (a1 : Int32) (a2 : Int64) (M : dp_M) : dp_den true xs xl (d + 1) 481 [.ref 114, .int a0, .int a1, .long a2] M = D_X12_isWord_0 xs xl d a0 a1 a2 M := rfl
set_option maxRecDepth 20000 in
theorem D_X12_isWord_0_eq (xs : Nat → Int32) (xl d : Nat) (v1 : Int32) (v2 : Int32) (v3 : Int64) (M : dp_M) : D_X12_isWord_0 xs xl d v1 v2 v3 M = dp_w (0 : Int32) (fun y1 => D_X12_isWord_3 xs xl d v1 v2 v3 y1 M) := by
  have hF := dp_den_grow (md := true) (xs := xs) (xl := xl) d
  unfold D_X12_isWord_0
  refine dp_s1 hF (i := .iconst 0) rfl (fun _ => rfl) ?_
  refine dp_s1w (0 : Int32) (fun (y1 : Int32) => (3, [some (.ref 114), some (.int v1), some (.int v2), some (.long v3), none, some (.int y1), none, none], [], M)) hF (i := .istore 5) rfl (fun _ => rfl) (fun y1 => ?_)
  exact rfl
set_option maxRecDepth 20000 in
theorem D_X12_isWord_3_eq (xs : Nat → Int32) (xl d : Nat) (v1 : Int32) (v2 : Int32) (v3 : Int64) (v5 : Int32) (M : dp_M) : D_X12_isWord_3 xs xl d v1 v2 v3 v5 M = if (8 : Int32) ≤ v5 then (if (v2 - v1) = v5 then (dp_w (1 : Int32) (fun y1 => dp_w (0 : Int32) (fun y2 => D_X12_isWord_46 xs xl d v1 v2 v3 v5 y1 y2 M))) else (dp_w (0 : Int32) (fun y3 => dp_w (0 : Int32) (fun y4 => D_X12_isWord_46 xs xl d v1 v2 v3 v5 y3 y4 M)))) else (if (lg_cmp ((Int64.toUInt64 v3 >>> ((Int32.toInt64 ((8 : Int32) * v5)).toUInt64 &&& Int64.toUInt64 63)).toInt64) (0 : Int64)) = 0 then (if (v2 - v1) = v5 then (dp_w (1 : Int32) (fun y5 => dp_w (0 : Int32) (fun y6 => D_X12_isWord_46 xs xl d v1 v2 v3 v5 y5 y6 M))) else (dp_w (0 : Int32) (fun y7 => dp_w (0 : Int32) (fun y8 => D_X12_isWord_46 xs xl d v1 v2 v3 v5 y7 y8 M)))) else (dp_w (v5 + (1 : Int32)) (fun y9 => D_X12_isWord_3 xs xl d v1 v2 v3 y9 M))) := by
  have hF := dp_den_grow (md := true) (xs := xs) (xl := xl) d
  unfold D_X12_isWord_3
  refine dp_s1 hF (i := .iload 5) rfl (fun _ => rfl) ?_
  refine dp_s1 hF (i := .bipush 8) rfl (fun _ => rfl) ?_
  refine dp_s2 hF (i := .if_icmp .ge 21) (a := (28, [some (.ref 114), some (.int v1), some (.int v2), some (.long v3), none, some (.int v5), none, none], [], M)) (b := (10, [some (.ref 114), some (.int v1), some (.int v2), some (.long v3), none, some (.int v5), none, none], [], M)) rfl (fun _ => rfl) ?_ ?_
  · refine dp_s1 hF (i := .iload_n 2) rfl (fun _ => rfl) ?_
    refine dp_s1 hF (i := .iload_n 1) rfl (fun _ => rfl) ?_
    refine dp_s1 hF (i := .isub) rfl (fun _ => rfl) ?_
    refine dp_s1 hF (i := .iload 5) rfl (fun _ => rfl) ?_
    refine dp_s2 hF (i := .if_icmp .ne 7) (a := (36, [some (.ref 114), some (.int v1), some (.int v2), some (.long v3), none, some (.int v5), none, none], [], M)) (b := (40, [some (.ref 114), some (.int v1), some (.int v2), some (.long v3), none, some (.int v5), none, none], [], M)) rfl (fun _ => rfl) ?_ ?_
    · refine dp_s1 hF (i := .iconst 1) rfl (fun _ => rfl) ?_
      refine dp_s1 hF (i := .goto 4) rfl (fun _ => rfl) ?_
      refine dp_s1w (1 : Int32) (fun (y1 : Int32) => (43, [some (.ref 114), some (.int v1), some (.int v2), some (.long v3), none, some (.int v5), some (.int y1), none], [], M)) hF (i := .istore 6) rfl (fun _ => rfl) (fun y1 => ?_)
      refine dp_s1 hF (i := .iconst 0) rfl (fun _ => rfl) ?_
      refine dp_s1w (0 : Int32) (fun (y2 : Int32) => (46, [some (.ref 114), some (.int v1), some (.int v2), some (.long v3), none, some (.int v5), some (.int y1), some (.int y2)], [], M)) hF (i := .istore 7) rfl (fun _ => rfl) (fun y2 => ?_)
      exact rfl
    refine dp_s1 hF (i := .iconst 0) rfl (fun _ => rfl) ?_
    refine dp_s1w (0 : Int32) (fun (y3 : Int32) => (43, [some (.ref 114), some (.int v1), some (.int v2), some (.long v3), none, some (.int v5), some (.int y3), none], [], M)) hF (i := .istore 6) rfl (fun _ => rfl) (fun y3 => ?_)
    refine dp_s1 hF (i := .iconst 0) rfl (fun _ => rfl) ?_
    refine dp_s1w (0 : Int32) (fun (y4 : Int32) => (46, [some (.ref 114), some (.int v1), some (.int v2), some (.long v3), none, some (.int v5), some (.int y3), some (.int y4)], [], M)) hF (i := .istore 7) rfl (fun _ => rfl) (fun y4 => ?_)
    exact rfl
  refine dp_s1 hF (i := .lload_n 3) rfl (fun _ => rfl) ?_
  refine dp_s1 hF (i := .bipush 8) rfl (fun _ => rfl) ?_
  refine dp_s1 hF (i := .iload 5) rfl (fun _ => rfl) ?_
  refine dp_s1 hF (i := .imul) rfl (fun _ => rfl) ?_
  refine dp_s1 hF (i := .lushr) rfl (fun _ => rfl) ?_
  refine dp_s1 hF (i := .lconst 0) rfl (fun _ => rfl) ?_
  refine dp_s1 hF (i := .lcmp) rfl (fun _ => rfl) ?_
  refine dp_s2 hF (i := .ifCond .eq 9) (a := (28, [some (.ref 114), some (.int v1), some (.int v2), some (.long v3), none, some (.int v5), none, none], [], M)) (b := (22, [some (.ref 114), some (.int v1), some (.int v2), some (.long v3), none, some (.int v5), none, none], [], M)) rfl (fun _ => rfl) ?_ ?_
  · refine dp_s1 hF (i := .iload_n 2) rfl (fun _ => rfl) ?_
    refine dp_s1 hF (i := .iload_n 1) rfl (fun _ => rfl) ?_
    refine dp_s1 hF (i := .isub) rfl (fun _ => rfl) ?_
    refine dp_s1 hF (i := .iload 5) rfl (fun _ => rfl) ?_
    refine dp_s2 hF (i := .if_icmp .ne 7) (a := (36, [some (.ref 114), some (.int v1), some (.int v2), some (.long v3), none, some (.int v5), none, none], [], M)) (b := (40, [some (.ref 114), some (.int v1), some (.int v2), some (.long v3), none, some (.int v5), none, none], [], M)) rfl (fun _ => rfl) ?_ ?_
    · refine dp_s1 hF (i := .iconst 1) rfl (fun _ => rfl) ?_
      refine dp_s1 hF (i := .goto 4) rfl (fun _ => rfl) ?_
      refine dp_s1w (1 : Int32) (fun (y5 : Int32) => (43, [some (.ref 114), some (.int v1), some (.int v2), some (.long v3), none, some (.int v5), some (.int y5), none], [], M)) hF (i := .istore 6) rfl (fun _ => rfl) (fun y5 => ?_)
      refine dp_s1 hF (i := .iconst 0) rfl (fun _ => rfl) ?_
      refine dp_s1w (0 : Int32) (fun (y6 : Int32) => (46, [some (.ref 114), some (.int v1), some (.int v2), some (.long v3), none, some (.int v5), some (.int y5), some (.int y6)], [], M)) hF (i := .istore 7) rfl (fun _ => rfl) (fun y6 => ?_)
      exact rfl
    refine dp_s1 hF (i := .iconst 0) rfl (fun _ => rfl) ?_
    refine dp_s1w (0 : Int32) (fun (y7 : Int32) => (43, [some (.ref 114), some (.int v1), some (.int v2), some (.long v3), none, some (.int v5), some (.int y7), none], [], M)) hF (i := .istore 6) rfl (fun _ => rfl) (fun y7 => ?_)
    refine dp_s1 hF (i := .iconst 0) rfl (fun _ => rfl) ?_
    refine dp_s1w (0 : Int32) (fun (y8 : Int32) => (46, [some (.ref 114), some (.int v1), some (.int v2), some (.long v3), none, some (.int v5), some (.int y7), some (.int y8)], [], M)) hF (i := .istore 7) rfl (fun _ => rfl) (fun y8 => ?_)
    exact rfl
  refine dp_s1w (v5 + (1 : Int32)) (fun (y9 : Int32) => (25, [some (.ref 114), some (.int v1), some (.int v2), some (.long v3), none, some (.int y9), none, none], [], M)) hF (i := .iinc 5 1) rfl (fun _ => rfl) (fun y9 => ?_)
  refine dp_s1 hF (i := .goto (-22)) rfl (fun _ => rfl) ?_
  exact rfl
set_option maxRecDepth 20000 in
theorem D_X12_isWord_46_eq (xs : Nat → Int32) (xl d : Nat) (v1 : Int32) (v2 : Int32) (v3 : Int64) (v5 : Int32) (v6 : Int32) (v7 : Int32) (M : dp_M) : D_X12_isWord_46 xs xl d v1 v2 v3 v5 v6 v7 M = if v5 ≤ v7 then (if v6 = 0 ∨ v6 = 1 then some (.inl (some (.int v6)), M) else none) else (if v6 = 0 then (if v6 = 0 ∨ v6 = 1 then some (.inl (some (.int v6)), M) else none) else (if (v1 + v7) < 0 ∨ 400 ≤ Int32.toNatClampNeg (v1 + v7) then none else (if (dp_I M 173 (Int32.toNatClampNeg (v1 + v7))) = (Int64.toInt32 (((Int64.toUInt64 v3 >>> ((Int32.toInt64 ((8 : Int32) * ((v5 - (1 : Int32)) - v7))).toUInt64 &&& Int64.toUInt64 63)).toInt64) &&& (255 : Int64))) then (dp_w (1 : Int32) (fun y1 => dp_w (v7 + (1 : Int32)) (fun y2 => D_X12_isWord_46 xs xl d v1 v2 v3 v5 y1 y2 M))) else (dp_w (0 : Int32) (fun y3 => dp_w (v7 + (1 : Int32)) (fun y4 => D_X12_isWord_46 xs xl d v1 v2 v3 v5 y3 y4 M)))))) := by
  have hF := dp_den_grow (md := true) (xs := xs) (xl := xl) d
  unfold D_X12_isWord_46
  refine dp_s1 hF (i := .iload 7) rfl (fun _ => rfl) ?_
  refine dp_s1 hF (i := .iload 5) rfl (fun _ => rfl) ?_
  refine dp_s2 hF (i := .if_icmp .ge 50) (a := (100, [some (.ref 114), some (.int v1), some (.int v2), some (.long v3), none, some (.int v5), some (.int v6), some (.int v7)], [], M)) (b := (53, [some (.ref 114), some (.int v1), some (.int v2), some (.long v3), none, some (.int v5), some (.int v6), some (.int v7)], [], M)) rfl (fun _ => rfl) ?_ ?_
  · refine dp_s1 hF (i := .iload 6) rfl (fun _ => rfl) ?_
    exact dp_s0 hF (i := .ireturn) rfl (fun _ => rfl)
  refine dp_s1 hF (i := .iload 6) rfl (fun _ => rfl) ?_
  refine dp_s2 hF (i := .ifCond .eq 45) (a := (100, [some (.ref 114), some (.int v1), some (.int v2), some (.long v3), none, some (.int v5), some (.int v6), some (.int v7)], [], M)) (b := (58, [some (.ref 114), some (.int v1), some (.int v2), some (.long v3), none, some (.int v5), some (.int v6), some (.int v7)], [], M)) rfl (fun _ => rfl) ?_ ?_
  · refine dp_s1 hF (i := .iload 6) rfl (fun _ => rfl) ?_
    exact dp_s0 hF (i := .ireturn) rfl (fun _ => rfl)
  refine dp_s1 hF (i := .aload_n 0) rfl (fun _ => rfl) ?_
  refine dp_s1 hF (i := .getfield 191) rfl (fun _ => rfl) ?_
  refine dp_s1 hF (i := .iload_n 1) rfl (fun _ => rfl) ?_
  refine dp_s1 hF (i := .iload 7) rfl (fun _ => rfl) ?_
  refine dp_s1 hF (i := .iadd) rfl (fun _ => rfl) ?_
  refine dp_s3 hF (i := .iaload) rfl (fun _ => rfl) ?_
  refine dp_s1 hF (i := .lload_n 3) rfl (fun _ => rfl) ?_
  refine dp_s1 hF (i := .bipush 8) rfl (fun _ => rfl) ?_
  refine dp_s1 hF (i := .iload 5) rfl (fun _ => rfl) ?_
  refine dp_s1 hF (i := .iconst 1) rfl (fun _ => rfl) ?_
  refine dp_s1 hF (i := .isub) rfl (fun _ => rfl) ?_
  refine dp_s1 hF (i := .iload 7) rfl (fun _ => rfl) ?_
  refine dp_s1 hF (i := .isub) rfl (fun _ => rfl) ?_
  refine dp_s1 hF (i := .imul) rfl (fun _ => rfl) ?_
  refine dp_s1 hF (i := .lushr) rfl (fun _ => rfl) ?_
  refine dp_s1 hF (i := .ldc2_w 720) rfl (fun _ => rfl) ?_
  refine dp_s1 hF (i := .land) rfl (fun _ => rfl) ?_
  refine dp_s1 hF (i := .l2i) rfl (fun _ => rfl) ?_
  refine dp_s2 hF (i := .if_icmp .ne 7) (a := (87, [some (.ref 114), some (.int v1), some (.int v2), some (.long v3), none, some (.int v5), some (.int v6), some (.int v7)], [], M)) (b := (91, [some (.ref 114), some (.int v1), some (.int v2), some (.long v3), none, some (.int v5), some (.int v6), some (.int v7)], [], M)) rfl (fun _ => rfl) ?_ ?_
  · refine dp_s1 hF (i := .iconst 1) rfl (fun _ => rfl) ?_
    refine dp_s1 hF (i := .goto 4) rfl (fun _ => rfl) ?_
    refine dp_s1w (1 : Int32) (fun (y1 : Int32) => (94, [some (.ref 114), some (.int v1), some (.int v2), some (.long v3), none, some (.int v5), some (.int y1), some (.int v7)], [], M)) hF (i := .istore 6) rfl (fun _ => rfl) (fun y1 => ?_)
    refine dp_s1w (v7 + (1 : Int32)) (fun (y2 : Int32) => (97, [some (.ref 114), some (.int v1), some (.int v2), some (.long v3), none, some (.int v5), some (.int y1), some (.int y2)], [], M)) hF (i := .iinc 7 1) rfl (fun _ => rfl) (fun y2 => ?_)
    refine dp_s1 hF (i := .goto (-51)) rfl (fun _ => rfl) ?_
    exact rfl
  refine dp_s1 hF (i := .iconst 0) rfl (fun _ => rfl) ?_
  refine dp_s1w (0 : Int32) (fun (y3 : Int32) => (94, [some (.ref 114), some (.int v1), some (.int v2), some (.long v3), none, some (.int v5), some (.int y3), some (.int v7)], [], M)) hF (i := .istore 6) rfl (fun _ => rfl) (fun y3 => ?_)
  refine dp_s1w (v7 + (1 : Int32)) (fun (y4 : Int32) => (97, [some (.ref 114), some (.int v1), some (.int v2), some (.long v3), none, some (.int v5), some (.int y3), some (.int y4)], [], M)) hF (i := .iinc 7 1) rfl (fun _ => rfl) (fun y4 => ?_)
  refine dp_s1 hF (i := .goto (-51)) rfl (fun _ => rfl) ?_
  exact rfl
noncomputable def D_X12_takesWord_0 (xs : Nat → Int32) (xl d : Nat)  (M : dp_M) : Option dp_Res := dp_lim true xs xl (dp_den true xs xl d) dp_m_X12_takesWord (0, [some (.ref 114), none, none, none, none, none], [], M)
noncomputable def D_X12_takesWord_5 (xs : Nat → Int32) (xl d : Nat) (v1 : Int32) (M : dp_M) : Option dp_Res := dp_lim true xs xl (dp_den true xs xl d) dp_m_X12_takesWord (5, [some (.ref 114), some (.int v1), none, none, none, none], [], M)
noncomputable def D_X12_takesWord_44 (xs : Nat → Int32) (xl d : Nat) (v1 : Int32) (M : dp_M) : Option dp_Res := dp_lim true xs xl (dp_den true xs xl d) dp_m_X12_takesWord (44, [some (.ref 114), some (.int v1), none, none, none, none], [], M)
noncomputable def D_X12_takesWord_123 (xs : Nat → Int32) (xl d : Nat) (v1 : Int32) (v2 : Int32) (v3 : Int32) (v4 : Int32) (v5 : Int32) (M : dp_M) : Option dp_Res := dp_lim true xs xl (dp_den true xs xl d) dp_m_X12_takesWord (123, [some (.ref 114), some (.int v1), some (.int v2), some (.int v3), some (.int v4), some (.int v5)], [], M)
theorem D_X12_takesWord_0_den (xs : Nat → Int32) (xl d : Nat)  (M : dp_M) : dp_den true xs xl (d + 1) 482 [.ref 114] M = D_X12_takesWord_0 xs xl d  M := rfl
set_option maxRecDepth 20000 in
theorem D_X12_takesWord_0_eq (xs : Nat → Int32) (xl d : Nat)  (M : dp_M) : D_X12_takesWord_0 xs xl d  M = dp_w (dp_I M 114 80) (fun y1 => D_X12_takesWord_5 xs xl d y1 M) := by
  have hF := dp_den_grow (md := true) (xs := xs) (xl := xl) d
  unfold D_X12_takesWord_0
  refine dp_s1 hF (i := .aload_n 0) rfl (fun _ => rfl) ?_
  refine dp_s1 hF (i := .getfield 726) rfl (fun _ => rfl) ?_
  refine dp_s1w (dp_I M 114 80) (fun (y1 : Int32) => (5, [some (.ref 114), some (.int y1), none, none, none, none], [], M)) hF (i := .istore_n 1) rfl (fun _ => rfl) (fun y1 => ?_)
  exact rfl
set_option maxRecDepth 20000 in
theorem D_X12_takesWord_5_eq (xs : Nat → Int32) (xl d : Nat) (v1 : Int32) (M : dp_M) : D_X12_takesWord_5 xs xl d v1 M = if (dp_I M 114 79) ≤ (dp_I M 114 80) then (D_X12_takesWord_44 xs xl d v1 M) else (if (dp_I M 114 80) < 0 ∨ 400 ≤ Int32.toNatClampNeg (dp_I M 114 80) then none else (dp_bi (dp_den true xs xl d 470 [.int (dp_I M 173 (Int32.toNatClampNeg (dp_I M 114 80)))] M) (fun r2 M1 => if r2 = 0 then (D_X12_takesWord_44 xs xl d v1 M1) else (dp_w (dp_setI M1 114 80 ((dp_I M1 114 80) + (1 : Int32))) (fun M3 => D_X12_takesWord_5 xs xl d v1 M3))))) := by
  have hF := dp_den_grow (md := true) (xs := xs) (xl := xl) d
  unfold D_X12_takesWord_5
  refine dp_s1 hF (i := .aload_n 0) rfl (fun _ => rfl) ?_
  refine dp_s1 hF (i := .getfield 726) rfl (fun _ => rfl) ?_
  refine dp_s1 hF (i := .aload_n 0) rfl (fun _ => rfl) ?_
  refine dp_s1 hF (i := .getfield 729) rfl (fun _ => rfl) ?_
  refine dp_s2 hF (i := .if_icmp .ge 31) (a := (44, [some (.ref 114), some (.int v1), none, none, none, none], [], M)) (b := (16, [some (.ref 114), some (.int v1), none, none, none, none], [], M)) rfl (fun _ => rfl) ?_ ?_
  · exact rfl
  refine dp_s1 hF (i := .aload_n 0) rfl (fun _ => rfl) ?_
  refine dp_s1 hF (i := .getfield 191) rfl (fun _ => rfl) ?_
  refine dp_s1 hF (i := .aload_n 0) rfl (fun _ => rfl) ?_
  refine dp_s1 hF (i := .getfield 726) rfl (fun _ => rfl) ?_
  refine dp_s3 hF (i := .iaload) rfl (fun _ => rfl) ?_
  refine dp_si (mj := dp_m_X12_isSmall) (i := .invokestatic 776) rfl rfl (Or.inr rfl) rfl (fun _ => rfl) (fun r2 M1 => ?_)
  refine dp_s2 hF (i := .ifCond .eq 16) (a := (44, [some (.ref 114), some (.int v1), none, none, none, none], [], M1)) (b := (31, [some (.ref 114), some (.int v1), none, none, none, none], [], M1)) rfl (fun _ => rfl) ?_ ?_
  · exact rfl
  refine dp_s1 hF (i := .aload_n 0) rfl (fun _ => rfl) ?_
  refine dp_s1 hF (i := .dup) rfl (fun _ => rfl) ?_
  refine dp_s1 hF (i := .getfield 726) rfl (fun _ => rfl) ?_
  refine dp_s1 hF (i := .iconst 1) rfl (fun _ => rfl) ?_
  refine dp_s1 hF (i := .iadd) rfl (fun _ => rfl) ?_
  refine dp_s1w (dp_setI M1 114 80 ((dp_I M1 114 80) + (1 : Int32))) (fun (M3 : dp_M) => (41, [some (.ref 114), some (.int v1), none, none, none, none], [], M3)) hF (i := .putfield 726) rfl (fun _ => rfl) (fun M3 => ?_)
  refine dp_s1 hF (i := .goto (-36)) rfl (fun _ => rfl) ?_
  exact rfl
set_option maxRecDepth 20000 in
theorem D_X12_takesWord_44_eq (xs : Nat → Int32) (xl d : Nat) (v1 : Int32) (M : dp_M) : D_X12_takesWord_44 xs xl d v1 M = dp_bi (dp_den true xs xl d 481 [.ref 114, .int v1, .int (dp_I M 114 80), .long (7170414 : Int64)] M) (fun r2 M1 => dp_bi (dp_den true xs xl d 481 [.ref 114, .int v1, .int (dp_I M1 114 80), .long (7168376 : Int64)] M1) (fun r4 M3 => dp_bi (dp_den true xs xl d 481 [.ref 114, .int v1, .int (dp_I M3 114 80), .long (1718773093 : Int64)] M3) (fun r6 M5 => dp_bi (dp_den true xs xl d 481 [.ref 114, .int v1, .int (dp_I M5 114 80), .long (1937007984 : Int64)] M5) (fun r8 M7 => if r2 = 0 then (if r4 = 0 then (if r6 = 0 then (if r8 = 0 then (dp_bv (dp_den true xs xl d 467 [.ref 114, .int v1] M7) (fun M9 => some (.inl (some (.int (-1 : Int32))), M9))) else (D_X12_takesWord_123 xs xl d v1 r2 r4 r6 r8 M7)) else (D_X12_takesWord_123 xs xl d v1 r2 r4 r6 r8 M7)) else (D_X12_takesWord_123 xs xl d v1 r2 r4 r6 r8 M7)) else (D_X12_takesWord_123 xs xl d v1 r2 r4 r6 r8 M7))))) := by
  have hF := dp_den_grow (md := true) (xs := xs) (xl := xl) d
  unfold D_X12_takesWord_44
  refine dp_s1 hF (i := .aload_n 0) rfl (fun _ => rfl) ?_
  refine dp_s1 hF (i := .iload_n 1) rfl (fun _ => rfl) ?_
  refine dp_s1 hF (i := .aload_n 0) rfl (fun _ => rfl) ?_
  refine dp_s1 hF (i := .getfield 726) rfl (fun _ => rfl) ?_
  refine dp_s1 hF (i := .ldc2_w 779) rfl (fun _ => rfl) ?_
  refine dp_si (mj := dp_m_X12_isWord) (i := .invokevirtual 781) rfl rfl (Or.inr rfl) rfl (fun _ => rfl) (fun r2 M1 => ?_)
  refine dp_s1 hF (i := .istore_n 2) rfl (fun _ => rfl) ?_
  refine dp_s1 hF (i := .aload_n 0) rfl (fun _ => rfl) ?_
  refine dp_s1 hF (i := .iload_n 1) rfl (fun _ => rfl) ?_
  refine dp_s1 hF (i := .aload_n 0) rfl (fun _ => rfl) ?_
  refine dp_s1 hF (i := .getfield 726) rfl (fun _ => rfl) ?_
  refine dp_s1 hF (i := .ldc2_w 785) rfl (fun _ => rfl) ?_
  refine dp_si (mj := dp_m_X12_isWord) (i := .invokevirtual 781) rfl rfl (Or.inr rfl) rfl (fun _ => rfl) (fun r4 M3 => ?_)
  refine dp_s1 hF (i := .istore_n 3) rfl (fun _ => rfl) ?_
  refine dp_s1 hF (i := .aload_n 0) rfl (fun _ => rfl) ?_
  refine dp_s1 hF (i := .iload_n 1) rfl (fun _ => rfl) ?_
  refine dp_s1 hF (i := .aload_n 0) rfl (fun _ => rfl) ?_
  refine dp_s1 hF (i := .getfield 726) rfl (fun _ => rfl) ?_
  refine dp_s1 hF (i := .ldc2_w 787) rfl (fun _ => rfl) ?_
  refine dp_si (mj := dp_m_X12_isWord) (i := .invokevirtual 781) rfl rfl (Or.inr rfl) rfl (fun _ => rfl) (fun r6 M5 => ?_)
  refine dp_s1 hF (i := .istore 4) rfl (fun _ => rfl) ?_
  refine dp_s1 hF (i := .aload_n 0) rfl (fun _ => rfl) ?_
  refine dp_s1 hF (i := .iload_n 1) rfl (fun _ => rfl) ?_
  refine dp_s1 hF (i := .aload_n 0) rfl (fun _ => rfl) ?_
  refine dp_s1 hF (i := .getfield 726) rfl (fun _ => rfl) ?_
  refine dp_s1 hF (i := .ldc2_w 789) rfl (fun _ => rfl) ?_
  refine dp_si (mj := dp_m_X12_isWord) (i := .invokevirtual 781) rfl rfl (Or.inr rfl) rfl (fun _ => rfl) (fun r8 M7 => ?_)
  refine dp_s1 hF (i := .istore 5) rfl (fun _ => rfl) ?_
  refine dp_s1 hF (i := .iload_n 2) rfl (fun _ => rfl) ?_
  refine dp_s2 hF (i := .ifCond .ne 24) (a := (102, [some (.ref 114), some (.int v1), some (.int r2), some (.int r4), some (.int r6), some (.int r8)], [], M7)) (b := (123, [some (.ref 114), some (.int v1), some (.int r2), some (.int r4), some (.int r6), some (.int r8)], [], M7)) rfl (fun _ => rfl) ?_ ?_
  · refine dp_s1 hF (i := .iload_n 3) rfl (fun _ => rfl) ?_
    refine dp_s2 hF (i := .ifCond .ne 20) (a := (106, [some (.ref 114), some (.int v1), some (.int r2), some (.int r4), some (.int r6), some (.int r8)], [], M7)) (b := (123, [some (.ref 114), some (.int v1), some (.int r2), some (.int r4), some (.int r6), some (.int r8)], [], M7)) rfl (fun _ => rfl) ?_ ?_
    · refine dp_s1 hF (i := .iload 4) rfl (fun _ => rfl) ?_
      refine dp_s2 hF (i := .ifCond .ne 15) (a := (111, [some (.ref 114), some (.int v1), some (.int r2), some (.int r4), some (.int r6), some (.int r8)], [], M7)) (b := (123, [some (.ref 114), some (.int v1), some (.int r2), some (.int r4), some (.int r6), some (.int r8)], [], M7)) rfl (fun _ => rfl) ?_ ?_
      · refine dp_s1 hF (i := .iload 5) rfl (fun _ => rfl) ?_
        refine dp_s2 hF (i := .ifCond .ne 10) (a := (116, [some (.ref 114), some (.int v1), some (.int r2), some (.int r4), some (.int r6), some (.int r8)], [], M7)) (b := (123, [some (.ref 114), some (.int v1), some (.int r2), some (.int r4), some (.int r6), some (.int r8)], [], M7)) rfl (fun _ => rfl) ?_ ?_
        · refine dp_s1 hF (i := .aload_n 0) rfl (fun _ => rfl) ?_
          refine dp_s1 hF (i := .iload_n 1) rfl (fun _ => rfl) ?_
          refine dp_sv (mj := dp_m_X12_stops) (i := .invokevirtual 738) rfl rfl rfl rfl (fun _ => rfl) (fun M9 => ?_)
          refine dp_s1 hF (i := .iconst (-1)) rfl (fun _ => rfl) ?_
          exact dp_s0 hF (i := .ireturn) rfl (fun _ => rfl)
        exact rfl
      exact rfl
    exact rfl
  exact rfl
set_option maxRecDepth 20000 in
theorem D_X12_takesWord_123_eq (xs : Nat → Int32) (xl d : Nat) (v1 : Int32) (v2 : Int32) (v3 : Int32) (v4 : Int32) (v5 : Int32) (M : dp_M) : D_X12_takesWord_123 xs xl d v1 v2 v3 v4 v5 M = dp_bi (dp_den true xs xl d 475 [.ref 114, .int v1] M) (fun r2 M1 => if r2 = 0 then (some (.inl (some (.int (-1 : Int32))), M1)) else (if v4 = 0 then (if v5 = 0 then (if v2 = 0 then (dp_bv (dp_den true xs xl d 480 [.ref 114, .int (6 : Int32), .int v1] M1) (fun M3 => dp_bv (dp_den true xs xl d 468 [.ref 114, .int (40 : Int32)] M3) (fun M4 => some (.inl (some (.int (-1 : Int32))), M4)))) else (dp_bv (dp_den true xs xl d 480 [.ref 114, .int (5 : Int32), .int v1] M1) (fun M5 => dp_bv (dp_den true xs xl d 468 [.ref 114, .int (40 : Int32)] M5) (fun M6 => some (.inl (some (.int (-1 : Int32))), M6))))) else (dp_bi (dp_den true xs xl d 479 [.ref 114] M1) (fun r8 M7 => some (.inl (some (.int r8)), M7)))) else (dp_bi (dp_den true xs xl d 476 [.ref 114, .int (0 : Int32), .int (0 : Int32), .int (-1 : Int32), .int (-1 : Int32), .int (-1 : Int32)] M1) (fun r10 M9 => some (.inl (some (.int r10)), M9))))) := by
  have hF := dp_den_grow (md := true) (xs := xs) (xl := xl) d
  unfold D_X12_takesWord_123
  refine dp_s1 hF (i := .aload_n 0) rfl (fun _ => rfl) ?_
  refine dp_s1 hF (i := .iload_n 1) rfl (fun _ => rfl) ?_
  refine dp_si (mj := dp_m_X12_counts) (i := .invokevirtual 791) rfl rfl (Or.inr rfl) rfl (fun _ => rfl) (fun r2 M1 => ?_)
  refine dp_s2 hF (i := .ifCond .ne 5) (a := (131, [some (.ref 114), some (.int v1), some (.int v2), some (.int v3), some (.int v4), some (.int v5)], [], M1)) (b := (133, [some (.ref 114), some (.int v1), some (.int v2), some (.int v3), some (.int v4), some (.int v5)], [], M1)) rfl (fun _ => rfl) ?_ ?_
  · refine dp_s1 hF (i := .iconst (-1)) rfl (fun _ => rfl) ?_
    exact dp_s0 hF (i := .ireturn) rfl (fun _ => rfl)
  refine dp_s1 hF (i := .iload 4) rfl (fun _ => rfl) ?_
  refine dp_s2 hF (i := .ifCond .eq 13) (a := (148, [some (.ref 114), some (.int v1), some (.int v2), some (.int v3), some (.int v4), some (.int v5)], [], M1)) (b := (138, [some (.ref 114), some (.int v1), some (.int v2), some (.int v3), some (.int v4), some (.int v5)], [], M1)) rfl (fun _ => rfl) ?_ ?_
  · refine dp_s1 hF (i := .iload 5) rfl (fun _ => rfl) ?_
    refine dp_s2 hF (i := .ifCond .eq 8) (a := (158, [some (.ref 114), some (.int v1), some (.int v2), some (.int v3), some (.int v4), some (.int v5)], [], M1)) (b := (153, [some (.ref 114), some (.int v1), some (.int v2), some (.int v3), some (.int v4), some (.int v5)], [], M1)) rfl (fun _ => rfl) ?_ ?_
    · refine dp_s1 hF (i := .aload_n 0) rfl (fun _ => rfl) ?_
      refine dp_s1 hF (i := .iload_n 2) rfl (fun _ => rfl) ?_
      refine dp_s2 hF (i := .ifCond .eq 7) (a := (167, [some (.ref 114), some (.int v1), some (.int v2), some (.int v3), some (.int v4), some (.int v5)], [.ref 114], M1)) (b := (163, [some (.ref 114), some (.int v1), some (.int v2), some (.int v3), some (.int v4), some (.int v5)], [.ref 114], M1)) rfl (fun _ => rfl) ?_ ?_
      · refine dp_s1 hF (i := .bipush 6) rfl (fun _ => rfl) ?_
        refine dp_s1 hF (i := .iload_n 1) rfl (fun _ => rfl) ?_
        refine dp_sv (mj := dp_m_X12_opens) (i := .invokevirtual 797) rfl rfl rfl rfl (fun _ => rfl) (fun M3 => ?_)
        refine dp_s1 hF (i := .aload_n 0) rfl (fun _ => rfl) ?_
        refine dp_s1 hF (i := .bipush 40) rfl (fun _ => rfl) ?_
        refine dp_sv (mj := dp_m_X12_takes) (i := .invokevirtual 764) rfl rfl rfl rfl (fun _ => rfl) (fun M4 => ?_)
        refine dp_s1 hF (i := .iconst (-1)) rfl (fun _ => rfl) ?_
        exact dp_s0 hF (i := .ireturn) rfl (fun _ => rfl)
      refine dp_s1 hF (i := .iconst 5) rfl (fun _ => rfl) ?_
      refine dp_s1 hF (i := .goto 5) rfl (fun _ => rfl) ?_
      refine dp_s1 hF (i := .iload_n 1) rfl (fun _ => rfl) ?_
      refine dp_sv (mj := dp_m_X12_opens) (i := .invokevirtual 797) rfl rfl rfl rfl (fun _ => rfl) (fun M5 => ?_)
      refine dp_s1 hF (i := .aload_n 0) rfl (fun _ => rfl) ?_
      refine dp_s1 hF (i := .bipush 40) rfl (fun _ => rfl) ?_
      refine dp_sv (mj := dp_m_X12_takes) (i := .invokevirtual 764) rfl rfl rfl rfl (fun _ => rfl) (fun M6 => ?_)
      refine dp_s1 hF (i := .iconst (-1)) rfl (fun _ => rfl) ?_
      exact dp_s0 hF (i := .ireturn) rfl (fun _ => rfl)
    refine dp_s1 hF (i := .aload_n 0) rfl (fun _ => rfl) ?_
    refine dp_si (mj := dp_m_X12_takesSteps) (i := .invokevirtual 794) rfl rfl (Or.inl rfl) rfl (fun _ => rfl) (fun r8 M7 => ?_)
    exact dp_s0 hF (i := .ireturn) rfl (fun _ => rfl)
  refine dp_s1 hF (i := .aload_n 0) rfl (fun _ => rfl) ?_
  refine dp_s1 hF (i := .iconst 0) rfl (fun _ => rfl) ?_
  refine dp_s1 hF (i := .iconst 0) rfl (fun _ => rfl) ?_
  refine dp_s1 hF (i := .iconst (-1)) rfl (fun _ => rfl) ?_
  refine dp_s1 hF (i := .iconst (-1)) rfl (fun _ => rfl) ?_
  refine dp_s1 hF (i := .iconst (-1)) rfl (fun _ => rfl) ?_
  refine dp_si (mj := dp_m_X12_makes) (i := .invokevirtual 760) rfl rfl (Or.inl rfl) rfl (fun _ => rfl) (fun r10 M9 => ?_)
  exact dp_s0 hF (i := .ireturn) rfl (fun _ => rfl)
noncomputable def D_X12_takesPart_0 (xs : Nat → Int32) (xl d : Nat)  (M : dp_M) : Option dp_Res := dp_lim true xs xl (dp_den true xs xl d) dp_m_X12_takesPart (0, [some (.ref 114), none, none], [], M)
theorem D_X12_takesPart_0_den (xs : Nat → Int32) (xl d : Nat)  (M : dp_M) : dp_den true xs xl (d + 1) 483 [.ref 114] M = D_X12_takesPart_0 xs xl d  M := rfl
set_option maxRecDepth 20000 in
theorem D_X12_takesPart_0_eq (xs : Nat → Int32) (xl d : Nat)  (M : dp_M) : D_X12_takesPart_0 xs xl d  M = dp_bi (dp_den true xs xl d 466 [.ref 114] M) (fun r2 M1 => dp_w (dp_I M1 114 80) (fun y3 => if r2 = (40 : Int32) then (dp_bv (dp_den true xs xl d 480 [.ref 114, .int (8 : Int32), .int y3] M1) (fun M4 => if 0 ≤ (dp_I M4 114 81) then (dp_w (dp_setI M4 114 80 ((dp_I M4 114 80) + (0 : Int32))) (fun M5 => some (.inl (some (.int (-1 : Int32))), M5))) else (dp_w (dp_setI M4 114 80 ((dp_I M4 114 80) + (1 : Int32))) (fun M6 => some (.inl (some (.int (-1 : Int32))), M6))))) else (dp_bi (dp_den true xs xl d 470 [.int r2] M1) (fun r8 M7 => if r8 = 0 then (dp_bi (dp_den true xs xl d 469 [.int r2] M7) (fun r10 M9 => if r10 = 0 then (if r2 = (-1 : Int32) then (dp_bv (dp_den true xs xl d 467 [.ref 114, .int (dp_I M9 114 79)] M9) (fun M11 => some (.inl (some (.int (-1 : Int32))), M11))) else (dp_bv (dp_den true xs xl d 467 [.ref 114, .int (dp_I M9 114 80)] M9) (fun M12 => some (.inl (some (.int (-1 : Int32))), M12)))) else (dp_bi (dp_den true xs xl d 475 [.ref 114, .int y3] M9) (fun r14 M13 => if r14 = 0 then (some (.inl (some (.int (-1 : Int32))), M13)) else (dp_bi (dp_den true xs xl d 477 [.ref 114] M13) (fun r16 M15 => some (.inl (some (.int r16)), M15))))))) else (dp_bi (dp_den true xs xl d 482 [.ref 114] M7) (fun r18 M17 => some (.inl (some (.int r18)), M17))))))) := by
  have hF := dp_den_grow (md := true) (xs := xs) (xl := xl) d
  unfold D_X12_takesPart_0
  refine dp_s1 hF (i := .aload_n 0) rfl (fun _ => rfl) ?_
  refine dp_si (mj := dp_m_X12_nextSign) (i := .invokevirtual 735) rfl rfl (Or.inl rfl) rfl (fun _ => rfl) (fun r2 M1 => ?_)
  refine dp_s1 hF (i := .istore_n 1) rfl (fun _ => rfl) ?_
  refine dp_s1 hF (i := .aload_n 0) rfl (fun _ => rfl) ?_
  refine dp_s1 hF (i := .getfield 726) rfl (fun _ => rfl) ?_
  refine dp_s1w (dp_I M1 114 80) (fun (y3 : Int32) => (10, [some (.ref 114), some (.int r2), some (.int y3)], [], M1)) hF (i := .istore_n 2) rfl (fun _ => rfl) (fun y3 => ?_)
  refine dp_s1 hF (i := .iload_n 1) rfl (fun _ => rfl) ?_
  refine dp_s1 hF (i := .bipush 40) rfl (fun _ => rfl) ?_
  refine dp_s2 hF (i := .if_icmp .ne 33) (a := (16, [some (.ref 114), some (.int r2), some (.int y3)], [], M1)) (b := (46, [some (.ref 114), some (.int r2), some (.int y3)], [], M1)) rfl (fun _ => rfl) ?_ ?_
  · refine dp_s1 hF (i := .aload_n 0) rfl (fun _ => rfl) ?_
    refine dp_s1 hF (i := .bipush 8) rfl (fun _ => rfl) ?_
    refine dp_s1 hF (i := .iload_n 2) rfl (fun _ => rfl) ?_
    refine dp_sv (mj := dp_m_X12_opens) (i := .invokevirtual 797) rfl rfl rfl rfl (fun _ => rfl) (fun M4 => ?_)
    refine dp_s1 hF (i := .aload_n 0) rfl (fun _ => rfl) ?_
    refine dp_s1 hF (i := .dup) rfl (fun _ => rfl) ?_
    refine dp_s1 hF (i := .getfield 726) rfl (fun _ => rfl) ?_
    refine dp_s1 hF (i := .aload_n 0) rfl (fun _ => rfl) ?_
    refine dp_s1 hF (i := .getfield 732) rfl (fun _ => rfl) ?_
    refine dp_s2 hF (i := .ifCond .ge 7) (a := (39, [some (.ref 114), some (.int r2), some (.int y3)], [.int (dp_I M4 114 80), .ref 114], M4)) (b := (35, [some (.ref 114), some (.int r2), some (.int y3)], [.int (dp_I M4 114 80), .ref 114], M4)) rfl (fun _ => rfl) ?_ ?_
    · refine dp_s1 hF (i := .iconst 0) rfl (fun _ => rfl) ?_
      refine dp_s1 hF (i := .iadd) rfl (fun _ => rfl) ?_
      refine dp_s1w (dp_setI M4 114 80 ((dp_I M4 114 80) + (0 : Int32))) (fun (M5 : dp_M) => (44, [some (.ref 114), some (.int r2), some (.int y3)], [], M5)) hF (i := .putfield 726) rfl (fun _ => rfl) (fun M5 => ?_)
      refine dp_s1 hF (i := .iconst (-1)) rfl (fun _ => rfl) ?_
      exact dp_s0 hF (i := .ireturn) rfl (fun _ => rfl)
    refine dp_s1 hF (i := .iconst 1) rfl (fun _ => rfl) ?_
    refine dp_s1 hF (i := .goto 4) rfl (fun _ => rfl) ?_
    refine dp_s1 hF (i := .iadd) rfl (fun _ => rfl) ?_
    refine dp_s1w (dp_setI M4 114 80 ((dp_I M4 114 80) + (1 : Int32))) (fun (M6 : dp_M) => (44, [some (.ref 114), some (.int r2), some (.int y3)], [], M6)) hF (i := .putfield 726) rfl (fun _ => rfl) (fun M6 => ?_)
    refine dp_s1 hF (i := .iconst (-1)) rfl (fun _ => rfl) ?_
    exact dp_s0 hF (i := .ireturn) rfl (fun _ => rfl)
  refine dp_s1 hF (i := .iload_n 1) rfl (fun _ => rfl) ?_
  refine dp_si (mj := dp_m_X12_isSmall) (i := .invokestatic 776) rfl rfl (Or.inr rfl) rfl (fun _ => rfl) (fun r8 M7 => ?_)
  refine dp_s2 hF (i := .ifCond .eq 8) (a := (58, [some (.ref 114), some (.int r2), some (.int y3)], [], M7)) (b := (53, [some (.ref 114), some (.int r2), some (.int y3)], [], M7)) rfl (fun _ => rfl) ?_ ?_
  · refine dp_s1 hF (i := .iload_n 1) rfl (fun _ => rfl) ?_
    refine dp_si (mj := dp_m_X12_isDigit) (i := .invokestatic 742) rfl rfl (Or.inr rfl) rfl (fun _ => rfl) (fun r10 M9 => ?_)
    refine dp_s2 hF (i := .ifCond .ne 25) (a := (65, [some (.ref 114), some (.int r2), some (.int y3)], [], M9)) (b := (87, [some (.ref 114), some (.int r2), some (.int y3)], [], M9)) rfl (fun _ => rfl) ?_ ?_
    · refine dp_s1 hF (i := .aload_n 0) rfl (fun _ => rfl) ?_
      refine dp_s1 hF (i := .iload_n 1) rfl (fun _ => rfl) ?_
      refine dp_s1 hF (i := .iconst (-1)) rfl (fun _ => rfl) ?_
      refine dp_s2 hF (i := .if_icmp .ne 10) (a := (71, [some (.ref 114), some (.int r2), some (.int y3)], [.ref 114], M9)) (b := (78, [some (.ref 114), some (.int r2), some (.int y3)], [.ref 114], M9)) rfl (fun _ => rfl) ?_ ?_
      · refine dp_s1 hF (i := .aload_n 0) rfl (fun _ => rfl) ?_
        refine dp_s1 hF (i := .getfield 729) rfl (fun _ => rfl) ?_
        refine dp_s1 hF (i := .goto 7) rfl (fun _ => rfl) ?_
        refine dp_sv (mj := dp_m_X12_stops) (i := .invokevirtual 738) rfl rfl rfl rfl (fun _ => rfl) (fun M11 => ?_)
        refine dp_s1 hF (i := .iconst (-1)) rfl (fun _ => rfl) ?_
        exact dp_s0 hF (i := .ireturn) rfl (fun _ => rfl)
      refine dp_s1 hF (i := .aload_n 0) rfl (fun _ => rfl) ?_
      refine dp_s1 hF (i := .getfield 726) rfl (fun _ => rfl) ?_
      refine dp_sv (mj := dp_m_X12_stops) (i := .invokevirtual 738) rfl rfl rfl rfl (fun _ => rfl) (fun M12 => ?_)
      refine dp_s1 hF (i := .iconst (-1)) rfl (fun _ => rfl) ?_
      exact dp_s0 hF (i := .ireturn) rfl (fun _ => rfl)
    refine dp_s1 hF (i := .aload_n 0) rfl (fun _ => rfl) ?_
    refine dp_s1 hF (i := .iload_n 2) rfl (fun _ => rfl) ?_
    refine dp_si (mj := dp_m_X12_counts) (i := .invokevirtual 791) rfl rfl (Or.inr rfl) rfl (fun _ => rfl) (fun r14 M13 => ?_)
    refine dp_s2 hF (i := .ifCond .eq 10) (a := (102, [some (.ref 114), some (.int r2), some (.int y3)], [], M13)) (b := (95, [some (.ref 114), some (.int r2), some (.int y3)], [], M13)) rfl (fun _ => rfl) ?_ ?_
    · refine dp_s1 hF (i := .iconst (-1)) rfl (fun _ => rfl) ?_
      exact dp_s0 hF (i := .ireturn) rfl (fun _ => rfl)
    refine dp_s1 hF (i := .aload_n 0) rfl (fun _ => rfl) ?_
    refine dp_si (mj := dp_m_X12_takesShare) (i := .invokevirtual 803) rfl rfl (Or.inl rfl) rfl (fun _ => rfl) (fun r16 M15 => ?_)
    refine dp_s1 hF (i := .goto 4) rfl (fun _ => rfl) ?_
    exact dp_s0 hF (i := .ireturn) rfl (fun _ => rfl)
  refine dp_s1 hF (i := .aload_n 0) rfl (fun _ => rfl) ?_
  refine dp_si (mj := dp_m_X12_takesWord) (i := .invokevirtual 800) rfl rfl (Or.inl rfl) rfl (fun _ => rfl) (fun r18 M17 => ?_)
  exact dp_s0 hF (i := .ireturn) rfl (fun _ => rfl)
noncomputable def D_X12_joins_0 (xs : Nat → Int32) (xl d : Nat) (v1 : Int32) (M : dp_M) : Option dp_Res := dp_lim true xs xl (dp_den true xs xl d) dp_m_X12_joins (0, [some (.ref 114), some (.int v1), none], [], M)
theorem D_X12_joins_0_den (xs : Nat → Int32) (xl d : Nat) (a0 : Int32) (M : dp_M) : dp_den true xs xl (d + 1) 484 [.ref 114, .int a0] M = D_X12_joins_0 xs xl d a0 M := rfl
set_option maxRecDepth 20000 in
theorem D_X12_joins_0_eq (xs : Nat → Int32) (xl d : Nat) (v1 : Int32) (M : dp_M) : D_X12_joins_0 xs xl d v1 M = dp_w ((dp_I M 114 97) - (1 : Int32)) (fun y1 => if y1 < 0 ∨ 14 ≤ Int32.toNatClampNeg y1 then none else (if (dp_I M 185 (Int32.toNatClampNeg y1)) = 0 then (if y1 < 0 ∨ 14 ≤ Int32.toNatClampNeg y1 then none else dp_w (dp_setI M 184 (Int32.toNatClampNeg y1) v1) (fun M2 => if y1 < 0 ∨ 14 ≤ Int32.toNatClampNeg y1 then none else dp_w (dp_setI M2 185 (Int32.toNatClampNeg y1) (0 : Int32)) (fun M3 => some (.inl none, M3)))) else (if y1 < 0 ∨ 14 ≤ Int32.toNatClampNeg y1 then none else (if y1 < 0 ∨ 14 ≤ Int32.toNatClampNeg y1 then none else (dp_bi (dp_den true xs xl d 476 [.ref 114, .int (dp_I M 185 (Int32.toNatClampNeg y1)), .int (0 : Int32), .int (-1 : Int32), .int (dp_I M 184 (Int32.toNatClampNeg y1)), .int v1] M) (fun r5 M4 => if y1 < 0 ∨ 14 ≤ Int32.toNatClampNeg y1 then none else dp_w (dp_setI M4 184 (Int32.toNatClampNeg y1) r5) (fun M6 => if y1 < 0 ∨ 14 ≤ Int32.toNatClampNeg y1 then none else dp_w (dp_setI M6 185 (Int32.toNatClampNeg y1) (0 : Int32)) (fun M7 => some (.inl none, M7))))))))) := by
  have hF := dp_den_grow (md := true) (xs := xs) (xl := xl) d
  unfold D_X12_joins_0
  refine dp_s1 hF (i := .aload_n 0) rfl (fun _ => rfl) ?_
  refine dp_s1 hF (i := .getfield 773) rfl (fun _ => rfl) ?_
  refine dp_s1 hF (i := .iconst 1) rfl (fun _ => rfl) ?_
  refine dp_s1 hF (i := .isub) rfl (fun _ => rfl) ?_
  refine dp_s1w ((dp_I M 114 97) - (1 : Int32)) (fun (y1 : Int32) => (7, [some (.ref 114), some (.int v1), some (.int y1)], [], M)) hF (i := .istore_n 2) rfl (fun _ => rfl) (fun y1 => ?_)
  refine dp_s1 hF (i := .aload_n 0) rfl (fun _ => rfl) ?_
  refine dp_s1 hF (i := .getfield 224) rfl (fun _ => rfl) ?_
  refine dp_s1 hF (i := .iload_n 2) rfl (fun _ => rfl) ?_
  refine dp_s1 hF (i := .aload_n 0) rfl (fun _ => rfl) ?_
  refine dp_s1 hF (i := .getfield 227) rfl (fun _ => rfl) ?_
  refine dp_s1 hF (i := .iload_n 2) rfl (fun _ => rfl) ?_
  refine dp_s3 hF (i := .iaload) rfl (fun _ => rfl) ?_
  refine dp_s2 hF (i := .ifCond .ne 7) (a := (21, [some (.ref 114), some (.int v1), some (.int y1)], [.int y1, .ref 184], M)) (b := (25, [some (.ref 114), some (.int v1), some (.int y1)], [.int y1, .ref 184], M)) rfl (fun _ => rfl) ?_ ?_
  · refine dp_s1 hF (i := .iload_n 1) rfl (fun _ => rfl) ?_
    refine dp_s1 hF (i := .goto 22) rfl (fun _ => rfl) ?_
    refine dp_s3w (dp_setI M 184 (Int32.toNatClampNeg y1) v1) (fun (M2 : dp_M) => (45, [some (.ref 114), some (.int v1), some (.int y1)], [], M2)) hF (i := .iastore) rfl (fun _ => rfl) (fun M2 => ?_)
    refine dp_s1 hF (i := .aload_n 0) rfl (fun _ => rfl) ?_
    refine dp_s1 hF (i := .getfield 227) rfl (fun _ => rfl) ?_
    refine dp_s1 hF (i := .iload_n 2) rfl (fun _ => rfl) ?_
    refine dp_s1 hF (i := .iconst 0) rfl (fun _ => rfl) ?_
    refine dp_s3w (dp_setI M2 185 (Int32.toNatClampNeg y1) (0 : Int32)) (fun (M3 : dp_M) => (52, [some (.ref 114), some (.int v1), some (.int y1)], [], M3)) hF (i := .iastore) rfl (fun _ => rfl) (fun M3 => ?_)
    exact dp_s0 hF (i := .return_) rfl (fun _ => rfl)
  refine dp_s1 hF (i := .aload_n 0) rfl (fun _ => rfl) ?_
  refine dp_s1 hF (i := .aload_n 0) rfl (fun _ => rfl) ?_
  refine dp_s1 hF (i := .getfield 227) rfl (fun _ => rfl) ?_
  refine dp_s1 hF (i := .iload_n 2) rfl (fun _ => rfl) ?_
  refine dp_s3 hF (i := .iaload) rfl (fun _ => rfl) ?_
  refine dp_s1 hF (i := .iconst 0) rfl (fun _ => rfl) ?_
  refine dp_s1 hF (i := .iconst (-1)) rfl (fun _ => rfl) ?_
  refine dp_s1 hF (i := .aload_n 0) rfl (fun _ => rfl) ?_
  refine dp_s1 hF (i := .getfield 224) rfl (fun _ => rfl) ?_
  refine dp_s1 hF (i := .iload_n 2) rfl (fun _ => rfl) ?_
  refine dp_s3 hF (i := .iaload) rfl (fun _ => rfl) ?_
  refine dp_s1 hF (i := .iload_n 1) rfl (fun _ => rfl) ?_
  refine dp_si (mj := dp_m_X12_makes) (i := .invokevirtual 760) rfl rfl (Or.inl rfl) rfl (fun _ => rfl) (fun r5 M4 => ?_)
  refine dp_s3w (dp_setI M4 184 (Int32.toNatClampNeg y1) r5) (fun (M6 : dp_M) => (45, [some (.ref 114), some (.int v1), some (.int y1)], [], M6)) hF (i := .iastore) rfl (fun _ => rfl) (fun M6 => ?_)
  refine dp_s1 hF (i := .aload_n 0) rfl (fun _ => rfl) ?_
  refine dp_s1 hF (i := .getfield 227) rfl (fun _ => rfl) ?_
  refine dp_s1 hF (i := .iload_n 2) rfl (fun _ => rfl) ?_
  refine dp_s1 hF (i := .iconst 0) rfl (fun _ => rfl) ?_
  refine dp_s3w (dp_setI M6 185 (Int32.toNatClampNeg y1) (0 : Int32)) (fun (M7 : dp_M) => (52, [some (.ref 114), some (.int v1), some (.int y1)], [], M7)) hF (i := .iastore) rfl (fun _ => rfl) (fun M7 => ?_)
  exact dp_s0 hF (i := .return_) rfl (fun _ => rfl)
noncomputable def D_X12_takesBehind_0 (xs : Nat → Int32) (xl d : Nat)  (M : dp_M) : Option dp_Res := dp_lim true xs xl (dp_den true xs xl d) dp_m_X12_takesBehind (0, [some (.ref 114), none, none, none], [], M)
noncomputable def D_X12_takesBehind_24 (xs : Nat → Int32) (xl d : Nat) (v1 : Int32) (v2 : Int32) (M : dp_M) : Option dp_Res := dp_lim true xs xl (dp_den true xs xl d) dp_m_X12_takesBehind (24, [some (.ref 114), some (.int v1), some (.int v2), none], [], M)
noncomputable def D_X12_takesBehind_92 (xs : Nat → Int32) (xl d : Nat) (v1 : Int32) (v2 : Int32) (vs0 : Int32) (M : dp_M) : Option dp_Res := dp_lim true xs xl (dp_den true xs xl d) dp_m_X12_takesBehind (92, [some (.ref 114), some (.int v1), some (.int v2), none], [.int vs0], M)
noncomputable def D_X12_takesBehind_144 (xs : Nat → Int32) (xl d : Nat) (v1 : Int32) (v2 : Int32) (v3 : Int32) (M : dp_M) : Option dp_Res := dp_lim true xs xl (dp_den true xs xl d) dp_m_X12_takesBehind (144, [some (.ref 114), some (.int v1), some (.int v2), some (.int v3)], [], M)
noncomputable def D_X12_takesBehind_175 (xs : Nat → Int32) (xl d : Nat) (v1 : Int32) (v2 : Int32) (v3 : Int32) (M : dp_M) : Option dp_Res := dp_lim true xs xl (dp_den true xs xl d) dp_m_X12_takesBehind (175, [some (.ref 114), some (.int v1), some (.int v2), some (.int v3)], [], M)
noncomputable def D_X12_takesBehind_247 (xs : Nat → Int32) (xl d : Nat) (v1 : Int32) (v2 : Int32) (v3 : Int32) (M : dp_M) : Option dp_Res := dp_lim true xs xl (dp_den true xs xl d) dp_m_X12_takesBehind (247, [some (.ref 114), some (.int v1), some (.int v2), some (.int v3)], [], M)
theorem D_X12_takesBehind_0_den (xs : Nat → Int32) (xl d : Nat)  (M : dp_M) : dp_den true xs xl (d + 1) 485 [.ref 114] M = D_X12_takesBehind_0 xs xl d  M := rfl
set_option maxRecDepth 20000 in
theorem D_X12_takesBehind_0_eq (xs : Nat → Int32) (xl d : Nat)  (M : dp_M) : D_X12_takesBehind_0 xs xl d  M = dp_bi (dp_den true xs xl d 466 [.ref 114] M) (fun r2 M1 => dp_w ((dp_I M1 114 97) - (1 : Int32)) (fun y3 => if r2 = (43 : Int32) then (D_X12_takesBehind_24 xs xl d r2 y3 M1) else (if r2 = (45 : Int32) then (D_X12_takesBehind_24 xs xl d r2 y3 M1) else (if y3 < 0 ∨ 14 ≤ Int32.toNatClampNeg y3 then none else (if (dp_I M1 182 (Int32.toNatClampNeg y3)) = (5 : Int32) then (D_X12_takesBehind_92 xs xl d r2 y3 (1 : Int32) M1) else (if y3 < 0 ∨ 14 ≤ Int32.toNatClampNeg y3 then none else (if (dp_I M1 182 (Int32.toNatClampNeg y3)) = (6 : Int32) then (D_X12_takesBehind_92 xs xl d r2 y3 (1 : Int32) M1) else (D_X12_takesBehind_92 xs xl d r2 y3 (0 : Int32) M1)))))))) := by
  have hF := dp_den_grow (md := true) (xs := xs) (xl := xl) d
  unfold D_X12_takesBehind_0
  refine dp_s1 hF (i := .aload_n 0) rfl (fun _ => rfl) ?_
  refine dp_si (mj := dp_m_X12_nextSign) (i := .invokevirtual 735) rfl rfl (Or.inl rfl) rfl (fun _ => rfl) (fun r2 M1 => ?_)
  refine dp_s1 hF (i := .istore_n 1) rfl (fun _ => rfl) ?_
  refine dp_s1 hF (i := .aload_n 0) rfl (fun _ => rfl) ?_
  refine dp_s1 hF (i := .getfield 773) rfl (fun _ => rfl) ?_
  refine dp_s1 hF (i := .iconst 1) rfl (fun _ => rfl) ?_
  refine dp_s1 hF (i := .isub) rfl (fun _ => rfl) ?_
  refine dp_s1w ((dp_I M1 114 97) - (1 : Int32)) (fun (y3 : Int32) => (12, [some (.ref 114), some (.int r2), some (.int y3), none], [], M1)) hF (i := .istore_n 2) rfl (fun _ => rfl) (fun y3 => ?_)
  refine dp_s1 hF (i := .iload_n 1) rfl (fun _ => rfl) ?_
  refine dp_s1 hF (i := .bipush 43) rfl (fun _ => rfl) ?_
  refine dp_s2 hF (i := .if_icmp .eq 9) (a := (24, [some (.ref 114), some (.int r2), some (.int y3), none], [], M1)) (b := (18, [some (.ref 114), some (.int r2), some (.int y3), none], [], M1)) rfl (fun _ => rfl) ?_ ?_
  · exact rfl
  refine dp_s1 hF (i := .iload_n 1) rfl (fun _ => rfl) ?_
  refine dp_s1 hF (i := .bipush 45) rfl (fun _ => rfl) ?_
  refine dp_s2 hF (i := .if_icmp .ne 45) (a := (24, [some (.ref 114), some (.int r2), some (.int y3), none], [], M1)) (b := (66, [some (.ref 114), some (.int r2), some (.int y3), none], [], M1)) rfl (fun _ => rfl) ?_ ?_
  · exact rfl
  refine dp_s1 hF (i := .aload_n 0) rfl (fun _ => rfl) ?_
  refine dp_s1 hF (i := .getfield 218) rfl (fun _ => rfl) ?_
  refine dp_s1 hF (i := .iload_n 2) rfl (fun _ => rfl) ?_
  refine dp_s3 hF (i := .iaload) rfl (fun _ => rfl) ?_
  refine dp_s1 hF (i := .iconst 5) rfl (fun _ => rfl) ?_
  refine dp_s2 hF (i := .if_icmp .eq 14) (a := (87, [some (.ref 114), some (.int r2), some (.int y3), none], [], M1)) (b := (76, [some (.ref 114), some (.int r2), some (.int y3), none], [], M1)) rfl (fun _ => rfl) ?_ ?_
  · refine dp_s1 hF (i := .iconst 1) rfl (fun _ => rfl) ?_
    refine dp_s1 hF (i := .goto 4) rfl (fun _ => rfl) ?_
    exact rfl
  refine dp_s1 hF (i := .aload_n 0) rfl (fun _ => rfl) ?_
  refine dp_s1 hF (i := .getfield 218) rfl (fun _ => rfl) ?_
  refine dp_s1 hF (i := .iload_n 2) rfl (fun _ => rfl) ?_
  refine dp_s3 hF (i := .iaload) rfl (fun _ => rfl) ?_
  refine dp_s1 hF (i := .bipush 6) rfl (fun _ => rfl) ?_
  refine dp_s2 hF (i := .if_icmp .ne 7) (a := (87, [some (.ref 114), some (.int r2), some (.int y3), none], [], M1)) (b := (91, [some (.ref 114), some (.int r2), some (.int y3), none], [], M1)) rfl (fun _ => rfl) ?_ ?_
  · refine dp_s1 hF (i := .iconst 1) rfl (fun _ => rfl) ?_
    refine dp_s1 hF (i := .goto 4) rfl (fun _ => rfl) ?_
    exact rfl
  refine dp_s1 hF (i := .iconst 0) rfl (fun _ => rfl) ?_
  exact rfl
set_option maxRecDepth 20000 in
theorem D_X12_takesBehind_24_eq (xs : Nat → Int32) (xl d : Nat) (v1 : Int32) (v2 : Int32) (M : dp_M) : D_X12_takesBehind_24 xs xl d v1 v2 M = dp_bi (dp_den true xs xl d 475 [.ref 114, .int (dp_I M 114 80)] M) (fun r2 M1 => if r2 = 0 then (some (.inl (some (.int (0 : Int32))), M1)) else (if v1 = (43 : Int32) then (if v2 < 0 ∨ 14 ≤ Int32.toNatClampNeg v2 then none else dp_w (dp_setI M1 185 (Int32.toNatClampNeg v2) (3 : Int32)) (fun M3 => dp_w (dp_setI M3 114 80 ((dp_I M3 114 80) + (1 : Int32))) (fun M4 => some (.inl (some (.int (1 : Int32))), M4)))) else (if v2 < 0 ∨ 14 ≤ Int32.toNatClampNeg v2 then none else dp_w (dp_setI M1 185 (Int32.toNatClampNeg v2) (4 : Int32)) (fun M5 => dp_w (dp_setI M5 114 80 ((dp_I M5 114 80) + (1 : Int32))) (fun M6 => some (.inl (some (.int (1 : Int32))), M6)))))) := by
  have hF := dp_den_grow (md := true) (xs := xs) (xl := xl) d
  unfold D_X12_takesBehind_24
  refine dp_s1 hF (i := .aload_n 0) rfl (fun _ => rfl) ?_
  refine dp_s1 hF (i := .aload_n 0) rfl (fun _ => rfl) ?_
  refine dp_s1 hF (i := .getfield 726) rfl (fun _ => rfl) ?_
  refine dp_si (mj := dp_m_X12_counts) (i := .invokevirtual 791) rfl rfl (Or.inr rfl) rfl (fun _ => rfl) (fun r2 M1 => ?_)
  refine dp_s2 hF (i := .ifCond .ne 5) (a := (35, [some (.ref 114), some (.int v1), some (.int v2), none], [], M1)) (b := (37, [some (.ref 114), some (.int v1), some (.int v2), none], [], M1)) rfl (fun _ => rfl) ?_ ?_
  · refine dp_s1 hF (i := .iconst 0) rfl (fun _ => rfl) ?_
    exact dp_s0 hF (i := .ireturn) rfl (fun _ => rfl)
  refine dp_s1 hF (i := .aload_n 0) rfl (fun _ => rfl) ?_
  refine dp_s1 hF (i := .getfield 227) rfl (fun _ => rfl) ?_
  refine dp_s1 hF (i := .iload_n 2) rfl (fun _ => rfl) ?_
  refine dp_s1 hF (i := .iload_n 1) rfl (fun _ => rfl) ?_
  refine dp_s1 hF (i := .bipush 43) rfl (fun _ => rfl) ?_
  refine dp_s2 hF (i := .if_icmp .ne 7) (a := (48, [some (.ref 114), some (.int v1), some (.int v2), none], [.int v2, .ref 185], M1)) (b := (52, [some (.ref 114), some (.int v1), some (.int v2), none], [.int v2, .ref 185], M1)) rfl (fun _ => rfl) ?_ ?_
  · refine dp_s1 hF (i := .iconst 3) rfl (fun _ => rfl) ?_
    refine dp_s1 hF (i := .goto 4) rfl (fun _ => rfl) ?_
    refine dp_s3w (dp_setI M1 185 (Int32.toNatClampNeg v2) (3 : Int32)) (fun (M3 : dp_M) => (54, [some (.ref 114), some (.int v1), some (.int v2), none], [], M3)) hF (i := .iastore) rfl (fun _ => rfl) (fun M3 => ?_)
    refine dp_s1 hF (i := .aload_n 0) rfl (fun _ => rfl) ?_
    refine dp_s1 hF (i := .dup) rfl (fun _ => rfl) ?_
    refine dp_s1 hF (i := .getfield 726) rfl (fun _ => rfl) ?_
    refine dp_s1 hF (i := .iconst 1) rfl (fun _ => rfl) ?_
    refine dp_s1 hF (i := .iadd) rfl (fun _ => rfl) ?_
    refine dp_s1w (dp_setI M3 114 80 ((dp_I M3 114 80) + (1 : Int32))) (fun (M4 : dp_M) => (64, [some (.ref 114), some (.int v1), some (.int v2), none], [], M4)) hF (i := .putfield 726) rfl (fun _ => rfl) (fun M4 => ?_)
    refine dp_s1 hF (i := .iconst 1) rfl (fun _ => rfl) ?_
    exact dp_s0 hF (i := .ireturn) rfl (fun _ => rfl)
  refine dp_s1 hF (i := .iconst 4) rfl (fun _ => rfl) ?_
  refine dp_s3w (dp_setI M1 185 (Int32.toNatClampNeg v2) (4 : Int32)) (fun (M5 : dp_M) => (54, [some (.ref 114), some (.int v1), some (.int v2), none], [], M5)) hF (i := .iastore) rfl (fun _ => rfl) (fun M5 => ?_)
  refine dp_s1 hF (i := .aload_n 0) rfl (fun _ => rfl) ?_
  refine dp_s1 hF (i := .dup) rfl (fun _ => rfl) ?_
  refine dp_s1 hF (i := .getfield 726) rfl (fun _ => rfl) ?_
  refine dp_s1 hF (i := .iconst 1) rfl (fun _ => rfl) ?_
  refine dp_s1 hF (i := .iadd) rfl (fun _ => rfl) ?_
  refine dp_s1w (dp_setI M5 114 80 ((dp_I M5 114 80) + (1 : Int32))) (fun (M6 : dp_M) => (64, [some (.ref 114), some (.int v1), some (.int v2), none], [], M6)) hF (i := .putfield 726) rfl (fun _ => rfl) (fun M6 => ?_)
  refine dp_s1 hF (i := .iconst 1) rfl (fun _ => rfl) ?_
  exact dp_s0 hF (i := .ireturn) rfl (fun _ => rfl)
set_option maxRecDepth 20000 in
theorem D_X12_takesBehind_92_eq (xs : Nat → Int32) (xl d : Nat) (v1 : Int32) (v2 : Int32) (vs0 : Int32) (M : dp_M) : D_X12_takesBehind_92 xs xl d v1 v2 vs0 M = if v1 = (44 : Int32) then (if vs0 = 0 then (D_X12_takesBehind_144 xs xl d v1 v2 vs0 M) else (if v2 < 0 ∨ 14 ≤ Int32.toNatClampNeg v2 then none else (if (dp_I M 183 (Int32.toNatClampNeg v2)) = (-1 : Int32) then (if v2 < 0 ∨ 14 ≤ Int32.toNatClampNeg v2 then none else (if v2 < 0 ∨ 14 ≤ Int32.toNatClampNeg v2 then none else dp_w (dp_setI M 183 (Int32.toNatClampNeg v2) (dp_I M 184 (Int32.toNatClampNeg v2))) (fun M1 => if v2 < 0 ∨ 14 ≤ Int32.toNatClampNeg v2 then none else dp_w (dp_setI M1 184 (Int32.toNatClampNeg v2) (-1 : Int32)) (fun M2 => dp_w (dp_setI M2 114 80 ((dp_I M2 114 80) + (1 : Int32))) (fun M3 => some (.inl (some (.int (1 : Int32))), M3)))))) else (D_X12_takesBehind_144 xs xl d v1 v2 vs0 M)))) else (D_X12_takesBehind_144 xs xl d v1 v2 vs0 M) := by
  have hF := dp_den_grow (md := true) (xs := xs) (xl := xl) d
  unfold D_X12_takesBehind_92
  refine dp_s1 hF (i := .istore_n 3) rfl (fun _ => rfl) ?_
  refine dp_s1 hF (i := .iload_n 1) rfl (fun _ => rfl) ?_
  refine dp_s1 hF (i := .bipush 44) rfl (fun _ => rfl) ?_
  refine dp_s2 hF (i := .if_icmp .ne 48) (a := (99, [some (.ref 114), some (.int v1), some (.int v2), some (.int vs0)], [], M)) (b := (144, [some (.ref 114), some (.int v1), some (.int v2), some (.int vs0)], [], M)) rfl (fun _ => rfl) ?_ ?_
  · refine dp_s1 hF (i := .iload_n 3) rfl (fun _ => rfl) ?_
    refine dp_s2 hF (i := .ifCond .eq 44) (a := (144, [some (.ref 114), some (.int v1), some (.int v2), some (.int vs0)], [], M)) (b := (103, [some (.ref 114), some (.int v1), some (.int v2), some (.int vs0)], [], M)) rfl (fun _ => rfl) ?_ ?_
    · exact rfl
    refine dp_s1 hF (i := .aload_n 0) rfl (fun _ => rfl) ?_
    refine dp_s1 hF (i := .getfield 221) rfl (fun _ => rfl) ?_
    refine dp_s1 hF (i := .iload_n 2) rfl (fun _ => rfl) ?_
    refine dp_s3 hF (i := .iaload) rfl (fun _ => rfl) ?_
    refine dp_s1 hF (i := .iconst (-1)) rfl (fun _ => rfl) ?_
    refine dp_s2 hF (i := .if_icmp .ne 34) (a := (113, [some (.ref 114), some (.int v1), some (.int v2), some (.int vs0)], [], M)) (b := (144, [some (.ref 114), some (.int v1), some (.int v2), some (.int vs0)], [], M)) rfl (fun _ => rfl) ?_ ?_
    · refine dp_s1 hF (i := .aload_n 0) rfl (fun _ => rfl) ?_
      refine dp_s1 hF (i := .getfield 221) rfl (fun _ => rfl) ?_
      refine dp_s1 hF (i := .iload_n 2) rfl (fun _ => rfl) ?_
      refine dp_s1 hF (i := .aload_n 0) rfl (fun _ => rfl) ?_
      refine dp_s1 hF (i := .getfield 224) rfl (fun _ => rfl) ?_
      refine dp_s1 hF (i := .iload_n 2) rfl (fun _ => rfl) ?_
      refine dp_s3 hF (i := .iaload) rfl (fun _ => rfl) ?_
      refine dp_s3w (dp_setI M 183 (Int32.toNatClampNeg v2) (dp_I M 184 (Int32.toNatClampNeg v2))) (fun (M1 : dp_M) => (125, [some (.ref 114), some (.int v1), some (.int v2), some (.int vs0)], [], M1)) hF (i := .iastore) rfl (fun _ => rfl) (fun M1 => ?_)
      refine dp_s1 hF (i := .aload_n 0) rfl (fun _ => rfl) ?_
      refine dp_s1 hF (i := .getfield 224) rfl (fun _ => rfl) ?_
      refine dp_s1 hF (i := .iload_n 2) rfl (fun _ => rfl) ?_
      refine dp_s1 hF (i := .iconst (-1)) rfl (fun _ => rfl) ?_
      refine dp_s3w (dp_setI M1 184 (Int32.toNatClampNeg v2) (-1 : Int32)) (fun (M2 : dp_M) => (132, [some (.ref 114), some (.int v1), some (.int v2), some (.int vs0)], [], M2)) hF (i := .iastore) rfl (fun _ => rfl) (fun M2 => ?_)
      refine dp_s1 hF (i := .aload_n 0) rfl (fun _ => rfl) ?_
      refine dp_s1 hF (i := .dup) rfl (fun _ => rfl) ?_
      refine dp_s1 hF (i := .getfield 726) rfl (fun _ => rfl) ?_
      refine dp_s1 hF (i := .iconst 1) rfl (fun _ => rfl) ?_
      refine dp_s1 hF (i := .iadd) rfl (fun _ => rfl) ?_
      refine dp_s1w (dp_setI M2 114 80 ((dp_I M2 114 80) + (1 : Int32))) (fun (M3 : dp_M) => (142, [some (.ref 114), some (.int v1), some (.int v2), some (.int vs0)], [], M3)) hF (i := .putfield 726) rfl (fun _ => rfl) (fun M3 => ?_)
      refine dp_s1 hF (i := .iconst 1) rfl (fun _ => rfl) ?_
      exact dp_s0 hF (i := .ireturn) rfl (fun _ => rfl)
    exact rfl
  exact rfl
set_option maxRecDepth 20000 in
theorem D_X12_takesBehind_144_eq (xs : Nat → Int32) (xl d : Nat) (v1 : Int32) (v2 : Int32) (v3 : Int32) (M : dp_M) : D_X12_takesBehind_144 xs xl d v1 v2 v3 M = if v1 = (41 : Int32) then (if v2 < 0 ∨ 14 ≤ Int32.toNatClampNeg v2 then none else (if (dp_I M 182 (Int32.toNatClampNeg v2)) = (8 : Int32) then (D_X12_takesBehind_175 xs xl d v1 v2 v3 M) else (if v3 = 0 then (if v1 = (-1 : Int32) then (if v2 ≤ 0 then (some (.inl (some (.int (0 : Int32))), M)) else (D_X12_takesBehind_247 xs xl d v1 v2 v3 M)) else (D_X12_takesBehind_247 xs xl d v1 v2 v3 M)) else (if v2 < 0 ∨ 14 ≤ Int32.toNatClampNeg v2 then none else (if (dp_I M 183 (Int32.toNatClampNeg v2)) = (-1 : Int32) then (if v1 = (-1 : Int32) then (if v2 ≤ 0 then (some (.inl (some (.int (0 : Int32))), M)) else (D_X12_takesBehind_247 xs xl d v1 v2 v3 M)) else (D_X12_takesBehind_247 xs xl d v1 v2 v3 M)) else (D_X12_takesBehind_175 xs xl d v1 v2 v3 M)))))) else (if v1 = (-1 : Int32) then (if v2 ≤ 0 then (some (.inl (some (.int (0 : Int32))), M)) else (D_X12_takesBehind_247 xs xl d v1 v2 v3 M)) else (D_X12_takesBehind_247 xs xl d v1 v2 v3 M)) := by
  have hF := dp_den_grow (md := true) (xs := xs) (xl := xl) d
  unfold D_X12_takesBehind_144
  refine dp_s1 hF (i := .iload_n 1) rfl (fun _ => rfl) ?_
  refine dp_s1 hF (i := .bipush 41) rfl (fun _ => rfl) ?_
  refine dp_s2 hF (i := .if_icmp .ne 91) (a := (150, [some (.ref 114), some (.int v1), some (.int v2), some (.int v3)], [], M)) (b := (238, [some (.ref 114), some (.int v1), some (.int v2), some (.int v3)], [], M)) rfl (fun _ => rfl) ?_ ?_
  · refine dp_s1 hF (i := .aload_n 0) rfl (fun _ => rfl) ?_
    refine dp_s1 hF (i := .getfield 218) rfl (fun _ => rfl) ?_
    refine dp_s1 hF (i := .iload_n 2) rfl (fun _ => rfl) ?_
    refine dp_s3 hF (i := .iaload) rfl (fun _ => rfl) ?_
    refine dp_s1 hF (i := .bipush 8) rfl (fun _ => rfl) ?_
    refine dp_s2 hF (i := .if_icmp .eq 17) (a := (175, [some (.ref 114), some (.int v1), some (.int v2), some (.int v3)], [], M)) (b := (161, [some (.ref 114), some (.int v1), some (.int v2), some (.int v3)], [], M)) rfl (fun _ => rfl) ?_ ?_
    · exact rfl
    refine dp_s1 hF (i := .iload_n 3) rfl (fun _ => rfl) ?_
    refine dp_s2 hF (i := .ifCond .eq 76) (a := (238, [some (.ref 114), some (.int v1), some (.int v2), some (.int v3)], [], M)) (b := (165, [some (.ref 114), some (.int v1), some (.int v2), some (.int v3)], [], M)) rfl (fun _ => rfl) ?_ ?_
    · refine dp_s1 hF (i := .iload_n 1) rfl (fun _ => rfl) ?_
      refine dp_s1 hF (i := .iconst (-1)) rfl (fun _ => rfl) ?_
      refine dp_s2 hF (i := .if_icmp .ne 7) (a := (243, [some (.ref 114), some (.int v1), some (.int v2), some (.int v3)], [], M)) (b := (247, [some (.ref 114), some (.int v1), some (.int v2), some (.int v3)], [], M)) rfl (fun _ => rfl) ?_ ?_
      · refine dp_s1 hF (i := .iload_n 2) rfl (fun _ => rfl) ?_
        refine dp_s2 hF (i := .ifCond .le 23) (a := (267, [some (.ref 114), some (.int v1), some (.int v2), some (.int v3)], [], M)) (b := (247, [some (.ref 114), some (.int v1), some (.int v2), some (.int v3)], [], M)) rfl (fun _ => rfl) ?_ ?_
        · refine dp_s1 hF (i := .iconst 0) rfl (fun _ => rfl) ?_
          exact dp_s0 hF (i := .ireturn) rfl (fun _ => rfl)
        exact rfl
      exact rfl
    refine dp_s1 hF (i := .aload_n 0) rfl (fun _ => rfl) ?_
    refine dp_s1 hF (i := .getfield 221) rfl (fun _ => rfl) ?_
    refine dp_s1 hF (i := .iload_n 2) rfl (fun _ => rfl) ?_
    refine dp_s3 hF (i := .iaload) rfl (fun _ => rfl) ?_
    refine dp_s1 hF (i := .iconst (-1)) rfl (fun _ => rfl) ?_
    refine dp_s2 hF (i := .if_icmp .eq 66) (a := (238, [some (.ref 114), some (.int v1), some (.int v2), some (.int v3)], [], M)) (b := (175, [some (.ref 114), some (.int v1), some (.int v2), some (.int v3)], [], M)) rfl (fun _ => rfl) ?_ ?_
    · refine dp_s1 hF (i := .iload_n 1) rfl (fun _ => rfl) ?_
      refine dp_s1 hF (i := .iconst (-1)) rfl (fun _ => rfl) ?_
      refine dp_s2 hF (i := .if_icmp .ne 7) (a := (243, [some (.ref 114), some (.int v1), some (.int v2), some (.int v3)], [], M)) (b := (247, [some (.ref 114), some (.int v1), some (.int v2), some (.int v3)], [], M)) rfl (fun _ => rfl) ?_ ?_
      · refine dp_s1 hF (i := .iload_n 2) rfl (fun _ => rfl) ?_
        refine dp_s2 hF (i := .ifCond .le 23) (a := (267, [some (.ref 114), some (.int v1), some (.int v2), some (.int v3)], [], M)) (b := (247, [some (.ref 114), some (.int v1), some (.int v2), some (.int v3)], [], M)) rfl (fun _ => rfl) ?_ ?_
        · refine dp_s1 hF (i := .iconst 0) rfl (fun _ => rfl) ?_
          exact dp_s0 hF (i := .ireturn) rfl (fun _ => rfl)
        exact rfl
      exact rfl
    exact rfl
  refine dp_s1 hF (i := .iload_n 1) rfl (fun _ => rfl) ?_
  refine dp_s1 hF (i := .iconst (-1)) rfl (fun _ => rfl) ?_
  refine dp_s2 hF (i := .if_icmp .ne 7) (a := (243, [some (.ref 114), some (.int v1), some (.int v2), some (.int v3)], [], M)) (b := (247, [some (.ref 114), some (.int v1), some (.int v2), some (.int v3)], [], M)) rfl (fun _ => rfl) ?_ ?_
  · refine dp_s1 hF (i := .iload_n 2) rfl (fun _ => rfl) ?_
    refine dp_s2 hF (i := .ifCond .le 23) (a := (267, [some (.ref 114), some (.int v1), some (.int v2), some (.int v3)], [], M)) (b := (247, [some (.ref 114), some (.int v1), some (.int v2), some (.int v3)], [], M)) rfl (fun _ => rfl) ?_ ?_
    · refine dp_s1 hF (i := .iconst 0) rfl (fun _ => rfl) ?_
      exact dp_s0 hF (i := .ireturn) rfl (fun _ => rfl)
    exact rfl
  exact rfl
set_option maxRecDepth 20000 in
theorem D_X12_takesBehind_175_eq (xs : Nat → Int32) (xl d : Nat) (v1 : Int32) (v2 : Int32) (v3 : Int32) (M : dp_M) : D_X12_takesBehind_175 xs xl d v1 v2 v3 M = dp_w (dp_setI M 114 80 ((dp_I M 114 80) + (1 : Int32))) (fun M1 => dp_w (dp_setI M1 114 97 ((dp_I M1 114 97) - (1 : Int32))) (fun M2 => if v3 = 0 then (if v2 < 0 ∨ 14 ≤ Int32.toNatClampNeg v2 then none else (dp_bv (dp_den true xs xl d 484 [.ref 114, .int (dp_I M2 184 (Int32.toNatClampNeg v2))] M2) (fun M3 => some (.inl (some (.int (0 : Int32))), M3)))) else (if v2 < 0 ∨ 14 ≤ Int32.toNatClampNeg v2 then none else (if v2 < 0 ∨ 14 ≤ Int32.toNatClampNeg v2 then none else (if v2 < 0 ∨ 14 ≤ Int32.toNatClampNeg v2 then none else (dp_bi (dp_den true xs xl d 476 [.ref 114, .int (dp_I M2 182 (Int32.toNatClampNeg v2)), .int (0 : Int32), .int (-1 : Int32), .int (dp_I M2 183 (Int32.toNatClampNeg v2)), .int (dp_I M2 184 (Int32.toNatClampNeg v2))] M2) (fun r5 M4 => dp_bv (dp_den true xs xl d 484 [.ref 114, .int r5] M4) (fun M6 => some (.inl (some (.int (0 : Int32))), M6))))))))) := by
  have hF := dp_den_grow (md := true) (xs := xs) (xl := xl) d
  unfold D_X12_takesBehind_175
  refine dp_s1 hF (i := .aload_n 0) rfl (fun _ => rfl) ?_
  refine dp_s1 hF (i := .dup) rfl (fun _ => rfl) ?_
  refine dp_s1 hF (i := .getfield 726) rfl (fun _ => rfl) ?_
  refine dp_s1 hF (i := .iconst 1) rfl (fun _ => rfl) ?_
  refine dp_s1 hF (i := .iadd) rfl (fun _ => rfl) ?_
  refine dp_s1w (dp_setI M 114 80 ((dp_I M 114 80) + (1 : Int32))) (fun (M1 : dp_M) => (185, [some (.ref 114), some (.int v1), some (.int v2), some (.int v3)], [], M1)) hF (i := .putfield 726) rfl (fun _ => rfl) (fun M1 => ?_)
  refine dp_s1 hF (i := .aload_n 0) rfl (fun _ => rfl) ?_
  refine dp_s1 hF (i := .dup) rfl (fun _ => rfl) ?_
  refine dp_s1 hF (i := .getfield 773) rfl (fun _ => rfl) ?_
  refine dp_s1 hF (i := .iconst 1) rfl (fun _ => rfl) ?_
  refine dp_s1 hF (i := .isub) rfl (fun _ => rfl) ?_
  refine dp_s1w (dp_setI M1 114 97 ((dp_I M1 114 97) - (1 : Int32))) (fun (M2 : dp_M) => (195, [some (.ref 114), some (.int v1), some (.int v2), some (.int v3)], [], M2)) hF (i := .putfield 773) rfl (fun _ => rfl) (fun M2 => ?_)
  refine dp_s1 hF (i := .aload_n 0) rfl (fun _ => rfl) ?_
  refine dp_s1 hF (i := .iload_n 3) rfl (fun _ => rfl) ?_
  refine dp_s2 hF (i := .ifCond .eq 30) (a := (227, [some (.ref 114), some (.int v1), some (.int v2), some (.int v3)], [.ref 114], M2)) (b := (200, [some (.ref 114), some (.int v1), some (.int v2), some (.int v3)], [.ref 114], M2)) rfl (fun _ => rfl) ?_ ?_
  · refine dp_s1 hF (i := .aload_n 0) rfl (fun _ => rfl) ?_
    refine dp_s1 hF (i := .getfield 224) rfl (fun _ => rfl) ?_
    refine dp_s1 hF (i := .iload_n 2) rfl (fun _ => rfl) ?_
    refine dp_s3 hF (i := .iaload) rfl (fun _ => rfl) ?_
    refine dp_sv (mj := dp_m_X12_joins) (i := .invokevirtual 806) rfl rfl rfl rfl (fun _ => rfl) (fun M3 => ?_)
    refine dp_s1 hF (i := .iconst 0) rfl (fun _ => rfl) ?_
    exact dp_s0 hF (i := .ireturn) rfl (fun _ => rfl)
  refine dp_s1 hF (i := .aload_n 0) rfl (fun _ => rfl) ?_
  refine dp_s1 hF (i := .aload_n 0) rfl (fun _ => rfl) ?_
  refine dp_s1 hF (i := .getfield 218) rfl (fun _ => rfl) ?_
  refine dp_s1 hF (i := .iload_n 2) rfl (fun _ => rfl) ?_
  refine dp_s3 hF (i := .iaload) rfl (fun _ => rfl) ?_
  refine dp_s1 hF (i := .iconst 0) rfl (fun _ => rfl) ?_
  refine dp_s1 hF (i := .iconst (-1)) rfl (fun _ => rfl) ?_
  refine dp_s1 hF (i := .aload_n 0) rfl (fun _ => rfl) ?_
  refine dp_s1 hF (i := .getfield 221) rfl (fun _ => rfl) ?_
  refine dp_s1 hF (i := .iload_n 2) rfl (fun _ => rfl) ?_
  refine dp_s3 hF (i := .iaload) rfl (fun _ => rfl) ?_
  refine dp_s1 hF (i := .aload_n 0) rfl (fun _ => rfl) ?_
  refine dp_s1 hF (i := .getfield 224) rfl (fun _ => rfl) ?_
  refine dp_s1 hF (i := .iload_n 2) rfl (fun _ => rfl) ?_
  refine dp_s3 hF (i := .iaload) rfl (fun _ => rfl) ?_
  refine dp_si (mj := dp_m_X12_makes) (i := .invokevirtual 760) rfl rfl (Or.inl rfl) rfl (fun _ => rfl) (fun r5 M4 => ?_)
  refine dp_s1 hF (i := .goto 9) rfl (fun _ => rfl) ?_
  refine dp_sv (mj := dp_m_X12_joins) (i := .invokevirtual 806) rfl rfl rfl rfl (fun _ => rfl) (fun M6 => ?_)
  refine dp_s1 hF (i := .iconst 0) rfl (fun _ => rfl) ?_
  exact dp_s0 hF (i := .ireturn) rfl (fun _ => rfl)
set_option maxRecDepth 20000 in
theorem D_X12_takesBehind_247_eq (xs : Nat → Int32) (xl d : Nat) (v1 : Int32) (v2 : Int32) (v3 : Int32) (M : dp_M) : D_X12_takesBehind_247 xs xl d v1 v2 v3 M = if v1 = (-1 : Int32) then (dp_bv (dp_den true xs xl d 467 [.ref 114, .int (dp_I M 114 79)] M) (fun M1 => some (.inl (some (.int (0 : Int32))), M1))) else (dp_bv (dp_den true xs xl d 467 [.ref 114, .int (dp_I M 114 80)] M) (fun M2 => some (.inl (some (.int (0 : Int32))), M2))) := by
  have hF := dp_den_grow (md := true) (xs := xs) (xl := xl) d
  unfold D_X12_takesBehind_247
  refine dp_s1 hF (i := .aload_n 0) rfl (fun _ => rfl) ?_
  refine dp_s1 hF (i := .iload_n 1) rfl (fun _ => rfl) ?_
  refine dp_s1 hF (i := .iconst (-1)) rfl (fun _ => rfl) ?_
  refine dp_s2 hF (i := .if_icmp .ne 10) (a := (253, [some (.ref 114), some (.int v1), some (.int v2), some (.int v3)], [.ref 114], M)) (b := (260, [some (.ref 114), some (.int v1), some (.int v2), some (.int v3)], [.ref 114], M)) rfl (fun _ => rfl) ?_ ?_
  · refine dp_s1 hF (i := .aload_n 0) rfl (fun _ => rfl) ?_
    refine dp_s1 hF (i := .getfield 729) rfl (fun _ => rfl) ?_
    refine dp_s1 hF (i := .goto 7) rfl (fun _ => rfl) ?_
    refine dp_sv (mj := dp_m_X12_stops) (i := .invokevirtual 738) rfl rfl rfl rfl (fun _ => rfl) (fun M1 => ?_)
    refine dp_s1 hF (i := .iconst 0) rfl (fun _ => rfl) ?_
    exact dp_s0 hF (i := .ireturn) rfl (fun _ => rfl)
  refine dp_s1 hF (i := .aload_n 0) rfl (fun _ => rfl) ?_
  refine dp_s1 hF (i := .getfield 726) rfl (fun _ => rfl) ?_
  refine dp_sv (mj := dp_m_X12_stops) (i := .invokevirtual 738) rfl rfl rfl rfl (fun _ => rfl) (fun M2 => ?_)
  refine dp_s1 hF (i := .iconst 0) rfl (fun _ => rfl) ?_
  exact dp_s0 hF (i := .ireturn) rfl (fun _ => rfl)
