noncomputable def D_X12_run_0 (xs : Nat → Int32) (xl d : Nat) (v1 : Int32) (v2 : Int32) (M : dp_M) : Option dp_Res := dp_lim true xs xl (dp_den true xs xl d) dp_m_X12_run (0, [some (.ref 114), some (.int v1), some (.int v2), none, none, none], [], M)
noncomputable def D_X12_run_68 (xs : Nat → Int32) (xl d : Nat) (v1 : Int32) (v2 : Int32) (v3 : Int32) (v4 : Int32) (v5 : Int32) (M : dp_M) : Option dp_Res := dp_lim true xs xl (dp_den true xs xl d) dp_m_X12_run (68, [some (.ref 114), some (.int v1), some (.int v2), some (.int v3), some (.int v4), some (.int v5)], [], M)
theorem D_X12_run_0_den (xs : Nat → Int32) (xl d : Nat) (a0 : Int32) (a1 : Int32) (M : dp_M) : dp_den true xs xl (d + 1) 510 [.ref 114, .int a0, .int a1] M = D_X12_run_0 xs xl d a0 a1 M := rfl
set_option maxRecDepth 20000 in
theorem D_X12_run_0_eq (xs : Nat → Int32) (xl d : Nat) (v1 : Int32) (v2 : Int32) (M : dp_M) : D_X12_run_0 xs xl d v1 v2 M = dp_bi (dp_den true xs xl d 505 [.ref 114, .int v1] M) (fun r2 M1 => if r2 = 0 then (dp_bi (dp_den true xs xl d 366 [.ref 114, .int (1 : Int32)] M1) (fun r4 M3 => some (.inl (some (.int r4)), M3))) else (dp_bi (dp_den true xs xl d 504 [.int v2] M1) (fun r6 M5 => if r6 = 0 then (dp_bi (dp_den true xs xl d 366 [.ref 114, .int (2 : Int32)] M5) (fun r8 M7 => some (.inl (some (.int r8)), M7))) else (if v1 < 0 ∨ 16 ≤ Int32.toNatClampNeg v1 then none else (if (dp_I M5 194 (Int32.toNatClampNeg v1)) < v2 then (dp_w (dp_setI M5 114 0 (0 : Int32)) (fun M9 => if v1 < 0 ∨ 16 ≤ Int32.toNatClampNeg v1 then none else (dp_w (dp_I M9 194 (Int32.toNatClampNeg v1)) (fun y10 => if v1 < 0 ∨ 16 ≤ Int32.toNatClampNeg v1 then none else dp_w (dp_setI M9 194 (Int32.toNatClampNeg v1) v2) (fun M11 => dp_bv (dp_den true xs xl d 508 [.ref 114, .int v1, .int v2] M11) (fun M12 => dp_w (0 : Int32) (fun y13 => dp_w (0 : Int32) (fun y14 => D_X12_run_68 xs xl d v1 v2 y10 y13 y14 M12)))))))) else (dp_bi (dp_den true xs xl d 366 [.ref 114, .int (2 : Int32)] M5) (fun r16 M15 => some (.inl (some (.int r16)), M15)))))))) := by
  have hF := dp_den_grow (md := true) (xs := xs) (xl := xl) d
  unfold D_X12_run_0
  refine dp_s1 hF (i := .aload_n 0) rfl (fun _ => rfl) ?_
  refine dp_s1 hF (i := .iload_n 1) rfl (fun _ => rfl) ?_
  refine dp_si (mj := dp_m_X12_isOrder) (i := .invokevirtual 905) rfl rfl (Or.inr rfl) rfl (fun _ => rfl) (fun r2 M1 => ?_)
  refine dp_s2 hF (i := .ifCond .ne 9) (a := (8, [some (.ref 114), some (.int v1), some (.int v2), none, none, none], [], M1)) (b := (14, [some (.ref 114), some (.int v1), some (.int v2), none, none, none], [], M1)) rfl (fun _ => rfl) ?_ ?_
  · refine dp_s1 hF (i := .aload_n 0) rfl (fun _ => rfl) ?_
    refine dp_s1 hF (i := .iconst 1) rfl (fun _ => rfl) ?_
    refine dp_si (mj := dp_m_X12_refuse) (i := .invokevirtual 460) rfl rfl (Or.inl rfl) rfl (fun _ => rfl) (fun r4 M3 => ?_)
    exact dp_s0 hF (i := .ireturn) rfl (fun _ => rfl)
  refine dp_s1 hF (i := .iload_n 2) rfl (fun _ => rfl) ?_
  refine dp_si (mj := dp_m_X12_isSpanDay) (i := .invokestatic 902) rfl rfl (Or.inr rfl) rfl (fun _ => rfl) (fun r6 M5 => ?_)
  refine dp_s2 hF (i := .ifCond .eq 13) (a := (31, [some (.ref 114), some (.int v1), some (.int v2), none, none, none], [], M5)) (b := (21, [some (.ref 114), some (.int v1), some (.int v2), none, none, none], [], M5)) rfl (fun _ => rfl) ?_ ?_
  · refine dp_s1 hF (i := .aload_n 0) rfl (fun _ => rfl) ?_
    refine dp_s1 hF (i := .iconst 2) rfl (fun _ => rfl) ?_
    refine dp_si (mj := dp_m_X12_refuse) (i := .invokevirtual 460) rfl rfl (Or.inl rfl) rfl (fun _ => rfl) (fun r8 M7 => ?_)
    exact dp_s0 hF (i := .ireturn) rfl (fun _ => rfl)
  refine dp_s1 hF (i := .iload_n 2) rfl (fun _ => rfl) ?_
  refine dp_s1 hF (i := .aload_n 0) rfl (fun _ => rfl) ?_
  refine dp_s1 hF (i := .getfield 254) rfl (fun _ => rfl) ?_
  refine dp_s1 hF (i := .iload_n 1) rfl (fun _ => rfl) ?_
  refine dp_s3 hF (i := .iaload) rfl (fun _ => rfl) ?_
  refine dp_s2 hF (i := .if_icmp .gt 9) (a := (37, [some (.ref 114), some (.int v1), some (.int v2), none, none, none], [], M5)) (b := (31, [some (.ref 114), some (.int v1), some (.int v2), none, none, none], [], M5)) rfl (fun _ => rfl) ?_ ?_
  · refine dp_s1 hF (i := .aload_n 0) rfl (fun _ => rfl) ?_
    refine dp_s1 hF (i := .iconst 0) rfl (fun _ => rfl) ?_
    refine dp_s1w (dp_setI M5 114 0 (0 : Int32)) (fun (M9 : dp_M) => (42, [some (.ref 114), some (.int v1), some (.int v2), none, none, none], [], M9)) hF (i := .putfield 1) rfl (fun _ => rfl) (fun M9 => ?_)
    refine dp_s1 hF (i := .aload_n 0) rfl (fun _ => rfl) ?_
    refine dp_s1 hF (i := .getfield 254) rfl (fun _ => rfl) ?_
    refine dp_s1 hF (i := .iload_n 1) rfl (fun _ => rfl) ?_
    refine dp_s3 hF (i := .iaload) rfl (fun _ => rfl) ?_
    refine dp_s1w (dp_I M9 194 (Int32.toNatClampNeg v1)) (fun (y10 : Int32) => (49, [some (.ref 114), some (.int v1), some (.int v2), some (.int y10), none, none], [], M9)) hF (i := .istore_n 3) rfl (fun _ => rfl) (fun y10 => ?_)
    refine dp_s1 hF (i := .aload_n 0) rfl (fun _ => rfl) ?_
    refine dp_s1 hF (i := .getfield 254) rfl (fun _ => rfl) ?_
    refine dp_s1 hF (i := .iload_n 1) rfl (fun _ => rfl) ?_
    refine dp_s1 hF (i := .iload_n 2) rfl (fun _ => rfl) ?_
    refine dp_s3w (dp_setI M9 194 (Int32.toNatClampNeg v1) v2) (fun (M11 : dp_M) => (56, [some (.ref 114), some (.int v1), some (.int v2), some (.int y10), none, none], [], M11)) hF (i := .iastore) rfl (fun _ => rfl) (fun M11 => ?_)
    refine dp_s1 hF (i := .aload_n 0) rfl (fun _ => rfl) ?_
    refine dp_s1 hF (i := .iload_n 1) rfl (fun _ => rfl) ?_
    refine dp_s1 hF (i := .iload_n 2) rfl (fun _ => rfl) ?_
    refine dp_sv (mj := dp_m_X12_course) (i := .invokevirtual 908) rfl rfl rfl rfl (fun _ => rfl) (fun M12 => ?_)
    refine dp_s1 hF (i := .iconst 0) rfl (fun _ => rfl) ?_
    refine dp_s1w (0 : Int32) (fun (y13 : Int32) => (65, [some (.ref 114), some (.int v1), some (.int v2), some (.int y10), some (.int y13), none], [], M12)) hF (i := .istore 4) rfl (fun _ => rfl) (fun y13 => ?_)
    refine dp_s1 hF (i := .iconst 0) rfl (fun _ => rfl) ?_
    refine dp_s1w (0 : Int32) (fun (y14 : Int32) => (68, [some (.ref 114), some (.int v1), some (.int v2), some (.int y10), some (.int y13), some (.int y14)], [], M12)) hF (i := .istore 5) rfl (fun _ => rfl) (fun y14 => ?_)
    exact rfl
  refine dp_s1 hF (i := .aload_n 0) rfl (fun _ => rfl) ?_
  refine dp_s1 hF (i := .iconst 2) rfl (fun _ => rfl) ?_
  refine dp_si (mj := dp_m_X12_refuse) (i := .invokevirtual 460) rfl rfl (Or.inl rfl) rfl (fun _ => rfl) (fun r16 M15 => ?_)
  exact dp_s0 hF (i := .ireturn) rfl (fun _ => rfl)
set_option maxRecDepth 20000 in
theorem D_X12_run_68_eq (xs : Nat → Int32) (xl d : Nat) (v1 : Int32) (v2 : Int32) (v3 : Int32) (v4 : Int32) (v5 : Int32) (M : dp_M) : D_X12_run_68 xs xl d v1 v2 v3 v4 v5 M = if (dp_I M 114 111) ≤ v5 then (some (.inl (some (.int v4)), M)) else (if v5 < 0 ∨ 400 ≤ Int32.toNatClampNeg v5 then none else (if (dp_I M 197 (Int32.toNatClampNeg v5)) = v1 then (if v5 < 0 ∨ 400 ≤ Int32.toNatClampNeg v5 then none else (if (dp_I M 199 (Int32.toNatClampNeg v5)) ≤ v3 then (dp_w (v4 + (0 : Int32)) (fun y1 => dp_w (v5 + (1 : Int32)) (fun y2 => D_X12_run_68 xs xl d v1 v2 v3 y1 y2 M))) else (if v5 < 0 ∨ 400 ≤ Int32.toNatClampNeg v5 then none else (if (lg_cmp (dp_J M 200 (Int32.toNatClampNeg v5)) (0 : Int64)) ≤ 0 then (dp_w (v4 + (0 : Int32)) (fun y3 => dp_w (v5 + (1 : Int32)) (fun y4 => D_X12_run_68 xs xl d v1 v2 v3 y3 y4 M))) else (dp_w (v4 + (1 : Int32)) (fun y5 => dp_w (v5 + (1 : Int32)) (fun y6 => D_X12_run_68 xs xl d v1 v2 v3 y5 y6 M))))))) else (dp_w (v4 + (0 : Int32)) (fun y7 => dp_w (v5 + (1 : Int32)) (fun y8 => D_X12_run_68 xs xl d v1 v2 v3 y7 y8 M))))) := by
  have hF := dp_den_grow (md := true) (xs := xs) (xl := xl) d
  unfold D_X12_run_68
  refine dp_s1 hF (i := .iload 5) rfl (fun _ => rfl) ?_
  refine dp_s1 hF (i := .aload_n 0) rfl (fun _ => rfl) ?_
  refine dp_s1 hF (i := .getfield 888) rfl (fun _ => rfl) ?_
  refine dp_s2 hF (i := .if_icmp .ge 53) (a := (127, [some (.ref 114), some (.int v1), some (.int v2), some (.int v3), some (.int v4), some (.int v5)], [], M)) (b := (77, [some (.ref 114), some (.int v1), some (.int v2), some (.int v3), some (.int v4), some (.int v5)], [], M)) rfl (fun _ => rfl) ?_ ?_
  · refine dp_s1 hF (i := .iload 4) rfl (fun _ => rfl) ?_
    exact dp_s0 hF (i := .ireturn) rfl (fun _ => rfl)
  refine dp_s1 hF (i := .iload 4) rfl (fun _ => rfl) ?_
  refine dp_s1 hF (i := .aload_n 0) rfl (fun _ => rfl) ?_
  refine dp_s1 hF (i := .getfield 263) rfl (fun _ => rfl) ?_
  refine dp_s1 hF (i := .iload 5) rfl (fun _ => rfl) ?_
  refine dp_s3 hF (i := .iaload) rfl (fun _ => rfl) ?_
  refine dp_s1 hF (i := .iload_n 1) rfl (fun _ => rfl) ?_
  refine dp_s2 hF (i := .if_icmp .ne 30) (a := (90, [some (.ref 114), some (.int v1), some (.int v2), some (.int v3), some (.int v4), some (.int v5)], [.int v4], M)) (b := (117, [some (.ref 114), some (.int v1), some (.int v2), some (.int v3), some (.int v4), some (.int v5)], [.int v4], M)) rfl (fun _ => rfl) ?_ ?_
  · refine dp_s1 hF (i := .aload_n 0) rfl (fun _ => rfl) ?_
    refine dp_s1 hF (i := .getfield 269) rfl (fun _ => rfl) ?_
    refine dp_s1 hF (i := .iload 5) rfl (fun _ => rfl) ?_
    refine dp_s3 hF (i := .iaload) rfl (fun _ => rfl) ?_
    refine dp_s1 hF (i := .iload_n 3) rfl (fun _ => rfl) ?_
    refine dp_s2 hF (i := .if_icmp .le 19) (a := (117, [some (.ref 114), some (.int v1), some (.int v2), some (.int v3), some (.int v4), some (.int v5)], [.int v4], M)) (b := (101, [some (.ref 114), some (.int v1), some (.int v2), some (.int v3), some (.int v4), some (.int v5)], [.int v4], M)) rfl (fun _ => rfl) ?_ ?_
    · refine dp_s1 hF (i := .iconst 0) rfl (fun _ => rfl) ?_
      refine dp_s1 hF (i := .iadd) rfl (fun _ => rfl) ?_
      refine dp_s1w (v4 + (0 : Int32)) (fun (y1 : Int32) => (121, [some (.ref 114), some (.int v1), some (.int v2), some (.int v3), some (.int y1), some (.int v5)], [], M)) hF (i := .istore 4) rfl (fun _ => rfl) (fun y1 => ?_)
      refine dp_s1w (v5 + (1 : Int32)) (fun (y2 : Int32) => (124, [some (.ref 114), some (.int v1), some (.int v2), some (.int v3), some (.int y1), some (.int y2)], [], M)) hF (i := .iinc 5 1) rfl (fun _ => rfl) (fun y2 => ?_)
      refine dp_s1 hF (i := .goto (-56)) rfl (fun _ => rfl) ?_
      exact rfl
    refine dp_s1 hF (i := .aload_n 0) rfl (fun _ => rfl) ?_
    refine dp_s1 hF (i := .getfield 272) rfl (fun _ => rfl) ?_
    refine dp_s1 hF (i := .iload 5) rfl (fun _ => rfl) ?_
    refine dp_s3 hF (i := .laload) rfl (fun _ => rfl) ?_
    refine dp_s1 hF (i := .lconst 0) rfl (fun _ => rfl) ?_
    refine dp_s1 hF (i := .lcmp) rfl (fun _ => rfl) ?_
    refine dp_s2 hF (i := .ifCond .le 7) (a := (117, [some (.ref 114), some (.int v1), some (.int v2), some (.int v3), some (.int v4), some (.int v5)], [.int v4], M)) (b := (113, [some (.ref 114), some (.int v1), some (.int v2), some (.int v3), some (.int v4), some (.int v5)], [.int v4], M)) rfl (fun _ => rfl) ?_ ?_
    · refine dp_s1 hF (i := .iconst 0) rfl (fun _ => rfl) ?_
      refine dp_s1 hF (i := .iadd) rfl (fun _ => rfl) ?_
      refine dp_s1w (v4 + (0 : Int32)) (fun (y3 : Int32) => (121, [some (.ref 114), some (.int v1), some (.int v2), some (.int v3), some (.int y3), some (.int v5)], [], M)) hF (i := .istore 4) rfl (fun _ => rfl) (fun y3 => ?_)
      refine dp_s1w (v5 + (1 : Int32)) (fun (y4 : Int32) => (124, [some (.ref 114), some (.int v1), some (.int v2), some (.int v3), some (.int y3), some (.int y4)], [], M)) hF (i := .iinc 5 1) rfl (fun _ => rfl) (fun y4 => ?_)
      refine dp_s1 hF (i := .goto (-56)) rfl (fun _ => rfl) ?_
      exact rfl
    refine dp_s1 hF (i := .iconst 1) rfl (fun _ => rfl) ?_
    refine dp_s1 hF (i := .goto 4) rfl (fun _ => rfl) ?_
    refine dp_s1 hF (i := .iadd) rfl (fun _ => rfl) ?_
    refine dp_s1w (v4 + (1 : Int32)) (fun (y5 : Int32) => (121, [some (.ref 114), some (.int v1), some (.int v2), some (.int v3), some (.int y5), some (.int v5)], [], M)) hF (i := .istore 4) rfl (fun _ => rfl) (fun y5 => ?_)
    refine dp_s1w (v5 + (1 : Int32)) (fun (y6 : Int32) => (124, [some (.ref 114), some (.int v1), some (.int v2), some (.int v3), some (.int y5), some (.int y6)], [], M)) hF (i := .iinc 5 1) rfl (fun _ => rfl) (fun y6 => ?_)
    refine dp_s1 hF (i := .goto (-56)) rfl (fun _ => rfl) ?_
    exact rfl
  refine dp_s1 hF (i := .iconst 0) rfl (fun _ => rfl) ?_
  refine dp_s1 hF (i := .iadd) rfl (fun _ => rfl) ?_
  refine dp_s1w (v4 + (0 : Int32)) (fun (y7 : Int32) => (121, [some (.ref 114), some (.int v1), some (.int v2), some (.int v3), some (.int y7), some (.int v5)], [], M)) hF (i := .istore 4) rfl (fun _ => rfl) (fun y7 => ?_)
  refine dp_s1w (v5 + (1 : Int32)) (fun (y8 : Int32) => (124, [some (.ref 114), some (.int v1), some (.int v2), some (.int v3), some (.int y7), some (.int y8)], [], M)) hF (i := .iinc 5 1) rfl (fun _ => rfl) (fun y8 => ?_)
  refine dp_s1 hF (i := .goto (-56)) rfl (fun _ => rfl) ?_
  exact rfl
noncomputable def D_X12_block_0 (xs : Nat → Int32) (xl d : Nat) (v1 : Int32) (v2 : Int32) (v3 : Int32) (M : dp_M) : Option dp_Res := dp_lim true xs xl (dp_den true xs xl d) dp_m_X12_block (0, [some (.ref 114), some (.int v1), some (.int v2), some (.int v3)], [], M)
noncomputable def D_X12_block_14 (xs : Nat → Int32) (xl d : Nat) (v1 : Int32) (v2 : Int32) (v3 : Int32) (vs0 : Int32) (M : dp_M) : Option dp_Res := dp_lim true xs xl (dp_den true xs xl d) dp_m_X12_block (14, [some (.ref 114), some (.int v1), some (.int v2), some (.int v3)], [.int vs0, .ref 114], M)
theorem D_X12_block_0_den (xs : Nat → Int32) (xl d : Nat) (a0 : Int32) (a1 : Int32) (a2 : Int32) (M : dp_M) : dp_den true xs xl (d + 1) 511 [.ref 114, .int a0, .int a1, .int a2] M = D_X12_block_0 xs xl d a0 a1 a2 M := rfl
set_option maxRecDepth 20000 in
theorem D_X12_block_0_eq (xs : Nat → Int32) (xl d : Nat) (v1 : Int32) (v2 : Int32) (v3 : Int32) (M : dp_M) : D_X12_block_0 xs xl d v1 v2 v3 M = dp_bi (dp_den true xs xl d 505 [.ref 114, .int v1] M) (fun r2 M1 => if r2 = 0 then (D_X12_block_14 xs xl d v1 v2 v3 (1 : Int32) M1) else (D_X12_block_14 xs xl d v1 v2 v3 (0 : Int32) M1)) := by
  have hF := dp_den_grow (md := true) (xs := xs) (xl := xl) d
  unfold D_X12_block_0
  refine dp_s1 hF (i := .aload_n 0) rfl (fun _ => rfl) ?_
  refine dp_s1 hF (i := .aload_n 0) rfl (fun _ => rfl) ?_
  refine dp_s1 hF (i := .iload_n 1) rfl (fun _ => rfl) ?_
  refine dp_si (mj := dp_m_X12_isOrder) (i := .invokevirtual 905) rfl rfl (Or.inr rfl) rfl (fun _ => rfl) (fun r2 M1 => ?_)
  refine dp_s2 hF (i := .ifCond .eq 7) (a := (13, [some (.ref 114), some (.int v1), some (.int v2), some (.int v3)], [.ref 114], M1)) (b := (9, [some (.ref 114), some (.int v1), some (.int v2), some (.int v3)], [.ref 114], M1)) rfl (fun _ => rfl) ?_ ?_
  · refine dp_s1 hF (i := .iconst 1) rfl (fun _ => rfl) ?_
    exact rfl
  refine dp_s1 hF (i := .iconst 0) rfl (fun _ => rfl) ?_
  refine dp_s1 hF (i := .goto 4) rfl (fun _ => rfl) ?_
  exact rfl
set_option maxRecDepth 20000 in
theorem D_X12_block_14_eq (xs : Nat → Int32) (xl d : Nat) (v1 : Int32) (v2 : Int32) (v3 : Int32) (vs0 : Int32) (M : dp_M) : D_X12_block_14 xs xl d v1 v2 v3 vs0 M = dp_w (dp_setI M 114 0 vs0) (fun M1 => if 0 < (dp_I M1 114 0) then (some (.inl (some (.int (0 : Int32))), M1)) else (if v1 < 0 ∨ 16 ≤ Int32.toNatClampNeg v1 then none else (if v2 < (dp_I M1 192 (Int32.toNatClampNeg v1)) then (some (.inl (some (.int (0 : Int32))), M1)) else (if v1 < 0 ∨ 16 ≤ Int32.toNatClampNeg v1 then none else (if (dp_I M1 193 (Int32.toNatClampNeg v1)) < v2 then (some (.inl (some (.int (0 : Int32))), M1)) else (if (((401 : Int32) * v1) + v2) < 0 ∨ 6416 ≤ Int32.toNatClampNeg (((401 : Int32) * v1) + v2) then none else (if (dp_I M1 195 (Int32.toNatClampNeg (((401 : Int32) * v1) + v2))) = v3 then (some (.inl (some (.int (0 : Int32))), M1)) else (if (((401 : Int32) * v1) + v2) < 0 ∨ 6416 ≤ Int32.toNatClampNeg (((401 : Int32) * v1) + v2) then none else dp_w (dp_setI M1 195 (Int32.toNatClampNeg (((401 : Int32) * v1) + v2)) (v3 &&& 1)) (fun M2 => some (.inl (some (.int (1 : Int32))), M2)))))))))) := by
  have hF := dp_den_grow (md := true) (xs := xs) (xl := xl) d
  unfold D_X12_block_14
  refine dp_s1w (dp_setI M 114 0 vs0) (fun (M1 : dp_M) => (17, [some (.ref 114), some (.int v1), some (.int v2), some (.int v3)], [], M1)) hF (i := .putfield 1) rfl (fun _ => rfl) (fun M1 => ?_)
  refine dp_s1 hF (i := .aload_n 0) rfl (fun _ => rfl) ?_
  refine dp_s1 hF (i := .getfield 1) rfl (fun _ => rfl) ?_
  refine dp_s2 hF (i := .ifCond .gt 39) (a := (60, [some (.ref 114), some (.int v1), some (.int v2), some (.int v3)], [], M1)) (b := (24, [some (.ref 114), some (.int v1), some (.int v2), some (.int v3)], [], M1)) rfl (fun _ => rfl) ?_ ?_
  · refine dp_s1 hF (i := .iconst 0) rfl (fun _ => rfl) ?_
    exact dp_s0 hF (i := .ireturn) rfl (fun _ => rfl)
  refine dp_s1 hF (i := .iload_n 2) rfl (fun _ => rfl) ?_
  refine dp_s1 hF (i := .aload_n 0) rfl (fun _ => rfl) ?_
  refine dp_s1 hF (i := .getfield 248) rfl (fun _ => rfl) ?_
  refine dp_s1 hF (i := .iload_n 1) rfl (fun _ => rfl) ?_
  refine dp_s3 hF (i := .iaload) rfl (fun _ => rfl) ?_
  refine dp_s2 hF (i := .if_icmp .lt 29) (a := (60, [some (.ref 114), some (.int v1), some (.int v2), some (.int v3)], [], M1)) (b := (34, [some (.ref 114), some (.int v1), some (.int v2), some (.int v3)], [], M1)) rfl (fun _ => rfl) ?_ ?_
  · refine dp_s1 hF (i := .iconst 0) rfl (fun _ => rfl) ?_
    exact dp_s0 hF (i := .ireturn) rfl (fun _ => rfl)
  refine dp_s1 hF (i := .iload_n 2) rfl (fun _ => rfl) ?_
  refine dp_s1 hF (i := .aload_n 0) rfl (fun _ => rfl) ?_
  refine dp_s1 hF (i := .getfield 251) rfl (fun _ => rfl) ?_
  refine dp_s1 hF (i := .iload_n 1) rfl (fun _ => rfl) ?_
  refine dp_s3 hF (i := .iaload) rfl (fun _ => rfl) ?_
  refine dp_s2 hF (i := .if_icmp .gt 19) (a := (60, [some (.ref 114), some (.int v1), some (.int v2), some (.int v3)], [], M1)) (b := (44, [some (.ref 114), some (.int v1), some (.int v2), some (.int v3)], [], M1)) rfl (fun _ => rfl) ?_ ?_
  · refine dp_s1 hF (i := .iconst 0) rfl (fun _ => rfl) ?_
    exact dp_s0 hF (i := .ireturn) rfl (fun _ => rfl)
  refine dp_s1 hF (i := .aload_n 0) rfl (fun _ => rfl) ?_
  refine dp_s1 hF (i := .getfield 257) rfl (fun _ => rfl) ?_
  refine dp_s1 hF (i := .sipush 401) rfl (fun _ => rfl) ?_
  refine dp_s1 hF (i := .iload_n 1) rfl (fun _ => rfl) ?_
  refine dp_s1 hF (i := .imul) rfl (fun _ => rfl) ?_
  refine dp_s1 hF (i := .iload_n 2) rfl (fun _ => rfl) ?_
  refine dp_s1 hF (i := .iadd) rfl (fun _ => rfl) ?_
  refine dp_s3 hF (i := .baload) rfl (fun _ => rfl) ?_
  refine dp_s1 hF (i := .iload_n 3) rfl (fun _ => rfl) ?_
  refine dp_s2 hF (i := .if_icmp .ne 5) (a := (60, [some (.ref 114), some (.int v1), some (.int v2), some (.int v3)], [], M1)) (b := (62, [some (.ref 114), some (.int v1), some (.int v2), some (.int v3)], [], M1)) rfl (fun _ => rfl) ?_ ?_
  · refine dp_s1 hF (i := .iconst 0) rfl (fun _ => rfl) ?_
    exact dp_s0 hF (i := .ireturn) rfl (fun _ => rfl)
  refine dp_s1 hF (i := .aload_n 0) rfl (fun _ => rfl) ?_
  refine dp_s1 hF (i := .getfield 257) rfl (fun _ => rfl) ?_
  refine dp_s1 hF (i := .sipush 401) rfl (fun _ => rfl) ?_
  refine dp_s1 hF (i := .iload_n 1) rfl (fun _ => rfl) ?_
  refine dp_s1 hF (i := .imul) rfl (fun _ => rfl) ?_
  refine dp_s1 hF (i := .iload_n 2) rfl (fun _ => rfl) ?_
  refine dp_s1 hF (i := .iadd) rfl (fun _ => rfl) ?_
  refine dp_s1 hF (i := .iload_n 3) rfl (fun _ => rfl) ?_
  refine dp_s3w (dp_setI M1 195 (Int32.toNatClampNeg (((401 : Int32) * v1) + v2)) (v3 &&& 1)) (fun (M2 : dp_M) => (75, [some (.ref 114), some (.int v1), some (.int v2), some (.int v3)], [], M2)) hF (i := .bastore) rfl (fun _ => rfl) (fun M2 => ?_)
  refine dp_s1 hF (i := .iconst 1) rfl (fun _ => rfl) ?_
  exact dp_s0 hF (i := .ireturn) rfl (fun _ => rfl)
noncomputable def D_X12_transfer_0 (xs : Nat → Int32) (xl d : Nat) (v1 : Int32) (v2 : Int32) (v3 : Int64) (M : dp_M) : Option dp_Res := dp_lim true xs xl (dp_den true xs xl d) dp_m_X12_transfer (0, [some (.ref 114), some (.int v1), some (.int v2), some (.long v3), none], [], M)
noncomputable def D_X12_transfer_22 (xs : Nat → Int32) (xl d : Nat) (v1 : Int32) (v2 : Int32) (v3 : Int64) (vs0 : Int32) (M : dp_M) : Option dp_Res := dp_lim true xs xl (dp_den true xs xl d) dp_m_X12_transfer (22, [some (.ref 114), some (.int v1), some (.int v2), some (.long v3), none], [.int vs0, .ref 114], M)
theorem D_X12_transfer_0_den (xs : Nat → Int32) (xl d : Nat) (a0 : Int32) (a1 : Int32) (a2 : Int64) (M : dp_M) : dp_den true xs xl (d + 1) 512 [.ref 114, .int a0, .int a1, .long a2] M = D_X12_transfer_0 xs xl d a0 a1 a2 M := rfl
set_option maxRecDepth 20000 in
theorem D_X12_transfer_0_eq (xs : Nat → Int32) (xl d : Nat) (v1 : Int32) (v2 : Int32) (v3 : Int64) (M : dp_M) : D_X12_transfer_0 xs xl d v1 v2 v3 M = dp_bi (dp_den true xs xl d 505 [.ref 114, .int v1] M) (fun r2 M1 => if r2 = 0 then (D_X12_transfer_22 xs xl d v1 v2 v3 (1 : Int32) M1) else (dp_bi (dp_den true xs xl d 505 [.ref 114, .int v2] M1) (fun r4 M3 => if r4 = 0 then (D_X12_transfer_22 xs xl d v1 v2 v3 (1 : Int32) M3) else (D_X12_transfer_22 xs xl d v1 v2 v3 (0 : Int32) M3)))) := by
  have hF := dp_den_grow (md := true) (xs := xs) (xl := xl) d
  unfold D_X12_transfer_0
  refine dp_s1 hF (i := .aload_n 0) rfl (fun _ => rfl) ?_
  refine dp_s1 hF (i := .aload_n 0) rfl (fun _ => rfl) ?_
  refine dp_s1 hF (i := .iload_n 1) rfl (fun _ => rfl) ?_
  refine dp_si (mj := dp_m_X12_isOrder) (i := .invokevirtual 905) rfl rfl (Or.inr rfl) rfl (fun _ => rfl) (fun r2 M1 => ?_)
  refine dp_s2 hF (i := .ifCond .eq 15) (a := (21, [some (.ref 114), some (.int v1), some (.int v2), some (.long v3), none], [.ref 114], M1)) (b := (9, [some (.ref 114), some (.int v1), some (.int v2), some (.long v3), none], [.ref 114], M1)) rfl (fun _ => rfl) ?_ ?_
  · refine dp_s1 hF (i := .iconst 1) rfl (fun _ => rfl) ?_
    exact rfl
  refine dp_s1 hF (i := .aload_n 0) rfl (fun _ => rfl) ?_
  refine dp_s1 hF (i := .iload_n 2) rfl (fun _ => rfl) ?_
  refine dp_si (mj := dp_m_X12_isOrder) (i := .invokevirtual 905) rfl rfl (Or.inr rfl) rfl (fun _ => rfl) (fun r4 M3 => ?_)
  refine dp_s2 hF (i := .ifCond .eq 7) (a := (21, [some (.ref 114), some (.int v1), some (.int v2), some (.long v3), none], [.ref 114], M3)) (b := (17, [some (.ref 114), some (.int v1), some (.int v2), some (.long v3), none], [.ref 114], M3)) rfl (fun _ => rfl) ?_ ?_
  · refine dp_s1 hF (i := .iconst 1) rfl (fun _ => rfl) ?_
    exact rfl
  refine dp_s1 hF (i := .iconst 0) rfl (fun _ => rfl) ?_
  refine dp_s1 hF (i := .goto 4) rfl (fun _ => rfl) ?_
  exact rfl
set_option maxRecDepth 20000 in
theorem D_X12_transfer_22_eq (xs : Nat → Int32) (xl d : Nat) (v1 : Int32) (v2 : Int32) (v3 : Int64) (vs0 : Int32) (M : dp_M) : D_X12_transfer_22 xs xl d v1 v2 v3 vs0 M = dp_w (dp_setI M 114 0 vs0) (fun M1 => if 0 < (dp_I M1 114 0) then (some (.inl (some (.int (0 : Int32))), M1)) else (if v1 = v2 then (some (.inl (some (.int (0 : Int32))), M1)) else (if v1 < 0 ∨ 16 ≤ Int32.toNatClampNeg v1 then none else (if v1 < 0 ∨ 16 ≤ Int32.toNatClampNeg v1 then none else (if (dp_I M1 192 (Int32.toNatClampNeg v1)) ≤ (dp_I M1 194 (Int32.toNatClampNeg v1)) then (some (.inl (some (.int (0 : Int32))), M1)) else (if v2 < 0 ∨ 16 ≤ Int32.toNatClampNeg v2 then none else (if v2 < 0 ∨ 16 ≤ Int32.toNatClampNeg v2 then none else (if (dp_I M1 192 (Int32.toNatClampNeg v2)) ≤ (dp_I M1 194 (Int32.toNatClampNeg v2)) then (some (.inl (some (.int (0 : Int32))), M1)) else (if (lg_cmp v3 (1 : Int64)) < 0 then (some (.inl (some (.int (0 : Int32))), M1)) else (if v1 < 0 ∨ 16 ≤ Int32.toNatClampNeg v1 then none else (if 0 ≤ (lg_cmp v3 (dp_J M1 191 (Int32.toNatClampNeg v1))) then (some (.inl (some (.int (0 : Int32))), M1)) else (if v2 < 0 ∨ 16 ≤ Int32.toNatClampNeg v2 then none else (if (lg_cmp ((dp_J M1 191 (Int32.toNatClampNeg v2)) + v3) (1000000000 : Int64)) ≤ 0 then (if v1 < 0 ∨ 16 ≤ Int32.toNatClampNeg v1 then none else (if v1 < 0 ∨ 16 ≤ Int32.toNatClampNeg v1 then none else dp_w (dp_setJ M1 191 (Int32.toNatClampNeg v1) ((dp_J M1 191 (Int32.toNatClampNeg v1)) - v3)) (fun M2 => if v2 < 0 ∨ 16 ≤ Int32.toNatClampNeg v2 then none else (if v2 < 0 ∨ 16 ≤ Int32.toNatClampNeg v2 then none else dp_w (dp_setJ M2 191 (Int32.toNatClampNeg v2) ((dp_J M2 191 (Int32.toNatClampNeg v2)) + v3)) (fun M3 => some (.inl (some (.int (1 : Int32))), M3)))))) else (some (.inl (some (.int (0 : Int32))), M1))))))))))))))) := by
  have hF := dp_den_grow (md := true) (xs := xs) (xl := xl) d
  unfold D_X12_transfer_22
  refine dp_s1w (dp_setI M 114 0 vs0) (fun (M1 : dp_M) => (25, [some (.ref 114), some (.int v1), some (.int v2), some (.long v3), none], [], M1)) hF (i := .putfield 1) rfl (fun _ => rfl) (fun M1 => ?_)
  refine dp_s1 hF (i := .aload_n 0) rfl (fun _ => rfl) ?_
  refine dp_s1 hF (i := .getfield 1) rfl (fun _ => rfl) ?_
  refine dp_s2 hF (i := .ifCond .gt 70) (a := (99, [some (.ref 114), some (.int v1), some (.int v2), some (.long v3), none], [], M1)) (b := (32, [some (.ref 114), some (.int v1), some (.int v2), some (.long v3), none], [], M1)) rfl (fun _ => rfl) ?_ ?_
  · refine dp_s1 hF (i := .iconst 0) rfl (fun _ => rfl) ?_
    exact dp_s0 hF (i := .ireturn) rfl (fun _ => rfl)
  refine dp_s1 hF (i := .iload_n 1) rfl (fun _ => rfl) ?_
  refine dp_s1 hF (i := .iload_n 2) rfl (fun _ => rfl) ?_
  refine dp_s2 hF (i := .if_icmp .eq 65) (a := (99, [some (.ref 114), some (.int v1), some (.int v2), some (.long v3), none], [], M1)) (b := (37, [some (.ref 114), some (.int v1), some (.int v2), some (.long v3), none], [], M1)) rfl (fun _ => rfl) ?_ ?_
  · refine dp_s1 hF (i := .iconst 0) rfl (fun _ => rfl) ?_
    exact dp_s0 hF (i := .ireturn) rfl (fun _ => rfl)
  refine dp_s1 hF (i := .aload_n 0) rfl (fun _ => rfl) ?_
  refine dp_s1 hF (i := .getfield 254) rfl (fun _ => rfl) ?_
  refine dp_s1 hF (i := .iload_n 1) rfl (fun _ => rfl) ?_
  refine dp_s3 hF (i := .iaload) rfl (fun _ => rfl) ?_
  refine dp_s1 hF (i := .aload_n 0) rfl (fun _ => rfl) ?_
  refine dp_s1 hF (i := .getfield 248) rfl (fun _ => rfl) ?_
  refine dp_s1 hF (i := .iload_n 1) rfl (fun _ => rfl) ?_
  refine dp_s3 hF (i := .iaload) rfl (fun _ => rfl) ?_
  refine dp_s2 hF (i := .if_icmp .ge 50) (a := (99, [some (.ref 114), some (.int v1), some (.int v2), some (.long v3), none], [], M1)) (b := (52, [some (.ref 114), some (.int v1), some (.int v2), some (.long v3), none], [], M1)) rfl (fun _ => rfl) ?_ ?_
  · refine dp_s1 hF (i := .iconst 0) rfl (fun _ => rfl) ?_
    exact dp_s0 hF (i := .ireturn) rfl (fun _ => rfl)
  refine dp_s1 hF (i := .aload_n 0) rfl (fun _ => rfl) ?_
  refine dp_s1 hF (i := .getfield 254) rfl (fun _ => rfl) ?_
  refine dp_s1 hF (i := .iload_n 2) rfl (fun _ => rfl) ?_
  refine dp_s3 hF (i := .iaload) rfl (fun _ => rfl) ?_
  refine dp_s1 hF (i := .aload_n 0) rfl (fun _ => rfl) ?_
  refine dp_s1 hF (i := .getfield 248) rfl (fun _ => rfl) ?_
  refine dp_s1 hF (i := .iload_n 2) rfl (fun _ => rfl) ?_
  refine dp_s3 hF (i := .iaload) rfl (fun _ => rfl) ?_
  refine dp_s2 hF (i := .if_icmp .ge 35) (a := (99, [some (.ref 114), some (.int v1), some (.int v2), some (.long v3), none], [], M1)) (b := (67, [some (.ref 114), some (.int v1), some (.int v2), some (.long v3), none], [], M1)) rfl (fun _ => rfl) ?_ ?_
  · refine dp_s1 hF (i := .iconst 0) rfl (fun _ => rfl) ?_
    exact dp_s0 hF (i := .ireturn) rfl (fun _ => rfl)
  refine dp_s1 hF (i := .lload_n 3) rfl (fun _ => rfl) ?_
  refine dp_s1 hF (i := .lconst 1) rfl (fun _ => rfl) ?_
  refine dp_s1 hF (i := .lcmp) rfl (fun _ => rfl) ?_
  refine dp_s2 hF (i := .ifCond .lt 29) (a := (99, [some (.ref 114), some (.int v1), some (.int v2), some (.long v3), none], [], M1)) (b := (73, [some (.ref 114), some (.int v1), some (.int v2), some (.long v3), none], [], M1)) rfl (fun _ => rfl) ?_ ?_
  · refine dp_s1 hF (i := .iconst 0) rfl (fun _ => rfl) ?_
    exact dp_s0 hF (i := .ireturn) rfl (fun _ => rfl)
  refine dp_s1 hF (i := .lload_n 3) rfl (fun _ => rfl) ?_
  refine dp_s1 hF (i := .aload_n 0) rfl (fun _ => rfl) ?_
  refine dp_s1 hF (i := .getfield 245) rfl (fun _ => rfl) ?_
  refine dp_s1 hF (i := .iload_n 1) rfl (fun _ => rfl) ?_
  refine dp_s3 hF (i := .laload) rfl (fun _ => rfl) ?_
  refine dp_s1 hF (i := .lcmp) rfl (fun _ => rfl) ?_
  refine dp_s2 hF (i := .ifCond .ge 18) (a := (99, [some (.ref 114), some (.int v1), some (.int v2), some (.long v3), none], [], M1)) (b := (84, [some (.ref 114), some (.int v1), some (.int v2), some (.long v3), none], [], M1)) rfl (fun _ => rfl) ?_ ?_
  · refine dp_s1 hF (i := .iconst 0) rfl (fun _ => rfl) ?_
    exact dp_s0 hF (i := .ireturn) rfl (fun _ => rfl)
  refine dp_s1 hF (i := .aload_n 0) rfl (fun _ => rfl) ?_
  refine dp_s1 hF (i := .getfield 245) rfl (fun _ => rfl) ?_
  refine dp_s1 hF (i := .iload_n 2) rfl (fun _ => rfl) ?_
  refine dp_s3 hF (i := .laload) rfl (fun _ => rfl) ?_
  refine dp_s1 hF (i := .lload_n 3) rfl (fun _ => rfl) ?_
  refine dp_s1 hF (i := .ladd) rfl (fun _ => rfl) ?_
  refine dp_s1 hF (i := .ldc2_w 900) rfl (fun _ => rfl) ?_
  refine dp_s1 hF (i := .lcmp) rfl (fun _ => rfl) ?_
  refine dp_s2 hF (i := .ifCond .le 5) (a := (101, [some (.ref 114), some (.int v1), some (.int v2), some (.long v3), none], [], M1)) (b := (99, [some (.ref 114), some (.int v1), some (.int v2), some (.long v3), none], [], M1)) rfl (fun _ => rfl) ?_ ?_
  · refine dp_s1 hF (i := .aload_n 0) rfl (fun _ => rfl) ?_
    refine dp_s1 hF (i := .getfield 245) rfl (fun _ => rfl) ?_
    refine dp_s1 hF (i := .iload_n 1) rfl (fun _ => rfl) ?_
    refine dp_s1 hF (i := .dup2) rfl (fun _ => rfl) ?_
    refine dp_s3 hF (i := .laload) rfl (fun _ => rfl) ?_
    refine dp_s1 hF (i := .lload_n 3) rfl (fun _ => rfl) ?_
    refine dp_s1 hF (i := .lsub) rfl (fun _ => rfl) ?_
    refine dp_s3w (dp_setJ M1 191 (Int32.toNatClampNeg v1) ((dp_J M1 191 (Int32.toNatClampNeg v1)) - v3)) (fun (M2 : dp_M) => (111, [some (.ref 114), some (.int v1), some (.int v2), some (.long v3), none], [], M2)) hF (i := .lastore) rfl (fun _ => rfl) (fun M2 => ?_)
    refine dp_s1 hF (i := .aload_n 0) rfl (fun _ => rfl) ?_
    refine dp_s1 hF (i := .getfield 245) rfl (fun _ => rfl) ?_
    refine dp_s1 hF (i := .iload_n 2) rfl (fun _ => rfl) ?_
    refine dp_s1 hF (i := .dup2) rfl (fun _ => rfl) ?_
    refine dp_s3 hF (i := .laload) rfl (fun _ => rfl) ?_
    refine dp_s1 hF (i := .lload_n 3) rfl (fun _ => rfl) ?_
    refine dp_s1 hF (i := .ladd) rfl (fun _ => rfl) ?_
    refine dp_s3w (dp_setJ M2 191 (Int32.toNatClampNeg v2) ((dp_J M2 191 (Int32.toNatClampNeg v2)) + v3)) (fun (M3 : dp_M) => (121, [some (.ref 114), some (.int v1), some (.int v2), some (.long v3), none], [], M3)) hF (i := .lastore) rfl (fun _ => rfl) (fun M3 => ?_)
    refine dp_s1 hF (i := .iconst 1) rfl (fun _ => rfl) ?_
    exact dp_s0 hF (i := .ireturn) rfl (fun _ => rfl)
  refine dp_s1 hF (i := .iconst 0) rfl (fun _ => rfl) ?_
  exact dp_s0 hF (i := .ireturn) rfl (fun _ => rfl)
noncomputable def D_X12_balance_0 (xs : Nat → Int32) (xl d : Nat) (v1 : Int32) (v2 : Int32) (M : dp_M) : Option dp_Res := dp_lim true xs xl (dp_den true xs xl d) dp_m_X12_balance (0, [some (.ref 114), some (.int v1), some (.int v2)], [], M)
theorem D_X12_balance_0_den (xs : Nat → Int32) (xl d : Nat) (a0 : Int32) (a1 : Int32) (M : dp_M) : dp_den true xs xl (d + 1) 513 [.ref 114, .int a0, .int a1] M = D_X12_balance_0 xs xl d a0 a1 M := rfl
set_option maxRecDepth 20000 in
theorem D_X12_balance_0_eq (xs : Nat → Int32) (xl d : Nat) (v1 : Int32) (v2 : Int32) (M : dp_M) : D_X12_balance_0 xs xl d v1 v2 M = dp_bi (dp_den true xs xl d 505 [.ref 114, .int v1] M) (fun r2 M1 => if r2 = 0 then (dp_bi (dp_den true xs xl d 366 [.ref 114, .int (1 : Int32)] M1) (fun r4 M3 => some (.inl (some (.long (Int32.toInt64 r4))), M3))) else (if v1 < 0 ∨ 16 ≤ Int32.toNatClampNeg v1 then none else (if v2 < (dp_I M1 192 (Int32.toNatClampNeg v1)) then (dp_bi (dp_den true xs xl d 366 [.ref 114, .int (2 : Int32)] M1) (fun r6 M5 => some (.inl (some (.long (Int32.toInt64 r6))), M5))) else (if v1 < 0 ∨ 16 ≤ Int32.toNatClampNeg v1 then none else (if v2 ≤ (dp_I M1 194 (Int32.toNatClampNeg v1)) then (dp_w (dp_setI M1 114 0 (0 : Int32)) (fun M7 => dp_bv (dp_den true xs xl d 508 [.ref 114, .int v1, .int v2] M7) (fun M8 => some (.inl (some (.long (dp_J M8 114 118))), M8)))) else (dp_bi (dp_den true xs xl d 366 [.ref 114, .int (2 : Int32)] M1) (fun r10 M9 => some (.inl (some (.long (Int32.toInt64 r10))), M9)))))))) := by
  have hF := dp_den_grow (md := true) (xs := xs) (xl := xl) d
  unfold D_X12_balance_0
  refine dp_s1 hF (i := .aload_n 0) rfl (fun _ => rfl) ?_
  refine dp_s1 hF (i := .iload_n 1) rfl (fun _ => rfl) ?_
  refine dp_si (mj := dp_m_X12_isOrder) (i := .invokevirtual 905) rfl rfl (Or.inr rfl) rfl (fun _ => rfl) (fun r2 M1 => ?_)
  refine dp_s2 hF (i := .ifCond .ne 10) (a := (8, [some (.ref 114), some (.int v1), some (.int v2)], [], M1)) (b := (15, [some (.ref 114), some (.int v1), some (.int v2)], [], M1)) rfl (fun _ => rfl) ?_ ?_
  · refine dp_s1 hF (i := .aload_n 0) rfl (fun _ => rfl) ?_
    refine dp_s1 hF (i := .iconst 1) rfl (fun _ => rfl) ?_
    refine dp_si (mj := dp_m_X12_refuse) (i := .invokevirtual 460) rfl rfl (Or.inl rfl) rfl (fun _ => rfl) (fun r4 M3 => ?_)
    refine dp_s1 hF (i := .i2l) rfl (fun _ => rfl) ?_
    exact dp_s0 hF (i := .lreturn) rfl (fun _ => rfl)
  refine dp_s1 hF (i := .iload_n 2) rfl (fun _ => rfl) ?_
  refine dp_s1 hF (i := .aload_n 0) rfl (fun _ => rfl) ?_
  refine dp_s1 hF (i := .getfield 248) rfl (fun _ => rfl) ?_
  refine dp_s1 hF (i := .iload_n 1) rfl (fun _ => rfl) ?_
  refine dp_s3 hF (i := .iaload) rfl (fun _ => rfl) ?_
  refine dp_s2 hF (i := .if_icmp .lt 13) (a := (35, [some (.ref 114), some (.int v1), some (.int v2)], [], M1)) (b := (25, [some (.ref 114), some (.int v1), some (.int v2)], [], M1)) rfl (fun _ => rfl) ?_ ?_
  · refine dp_s1 hF (i := .aload_n 0) rfl (fun _ => rfl) ?_
    refine dp_s1 hF (i := .iconst 2) rfl (fun _ => rfl) ?_
    refine dp_si (mj := dp_m_X12_refuse) (i := .invokevirtual 460) rfl rfl (Or.inl rfl) rfl (fun _ => rfl) (fun r6 M5 => ?_)
    refine dp_s1 hF (i := .i2l) rfl (fun _ => rfl) ?_
    exact dp_s0 hF (i := .lreturn) rfl (fun _ => rfl)
  refine dp_s1 hF (i := .iload_n 2) rfl (fun _ => rfl) ?_
  refine dp_s1 hF (i := .aload_n 0) rfl (fun _ => rfl) ?_
  refine dp_s1 hF (i := .getfield 254) rfl (fun _ => rfl) ?_
  refine dp_s1 hF (i := .iload_n 1) rfl (fun _ => rfl) ?_
  refine dp_s3 hF (i := .iaload) rfl (fun _ => rfl) ?_
  refine dp_s2 hF (i := .if_icmp .le 10) (a := (42, [some (.ref 114), some (.int v1), some (.int v2)], [], M1)) (b := (35, [some (.ref 114), some (.int v1), some (.int v2)], [], M1)) rfl (fun _ => rfl) ?_ ?_
  · refine dp_s1 hF (i := .aload_n 0) rfl (fun _ => rfl) ?_
    refine dp_s1 hF (i := .iconst 0) rfl (fun _ => rfl) ?_
    refine dp_s1w (dp_setI M1 114 0 (0 : Int32)) (fun (M7 : dp_M) => (47, [some (.ref 114), some (.int v1), some (.int v2)], [], M7)) hF (i := .putfield 1) rfl (fun _ => rfl) (fun M7 => ?_)
    refine dp_s1 hF (i := .aload_n 0) rfl (fun _ => rfl) ?_
    refine dp_s1 hF (i := .iload_n 1) rfl (fun _ => rfl) ?_
    refine dp_s1 hF (i := .iload_n 2) rfl (fun _ => rfl) ?_
    refine dp_sv (mj := dp_m_X12_course) (i := .invokevirtual 908) rfl rfl rfl rfl (fun _ => rfl) (fun M8 => ?_)
    refine dp_s1 hF (i := .aload_n 0) rfl (fun _ => rfl) ?_
    refine dp_s1 hF (i := .getfield 894) rfl (fun _ => rfl) ?_
    exact dp_s0 hF (i := .lreturn) rfl (fun _ => rfl)
  refine dp_s1 hF (i := .aload_n 0) rfl (fun _ => rfl) ?_
  refine dp_s1 hF (i := .iconst 2) rfl (fun _ => rfl) ?_
  refine dp_si (mj := dp_m_X12_refuse) (i := .invokevirtual 460) rfl rfl (Or.inl rfl) rfl (fun _ => rfl) (fun r10 M9 => ?_)
  refine dp_s1 hF (i := .i2l) rfl (fun _ => rfl) ?_
  exact dp_s0 hF (i := .lreturn) rfl (fun _ => rfl)
noncomputable def D_X12_quota_0 (xs : Nat → Int32) (xl d : Nat) (v1 : Int32) (v2 : Int32) (M : dp_M) : Option dp_Res := dp_lim true xs xl (dp_den true xs xl d) dp_m_X12_quota (0, [some (.ref 114), some (.int v1), some (.int v2), none, none, none], [], M)
noncomputable def D_X12_quota_48 (xs : Nat → Int32) (xl d : Nat) (v1 : Int32) (v2 : Int32) (v3 : Int32) (v4 : Int32) (M : dp_M) : Option dp_Res := dp_lim true xs xl (dp_den true xs xl d) dp_m_X12_quota (48, [some (.ref 114), some (.int v1), some (.int v2), some (.int v3), some (.int v4), none], [], M)
noncomputable def D_X12_quota_92 (xs : Nat → Int32) (xl d : Nat) (v1 : Int32) (v2 : Int32) (v3 : Int32) (v4 : Int32) (v5 : Int32) (M : dp_M) : Option dp_Res := dp_lim true xs xl (dp_den true xs xl d) dp_m_X12_quota (92, [some (.ref 114), some (.int v1), some (.int v2), some (.int v3), some (.int v4), some (.int v5)], [], M)
theorem D_X12_quota_0_den (xs : Nat → Int32) (xl d : Nat) (a0 : Int32) (a1 : Int32) (M : dp_M) : dp_den true xs xl (d + 1) 514 [.ref 114, .int a0, .int a1] M = D_X12_quota_0 xs xl d a0 a1 M := rfl
set_option maxRecDepth 20000 in
theorem D_X12_quota_0_eq (xs : Nat → Int32) (xl d : Nat) (v1 : Int32) (v2 : Int32) (M : dp_M) : D_X12_quota_0 xs xl d v1 v2 M = dp_bi (dp_den true xs xl d 505 [.ref 114, .int v1] M) (fun r2 M1 => if r2 = 0 then (dp_bi (dp_den true xs xl d 366 [.ref 114, .int (1 : Int32)] M1) (fun r4 M3 => some (.inl (some (.long (Int32.toInt64 r4))), M3))) else (dp_bi (dp_den true xs xl d 367 [.long (Int32.toInt64 v2), .long (0 : Int64), .long (4 : Int64)] M1) (fun r6 M5 => if r6 = 0 then (dp_bi (dp_den true xs xl d 366 [.ref 114, .int (1 : Int32)] M5) (fun r8 M7 => some (.inl (some (.long (Int32.toInt64 r8))), M7))) else (dp_w (dp_setI M5 114 0 (0 : Int32)) (fun M9 => if v1 < 0 ∨ 16 ≤ Int32.toNatClampNeg v1 then none else (dp_bv (dp_den true xs xl d 508 [.ref 114, .int v1, .int (dp_I M9 194 (Int32.toNatClampNeg v1))] M9) (fun M10 => dp_w (0 : Int32) (fun y11 => dp_w (0 : Int32) (fun y12 => D_X12_quota_48 xs xl d v1 v2 y11 y12 M10))))))))) := by
  have hF := dp_den_grow (md := true) (xs := xs) (xl := xl) d
  unfold D_X12_quota_0
  refine dp_s1 hF (i := .aload_n 0) rfl (fun _ => rfl) ?_
  refine dp_s1 hF (i := .iload_n 1) rfl (fun _ => rfl) ?_
  refine dp_si (mj := dp_m_X12_isOrder) (i := .invokevirtual 905) rfl rfl (Or.inr rfl) rfl (fun _ => rfl) (fun r2 M1 => ?_)
  refine dp_s2 hF (i := .ifCond .eq 15) (a := (20, [some (.ref 114), some (.int v1), some (.int v2), none, none, none], [], M1)) (b := (8, [some (.ref 114), some (.int v1), some (.int v2), none, none, none], [], M1)) rfl (fun _ => rfl) ?_ ?_
  · refine dp_s1 hF (i := .aload_n 0) rfl (fun _ => rfl) ?_
    refine dp_s1 hF (i := .iconst 1) rfl (fun _ => rfl) ?_
    refine dp_si (mj := dp_m_X12_refuse) (i := .invokevirtual 460) rfl rfl (Or.inl rfl) rfl (fun _ => rfl) (fun r4 M3 => ?_)
    refine dp_s1 hF (i := .i2l) rfl (fun _ => rfl) ?_
    exact dp_s0 hF (i := .lreturn) rfl (fun _ => rfl)
  refine dp_s1 hF (i := .iload_n 2) rfl (fun _ => rfl) ?_
  refine dp_s1 hF (i := .i2l) rfl (fun _ => rfl) ?_
  refine dp_s1 hF (i := .lconst 0) rfl (fun _ => rfl) ?_
  refine dp_s1 hF (i := .ldc2_w 625) rfl (fun _ => rfl) ?_
  refine dp_si (mj := dp_m_X12_in) (i := .invokestatic 446) rfl rfl (Or.inr rfl) rfl (fun _ => rfl) (fun r6 M5 => ?_)
  refine dp_s2 hF (i := .ifCond .ne 10) (a := (20, [some (.ref 114), some (.int v1), some (.int v2), none, none, none], [], M5)) (b := (27, [some (.ref 114), some (.int v1), some (.int v2), none, none, none], [], M5)) rfl (fun _ => rfl) ?_ ?_
  · refine dp_s1 hF (i := .aload_n 0) rfl (fun _ => rfl) ?_
    refine dp_s1 hF (i := .iconst 1) rfl (fun _ => rfl) ?_
    refine dp_si (mj := dp_m_X12_refuse) (i := .invokevirtual 460) rfl rfl (Or.inl rfl) rfl (fun _ => rfl) (fun r8 M7 => ?_)
    refine dp_s1 hF (i := .i2l) rfl (fun _ => rfl) ?_
    exact dp_s0 hF (i := .lreturn) rfl (fun _ => rfl)
  refine dp_s1 hF (i := .aload_n 0) rfl (fun _ => rfl) ?_
  refine dp_s1 hF (i := .iconst 0) rfl (fun _ => rfl) ?_
  refine dp_s1w (dp_setI M5 114 0 (0 : Int32)) (fun (M9 : dp_M) => (32, [some (.ref 114), some (.int v1), some (.int v2), none, none, none], [], M9)) hF (i := .putfield 1) rfl (fun _ => rfl) (fun M9 => ?_)
  refine dp_s1 hF (i := .aload_n 0) rfl (fun _ => rfl) ?_
  refine dp_s1 hF (i := .iload_n 1) rfl (fun _ => rfl) ?_
  refine dp_s1 hF (i := .aload_n 0) rfl (fun _ => rfl) ?_
  refine dp_s1 hF (i := .getfield 254) rfl (fun _ => rfl) ?_
  refine dp_s1 hF (i := .iload_n 1) rfl (fun _ => rfl) ?_
  refine dp_s3 hF (i := .iaload) rfl (fun _ => rfl) ?_
  refine dp_sv (mj := dp_m_X12_course) (i := .invokevirtual 908) rfl rfl rfl rfl (fun _ => rfl) (fun M10 => ?_)
  refine dp_s1 hF (i := .iconst 0) rfl (fun _ => rfl) ?_
  refine dp_s1w (0 : Int32) (fun (y11 : Int32) => (45, [some (.ref 114), some (.int v1), some (.int v2), some (.int y11), none, none], [], M10)) hF (i := .istore_n 3) rfl (fun _ => rfl) (fun y11 => ?_)
  refine dp_s1 hF (i := .iconst 0) rfl (fun _ => rfl) ?_
  refine dp_s1w (0 : Int32) (fun (y12 : Int32) => (48, [some (.ref 114), some (.int v1), some (.int v2), some (.int y11), some (.int y12), none], [], M10)) hF (i := .istore 4) rfl (fun _ => rfl) (fun y12 => ?_)
  exact rfl
set_option maxRecDepth 20000 in
theorem D_X12_quota_48_eq (xs : Nat → Int32) (xl d : Nat) (v1 : Int32) (v2 : Int32) (v3 : Int32) (v4 : Int32) (M : dp_M) : D_X12_quota_48 xs xl d v1 v2 v3 v4 M = if (401 : Int32) ≤ v4 then (dp_w (0 : Int32) (fun y1 => dp_w (0 : Int32) (fun y2 => D_X12_quota_92 xs xl d v1 v2 v3 y1 y2 M))) else (if (((401 : Int32) * v1) + v4) < 0 ∨ 6416 ≤ Int32.toNatClampNeg (((401 : Int32) * v1) + v4) then none else (if (dp_I M 195 (Int32.toNatClampNeg (((401 : Int32) * v1) + v4))) = 0 then (dp_w (v3 + (0 : Int32)) (fun y3 => dp_w (v4 + (1 : Int32)) (fun y4 => D_X12_quota_48 xs xl d v1 v2 y3 y4 M))) else (dp_w (v3 + (1 : Int32)) (fun y5 => dp_w (v4 + (1 : Int32)) (fun y6 => D_X12_quota_48 xs xl d v1 v2 y5 y6 M))))) := by
  have hF := dp_den_grow (md := true) (xs := xs) (xl := xl) d
  unfold D_X12_quota_48
  refine dp_s1 hF (i := .iload 4) rfl (fun _ => rfl) ?_
  refine dp_s1 hF (i := .sipush 401) rfl (fun _ => rfl) ?_
  refine dp_s2 hF (i := .if_icmp .ge 33) (a := (86, [some (.ref 114), some (.int v1), some (.int v2), some (.int v3), some (.int v4), none], [], M)) (b := (56, [some (.ref 114), some (.int v1), some (.int v2), some (.int v3), some (.int v4), none], [], M)) rfl (fun _ => rfl) ?_ ?_
  · refine dp_s1 hF (i := .iconst 0) rfl (fun _ => rfl) ?_
    refine dp_s1w (0 : Int32) (fun (y1 : Int32) => (89, [some (.ref 114), some (.int v1), some (.int v2), some (.int v3), some (.int y1), none], [], M)) hF (i := .istore 4) rfl (fun _ => rfl) (fun y1 => ?_)
    refine dp_s1 hF (i := .iconst 0) rfl (fun _ => rfl) ?_
    refine dp_s1w (0 : Int32) (fun (y2 : Int32) => (92, [some (.ref 114), some (.int v1), some (.int v2), some (.int v3), some (.int y1), some (.int y2)], [], M)) hF (i := .istore 5) rfl (fun _ => rfl) (fun y2 => ?_)
    exact rfl
  refine dp_s1 hF (i := .iload_n 3) rfl (fun _ => rfl) ?_
  refine dp_s1 hF (i := .aload_n 0) rfl (fun _ => rfl) ?_
  refine dp_s1 hF (i := .getfield 257) rfl (fun _ => rfl) ?_
  refine dp_s1 hF (i := .sipush 401) rfl (fun _ => rfl) ?_
  refine dp_s1 hF (i := .iload_n 1) rfl (fun _ => rfl) ?_
  refine dp_s1 hF (i := .imul) rfl (fun _ => rfl) ?_
  refine dp_s1 hF (i := .iload 4) rfl (fun _ => rfl) ?_
  refine dp_s1 hF (i := .iadd) rfl (fun _ => rfl) ?_
  refine dp_s3 hF (i := .baload) rfl (fun _ => rfl) ?_
  refine dp_s2 hF (i := .ifCond .eq 7) (a := (77, [some (.ref 114), some (.int v1), some (.int v2), some (.int v3), some (.int v4), none], [.int v3], M)) (b := (73, [some (.ref 114), some (.int v1), some (.int v2), some (.int v3), some (.int v4), none], [.int v3], M)) rfl (fun _ => rfl) ?_ ?_
  · refine dp_s1 hF (i := .iconst 0) rfl (fun _ => rfl) ?_
    refine dp_s1 hF (i := .iadd) rfl (fun _ => rfl) ?_
    refine dp_s1w (v3 + (0 : Int32)) (fun (y3 : Int32) => (80, [some (.ref 114), some (.int v1), some (.int v2), some (.int y3), some (.int v4), none], [], M)) hF (i := .istore_n 3) rfl (fun _ => rfl) (fun y3 => ?_)
    refine dp_s1w (v4 + (1 : Int32)) (fun (y4 : Int32) => (83, [some (.ref 114), some (.int v1), some (.int v2), some (.int y3), some (.int y4), none], [], M)) hF (i := .iinc 4 1) rfl (fun _ => rfl) (fun y4 => ?_)
    refine dp_s1 hF (i := .goto (-35)) rfl (fun _ => rfl) ?_
    exact rfl
  refine dp_s1 hF (i := .iconst 1) rfl (fun _ => rfl) ?_
  refine dp_s1 hF (i := .goto 4) rfl (fun _ => rfl) ?_
  refine dp_s1 hF (i := .iadd) rfl (fun _ => rfl) ?_
  refine dp_s1w (v3 + (1 : Int32)) (fun (y5 : Int32) => (80, [some (.ref 114), some (.int v1), some (.int v2), some (.int y5), some (.int v4), none], [], M)) hF (i := .istore_n 3) rfl (fun _ => rfl) (fun y5 => ?_)
  refine dp_s1w (v4 + (1 : Int32)) (fun (y6 : Int32) => (83, [some (.ref 114), some (.int v1), some (.int v2), some (.int y5), some (.int y6), none], [], M)) hF (i := .iinc 4 1) rfl (fun _ => rfl) (fun y6 => ?_)
  refine dp_s1 hF (i := .goto (-35)) rfl (fun _ => rfl) ?_
  exact rfl
set_option maxRecDepth 20000 in
theorem D_X12_quota_92_eq (xs : Nat → Int32) (xl d : Nat) (v1 : Int32) (v2 : Int32) (v3 : Int32) (v4 : Int32) (v5 : Int32) (M : dp_M) : D_X12_quota_92 xs xl d v1 v2 v3 v4 v5 M = if (dp_I M 114 111) ≤ v5 then (if v2 = (0 : Int32) then (if v1 < 0 ∨ 16 ≤ Int32.toNatClampNeg v1 then none else (some (.inl (some (.long (dp_J M 191 (Int32.toNatClampNeg v1)))), M))) else if v2 = (1 : Int32) then (if v1 < 0 ∨ 16 ≤ Int32.toNatClampNeg v1 then none else (some (.inl (some (.long (Int32.toInt64 (dp_I M 194 (Int32.toNatClampNeg v1))))), M))) else if v2 = (2 : Int32) then (some (.inl (some (.long (Int32.toInt64 v3))), M)) else if v2 = (3 : Int32) then (some (.inl (some (.long (Int32.toInt64 v4))), M)) else (if v1 < 0 ∨ 16 ≤ Int32.toNatClampNeg v1 then none else (if 0 ≤ (lg_cmp ((10 : Int64) * (dp_J M 114 118)) (dp_J M 191 (Int32.toNatClampNeg v1))) then (some (.inl (some (.long (0 : Int64))), M)) else (some (.inl (some (.long (1 : Int64))), M))))) else (if v5 < 0 ∨ 400 ≤ Int32.toNatClampNeg v5 then none else (if (dp_I M 197 (Int32.toNatClampNeg v5)) = v1 then (if v5 < 0 ∨ 400 ≤ Int32.toNatClampNeg v5 then none else (if (dp_I M 199 (Int32.toNatClampNeg v5)) = (-1 : Int32) then (dp_w (v4 + (1 : Int32)) (fun y1 => dp_w (v5 + (1 : Int32)) (fun y2 => D_X12_quota_92 xs xl d v1 v2 v3 y1 y2 M))) else (dp_w (v4 + (0 : Int32)) (fun y3 => dp_w (v5 + (1 : Int32)) (fun y4 => D_X12_quota_92 xs xl d v1 v2 v3 y3 y4 M))))) else (dp_w (v4 + (0 : Int32)) (fun y5 => dp_w (v5 + (1 : Int32)) (fun y6 => D_X12_quota_92 xs xl d v1 v2 v3 y5 y6 M))))) := by
  have hF := dp_den_grow (md := true) (xs := xs) (xl := xl) d
  unfold D_X12_quota_92
  refine dp_s1 hF (i := .iload 5) rfl (fun _ => rfl) ?_
  refine dp_s1 hF (i := .aload_n 0) rfl (fun _ => rfl) ?_
  refine dp_s1 hF (i := .getfield 888) rfl (fun _ => rfl) ?_
  refine dp_s2 hF (i := .if_icmp .ge 41) (a := (139, [some (.ref 114), some (.int v1), some (.int v2), some (.int v3), some (.int v4), some (.int v5)], [], M)) (b := (101, [some (.ref 114), some (.int v1), some (.int v2), some (.int v3), some (.int v4), some (.int v5)], [], M)) rfl (fun _ => rfl) ?_ ?_
  · refine dp_s1 hF (i := .iload_n 2) rfl (fun _ => rfl) ?_
    refine (dp_s (E := fun k => if v2 = (0 : Int32) then k (172, [some (.ref 114), some (.int v1), some (.int v2), some (.int v3), some (.int v4), some (.int v5)], [], M) else if v2 = (1 : Int32) then k (179, [some (.ref 114), some (.int v1), some (.int v2), some (.int v3), some (.int v4), some (.int v5)], [], M) else if v2 = (2 : Int32) then k (187, [some (.ref 114), some (.int v1), some (.int v2), some (.int v3), some (.int v4), some (.int v5)], [], M) else if v2 = (3 : Int32) then k (190, [some (.ref 114), some (.int v1), some (.int v2), some (.int v3), some (.int v4), some (.int v5)], [], M) else k (194, [some (.ref 114), some (.int v1), some (.int v2), some (.int v3), some (.int v4), some (.int v5)], [], M)) hF (i := .tableswitch 54 0 3 #[32, 39, 47, 50]) rfl (fun _ => rfl)).trans ?_
    refine dp_ifc ?_ ?_
    · refine dp_s1 hF (i := .aload_n 0) rfl (fun _ => rfl) ?_
      refine dp_s1 hF (i := .getfield 245) rfl (fun _ => rfl) ?_
      refine dp_s1 hF (i := .iload_n 1) rfl (fun _ => rfl) ?_
      refine dp_s3 hF (i := .laload) rfl (fun _ => rfl) ?_
      exact dp_s0 hF (i := .lreturn) rfl (fun _ => rfl)
    refine dp_ifc ?_ ?_
    · refine dp_s1 hF (i := .aload_n 0) rfl (fun _ => rfl) ?_
      refine dp_s1 hF (i := .getfield 254) rfl (fun _ => rfl) ?_
      refine dp_s1 hF (i := .iload_n 1) rfl (fun _ => rfl) ?_
      refine dp_s3 hF (i := .iaload) rfl (fun _ => rfl) ?_
      refine dp_s1 hF (i := .i2l) rfl (fun _ => rfl) ?_
      exact dp_s0 hF (i := .lreturn) rfl (fun _ => rfl)
    refine dp_ifc ?_ ?_
    · refine dp_s1 hF (i := .iload_n 3) rfl (fun _ => rfl) ?_
      refine dp_s1 hF (i := .i2l) rfl (fun _ => rfl) ?_
      exact dp_s0 hF (i := .lreturn) rfl (fun _ => rfl)
    refine dp_ifc ?_ ?_
    · refine dp_s1 hF (i := .iload 4) rfl (fun _ => rfl) ?_
      refine dp_s1 hF (i := .i2l) rfl (fun _ => rfl) ?_
      exact dp_s0 hF (i := .lreturn) rfl (fun _ => rfl)
    refine dp_s1 hF (i := .ldc2_w 647) rfl (fun _ => rfl) ?_
    refine dp_s1 hF (i := .aload_n 0) rfl (fun _ => rfl) ?_
    refine dp_s1 hF (i := .getfield 894) rfl (fun _ => rfl) ?_
    refine dp_s1 hF (i := .lmul) rfl (fun _ => rfl) ?_
    refine dp_s1 hF (i := .aload_n 0) rfl (fun _ => rfl) ?_
    refine dp_s1 hF (i := .getfield 245) rfl (fun _ => rfl) ?_
    refine dp_s1 hF (i := .iload_n 1) rfl (fun _ => rfl) ?_
    refine dp_s3 hF (i := .laload) rfl (fun _ => rfl) ?_
    refine dp_s1 hF (i := .lcmp) rfl (fun _ => rfl) ?_
    refine dp_s2 hF (i := .ifCond .ge 7) (a := (216, [some (.ref 114), some (.int v1), some (.int v2), some (.int v3), some (.int v4), some (.int v5)], [], M)) (b := (212, [some (.ref 114), some (.int v1), some (.int v2), some (.int v3), some (.int v4), some (.int v5)], [], M)) rfl (fun _ => rfl) ?_ ?_
    · refine dp_s1 hF (i := .lconst 0) rfl (fun _ => rfl) ?_
      exact dp_s0 hF (i := .lreturn) rfl (fun _ => rfl)
    refine dp_s1 hF (i := .lconst 1) rfl (fun _ => rfl) ?_
    refine dp_s1 hF (i := .goto 4) rfl (fun _ => rfl) ?_
    exact dp_s0 hF (i := .lreturn) rfl (fun _ => rfl)
  refine dp_s1 hF (i := .iload 4) rfl (fun _ => rfl) ?_
  refine dp_s1 hF (i := .aload_n 0) rfl (fun _ => rfl) ?_
  refine dp_s1 hF (i := .getfield 263) rfl (fun _ => rfl) ?_
  refine dp_s1 hF (i := .iload 5) rfl (fun _ => rfl) ?_
  refine dp_s3 hF (i := .iaload) rfl (fun _ => rfl) ?_
  refine dp_s1 hF (i := .iload_n 1) rfl (fun _ => rfl) ?_
  refine dp_s2 hF (i := .if_icmp .ne 18) (a := (114, [some (.ref 114), some (.int v1), some (.int v2), some (.int v3), some (.int v4), some (.int v5)], [.int v4], M)) (b := (129, [some (.ref 114), some (.int v1), some (.int v2), some (.int v3), some (.int v4), some (.int v5)], [.int v4], M)) rfl (fun _ => rfl) ?_ ?_
  · refine dp_s1 hF (i := .aload_n 0) rfl (fun _ => rfl) ?_
    refine dp_s1 hF (i := .getfield 269) rfl (fun _ => rfl) ?_
    refine dp_s1 hF (i := .iload 5) rfl (fun _ => rfl) ?_
    refine dp_s3 hF (i := .iaload) rfl (fun _ => rfl) ?_
    refine dp_s1 hF (i := .iconst (-1)) rfl (fun _ => rfl) ?_
    refine dp_s2 hF (i := .if_icmp .ne 7) (a := (125, [some (.ref 114), some (.int v1), some (.int v2), some (.int v3), some (.int v4), some (.int v5)], [.int v4], M)) (b := (129, [some (.ref 114), some (.int v1), some (.int v2), some (.int v3), some (.int v4), some (.int v5)], [.int v4], M)) rfl (fun _ => rfl) ?_ ?_
    · refine dp_s1 hF (i := .iconst 1) rfl (fun _ => rfl) ?_
      refine dp_s1 hF (i := .goto 4) rfl (fun _ => rfl) ?_
      refine dp_s1 hF (i := .iadd) rfl (fun _ => rfl) ?_
      refine dp_s1w (v4 + (1 : Int32)) (fun (y1 : Int32) => (133, [some (.ref 114), some (.int v1), some (.int v2), some (.int v3), some (.int y1), some (.int v5)], [], M)) hF (i := .istore 4) rfl (fun _ => rfl) (fun y1 => ?_)
      refine dp_s1w (v5 + (1 : Int32)) (fun (y2 : Int32) => (136, [some (.ref 114), some (.int v1), some (.int v2), some (.int v3), some (.int y1), some (.int y2)], [], M)) hF (i := .iinc 5 1) rfl (fun _ => rfl) (fun y2 => ?_)
      refine dp_s1 hF (i := .goto (-44)) rfl (fun _ => rfl) ?_
      exact rfl
    refine dp_s1 hF (i := .iconst 0) rfl (fun _ => rfl) ?_
    refine dp_s1 hF (i := .iadd) rfl (fun _ => rfl) ?_
    refine dp_s1w (v4 + (0 : Int32)) (fun (y3 : Int32) => (133, [some (.ref 114), some (.int v1), some (.int v2), some (.int v3), some (.int y3), some (.int v5)], [], M)) hF (i := .istore 4) rfl (fun _ => rfl) (fun y3 => ?_)
    refine dp_s1w (v5 + (1 : Int32)) (fun (y4 : Int32) => (136, [some (.ref 114), some (.int v1), some (.int v2), some (.int v3), some (.int y3), some (.int y4)], [], M)) hF (i := .iinc 5 1) rfl (fun _ => rfl) (fun y4 => ?_)
    refine dp_s1 hF (i := .goto (-44)) rfl (fun _ => rfl) ?_
    exact rfl
  refine dp_s1 hF (i := .iconst 0) rfl (fun _ => rfl) ?_
  refine dp_s1 hF (i := .iadd) rfl (fun _ => rfl) ?_
  refine dp_s1w (v4 + (0 : Int32)) (fun (y5 : Int32) => (133, [some (.ref 114), some (.int v1), some (.int v2), some (.int v3), some (.int y5), some (.int v5)], [], M)) hF (i := .istore 4) rfl (fun _ => rfl) (fun y5 => ?_)
  refine dp_s1w (v5 + (1 : Int32)) (fun (y6 : Int32) => (136, [some (.ref 114), some (.int v1), some (.int v2), some (.int v3), some (.int y5), some (.int y6)], [], M)) hF (i := .iinc 5 1) rfl (fun _ => rfl) (fun y6 => ?_)
  refine dp_s1 hF (i := .goto (-44)) rfl (fun _ => rfl) ?_
  exact rfl
noncomputable def D_X12_isGuarantee_0 (xs : Nat → Int32) (xl d : Nat) (v1 : Int32) (M : dp_M) : Option dp_Res := dp_lim true xs xl (dp_den true xs xl d) dp_m_X12_isGuarantee (0, [some (.ref 114), some (.int v1)], [], M)
theorem D_X12_isGuarantee_0_den (xs : Nat → Int32) (xl d : Nat) (a0 : Int32) (M : dp_M) : dp_den true xs xl (d + 1) 515 [.ref 114, .int a0] M = D_X12_isGuarantee_0 xs xl d a0 M := rfl
set_option maxRecDepth 20000 in
theorem D_X12_isGuarantee_0_eq (xs : Nat → Int32) (xl d : Nat) (v1 : Int32) (M : dp_M) : D_X12_isGuarantee_0 xs xl d v1 M = if v1 < (1 : Int32) then (some (.inl (some (.int (0 : Int32))), M)) else (if (dp_I M 114 119) < v1 then (some (.inl (some (.int (0 : Int32))), M)) else (some (.inl (some (.int (1 : Int32))), M))) := by
  have hF := dp_den_grow (md := true) (xs := xs) (xl := xl) d
  unfold D_X12_isGuarantee_0
  refine dp_s1 hF (i := .iload_n 1) rfl (fun _ => rfl) ?_
  refine dp_s1 hF (i := .iconst 1) rfl (fun _ => rfl) ?_
  refine dp_s2 hF (i := .if_icmp .lt 15) (a := (17, [some (.ref 114), some (.int v1)], [], M)) (b := (5, [some (.ref 114), some (.int v1)], [], M)) rfl (fun _ => rfl) ?_ ?_
  · refine dp_s1 hF (i := .iconst 0) rfl (fun _ => rfl) ?_
    exact dp_s0 hF (i := .ireturn) rfl (fun _ => rfl)
  refine dp_s1 hF (i := .iload_n 1) rfl (fun _ => rfl) ?_
  refine dp_s1 hF (i := .aload_n 0) rfl (fun _ => rfl) ?_
  refine dp_s1 hF (i := .getfield 911) rfl (fun _ => rfl) ?_
  refine dp_s2 hF (i := .if_icmp .gt 7) (a := (17, [some (.ref 114), some (.int v1)], [], M)) (b := (13, [some (.ref 114), some (.int v1)], [], M)) rfl (fun _ => rfl) ?_ ?_
  · refine dp_s1 hF (i := .iconst 0) rfl (fun _ => rfl) ?_
    exact dp_s0 hF (i := .ireturn) rfl (fun _ => rfl)
  refine dp_s1 hF (i := .iconst 1) rfl (fun _ => rfl) ?_
  refine dp_s1 hF (i := .goto 4) rfl (fun _ => rfl) ?_
  exact dp_s0 hF (i := .ireturn) rfl (fun _ => rfl)
noncomputable def D_X12_isHolder_0 (xs : Nat → Int32) (xl d : Nat) (v0 : Int32) (M : dp_M) : Option dp_Res := dp_lim true xs xl (dp_den true xs xl d) dp_m_X12_isHolder (0, [some (.int v0)], [], M)
theorem D_X12_isHolder_0_den (xs : Nat → Int32) (xl d : Nat) (a0 : Int32) (M : dp_M) : dp_den true xs xl (d + 1) 516 [.int a0] M = D_X12_isHolder_0 xs xl d a0 M := rfl
set_option maxRecDepth 20000 in
theorem D_X12_isHolder_0_eq (xs : Nat → Int32) (xl d : Nat) (v0 : Int32) (M : dp_M) : D_X12_isHolder_0 xs xl d v0 M = if v0 < 0 then (some (.inl (some (.int (0 : Int32))), M)) else (if (8 : Int32) ≤ v0 then (some (.inl (some (.int (0 : Int32))), M)) else (some (.inl (some (.int (1 : Int32))), M))) := by
  have hF := dp_den_grow (md := true) (xs := xs) (xl := xl) d
  unfold D_X12_isHolder_0
  refine dp_s1 hF (i := .iload_n 0) rfl (fun _ => rfl) ?_
  refine dp_s2 hF (i := .ifCond .lt 13) (a := (14, [some (.int v0)], [], M)) (b := (4, [some (.int v0)], [], M)) rfl (fun _ => rfl) ?_ ?_
  · refine dp_s1 hF (i := .iconst 0) rfl (fun _ => rfl) ?_
    exact dp_s0 hF (i := .ireturn) rfl (fun _ => rfl)
  refine dp_s1 hF (i := .iload_n 0) rfl (fun _ => rfl) ?_
  refine dp_s1 hF (i := .bipush 8) rfl (fun _ => rfl) ?_
  refine dp_s2 hF (i := .if_icmp .ge 7) (a := (14, [some (.int v0)], [], M)) (b := (10, [some (.int v0)], [], M)) rfl (fun _ => rfl) ?_ ?_
  · refine dp_s1 hF (i := .iconst 0) rfl (fun _ => rfl) ?_
    exact dp_s0 hF (i := .ireturn) rfl (fun _ => rfl)
  refine dp_s1 hF (i := .iconst 1) rfl (fun _ => rfl) ?_
  refine dp_s1 hF (i := .goto 4) rfl (fun _ => rfl) ?_
  exact dp_s0 hF (i := .ireturn) rfl (fun _ => rfl)
noncomputable def D_X12_guarantee_0 (xs : Nat → Int32) (xl d : Nat) (v1 : Int32) (v2 : Int64) (v4 : Int32) (v5 : Int32) (v6 : Int32) (v7 : Int32) (M : dp_M) : Option dp_Res := dp_lim true xs xl (dp_den true xs xl d) dp_m_X12_guarantee (0, [some (.ref 114), some (.int v1), some (.long v2), none, some (.int v4), some (.int v5), some (.int v6), some (.int v7), none], [], M)
theorem D_X12_guarantee_0_den (xs : Nat → Int32) (xl d : Nat) (a0 : Int32) (a1 : Int64) (a2 : Int32) (a3 : Int32) (a4 : Int32) (a5 : Int32) (M : dp_M) : dp_den true xs xl (d + 1) 517 [.ref 114, .int a0, .long a1, .int a2, .int a3, .int a4, .int a5] M = D_X12_guarantee_0 xs xl d a0 a1 a2 a3 a4 a5 M := rfl
set_option maxRecDepth 20000 in
theorem D_X12_guarantee_0_eq (xs : Nat → Int32) (xl d : Nat) (v1 : Int32) (v2 : Int64) (v4 : Int32) (v5 : Int32) (v6 : Int32) (v7 : Int32) (M : dp_M) : D_X12_guarantee_0 xs xl d v1 v2 v4 v5 v6 v7 M = dp_bi (dp_den true xs xl d 516 [.int v1] M) (fun r2 M1 => if r2 = 0 then (dp_bi (dp_den true xs xl d 366 [.ref 114, .int (1 : Int32)] M1) (fun r4 M3 => some (.inl (some (.int r4)), M3))) else (dp_bi (dp_den true xs xl d 367 [.long v2, .long (1 : Int64), .long (1000000000 : Int64)] M1) (fun r6 M5 => if r6 = 0 then (dp_bi (dp_den true xs xl d 366 [.ref 114, .int (1 : Int32)] M5) (fun r8 M7 => some (.inl (some (.int r8)), M7))) else (dp_bi (dp_den true xs xl d 367 [.long (Int32.toInt64 v4), .long (0 : Int64), .long (100 : Int64)] M5) (fun r10 M9 => if r10 = 0 then (dp_bi (dp_den true xs xl d 366 [.ref 114, .int (1 : Int32)] M9) (fun r12 M11 => some (.inl (some (.int r12)), M11))) else (dp_bi (dp_den true xs xl d 367 [.long (Int32.toInt64 v5), .long (1 : Int64), .long (100 : Int64)] M9) (fun r14 M13 => if r14 = 0 then (dp_bi (dp_den true xs xl d 366 [.ref 114, .int (1 : Int32)] M13) (fun r16 M15 => some (.inl (some (.int r16)), M15))) else (if v5 < v4 then (dp_bi (dp_den true xs xl d 366 [.ref 114, .int (1 : Int32)] M13) (fun r18 M17 => some (.inl (some (.int r18)), M17))) else (dp_bi (dp_den true xs xl d 367 [.long (Int32.toInt64 v7), .long (0 : Int64), .long (1000 : Int64)] M13) (fun r20 M19 => if r20 = 0 then (dp_bi (dp_den true xs xl d 366 [.ref 114, .int (1 : Int32)] M19) (fun r22 M21 => some (.inl (some (.int r22)), M21))) else (if (dp_I M19 114 119) = (40 : Int32) then (dp_bi (dp_den true xs xl d 366 [.ref 114, .int (2 : Int32)] M19) (fun r24 M23 => some (.inl (some (.int r24)), M23))) else (dp_w (dp_setI M19 114 0 (0 : Int32)) (fun M25 => if (dp_I M25 114 119) < 0 ∨ 40 ≤ Int32.toNatClampNeg (dp_I M25 114 119) then none else dp_w (dp_setI M25 213 (Int32.toNatClampNeg (dp_I M25 114 119)) ((dp_I M25 114 119) + (1 : Int32))) (fun M26 => dp_w (dp_setI M26 114 119 ((dp_I M26 114 119) + (1 : Int32))) (fun M27 => dp_w (dp_I M27 114 119) (fun y28 => if y28 < 0 ∨ 41 ≤ Int32.toNatClampNeg y28 then none else dp_w (dp_setI M27 202 (Int32.toNatClampNeg y28) v1) (fun M29 => if y28 < 0 ∨ 41 ≤ Int32.toNatClampNeg y28 then none else dp_w (dp_setJ M29 203 (Int32.toNatClampNeg y28) v2) (fun M30 => if y28 < 0 ∨ 41 ≤ Int32.toNatClampNeg y28 then none else dp_w (dp_setI M30 204 (Int32.toNatClampNeg y28) v4) (fun M31 => if y28 < 0 ∨ 41 ≤ Int32.toNatClampNeg y28 then none else dp_w (dp_setI M31 205 (Int32.toNatClampNeg y28) v5) (fun M32 => if y28 < 0 ∨ 41 ≤ Int32.toNatClampNeg y28 then none else dp_w (dp_setI M32 206 (Int32.toNatClampNeg y28) (v6 &&& 1)) (fun M33 => if y28 < 0 ∨ 41 ≤ Int32.toNatClampNeg y28 then none else dp_w (dp_setI M33 207 (Int32.toNatClampNeg y28) v7) (fun M34 => if y28 < 0 ∨ 41 ≤ Int32.toNatClampNeg y28 then none else dp_w (dp_setI M34 212 (Int32.toNatClampNeg y28) (dp_I M34 114 120)) (fun M35 => some (.inl (some (.int y28)), M35)))))))))))))))))))))))) := by
  have hF := dp_den_grow (md := true) (xs := xs) (xl := xl) d
  unfold D_X12_guarantee_0
  refine dp_s1 hF (i := .iload_n 1) rfl (fun _ => rfl) ?_
  refine dp_si (mj := dp_m_X12_isHolder) (i := .invokestatic 914) rfl rfl (Or.inr rfl) rfl (fun _ => rfl) (fun r2 M1 => ?_)
  refine dp_s2 hF (i := .ifCond .eq 60) (a := (64, [some (.ref 114), some (.int v1), some (.long v2), none, some (.int v4), some (.int v5), some (.int v6), some (.int v7), none], [], M1)) (b := (7, [some (.ref 114), some (.int v1), some (.long v2), none, some (.int v4), some (.int v5), some (.int v6), some (.int v7), none], [], M1)) rfl (fun _ => rfl) ?_ ?_
  · refine dp_s1 hF (i := .aload_n 0) rfl (fun _ => rfl) ?_
    refine dp_s1 hF (i := .iconst 1) rfl (fun _ => rfl) ?_
    refine dp_si (mj := dp_m_X12_refuse) (i := .invokevirtual 460) rfl rfl (Or.inl rfl) rfl (fun _ => rfl) (fun r4 M3 => ?_)
    exact dp_s0 hF (i := .ireturn) rfl (fun _ => rfl)
  refine dp_s1 hF (i := .lload_n 2) rfl (fun _ => rfl) ?_
  refine dp_s1 hF (i := .lconst 1) rfl (fun _ => rfl) ?_
  refine dp_s1 hF (i := .ldc2_w 900) rfl (fun _ => rfl) ?_
  refine dp_si (mj := dp_m_X12_in) (i := .invokestatic 446) rfl rfl (Or.inr rfl) rfl (fun _ => rfl) (fun r6 M5 => ?_)
  refine dp_s2 hF (i := .ifCond .eq 49) (a := (64, [some (.ref 114), some (.int v1), some (.long v2), none, some (.int v4), some (.int v5), some (.int v6), some (.int v7), none], [], M5)) (b := (18, [some (.ref 114), some (.int v1), some (.long v2), none, some (.int v4), some (.int v5), some (.int v6), some (.int v7), none], [], M5)) rfl (fun _ => rfl) ?_ ?_
  · refine dp_s1 hF (i := .aload_n 0) rfl (fun _ => rfl) ?_
    refine dp_s1 hF (i := .iconst 1) rfl (fun _ => rfl) ?_
    refine dp_si (mj := dp_m_X12_refuse) (i := .invokevirtual 460) rfl rfl (Or.inl rfl) rfl (fun _ => rfl) (fun r8 M7 => ?_)
    exact dp_s0 hF (i := .ireturn) rfl (fun _ => rfl)
  refine dp_s1 hF (i := .iload 4) rfl (fun _ => rfl) ?_
  refine dp_s1 hF (i := .i2l) rfl (fun _ => rfl) ?_
  refine dp_s1 hF (i := .lconst 0) rfl (fun _ => rfl) ?_
  refine dp_s1 hF (i := .ldc2_w 832) rfl (fun _ => rfl) ?_
  refine dp_si (mj := dp_m_X12_in) (i := .invokestatic 446) rfl rfl (Or.inr rfl) rfl (fun _ => rfl) (fun r10 M9 => ?_)
  refine dp_s2 hF (i := .ifCond .eq 36) (a := (64, [some (.ref 114), some (.int v1), some (.long v2), none, some (.int v4), some (.int v5), some (.int v6), some (.int v7), none], [], M9)) (b := (31, [some (.ref 114), some (.int v1), some (.long v2), none, some (.int v4), some (.int v5), some (.int v6), some (.int v7), none], [], M9)) rfl (fun _ => rfl) ?_ ?_
  · refine dp_s1 hF (i := .aload_n 0) rfl (fun _ => rfl) ?_
    refine dp_s1 hF (i := .iconst 1) rfl (fun _ => rfl) ?_
    refine dp_si (mj := dp_m_X12_refuse) (i := .invokevirtual 460) rfl rfl (Or.inl rfl) rfl (fun _ => rfl) (fun r12 M11 => ?_)
    exact dp_s0 hF (i := .ireturn) rfl (fun _ => rfl)
  refine dp_s1 hF (i := .iload 5) rfl (fun _ => rfl) ?_
  refine dp_s1 hF (i := .i2l) rfl (fun _ => rfl) ?_
  refine dp_s1 hF (i := .lconst 1) rfl (fun _ => rfl) ?_
  refine dp_s1 hF (i := .ldc2_w 832) rfl (fun _ => rfl) ?_
  refine dp_si (mj := dp_m_X12_in) (i := .invokestatic 446) rfl rfl (Or.inr rfl) rfl (fun _ => rfl) (fun r14 M13 => ?_)
  refine dp_s2 hF (i := .ifCond .eq 23) (a := (64, [some (.ref 114), some (.int v1), some (.long v2), none, some (.int v4), some (.int v5), some (.int v6), some (.int v7), none], [], M13)) (b := (44, [some (.ref 114), some (.int v1), some (.long v2), none, some (.int v4), some (.int v5), some (.int v6), some (.int v7), none], [], M13)) rfl (fun _ => rfl) ?_ ?_
  · refine dp_s1 hF (i := .aload_n 0) rfl (fun _ => rfl) ?_
    refine dp_s1 hF (i := .iconst 1) rfl (fun _ => rfl) ?_
    refine dp_si (mj := dp_m_X12_refuse) (i := .invokevirtual 460) rfl rfl (Or.inl rfl) rfl (fun _ => rfl) (fun r16 M15 => ?_)
    exact dp_s0 hF (i := .ireturn) rfl (fun _ => rfl)
  refine dp_s1 hF (i := .iload 4) rfl (fun _ => rfl) ?_
  refine dp_s1 hF (i := .iload 5) rfl (fun _ => rfl) ?_
  refine dp_s2 hF (i := .if_icmp .gt 16) (a := (64, [some (.ref 114), some (.int v1), some (.long v2), none, some (.int v4), some (.int v5), some (.int v6), some (.int v7), none], [], M13)) (b := (51, [some (.ref 114), some (.int v1), some (.long v2), none, some (.int v4), some (.int v5), some (.int v6), some (.int v7), none], [], M13)) rfl (fun _ => rfl) ?_ ?_
  · refine dp_s1 hF (i := .aload_n 0) rfl (fun _ => rfl) ?_
    refine dp_s1 hF (i := .iconst 1) rfl (fun _ => rfl) ?_
    refine dp_si (mj := dp_m_X12_refuse) (i := .invokevirtual 460) rfl rfl (Or.inl rfl) rfl (fun _ => rfl) (fun r18 M17 => ?_)
    exact dp_s0 hF (i := .ireturn) rfl (fun _ => rfl)
  refine dp_s1 hF (i := .iload 7) rfl (fun _ => rfl) ?_
  refine dp_s1 hF (i := .i2l) rfl (fun _ => rfl) ?_
  refine dp_s1 hF (i := .lconst 0) rfl (fun _ => rfl) ?_
  refine dp_s1 hF (i := .ldc2_w 456) rfl (fun _ => rfl) ?_
  refine dp_si (mj := dp_m_X12_in) (i := .invokestatic 446) rfl rfl (Or.inr rfl) rfl (fun _ => rfl) (fun r20 M19 => ?_)
  refine dp_s2 hF (i := .ifCond .ne 9) (a := (64, [some (.ref 114), some (.int v1), some (.long v2), none, some (.int v4), some (.int v5), some (.int v6), some (.int v7), none], [], M19)) (b := (70, [some (.ref 114), some (.int v1), some (.long v2), none, some (.int v4), some (.int v5), some (.int v6), some (.int v7), none], [], M19)) rfl (fun _ => rfl) ?_ ?_
  · refine dp_s1 hF (i := .aload_n 0) rfl (fun _ => rfl) ?_
    refine dp_s1 hF (i := .iconst 1) rfl (fun _ => rfl) ?_
    refine dp_si (mj := dp_m_X12_refuse) (i := .invokevirtual 460) rfl rfl (Or.inl rfl) rfl (fun _ => rfl) (fun r22 M21 => ?_)
    exact dp_s0 hF (i := .ireturn) rfl (fun _ => rfl)
  refine dp_s1 hF (i := .aload_n 0) rfl (fun _ => rfl) ?_
  refine dp_s1 hF (i := .getfield 911) rfl (fun _ => rfl) ?_
  refine dp_s1 hF (i := .bipush 40) rfl (fun _ => rfl) ?_
  refine dp_s2 hF (i := .if_icmp .ne 9) (a := (79, [some (.ref 114), some (.int v1), some (.long v2), none, some (.int v4), some (.int v5), some (.int v6), some (.int v7), none], [], M19)) (b := (85, [some (.ref 114), some (.int v1), some (.long v2), none, some (.int v4), some (.int v5), some (.int v6), some (.int v7), none], [], M19)) rfl (fun _ => rfl) ?_ ?_
  · refine dp_s1 hF (i := .aload_n 0) rfl (fun _ => rfl) ?_
    refine dp_s1 hF (i := .iconst 2) rfl (fun _ => rfl) ?_
    refine dp_si (mj := dp_m_X12_refuse) (i := .invokevirtual 460) rfl rfl (Or.inl rfl) rfl (fun _ => rfl) (fun r24 M23 => ?_)
    exact dp_s0 hF (i := .ireturn) rfl (fun _ => rfl)
  refine dp_s1 hF (i := .aload_n 0) rfl (fun _ => rfl) ?_
  refine dp_s1 hF (i := .iconst 0) rfl (fun _ => rfl) ?_
  refine dp_s1w (dp_setI M19 114 0 (0 : Int32)) (fun (M25 : dp_M) => (90, [some (.ref 114), some (.int v1), some (.long v2), none, some (.int v4), some (.int v5), some (.int v6), some (.int v7), none], [], M25)) hF (i := .putfield 1) rfl (fun _ => rfl) (fun M25 => ?_)
  refine dp_s1 hF (i := .aload_n 0) rfl (fun _ => rfl) ?_
  refine dp_s1 hF (i := .getfield 311) rfl (fun _ => rfl) ?_
  refine dp_s1 hF (i := .aload_n 0) rfl (fun _ => rfl) ?_
  refine dp_s1 hF (i := .getfield 911) rfl (fun _ => rfl) ?_
  refine dp_s1 hF (i := .aload_n 0) rfl (fun _ => rfl) ?_
  refine dp_s1 hF (i := .getfield 911) rfl (fun _ => rfl) ?_
  refine dp_s1 hF (i := .iconst 1) rfl (fun _ => rfl) ?_
  refine dp_s1 hF (i := .iadd) rfl (fun _ => rfl) ?_
  refine dp_s3w (dp_setI M25 213 (Int32.toNatClampNeg (dp_I M25 114 119)) ((dp_I M25 114 119) + (1 : Int32))) (fun (M26 : dp_M) => (105, [some (.ref 114), some (.int v1), some (.long v2), none, some (.int v4), some (.int v5), some (.int v6), some (.int v7), none], [], M26)) hF (i := .iastore) rfl (fun _ => rfl) (fun M26 => ?_)
  refine dp_s1 hF (i := .aload_n 0) rfl (fun _ => rfl) ?_
  refine dp_s1 hF (i := .dup) rfl (fun _ => rfl) ?_
  refine dp_s1 hF (i := .getfield 911) rfl (fun _ => rfl) ?_
  refine dp_s1 hF (i := .iconst 1) rfl (fun _ => rfl) ?_
  refine dp_s1 hF (i := .iadd) rfl (fun _ => rfl) ?_
  refine dp_s1w (dp_setI M26 114 119 ((dp_I M26 114 119) + (1 : Int32))) (fun (M27 : dp_M) => (115, [some (.ref 114), some (.int v1), some (.long v2), none, some (.int v4), some (.int v5), some (.int v6), some (.int v7), none], [], M27)) hF (i := .putfield 911) rfl (fun _ => rfl) (fun M27 => ?_)
  refine dp_s1 hF (i := .aload_n 0) rfl (fun _ => rfl) ?_
  refine dp_s1 hF (i := .getfield 911) rfl (fun _ => rfl) ?_
  refine dp_s1w (dp_I M27 114 119) (fun (y28 : Int32) => (121, [some (.ref 114), some (.int v1), some (.long v2), none, some (.int v4), some (.int v5), some (.int v6), some (.int v7), some (.int y28)], [], M27)) hF (i := .istore 8) rfl (fun _ => rfl) (fun y28 => ?_)
  refine dp_s1 hF (i := .aload_n 0) rfl (fun _ => rfl) ?_
  refine dp_s1 hF (i := .getfield 278) rfl (fun _ => rfl) ?_
  refine dp_s1 hF (i := .iload 8) rfl (fun _ => rfl) ?_
  refine dp_s1 hF (i := .iload_n 1) rfl (fun _ => rfl) ?_
  refine dp_s3w (dp_setI M27 202 (Int32.toNatClampNeg y28) v1) (fun (M29 : dp_M) => (129, [some (.ref 114), some (.int v1), some (.long v2), none, some (.int v4), some (.int v5), some (.int v6), some (.int v7), some (.int y28)], [], M29)) hF (i := .iastore) rfl (fun _ => rfl) (fun M29 => ?_)
  refine dp_s1 hF (i := .aload_n 0) rfl (fun _ => rfl) ?_
  refine dp_s1 hF (i := .getfield 281) rfl (fun _ => rfl) ?_
  refine dp_s1 hF (i := .iload 8) rfl (fun _ => rfl) ?_
  refine dp_s1 hF (i := .lload_n 2) rfl (fun _ => rfl) ?_
  refine dp_s3w (dp_setJ M29 203 (Int32.toNatClampNeg y28) v2) (fun (M30 : dp_M) => (137, [some (.ref 114), some (.int v1), some (.long v2), none, some (.int v4), some (.int v5), some (.int v6), some (.int v7), some (.int y28)], [], M30)) hF (i := .lastore) rfl (fun _ => rfl) (fun M30 => ?_)
  refine dp_s1 hF (i := .aload_n 0) rfl (fun _ => rfl) ?_
  refine dp_s1 hF (i := .getfield 284) rfl (fun _ => rfl) ?_
  refine dp_s1 hF (i := .iload 8) rfl (fun _ => rfl) ?_
  refine dp_s1 hF (i := .iload 4) rfl (fun _ => rfl) ?_
  refine dp_s3w (dp_setI M30 204 (Int32.toNatClampNeg y28) v4) (fun (M31 : dp_M) => (146, [some (.ref 114), some (.int v1), some (.long v2), none, some (.int v4), some (.int v5), some (.int v6), some (.int v7), some (.int y28)], [], M31)) hF (i := .iastore) rfl (fun _ => rfl) (fun M31 => ?_)
  refine dp_s1 hF (i := .aload_n 0) rfl (fun _ => rfl) ?_
  refine dp_s1 hF (i := .getfield 287) rfl (fun _ => rfl) ?_
  refine dp_s1 hF (i := .iload 8) rfl (fun _ => rfl) ?_
  refine dp_s1 hF (i := .iload 5) rfl (fun _ => rfl) ?_
  refine dp_s3w (dp_setI M31 205 (Int32.toNatClampNeg y28) v5) (fun (M32 : dp_M) => (155, [some (.ref 114), some (.int v1), some (.long v2), none, some (.int v4), some (.int v5), some (.int v6), some (.int v7), some (.int y28)], [], M32)) hF (i := .iastore) rfl (fun _ => rfl) (fun M32 => ?_)
  refine dp_s1 hF (i := .aload_n 0) rfl (fun _ => rfl) ?_
  refine dp_s1 hF (i := .getfield 290) rfl (fun _ => rfl) ?_
  refine dp_s1 hF (i := .iload 8) rfl (fun _ => rfl) ?_
  refine dp_s1 hF (i := .iload 6) rfl (fun _ => rfl) ?_
  refine dp_s3w (dp_setI M32 206 (Int32.toNatClampNeg y28) (v6 &&& 1)) (fun (M33 : dp_M) => (164, [some (.ref 114), some (.int v1), some (.long v2), none, some (.int v4), some (.int v5), some (.int v6), some (.int v7), some (.int y28)], [], M33)) hF (i := .bastore) rfl (fun _ => rfl) (fun M33 => ?_)
  refine dp_s1 hF (i := .aload_n 0) rfl (fun _ => rfl) ?_
  refine dp_s1 hF (i := .getfield 293) rfl (fun _ => rfl) ?_
  refine dp_s1 hF (i := .iload 8) rfl (fun _ => rfl) ?_
  refine dp_s1 hF (i := .iload 7) rfl (fun _ => rfl) ?_
  refine dp_s3w (dp_setI M33 207 (Int32.toNatClampNeg y28) v7) (fun (M34 : dp_M) => (173, [some (.ref 114), some (.int v1), some (.long v2), none, some (.int v4), some (.int v5), some (.int v6), some (.int v7), some (.int y28)], [], M34)) hF (i := .iastore) rfl (fun _ => rfl) (fun M34 => ?_)
  refine dp_s1 hF (i := .aload_n 0) rfl (fun _ => rfl) ?_
  refine dp_s1 hF (i := .getfield 308) rfl (fun _ => rfl) ?_
  refine dp_s1 hF (i := .iload 8) rfl (fun _ => rfl) ?_
  refine dp_s1 hF (i := .aload_n 0) rfl (fun _ => rfl) ?_
  refine dp_s1 hF (i := .getfield 917) rfl (fun _ => rfl) ?_
  refine dp_s3w (dp_setI M34 212 (Int32.toNatClampNeg y28) (dp_I M34 114 120)) (fun (M35 : dp_M) => (184, [some (.ref 114), some (.int v1), some (.long v2), none, some (.int v4), some (.int v5), some (.int v6), some (.int v7), some (.int y28)], [], M35)) hF (i := .iastore) rfl (fun _ => rfl) (fun M35 => ?_)
  refine dp_s1 hF (i := .iload 8) rfl (fun _ => rfl) ?_
  exact dp_s0 hF (i := .ireturn) rfl (fun _ => rfl)
noncomputable def D_X12_list_0 (xs : Nat → Int32) (xl d : Nat) (v1 : Int32) (v2 : Int32) (M : dp_M) : Option dp_Res := dp_lim true xs xl (dp_den true xs xl d) dp_m_X12_list (0, [some (.ref 114), some (.int v1), some (.int v2), none, none, none], [], M)
noncomputable def D_X12_list_10 (xs : Nat → Int32) (xl d : Nat) (v1 : Int32) (v2 : Int32) (v3 : Int32) (v4 : Int32) (M : dp_M) : Option dp_Res := dp_lim true xs xl (dp_den true xs xl d) dp_m_X12_list (10, [some (.ref 114), some (.int v1), some (.int v2), some (.int v3), some (.int v4), none], [], M)
noncomputable def D_X12_list_40 (xs : Nat → Int32) (xl d : Nat) (v1 : Int32) (v2 : Int32) (v3 : Int32) (v4 : Int32) (vs0 : Int32) (M : dp_M) : Option dp_Res := dp_lim true xs xl (dp_den true xs xl d) dp_m_X12_list (40, [some (.ref 114), some (.int v1), some (.int v2), some (.int v3), some (.int v4), none], [.int vs0], M)
noncomputable def D_X12_list_10_a (xs : Nat → Int32) (xl d : Nat) (v1 : Int32) (v2 : Int32) (v3 : Int32) (v4 : Int32) (v5 : Int32) (M : dp_M) : Option dp_Res := dp_lim true xs xl (dp_den true xs xl d) dp_m_X12_list (10, [some (.ref 114), some (.int v1), some (.int v2), some (.int v3), some (.int v4), some (.int v5)], [], M)
noncomputable def D_X12_list_40_a (xs : Nat → Int32) (xl d : Nat) (v1 : Int32) (v2 : Int32) (v3 : Int32) (v4 : Int32) (v5 : Int32) (vs0 : Int32) (M : dp_M) : Option dp_Res := dp_lim true xs xl (dp_den true xs xl d) dp_m_X12_list (40, [some (.ref 114), some (.int v1), some (.int v2), some (.int v3), some (.int v4), some (.int v5)], [.int vs0], M)
theorem D_X12_list_0_den (xs : Nat → Int32) (xl d : Nat) (a0 : Int32) (a1 : Int32) (M : dp_M) : dp_den true xs xl (d + 1) 518 [.ref 114, .int a0, .int a1] M = D_X12_list_0 xs xl d a0 a1 M := rfl
set_option maxRecDepth 20000 in
theorem D_X12_list_0_eq (xs : Nat → Int32) (xl d : Nat) (v1 : Int32) (v2 : Int32) (M : dp_M) : D_X12_list_0 xs xl d v1 v2 M = dp_w (dp_setI M 114 0 (0 : Int32)) (fun M1 => dp_w (0 : Int32) (fun y2 => D_X12_list_10 xs xl d v1 v2 v2 y2 M1)) := by
  have hF := dp_den_grow (md := true) (xs := xs) (xl := xl) d
  unfold D_X12_list_0
  refine dp_s1 hF (i := .aload_n 0) rfl (fun _ => rfl) ?_
  refine dp_s1 hF (i := .iconst 0) rfl (fun _ => rfl) ?_
  refine dp_s1w (dp_setI M 114 0 (0 : Int32)) (fun (M1 : dp_M) => (5, [some (.ref 114), some (.int v1), some (.int v2), none, none, none], [], M1)) hF (i := .putfield 1) rfl (fun _ => rfl) (fun M1 => ?_)
  refine dp_s1 hF (i := .iload_n 2) rfl (fun _ => rfl) ?_
  refine dp_s1 hF (i := .istore_n 3) rfl (fun _ => rfl) ?_
  refine dp_s1 hF (i := .iconst 0) rfl (fun _ => rfl) ?_
  refine dp_s1w (0 : Int32) (fun (y2 : Int32) => (10, [some (.ref 114), some (.int v1), some (.int v2), some (.int v2), some (.int y2), none], [], M1)) hF (i := .istore 4) rfl (fun _ => rfl) (fun y2 => ?_)
  exact rfl
set_option maxRecDepth 20000 in
theorem D_X12_list_10_eq (xs : Nat → Int32) (xl d : Nat) (v1 : Int32) (v2 : Int32) (v3 : Int32) (v4 : Int32) (M : dp_M) : D_X12_list_10 xs xl d v1 v2 v3 v4 M = if (dp_I M 114 119) ≤ v4 then (some (.inl (some (.int (-1 : Int32))), M)) else (if v4 < 0 ∨ 40 ≤ Int32.toNatClampNeg v4 then none else (if (dp_I M 213 (Int32.toNatClampNeg v4)) < 0 ∨ 41 ≤ Int32.toNatClampNeg (dp_I M 213 (Int32.toNatClampNeg v4)) then none else (if (dp_I M 202 (Int32.toNatClampNeg (dp_I M 213 (Int32.toNatClampNeg v4)))) = v1 then (D_X12_list_40 xs xl d v1 v2 v3 v4 (1 : Int32) M) else (D_X12_list_40 xs xl d v1 v2 v3 v4 (0 : Int32) M)))) := by
  have hF := dp_den_grow (md := true) (xs := xs) (xl := xl) d
  unfold D_X12_list_10
  refine dp_s1 hF (i := .iload 4) rfl (fun _ => rfl) ?_
  refine dp_s1 hF (i := .aload_n 0) rfl (fun _ => rfl) ?_
  refine dp_s1 hF (i := .getfield 911) rfl (fun _ => rfl) ?_
  refine dp_s2 hF (i := .if_icmp .ge 62) (a := (78, [some (.ref 114), some (.int v1), some (.int v2), some (.int v3), some (.int v4), none], [], M)) (b := (19, [some (.ref 114), some (.int v1), some (.int v2), some (.int v3), some (.int v4), none], [], M)) rfl (fun _ => rfl) ?_ ?_
  · refine dp_s1 hF (i := .iconst (-1)) rfl (fun _ => rfl) ?_
    exact dp_s0 hF (i := .ireturn) rfl (fun _ => rfl)
  refine dp_s1 hF (i := .aload_n 0) rfl (fun _ => rfl) ?_
  refine dp_s1 hF (i := .getfield 278) rfl (fun _ => rfl) ?_
  refine dp_s1 hF (i := .aload_n 0) rfl (fun _ => rfl) ?_
  refine dp_s1 hF (i := .getfield 311) rfl (fun _ => rfl) ?_
  refine dp_s1 hF (i := .iload 4) rfl (fun _ => rfl) ?_
  refine dp_s3 hF (i := .iaload) rfl (fun _ => rfl) ?_
  refine dp_s3 hF (i := .iaload) rfl (fun _ => rfl) ?_
  refine dp_s1 hF (i := .iload_n 1) rfl (fun _ => rfl) ?_
  refine dp_s2 hF (i := .if_icmp .ne 7) (a := (35, [some (.ref 114), some (.int v1), some (.int v2), some (.int v3), some (.int v4), none], [], M)) (b := (39, [some (.ref 114), some (.int v1), some (.int v2), some (.int v3), some (.int v4), none], [], M)) rfl (fun _ => rfl) ?_ ?_
  · refine dp_s1 hF (i := .iconst 1) rfl (fun _ => rfl) ?_
    refine dp_s1 hF (i := .goto 4) rfl (fun _ => rfl) ?_
    exact rfl
  refine dp_s1 hF (i := .iconst 0) rfl (fun _ => rfl) ?_
  exact rfl
set_option maxRecDepth 20000 in
theorem D_X12_list_40_eq (xs : Nat → Int32) (xl d : Nat) (v1 : Int32) (v2 : Int32) (v3 : Int32) (v4 : Int32) (vs0 : Int32) (M : dp_M) : D_X12_list_40 xs xl d v1 v2 v3 v4 vs0 M = if vs0 = 0 then (if vs0 = 0 then (dp_w (v3 - (0 : Int32)) (fun y1 => dp_w (v4 + (1 : Int32)) (fun y2 => D_X12_list_10_a xs xl d v1 v2 y1 y2 vs0 M))) else (dp_w (v3 - (1 : Int32)) (fun y3 => dp_w (v4 + (1 : Int32)) (fun y4 => D_X12_list_10_a xs xl d v1 v2 y3 y4 vs0 M)))) else (if v3 = 0 then (if v4 < 0 ∨ 40 ≤ Int32.toNatClampNeg v4 then none else (some (.inl (some (.int (dp_I M 213 (Int32.toNatClampNeg v4)))), M))) else (if vs0 = 0 then (dp_w (v3 - (0 : Int32)) (fun y5 => dp_w (v4 + (1 : Int32)) (fun y6 => D_X12_list_10_a xs xl d v1 v2 y5 y6 vs0 M))) else (dp_w (v3 - (1 : Int32)) (fun y7 => dp_w (v4 + (1 : Int32)) (fun y8 => D_X12_list_10_a xs xl d v1 v2 y7 y8 vs0 M))))) := by
  have hF := dp_den_grow (md := true) (xs := xs) (xl := xl) d
  unfold D_X12_list_40
  refine dp_s1 hF (i := .istore 5) rfl (fun _ => rfl) ?_
  refine dp_s1 hF (i := .iload 5) rfl (fun _ => rfl) ?_
  refine dp_s2 hF (i := .ifCond .eq 15) (a := (59, [some (.ref 114), some (.int v1), some (.int v2), some (.int v3), some (.int v4), some (.int vs0)], [], M)) (b := (47, [some (.ref 114), some (.int v1), some (.int v2), some (.int v3), some (.int v4), some (.int vs0)], [], M)) rfl (fun _ => rfl) ?_ ?_
  · refine dp_s1 hF (i := .iload_n 3) rfl (fun _ => rfl) ?_
    refine dp_s1 hF (i := .iload 5) rfl (fun _ => rfl) ?_
    refine dp_s2 hF (i := .ifCond .eq 7) (a := (69, [some (.ref 114), some (.int v1), some (.int v2), some (.int v3), some (.int v4), some (.int vs0)], [.int v3], M)) (b := (65, [some (.ref 114), some (.int v1), some (.int v2), some (.int v3), some (.int v4), some (.int vs0)], [.int v3], M)) rfl (fun _ => rfl) ?_ ?_
    · refine dp_s1 hF (i := .iconst 0) rfl (fun _ => rfl) ?_
      refine dp_s1 hF (i := .isub) rfl (fun _ => rfl) ?_
      refine dp_s1w (v3 - (0 : Int32)) (fun (y1 : Int32) => (72, [some (.ref 114), some (.int v1), some (.int v2), some (.int y1), some (.int v4), some (.int vs0)], [], M)) hF (i := .istore_n 3) rfl (fun _ => rfl) (fun y1 => ?_)
      refine dp_s1w (v4 + (1 : Int32)) (fun (y2 : Int32) => (75, [some (.ref 114), some (.int v1), some (.int v2), some (.int y1), some (.int y2), some (.int vs0)], [], M)) hF (i := .iinc 4 1) rfl (fun _ => rfl) (fun y2 => ?_)
      refine dp_s1 hF (i := .goto (-65)) rfl (fun _ => rfl) ?_
      exact rfl
    refine dp_s1 hF (i := .iconst 1) rfl (fun _ => rfl) ?_
    refine dp_s1 hF (i := .goto 4) rfl (fun _ => rfl) ?_
    refine dp_s1 hF (i := .isub) rfl (fun _ => rfl) ?_
    refine dp_s1w (v3 - (1 : Int32)) (fun (y3 : Int32) => (72, [some (.ref 114), some (.int v1), some (.int v2), some (.int y3), some (.int v4), some (.int vs0)], [], M)) hF (i := .istore_n 3) rfl (fun _ => rfl) (fun y3 => ?_)
    refine dp_s1w (v4 + (1 : Int32)) (fun (y4 : Int32) => (75, [some (.ref 114), some (.int v1), some (.int v2), some (.int y3), some (.int y4), some (.int vs0)], [], M)) hF (i := .iinc 4 1) rfl (fun _ => rfl) (fun y4 => ?_)
    refine dp_s1 hF (i := .goto (-65)) rfl (fun _ => rfl) ?_
    exact rfl
  refine dp_s1 hF (i := .iload_n 3) rfl (fun _ => rfl) ?_
  refine dp_s2 hF (i := .ifCond .ne 11) (a := (51, [some (.ref 114), some (.int v1), some (.int v2), some (.int v3), some (.int v4), some (.int vs0)], [], M)) (b := (59, [some (.ref 114), some (.int v1), some (.int v2), some (.int v3), some (.int v4), some (.int vs0)], [], M)) rfl (fun _ => rfl) ?_ ?_
  · refine dp_s1 hF (i := .aload_n 0) rfl (fun _ => rfl) ?_
    refine dp_s1 hF (i := .getfield 311) rfl (fun _ => rfl) ?_
    refine dp_s1 hF (i := .iload 4) rfl (fun _ => rfl) ?_
    refine dp_s3 hF (i := .iaload) rfl (fun _ => rfl) ?_
    exact dp_s0 hF (i := .ireturn) rfl (fun _ => rfl)
  refine dp_s1 hF (i := .iload_n 3) rfl (fun _ => rfl) ?_
  refine dp_s1 hF (i := .iload 5) rfl (fun _ => rfl) ?_
  refine dp_s2 hF (i := .ifCond .eq 7) (a := (69, [some (.ref 114), some (.int v1), some (.int v2), some (.int v3), some (.int v4), some (.int vs0)], [.int v3], M)) (b := (65, [some (.ref 114), some (.int v1), some (.int v2), some (.int v3), some (.int v4), some (.int vs0)], [.int v3], M)) rfl (fun _ => rfl) ?_ ?_
  · refine dp_s1 hF (i := .iconst 0) rfl (fun _ => rfl) ?_
    refine dp_s1 hF (i := .isub) rfl (fun _ => rfl) ?_
    refine dp_s1w (v3 - (0 : Int32)) (fun (y5 : Int32) => (72, [some (.ref 114), some (.int v1), some (.int v2), some (.int y5), some (.int v4), some (.int vs0)], [], M)) hF (i := .istore_n 3) rfl (fun _ => rfl) (fun y5 => ?_)
    refine dp_s1w (v4 + (1 : Int32)) (fun (y6 : Int32) => (75, [some (.ref 114), some (.int v1), some (.int v2), some (.int y5), some (.int y6), some (.int vs0)], [], M)) hF (i := .iinc 4 1) rfl (fun _ => rfl) (fun y6 => ?_)
    refine dp_s1 hF (i := .goto (-65)) rfl (fun _ => rfl) ?_
    exact rfl
  refine dp_s1 hF (i := .iconst 1) rfl (fun _ => rfl) ?_
  refine dp_s1 hF (i := .goto 4) rfl (fun _ => rfl) ?_
  refine dp_s1 hF (i := .isub) rfl (fun _ => rfl) ?_
  refine dp_s1w (v3 - (1 : Int32)) (fun (y7 : Int32) => (72, [some (.ref 114), some (.int v1), some (.int v2), some (.int y7), some (.int v4), some (.int vs0)], [], M)) hF (i := .istore_n 3) rfl (fun _ => rfl) (fun y7 => ?_)
  refine dp_s1w (v4 + (1 : Int32)) (fun (y8 : Int32) => (75, [some (.ref 114), some (.int v1), some (.int v2), some (.int y7), some (.int y8), some (.int vs0)], [], M)) hF (i := .iinc 4 1) rfl (fun _ => rfl) (fun y8 => ?_)
  refine dp_s1 hF (i := .goto (-65)) rfl (fun _ => rfl) ?_
  exact rfl
set_option maxRecDepth 20000 in
theorem D_X12_list_10_a_eq (xs : Nat → Int32) (xl d : Nat) (v1 : Int32) (v2 : Int32) (v3 : Int32) (v4 : Int32) (v5 : Int32) (M : dp_M) : D_X12_list_10_a xs xl d v1 v2 v3 v4 v5 M = if (dp_I M 114 119) ≤ v4 then (some (.inl (some (.int (-1 : Int32))), M)) else (if v4 < 0 ∨ 40 ≤ Int32.toNatClampNeg v4 then none else (if (dp_I M 213 (Int32.toNatClampNeg v4)) < 0 ∨ 41 ≤ Int32.toNatClampNeg (dp_I M 213 (Int32.toNatClampNeg v4)) then none else (if (dp_I M 202 (Int32.toNatClampNeg (dp_I M 213 (Int32.toNatClampNeg v4)))) = v1 then (D_X12_list_40_a xs xl d v1 v2 v3 v4 v5 (1 : Int32) M) else (D_X12_list_40_a xs xl d v1 v2 v3 v4 v5 (0 : Int32) M)))) := by
  have hF := dp_den_grow (md := true) (xs := xs) (xl := xl) d
  unfold D_X12_list_10_a
  refine dp_s1 hF (i := .iload 4) rfl (fun _ => rfl) ?_
  refine dp_s1 hF (i := .aload_n 0) rfl (fun _ => rfl) ?_
  refine dp_s1 hF (i := .getfield 911) rfl (fun _ => rfl) ?_
  refine dp_s2 hF (i := .if_icmp .ge 62) (a := (78, [some (.ref 114), some (.int v1), some (.int v2), some (.int v3), some (.int v4), some (.int v5)], [], M)) (b := (19, [some (.ref 114), some (.int v1), some (.int v2), some (.int v3), some (.int v4), some (.int v5)], [], M)) rfl (fun _ => rfl) ?_ ?_
  · refine dp_s1 hF (i := .iconst (-1)) rfl (fun _ => rfl) ?_
    exact dp_s0 hF (i := .ireturn) rfl (fun _ => rfl)
  refine dp_s1 hF (i := .aload_n 0) rfl (fun _ => rfl) ?_
  refine dp_s1 hF (i := .getfield 278) rfl (fun _ => rfl) ?_
  refine dp_s1 hF (i := .aload_n 0) rfl (fun _ => rfl) ?_
  refine dp_s1 hF (i := .getfield 311) rfl (fun _ => rfl) ?_
  refine dp_s1 hF (i := .iload 4) rfl (fun _ => rfl) ?_
  refine dp_s3 hF (i := .iaload) rfl (fun _ => rfl) ?_
  refine dp_s3 hF (i := .iaload) rfl (fun _ => rfl) ?_
  refine dp_s1 hF (i := .iload_n 1) rfl (fun _ => rfl) ?_
  refine dp_s2 hF (i := .if_icmp .ne 7) (a := (35, [some (.ref 114), some (.int v1), some (.int v2), some (.int v3), some (.int v4), some (.int v5)], [], M)) (b := (39, [some (.ref 114), some (.int v1), some (.int v2), some (.int v3), some (.int v4), some (.int v5)], [], M)) rfl (fun _ => rfl) ?_ ?_
  · refine dp_s1 hF (i := .iconst 1) rfl (fun _ => rfl) ?_
    refine dp_s1 hF (i := .goto 4) rfl (fun _ => rfl) ?_
    exact rfl
  refine dp_s1 hF (i := .iconst 0) rfl (fun _ => rfl) ?_
  exact rfl
set_option maxRecDepth 20000 in
theorem D_X12_list_40_a_eq (xs : Nat → Int32) (xl d : Nat) (v1 : Int32) (v2 : Int32) (v3 : Int32) (v4 : Int32) (v5 : Int32) (vs0 : Int32) (M : dp_M) : D_X12_list_40_a xs xl d v1 v2 v3 v4 v5 vs0 M = if vs0 = 0 then (if vs0 = 0 then (dp_w (v3 - (0 : Int32)) (fun y1 => dp_w (v4 + (1 : Int32)) (fun y2 => D_X12_list_10_a xs xl d v1 v2 y1 y2 vs0 M))) else (dp_w (v3 - (1 : Int32)) (fun y3 => dp_w (v4 + (1 : Int32)) (fun y4 => D_X12_list_10_a xs xl d v1 v2 y3 y4 vs0 M)))) else (if v3 = 0 then (if v4 < 0 ∨ 40 ≤ Int32.toNatClampNeg v4 then none else (some (.inl (some (.int (dp_I M 213 (Int32.toNatClampNeg v4)))), M))) else (if vs0 = 0 then (dp_w (v3 - (0 : Int32)) (fun y5 => dp_w (v4 + (1 : Int32)) (fun y6 => D_X12_list_10_a xs xl d v1 v2 y5 y6 vs0 M))) else (dp_w (v3 - (1 : Int32)) (fun y7 => dp_w (v4 + (1 : Int32)) (fun y8 => D_X12_list_10_a xs xl d v1 v2 y7 y8 vs0 M))))) := by
  have hF := dp_den_grow (md := true) (xs := xs) (xl := xl) d
  unfold D_X12_list_40_a
  refine dp_s1 hF (i := .istore 5) rfl (fun _ => rfl) ?_
  refine dp_s1 hF (i := .iload 5) rfl (fun _ => rfl) ?_
  refine dp_s2 hF (i := .ifCond .eq 15) (a := (59, [some (.ref 114), some (.int v1), some (.int v2), some (.int v3), some (.int v4), some (.int vs0)], [], M)) (b := (47, [some (.ref 114), some (.int v1), some (.int v2), some (.int v3), some (.int v4), some (.int vs0)], [], M)) rfl (fun _ => rfl) ?_ ?_
  · refine dp_s1 hF (i := .iload_n 3) rfl (fun _ => rfl) ?_
    refine dp_s1 hF (i := .iload 5) rfl (fun _ => rfl) ?_
    refine dp_s2 hF (i := .ifCond .eq 7) (a := (69, [some (.ref 114), some (.int v1), some (.int v2), some (.int v3), some (.int v4), some (.int vs0)], [.int v3], M)) (b := (65, [some (.ref 114), some (.int v1), some (.int v2), some (.int v3), some (.int v4), some (.int vs0)], [.int v3], M)) rfl (fun _ => rfl) ?_ ?_
    · refine dp_s1 hF (i := .iconst 0) rfl (fun _ => rfl) ?_
      refine dp_s1 hF (i := .isub) rfl (fun _ => rfl) ?_
      refine dp_s1w (v3 - (0 : Int32)) (fun (y1 : Int32) => (72, [some (.ref 114), some (.int v1), some (.int v2), some (.int y1), some (.int v4), some (.int vs0)], [], M)) hF (i := .istore_n 3) rfl (fun _ => rfl) (fun y1 => ?_)
      refine dp_s1w (v4 + (1 : Int32)) (fun (y2 : Int32) => (75, [some (.ref 114), some (.int v1), some (.int v2), some (.int y1), some (.int y2), some (.int vs0)], [], M)) hF (i := .iinc 4 1) rfl (fun _ => rfl) (fun y2 => ?_)
      refine dp_s1 hF (i := .goto (-65)) rfl (fun _ => rfl) ?_
      exact rfl
    refine dp_s1 hF (i := .iconst 1) rfl (fun _ => rfl) ?_
    refine dp_s1 hF (i := .goto 4) rfl (fun _ => rfl) ?_
    refine dp_s1 hF (i := .isub) rfl (fun _ => rfl) ?_
    refine dp_s1w (v3 - (1 : Int32)) (fun (y3 : Int32) => (72, [some (.ref 114), some (.int v1), some (.int v2), some (.int y3), some (.int v4), some (.int vs0)], [], M)) hF (i := .istore_n 3) rfl (fun _ => rfl) (fun y3 => ?_)
    refine dp_s1w (v4 + (1 : Int32)) (fun (y4 : Int32) => (75, [some (.ref 114), some (.int v1), some (.int v2), some (.int y3), some (.int y4), some (.int vs0)], [], M)) hF (i := .iinc 4 1) rfl (fun _ => rfl) (fun y4 => ?_)
    refine dp_s1 hF (i := .goto (-65)) rfl (fun _ => rfl) ?_
    exact rfl
  refine dp_s1 hF (i := .iload_n 3) rfl (fun _ => rfl) ?_
  refine dp_s2 hF (i := .ifCond .ne 11) (a := (51, [some (.ref 114), some (.int v1), some (.int v2), some (.int v3), some (.int v4), some (.int vs0)], [], M)) (b := (59, [some (.ref 114), some (.int v1), some (.int v2), some (.int v3), some (.int v4), some (.int vs0)], [], M)) rfl (fun _ => rfl) ?_ ?_
  · refine dp_s1 hF (i := .aload_n 0) rfl (fun _ => rfl) ?_
    refine dp_s1 hF (i := .getfield 311) rfl (fun _ => rfl) ?_
    refine dp_s1 hF (i := .iload 4) rfl (fun _ => rfl) ?_
    refine dp_s3 hF (i := .iaload) rfl (fun _ => rfl) ?_
    exact dp_s0 hF (i := .ireturn) rfl (fun _ => rfl)
  refine dp_s1 hF (i := .iload_n 3) rfl (fun _ => rfl) ?_
  refine dp_s1 hF (i := .iload 5) rfl (fun _ => rfl) ?_
  refine dp_s2 hF (i := .ifCond .eq 7) (a := (69, [some (.ref 114), some (.int v1), some (.int v2), some (.int v3), some (.int v4), some (.int vs0)], [.int v3], M)) (b := (65, [some (.ref 114), some (.int v1), some (.int v2), some (.int v3), some (.int v4), some (.int vs0)], [.int v3], M)) rfl (fun _ => rfl) ?_ ?_
  · refine dp_s1 hF (i := .iconst 0) rfl (fun _ => rfl) ?_
    refine dp_s1 hF (i := .isub) rfl (fun _ => rfl) ?_
    refine dp_s1w (v3 - (0 : Int32)) (fun (y5 : Int32) => (72, [some (.ref 114), some (.int v1), some (.int v2), some (.int y5), some (.int v4), some (.int vs0)], [], M)) hF (i := .istore_n 3) rfl (fun _ => rfl) (fun y5 => ?_)
    refine dp_s1w (v4 + (1 : Int32)) (fun (y6 : Int32) => (75, [some (.ref 114), some (.int v1), some (.int v2), some (.int y5), some (.int y6), some (.int vs0)], [], M)) hF (i := .iinc 4 1) rfl (fun _ => rfl) (fun y6 => ?_)
    refine dp_s1 hF (i := .goto (-65)) rfl (fun _ => rfl) ?_
    exact rfl
  refine dp_s1 hF (i := .iconst 1) rfl (fun _ => rfl) ?_
  refine dp_s1 hF (i := .goto 4) rfl (fun _ => rfl) ?_
  refine dp_s1 hF (i := .isub) rfl (fun _ => rfl) ?_
  refine dp_s1w (v3 - (1 : Int32)) (fun (y7 : Int32) => (72, [some (.ref 114), some (.int v1), some (.int v2), some (.int y7), some (.int v4), some (.int vs0)], [], M)) hF (i := .istore_n 3) rfl (fun _ => rfl) (fun y7 => ?_)
  refine dp_s1w (v4 + (1 : Int32)) (fun (y8 : Int32) => (75, [some (.ref 114), some (.int v1), some (.int v2), some (.int y7), some (.int y8), some (.int vs0)], [], M)) hF (i := .iinc 4 1) rfl (fun _ => rfl) (fun y8 => ?_)
  refine dp_s1 hF (i := .goto (-65)) rfl (fun _ => rfl) ?_
  exact rfl
noncomputable def D_X12_first_0 (xs : Nat → Int32) (xl d : Nat) (v1 : Int32) (M : dp_M) : Option dp_Res := dp_lim true xs xl (dp_den true xs xl d) dp_m_X12_first (0, [some (.ref 114), some (.int v1), none, none, none], [], M)
noncomputable def D_X12_first_19 (xs : Nat → Int32) (xl d : Nat) (v1 : Int32) (v2 : Int32) (v3 : Int32) (M : dp_M) : Option dp_Res := dp_lim true xs xl (dp_den true xs xl d) dp_m_X12_first (19, [some (.ref 114), some (.int v1), some (.int v2), some (.int v3), none], [], M)
noncomputable def D_X12_first_68 (xs : Nat → Int32) (xl d : Nat) (v1 : Int32) (v2 : Int32) (v3 : Int32) (v4 : Int32) (M : dp_M) : Option dp_Res := dp_lim true xs xl (dp_den true xs xl d) dp_m_X12_first (68, [some (.ref 114), some (.int v1), some (.int v2), some (.int v3), some (.int v4)], [], M)
noncomputable def D_X12_first_99 (xs : Nat → Int32) (xl d : Nat) (v1 : Int32) (v2 : Int32) (v3 : Int32) (v4 : Int32) (M : dp_M) : Option dp_Res := dp_lim true xs xl (dp_den true xs xl d) dp_m_X12_first (99, [some (.ref 114), some (.int v1), some (.int v2), some (.int v3), some (.int v4)], [], M)
theorem D_X12_first_0_den (xs : Nat → Int32) (xl d : Nat) (a0 : Int32) (M : dp_M) : dp_den true xs xl (d + 1) 519 [.ref 114, .int a0] M = D_X12_first_0 xs xl d a0 M := rfl
set_option maxRecDepth 20000 in
theorem D_X12_first_0_eq (xs : Nat → Int32) (xl d : Nat) (v1 : Int32) (M : dp_M) : D_X12_first_0 xs xl d v1 M = dp_w (dp_setI M 114 0 (0 : Int32)) (fun M1 => dp_bi (dp_den true xs xl d 515 [.ref 114, .int v1] M1) (fun r3 M2 => if r3 = 0 then (some (.inl (some (.int (0 : Int32))), M2)) else (dp_w (0 : Int32) (fun y4 => dp_w (0 : Int32) (fun y5 => D_X12_first_19 xs xl d v1 y4 y5 M2))))) := by
  have hF := dp_den_grow (md := true) (xs := xs) (xl := xl) d
  unfold D_X12_first_0
  refine dp_s1 hF (i := .aload_n 0) rfl (fun _ => rfl) ?_
  refine dp_s1 hF (i := .iconst 0) rfl (fun _ => rfl) ?_
  refine dp_s1w (dp_setI M 114 0 (0 : Int32)) (fun (M1 : dp_M) => (5, [some (.ref 114), some (.int v1), none, none, none], [], M1)) hF (i := .putfield 1) rfl (fun _ => rfl) (fun M1 => ?_)
  refine dp_s1 hF (i := .aload_n 0) rfl (fun _ => rfl) ?_
  refine dp_s1 hF (i := .iload_n 1) rfl (fun _ => rfl) ?_
  refine dp_si (mj := dp_m_X12_isGuarantee) (i := .invokevirtual 920) rfl rfl (Or.inr rfl) rfl (fun _ => rfl) (fun r3 M2 => ?_)
  refine dp_s2 hF (i := .ifCond .ne 5) (a := (13, [some (.ref 114), some (.int v1), none, none, none], [], M2)) (b := (15, [some (.ref 114), some (.int v1), none, none, none], [], M2)) rfl (fun _ => rfl) ?_ ?_
  · refine dp_s1 hF (i := .iconst 0) rfl (fun _ => rfl) ?_
    exact dp_s0 hF (i := .ireturn) rfl (fun _ => rfl)
  refine dp_s1 hF (i := .iconst 0) rfl (fun _ => rfl) ?_
  refine dp_s1w (0 : Int32) (fun (y4 : Int32) => (17, [some (.ref 114), some (.int v1), some (.int y4), none, none], [], M2)) hF (i := .istore_n 2) rfl (fun _ => rfl) (fun y4 => ?_)
  refine dp_s1 hF (i := .iconst 0) rfl (fun _ => rfl) ?_
  refine dp_s1w (0 : Int32) (fun (y5 : Int32) => (19, [some (.ref 114), some (.int v1), some (.int y4), some (.int y5), none], [], M2)) hF (i := .istore_n 3) rfl (fun _ => rfl) (fun y5 => ?_)
  exact rfl
set_option maxRecDepth 20000 in
theorem D_X12_first_19_eq (xs : Nat → Int32) (xl d : Nat) (v1 : Int32) (v2 : Int32) (v3 : Int32) (M : dp_M) : D_X12_first_19 xs xl d v1 v2 v3 M = if v2 < 0 ∨ 40 ≤ Int32.toNatClampNeg v2 then none else (if (dp_I M 213 (Int32.toNatClampNeg v2)) = v1 then (D_X12_first_68 xs xl d v1 v2 v3 v2 M) else (if v3 = 0 then (if v2 < 0 ∨ 40 ≤ Int32.toNatClampNeg v2 then none else (if (dp_I M 213 (Int32.toNatClampNeg v2)) < 0 ∨ 41 ≤ Int32.toNatClampNeg (dp_I M 213 (Int32.toNatClampNeg v2)) then none else (if v1 < 0 ∨ 41 ≤ Int32.toNatClampNeg v1 then none else (if (dp_I M 202 (Int32.toNatClampNeg (dp_I M 213 (Int32.toNatClampNeg v2)))) = (dp_I M 202 (Int32.toNatClampNeg v1)) then (dp_w (1 : Int32) (fun y1 => dp_w (v2 + (1 : Int32)) (fun y2 => D_X12_first_19 xs xl d v1 y2 y1 M))) else (dp_w (0 : Int32) (fun y3 => dp_w (v2 + (1 : Int32)) (fun y4 => D_X12_first_19 xs xl d v1 y4 y3 M))))))) else (dp_w (1 : Int32) (fun y5 => dp_w (v2 + (1 : Int32)) (fun y6 => D_X12_first_19 xs xl d v1 y6 y5 M))))) := by
  have hF := dp_den_grow (md := true) (xs := xs) (xl := xl) d
  unfold D_X12_first_19
  refine dp_s1 hF (i := .aload_n 0) rfl (fun _ => rfl) ?_
  refine dp_s1 hF (i := .getfield 311) rfl (fun _ => rfl) ?_
  refine dp_s1 hF (i := .iload_n 2) rfl (fun _ => rfl) ?_
  refine dp_s3 hF (i := .iaload) rfl (fun _ => rfl) ?_
  refine dp_s1 hF (i := .iload_n 1) rfl (fun _ => rfl) ?_
  refine dp_s2 hF (i := .if_icmp .eq 39) (a := (65, [some (.ref 114), some (.int v1), some (.int v2), some (.int v3), none], [], M)) (b := (29, [some (.ref 114), some (.int v1), some (.int v2), some (.int v3), none], [], M)) rfl (fun _ => rfl) ?_ ?_
  · refine dp_s1 hF (i := .iload_n 2) rfl (fun _ => rfl) ?_
    refine dp_s1 hF (i := .istore 4) rfl (fun _ => rfl) ?_
    exact rfl
  refine dp_s1 hF (i := .iload_n 3) rfl (fun _ => rfl) ?_
  refine dp_s2 hF (i := .ifCond .ne 23) (a := (33, [some (.ref 114), some (.int v1), some (.int v2), some (.int v3), none], [], M)) (b := (53, [some (.ref 114), some (.int v1), some (.int v2), some (.int v3), none], [], M)) rfl (fun _ => rfl) ?_ ?_
  · refine dp_s1 hF (i := .aload_n 0) rfl (fun _ => rfl) ?_
    refine dp_s1 hF (i := .getfield 278) rfl (fun _ => rfl) ?_
    refine dp_s1 hF (i := .aload_n 0) rfl (fun _ => rfl) ?_
    refine dp_s1 hF (i := .getfield 311) rfl (fun _ => rfl) ?_
    refine dp_s1 hF (i := .iload_n 2) rfl (fun _ => rfl) ?_
    refine dp_s3 hF (i := .iaload) rfl (fun _ => rfl) ?_
    refine dp_s3 hF (i := .iaload) rfl (fun _ => rfl) ?_
    refine dp_s1 hF (i := .aload_n 0) rfl (fun _ => rfl) ?_
    refine dp_s1 hF (i := .getfield 278) rfl (fun _ => rfl) ?_
    refine dp_s1 hF (i := .iload_n 1) rfl (fun _ => rfl) ?_
    refine dp_s3 hF (i := .iaload) rfl (fun _ => rfl) ?_
    refine dp_s2 hF (i := .if_icmp .ne 7) (a := (53, [some (.ref 114), some (.int v1), some (.int v2), some (.int v3), none], [], M)) (b := (57, [some (.ref 114), some (.int v1), some (.int v2), some (.int v3), none], [], M)) rfl (fun _ => rfl) ?_ ?_
    · refine dp_s1 hF (i := .iconst 1) rfl (fun _ => rfl) ?_
      refine dp_s1 hF (i := .goto 4) rfl (fun _ => rfl) ?_
      refine dp_s1w (1 : Int32) (fun (y1 : Int32) => (59, [some (.ref 114), some (.int v1), some (.int v2), some (.int y1), none], [], M)) hF (i := .istore_n 3) rfl (fun _ => rfl) (fun y1 => ?_)
      refine dp_s1w (v2 + (1 : Int32)) (fun (y2 : Int32) => (62, [some (.ref 114), some (.int v1), some (.int y2), some (.int y1), none], [], M)) hF (i := .iinc 2 1) rfl (fun _ => rfl) (fun y2 => ?_)
      refine dp_s1 hF (i := .goto (-43)) rfl (fun _ => rfl) ?_
      exact rfl
    refine dp_s1 hF (i := .iconst 0) rfl (fun _ => rfl) ?_
    refine dp_s1w (0 : Int32) (fun (y3 : Int32) => (59, [some (.ref 114), some (.int v1), some (.int v2), some (.int y3), none], [], M)) hF (i := .istore_n 3) rfl (fun _ => rfl) (fun y3 => ?_)
    refine dp_s1w (v2 + (1 : Int32)) (fun (y4 : Int32) => (62, [some (.ref 114), some (.int v1), some (.int y4), some (.int y3), none], [], M)) hF (i := .iinc 2 1) rfl (fun _ => rfl) (fun y4 => ?_)
    refine dp_s1 hF (i := .goto (-43)) rfl (fun _ => rfl) ?_
    exact rfl
  refine dp_s1 hF (i := .iconst 1) rfl (fun _ => rfl) ?_
  refine dp_s1 hF (i := .goto 4) rfl (fun _ => rfl) ?_
  refine dp_s1w (1 : Int32) (fun (y5 : Int32) => (59, [some (.ref 114), some (.int v1), some (.int v2), some (.int y5), none], [], M)) hF (i := .istore_n 3) rfl (fun _ => rfl) (fun y5 => ?_)
  refine dp_s1w (v2 + (1 : Int32)) (fun (y6 : Int32) => (62, [some (.ref 114), some (.int v1), some (.int y6), some (.int y5), none], [], M)) hF (i := .iinc 2 1) rfl (fun _ => rfl) (fun y6 => ?_)
  refine dp_s1 hF (i := .goto (-43)) rfl (fun _ => rfl) ?_
  exact rfl
set_option maxRecDepth 20000 in
theorem D_X12_first_68_eq (xs : Nat → Int32) (xl d : Nat) (v1 : Int32) (v2 : Int32) (v3 : Int32) (v4 : Int32) (M : dp_M) : D_X12_first_68 xs xl d v1 v2 v3 v4 M = if v4 ≤ 0 then (D_X12_first_99 xs xl d v1 v2 v3 v4 M) else (if v3 = 0 then (D_X12_first_99 xs xl d v1 v2 v3 v4 M) else (if (v4 - (1 : Int32)) < 0 ∨ 40 ≤ Int32.toNatClampNeg (v4 - (1 : Int32)) then none else (if v4 < 0 ∨ 40 ≤ Int32.toNatClampNeg v4 then none else dp_w (dp_setI M 213 (Int32.toNatClampNeg v4) (dp_I M 213 (Int32.toNatClampNeg (v4 - (1 : Int32))))) (fun M1 => dp_w (v4 + (-1 : Int32)) (fun y2 => D_X12_first_68 xs xl d v1 v2 v3 y2 M1))))) := by
  have hF := dp_den_grow (md := true) (xs := xs) (xl := xl) d
  unfold D_X12_first_68
  refine dp_s1 hF (i := .iload 4) rfl (fun _ => rfl) ?_
  refine dp_s2 hF (i := .ifCond .le 29) (a := (99, [some (.ref 114), some (.int v1), some (.int v2), some (.int v3), some (.int v4)], [], M)) (b := (73, [some (.ref 114), some (.int v1), some (.int v2), some (.int v3), some (.int v4)], [], M)) rfl (fun _ => rfl) ?_ ?_
  · exact rfl
  refine dp_s1 hF (i := .iload_n 3) rfl (fun _ => rfl) ?_
  refine dp_s2 hF (i := .ifCond .eq 25) (a := (99, [some (.ref 114), some (.int v1), some (.int v2), some (.int v3), some (.int v4)], [], M)) (b := (77, [some (.ref 114), some (.int v1), some (.int v2), some (.int v3), some (.int v4)], [], M)) rfl (fun _ => rfl) ?_ ?_
  · exact rfl
  refine dp_s1 hF (i := .aload_n 0) rfl (fun _ => rfl) ?_
  refine dp_s1 hF (i := .getfield 311) rfl (fun _ => rfl) ?_
  refine dp_s1 hF (i := .iload 4) rfl (fun _ => rfl) ?_
  refine dp_s1 hF (i := .aload_n 0) rfl (fun _ => rfl) ?_
  refine dp_s1 hF (i := .getfield 311) rfl (fun _ => rfl) ?_
  refine dp_s1 hF (i := .iload 4) rfl (fun _ => rfl) ?_
  refine dp_s1 hF (i := .iconst 1) rfl (fun _ => rfl) ?_
  refine dp_s1 hF (i := .isub) rfl (fun _ => rfl) ?_
  refine dp_s3 hF (i := .iaload) rfl (fun _ => rfl) ?_
  refine dp_s3w (dp_setI M 213 (Int32.toNatClampNeg v4) (dp_I M 213 (Int32.toNatClampNeg (v4 - (1 : Int32))))) (fun (M1 : dp_M) => (93, [some (.ref 114), some (.int v1), some (.int v2), some (.int v3), some (.int v4)], [], M1)) hF (i := .iastore) rfl (fun _ => rfl) (fun M1 => ?_)
  refine dp_s1w (v4 + (-1 : Int32)) (fun (y2 : Int32) => (96, [some (.ref 114), some (.int v1), some (.int v2), some (.int v3), some (.int y2)], [], M1)) hF (i := .iinc 4 (-1)) rfl (fun _ => rfl) (fun y2 => ?_)
  refine dp_s1 hF (i := .goto (-28)) rfl (fun _ => rfl) ?_
  exact rfl
set_option maxRecDepth 20000 in
theorem D_X12_first_99_eq (xs : Nat → Int32) (xl d : Nat) (v1 : Int32) (v2 : Int32) (v3 : Int32) (v4 : Int32) (M : dp_M) : D_X12_first_99 xs xl d v1 v2 v3 v4 M = if v3 = 0 then (if v2 < 0 ∨ 40 ≤ Int32.toNatClampNeg v2 then none else dp_w (dp_setI M 213 (Int32.toNatClampNeg v2) v1) (fun M1 => if v3 = 0 ∨ v3 = 1 then some (.inl (some (.int v3)), M1) else none)) else (if (0 : Int32) < 0 ∨ 40 ≤ Int32.toNatClampNeg (0 : Int32) then none else dp_w (dp_setI M 213 (Int32.toNatClampNeg (0 : Int32)) v1) (fun M2 => if v3 = 0 ∨ v3 = 1 then some (.inl (some (.int v3)), M2) else none)) := by
  have hF := dp_den_grow (md := true) (xs := xs) (xl := xl) d
  unfold D_X12_first_99
  refine dp_s1 hF (i := .aload_n 0) rfl (fun _ => rfl) ?_
  refine dp_s1 hF (i := .getfield 311) rfl (fun _ => rfl) ?_
  refine dp_s1 hF (i := .iload_n 3) rfl (fun _ => rfl) ?_
  refine dp_s2 hF (i := .ifCond .eq 7) (a := (111, [some (.ref 114), some (.int v1), some (.int v2), some (.int v3), some (.int v4)], [.ref 213], M)) (b := (107, [some (.ref 114), some (.int v1), some (.int v2), some (.int v3), some (.int v4)], [.ref 213], M)) rfl (fun _ => rfl) ?_ ?_
  · refine dp_s1 hF (i := .iload_n 2) rfl (fun _ => rfl) ?_
    refine dp_s1 hF (i := .iload_n 1) rfl (fun _ => rfl) ?_
    refine dp_s3w (dp_setI M 213 (Int32.toNatClampNeg v2) v1) (fun (M1 : dp_M) => (114, [some (.ref 114), some (.int v1), some (.int v2), some (.int v3), some (.int v4)], [], M1)) hF (i := .iastore) rfl (fun _ => rfl) (fun M1 => ?_)
    refine dp_s1 hF (i := .iload_n 3) rfl (fun _ => rfl) ?_
    exact dp_s0 hF (i := .ireturn) rfl (fun _ => rfl)
  refine dp_s1 hF (i := .iconst 0) rfl (fun _ => rfl) ?_
  refine dp_s1 hF (i := .goto 4) rfl (fun _ => rfl) ?_
  refine dp_s1 hF (i := .iload_n 1) rfl (fun _ => rfl) ?_
  refine dp_s3w (dp_setI M 213 (Int32.toNatClampNeg (0 : Int32)) v1) (fun (M2 : dp_M) => (114, [some (.ref 114), some (.int v1), some (.int v2), some (.int v3), some (.int v4)], [], M2)) hF (i := .iastore) rfl (fun _ => rfl) (fun M2 => ?_)
  refine dp_s1 hF (i := .iload_n 3) rfl (fun _ => rfl) ?_
  exact dp_s0 hF (i := .ireturn) rfl (fun _ => rfl)
noncomputable def D_X12_neededFor_0 (xs : Nat → Int32) (xl d : Nat) (v1 : Int32) (v2 : Int64) (M : dp_M) : Option dp_Res := dp_lim true xs xl (dp_den true xs xl d) dp_m_X12_neededFor (0, [some (.ref 114), some (.int v1), some (.long v2), none, none, none], [], M)
theorem D_X12_neededFor_0_den (xs : Nat → Int32) (xl d : Nat) (a0 : Int32) (a1 : Int64) (M : dp_M) : dp_den true xs xl (d + 1) 520 [.ref 114, .int a0, .long a1] M = D_X12_neededFor_0 xs xl d a0 a1 M := rfl
set_option maxRecDepth 20000 in
theorem D_X12_neededFor_0_eq (xs : Nat → Int32) (xl d : Nat) (v1 : Int32) (v2 : Int64) (M : dp_M) : D_X12_neededFor_0 xs xl d v1 v2 M = if v1 < 0 ∨ 41 ≤ Int32.toNatClampNeg v1 then none else (dp_w (v2 * (Int32.toInt64 (dp_I M 204 (Int32.toNatClampNeg v1)))) (fun y1 => if v1 < 0 ∨ 41 ≤ Int32.toNatClampNeg v1 then none else (if (Int32.toInt64 (dp_I M 205 (Int32.toNatClampNeg v1))) = 0 then none else (if v1 < 0 ∨ 41 ≤ Int32.toNatClampNeg v1 then none else (if (Int32.toInt64 (dp_I M 205 (Int32.toNatClampNeg v1))) = 0 then none else (if (lg_cmp (y1 - y1 / (Int32.toInt64 (dp_I M 205 (Int32.toNatClampNeg v1))) * (Int32.toInt64 (dp_I M 205 (Int32.toNatClampNeg v1)))) (0 : Int64)) ≤ 0 then (some (.inl (some (.long ((y1 / (Int32.toInt64 (dp_I M 205 (Int32.toNatClampNeg v1)))) + (0 : Int64)))), M)) else (some (.inl (some (.long ((y1 / (Int32.toInt64 (dp_I M 205 (Int32.toNatClampNeg v1)))) + (1 : Int64)))), M)))))))) := by
  have hF := dp_den_grow (md := true) (xs := xs) (xl := xl) d
  unfold D_X12_neededFor_0
  refine dp_s1 hF (i := .lload_n 2) rfl (fun _ => rfl) ?_
  refine dp_s1 hF (i := .aload_n 0) rfl (fun _ => rfl) ?_
  refine dp_s1 hF (i := .getfield 284) rfl (fun _ => rfl) ?_
  refine dp_s1 hF (i := .iload_n 1) rfl (fun _ => rfl) ?_
  refine dp_s3 hF (i := .iaload) rfl (fun _ => rfl) ?_
  refine dp_s1 hF (i := .i2l) rfl (fun _ => rfl) ?_
  refine dp_s1 hF (i := .lmul) rfl (fun _ => rfl) ?_
  refine dp_s1w (v2 * (Int32.toInt64 (dp_I M 204 (Int32.toNatClampNeg v1)))) (fun (y1 : Int64) => (11, [some (.ref 114), some (.int v1), some (.long v2), none, some (.long y1), none], [], M)) hF (i := .lstore 4) rfl (fun _ => rfl) (fun y1 => ?_)
  refine dp_s1 hF (i := .lload 4) rfl (fun _ => rfl) ?_
  refine dp_s1 hF (i := .aload_n 0) rfl (fun _ => rfl) ?_
  refine dp_s1 hF (i := .getfield 287) rfl (fun _ => rfl) ?_
  refine dp_s1 hF (i := .iload_n 1) rfl (fun _ => rfl) ?_
  refine dp_s3 hF (i := .iaload) rfl (fun _ => rfl) ?_
  refine dp_s1 hF (i := .i2l) rfl (fun _ => rfl) ?_
  refine dp_s3 hF (i := .ldiv) rfl (fun _ => rfl) ?_
  refine dp_s1 hF (i := .lload 4) rfl (fun _ => rfl) ?_
  refine dp_s1 hF (i := .aload_n 0) rfl (fun _ => rfl) ?_
  refine dp_s1 hF (i := .getfield 287) rfl (fun _ => rfl) ?_
  refine dp_s1 hF (i := .iload_n 1) rfl (fun _ => rfl) ?_
  refine dp_s3 hF (i := .iaload) rfl (fun _ => rfl) ?_
  refine dp_s1 hF (i := .i2l) rfl (fun _ => rfl) ?_
  refine dp_s3 hF (i := .lrem) rfl (fun _ => rfl) ?_
  refine dp_s1 hF (i := .lconst 0) rfl (fun _ => rfl) ?_
  refine dp_s1 hF (i := .lcmp) rfl (fun _ => rfl) ?_
  refine dp_s2 hF (i := .ifCond .le 7) (a := (40, [some (.ref 114), some (.int v1), some (.long v2), none, some (.long y1), none], [.long (y1 / (Int32.toInt64 (dp_I M 205 (Int32.toNatClampNeg v1))))], M)) (b := (36, [some (.ref 114), some (.int v1), some (.long v2), none, some (.long y1), none], [.long (y1 / (Int32.toInt64 (dp_I M 205 (Int32.toNatClampNeg v1))))], M)) rfl (fun _ => rfl) ?_ ?_
  · refine dp_s1 hF (i := .lconst 0) rfl (fun _ => rfl) ?_
    refine dp_s1 hF (i := .ladd) rfl (fun _ => rfl) ?_
    exact dp_s0 hF (i := .lreturn) rfl (fun _ => rfl)
  refine dp_s1 hF (i := .lconst 1) rfl (fun _ => rfl) ?_
  refine dp_s1 hF (i := .goto 4) rfl (fun _ => rfl) ?_
  refine dp_s1 hF (i := .ladd) rfl (fun _ => rfl) ?_
  exact dp_s0 hF (i := .lreturn) rfl (fun _ => rfl)
noncomputable def D_X12_neededOf_0 (xs : Nat → Int32) (xl d : Nat) (v1 : Int32) (M : dp_M) : Option dp_Res := dp_lim true xs xl (dp_den true xs xl d) dp_m_X12_neededOf (0, [some (.ref 114), some (.int v1), none, none, none, none], [], M)
noncomputable def D_X12_neededOf_5 (xs : Nat → Int32) (xl d : Nat) (v1 : Int32) (v2 : Int64) (v4 : Int32) (M : dp_M) : Option dp_Res := dp_lim true xs xl (dp_den true xs xl d) dp_m_X12_neededOf (5, [some (.ref 114), some (.int v1), some (.long v2), none, some (.int v4), none], [], M)
noncomputable def D_X12_neededOf_20 (xs : Nat → Int32) (xl d : Nat) (v1 : Int32) (v2 : Int64) (v4 : Int32) (v5 : Int32) (M : dp_M) : Option dp_Res := dp_lim true xs xl (dp_den true xs xl d) dp_m_X12_neededOf (20, [some (.ref 114), some (.int v1), some (.long v2), none, some (.int v4), some (.int v5)], [], M)
noncomputable def D_X12_neededOf_5_a (xs : Nat → Int32) (xl d : Nat) (v1 : Int32) (v2 : Int64) (v4 : Int32) (v5 : Int32) (M : dp_M) : Option dp_Res := dp_lim true xs xl (dp_den true xs xl d) dp_m_X12_neededOf (5, [some (.ref 114), some (.int v1), some (.long v2), none, some (.int v4), some (.int v5)], [], M)
theorem D_X12_neededOf_0_den (xs : Nat → Int32) (xl d : Nat) (a0 : Int32) (M : dp_M) : dp_den true xs xl (d + 1) 521 [.ref 114, .int a0] M = D_X12_neededOf_0 xs xl d a0 M := rfl
set_option maxRecDepth 20000 in
theorem D_X12_neededOf_0_eq (xs : Nat → Int32) (xl d : Nat) (v1 : Int32) (M : dp_M) : D_X12_neededOf_0 xs xl d v1 M = dp_w (0 : Int64) (fun y1 => dp_w (1 : Int32) (fun y2 => D_X12_neededOf_5 xs xl d v1 y1 y2 M)) := by
  have hF := dp_den_grow (md := true) (xs := xs) (xl := xl) d
  unfold D_X12_neededOf_0
  refine dp_s1 hF (i := .lconst 0) rfl (fun _ => rfl) ?_
  refine dp_s1w (0 : Int64) (fun (y1 : Int64) => (2, [some (.ref 114), some (.int v1), some (.long y1), none, none, none], [], M)) hF (i := .lstore_n 2) rfl (fun _ => rfl) (fun y1 => ?_)
  refine dp_s1 hF (i := .iconst 1) rfl (fun _ => rfl) ?_
  refine dp_s1w (1 : Int32) (fun (y2 : Int32) => (5, [some (.ref 114), some (.int v1), some (.long y1), none, some (.int y2), none], [], M)) hF (i := .istore 4) rfl (fun _ => rfl) (fun y2 => ?_)
  exact rfl
set_option maxRecDepth 20000 in
theorem D_X12_neededOf_5_eq (xs : Nat → Int32) (xl d : Nat) (v1 : Int32) (v2 : Int64) (v4 : Int32) (M : dp_M) : D_X12_neededOf_5 xs xl d v1 v2 v4 M = if (dp_I M 114 133) < v4 then (some (.inl (some (.long v2)), M)) else (dp_w ((4 : Int32) * v4) (fun y1 => D_X12_neededOf_20 xs xl d v1 v2 v4 y1 M)) := by
  have hF := dp_den_grow (md := true) (xs := xs) (xl := xl) d
  unfold D_X12_neededOf_5
  refine dp_s1 hF (i := .iload 4) rfl (fun _ => rfl) ?_
  refine dp_s1 hF (i := .aload_n 0) rfl (fun _ => rfl) ?_
  refine dp_s1 hF (i := .getfield 923) rfl (fun _ => rfl) ?_
  refine dp_s2 hF (i := .if_icmp .gt 68) (a := (79, [some (.ref 114), some (.int v1), some (.long v2), none, some (.int v4), none], [], M)) (b := (14, [some (.ref 114), some (.int v1), some (.long v2), none, some (.int v4), none], [], M)) rfl (fun _ => rfl) ?_ ?_
  · refine dp_s1 hF (i := .lload_n 2) rfl (fun _ => rfl) ?_
    exact dp_s0 hF (i := .lreturn) rfl (fun _ => rfl)
  refine dp_s1 hF (i := .iconst 4) rfl (fun _ => rfl) ?_
  refine dp_s1 hF (i := .iload 4) rfl (fun _ => rfl) ?_
  refine dp_s1 hF (i := .imul) rfl (fun _ => rfl) ?_
  refine dp_s1w ((4 : Int32) * v4) (fun (y1 : Int32) => (20, [some (.ref 114), some (.int v1), some (.long v2), none, some (.int v4), some (.int y1)], [], M)) hF (i := .istore 5) rfl (fun _ => rfl) (fun y1 => ?_)
  exact rfl
set_option maxRecDepth 20000 in
theorem D_X12_neededOf_20_eq (xs : Nat → Int32) (xl d : Nat) (v1 : Int32) (v2 : Int64) (v4 : Int32) (v5 : Int32) (M : dp_M) : D_X12_neededOf_20 xs xl d v1 v2 v4 v5 M = if v4 < 0 ∨ 402 ≤ Int32.toNatClampNeg v4 then none else (if (((4 : Int32) * v4) + (dp_I M 216 (Int32.toNatClampNeg v4))) ≤ v5 then (dp_w (v4 + (1 : Int32)) (fun y1 => D_X12_neededOf_5_a xs xl d v1 v2 y1 v5 M)) else (if v5 < 0 ∨ 1608 ≤ Int32.toNatClampNeg v5 then none else (if (dp_I M 217 (Int32.toNatClampNeg v5)) = v1 then (if v5 < 0 ∨ 1608 ≤ Int32.toNatClampNeg v5 then none else (dp_bl (dp_den true xs xl d 520 [.ref 114, .int v1, .long (dp_J M 218 (Int32.toNatClampNeg v5))] M) (fun r3 M2 => dp_w (v2 + r3) (fun y4 => dp_w (v5 + (1 : Int32)) (fun y5 => D_X12_neededOf_20 xs xl d v1 y4 v4 y5 M2))))) else (dp_w (v2 + (0 : Int64)) (fun y6 => dp_w (v5 + (1 : Int32)) (fun y7 => D_X12_neededOf_20 xs xl d v1 y6 v4 y7 M)))))) := by
  have hF := dp_den_grow (md := true) (xs := xs) (xl := xl) d
  unfold D_X12_neededOf_20
  refine dp_s1 hF (i := .iload 5) rfl (fun _ => rfl) ?_
  refine dp_s1 hF (i := .iconst 4) rfl (fun _ => rfl) ?_
  refine dp_s1 hF (i := .iload 4) rfl (fun _ => rfl) ?_
  refine dp_s1 hF (i := .imul) rfl (fun _ => rfl) ?_
  refine dp_s1 hF (i := .aload_n 0) rfl (fun _ => rfl) ?_
  refine dp_s1 hF (i := .getfield 320) rfl (fun _ => rfl) ?_
  refine dp_s1 hF (i := .iload 4) rfl (fun _ => rfl) ?_
  refine dp_s3 hF (i := .iaload) rfl (fun _ => rfl) ?_
  refine dp_s1 hF (i := .iadd) rfl (fun _ => rfl) ?_
  refine dp_s2 hF (i := .if_icmp .ge 39) (a := (73, [some (.ref 114), some (.int v1), some (.long v2), none, some (.int v4), some (.int v5)], [], M)) (b := (37, [some (.ref 114), some (.int v1), some (.long v2), none, some (.int v4), some (.int v5)], [], M)) rfl (fun _ => rfl) ?_ ?_
  · refine dp_s1w (v4 + (1 : Int32)) (fun (y1 : Int32) => (76, [some (.ref 114), some (.int v1), some (.long v2), none, some (.int y1), some (.int v5)], [], M)) hF (i := .iinc 4 1) rfl (fun _ => rfl) (fun y1 => ?_)
    refine dp_s1 hF (i := .goto (-71)) rfl (fun _ => rfl) ?_
    exact rfl
  refine dp_s1 hF (i := .lload_n 2) rfl (fun _ => rfl) ?_
  refine dp_s1 hF (i := .aload_n 0) rfl (fun _ => rfl) ?_
  refine dp_s1 hF (i := .getfield 323) rfl (fun _ => rfl) ?_
  refine dp_s1 hF (i := .iload 5) rfl (fun _ => rfl) ?_
  refine dp_s3 hF (i := .iaload) rfl (fun _ => rfl) ?_
  refine dp_s1 hF (i := .iload_n 1) rfl (fun _ => rfl) ?_
  refine dp_s2 hF (i := .if_icmp .ne 18) (a := (49, [some (.ref 114), some (.int v1), some (.long v2), none, some (.int v4), some (.int v5)], [.long v2], M)) (b := (64, [some (.ref 114), some (.int v1), some (.long v2), none, some (.int v4), some (.int v5)], [.long v2], M)) rfl (fun _ => rfl) ?_ ?_
  · refine dp_s1 hF (i := .aload_n 0) rfl (fun _ => rfl) ?_
    refine dp_s1 hF (i := .iload_n 1) rfl (fun _ => rfl) ?_
    refine dp_s1 hF (i := .aload_n 0) rfl (fun _ => rfl) ?_
    refine dp_s1 hF (i := .getfield 326) rfl (fun _ => rfl) ?_
    refine dp_s1 hF (i := .iload 5) rfl (fun _ => rfl) ?_
    refine dp_s3 hF (i := .laload) rfl (fun _ => rfl) ?_
    refine dp_sl9 (mj := dp_m_X12_neededFor) (i := .invokevirtual 926) rfl rfl rfl rfl (fun _ => rfl) (fun r3 M2 => ?_)
    refine dp_s1 hF (i := .goto 4) rfl (fun _ => rfl) ?_
    refine dp_s1 hF (i := .ladd) rfl (fun _ => rfl) ?_
    refine dp_s1w (v2 + r3) (fun (y4 : Int64) => (67, [some (.ref 114), some (.int v1), some (.long y4), none, some (.int v4), some (.int v5)], [], M2)) hF (i := .lstore_n 2) rfl (fun _ => rfl) (fun y4 => ?_)
    refine dp_s1w (v5 + (1 : Int32)) (fun (y5 : Int32) => (70, [some (.ref 114), some (.int v1), some (.long y4), none, some (.int v4), some (.int y5)], [], M2)) hF (i := .iinc 5 1) rfl (fun _ => rfl) (fun y5 => ?_)
    refine dp_s1 hF (i := .goto (-50)) rfl (fun _ => rfl) ?_
    exact rfl
  refine dp_s1 hF (i := .lconst 0) rfl (fun _ => rfl) ?_
  refine dp_s1 hF (i := .ladd) rfl (fun _ => rfl) ?_
  refine dp_s1w (v2 + (0 : Int64)) (fun (y6 : Int64) => (67, [some (.ref 114), some (.int v1), some (.long y6), none, some (.int v4), some (.int v5)], [], M)) hF (i := .lstore_n 2) rfl (fun _ => rfl) (fun y6 => ?_)
  refine dp_s1w (v5 + (1 : Int32)) (fun (y7 : Int32) => (70, [some (.ref 114), some (.int v1), some (.long y6), none, some (.int v4), some (.int y7)], [], M)) hF (i := .iinc 5 1) rfl (fun _ => rfl) (fun y7 => ?_)
  refine dp_s1 hF (i := .goto (-50)) rfl (fun _ => rfl) ?_
  exact rfl
set_option maxRecDepth 20000 in
theorem D_X12_neededOf_5_a_eq (xs : Nat → Int32) (xl d : Nat) (v1 : Int32) (v2 : Int64) (v4 : Int32) (v5 : Int32) (M : dp_M) : D_X12_neededOf_5_a xs xl d v1 v2 v4 v5 M = if (dp_I M 114 133) < v4 then (some (.inl (some (.long v2)), M)) else (dp_w ((4 : Int32) * v4) (fun y1 => D_X12_neededOf_20 xs xl d v1 v2 v4 y1 M)) := by
  have hF := dp_den_grow (md := true) (xs := xs) (xl := xl) d
  unfold D_X12_neededOf_5_a
  refine dp_s1 hF (i := .iload 4) rfl (fun _ => rfl) ?_
  refine dp_s1 hF (i := .aload_n 0) rfl (fun _ => rfl) ?_
  refine dp_s1 hF (i := .getfield 923) rfl (fun _ => rfl) ?_
  refine dp_s2 hF (i := .if_icmp .gt 68) (a := (79, [some (.ref 114), some (.int v1), some (.long v2), none, some (.int v4), some (.int v5)], [], M)) (b := (14, [some (.ref 114), some (.int v1), some (.long v2), none, some (.int v4), some (.int v5)], [], M)) rfl (fun _ => rfl) ?_ ?_
  · refine dp_s1 hF (i := .lload_n 2) rfl (fun _ => rfl) ?_
    exact dp_s0 hF (i := .lreturn) rfl (fun _ => rfl)
  refine dp_s1 hF (i := .iconst 4) rfl (fun _ => rfl) ?_
  refine dp_s1 hF (i := .iload 4) rfl (fun _ => rfl) ?_
  refine dp_s1 hF (i := .imul) rfl (fun _ => rfl) ?_
  refine dp_s1w ((4 : Int32) * v4) (fun (y1 : Int32) => (20, [some (.ref 114), some (.int v1), some (.long v2), none, some (.int v4), some (.int y1)], [], M)) hF (i := .istore 5) rfl (fun _ => rfl) (fun y1 => ?_)
  exact rfl
noncomputable def D_X12_usesOf_0 (xs : Nat → Int32) (xl d : Nat) (v1 : Int32) (M : dp_M) : Option dp_Res := dp_lim true xs xl (dp_den true xs xl d) dp_m_X12_usesOf (0, [some (.ref 114), some (.int v1), none, none, none], [], M)
noncomputable def D_X12_usesOf_4 (xs : Nat → Int32) (xl d : Nat) (v1 : Int32) (v2 : Int32) (v3 : Int32) (M : dp_M) : Option dp_Res := dp_lim true xs xl (dp_den true xs xl d) dp_m_X12_usesOf (4, [some (.ref 114), some (.int v1), some (.int v2), some (.int v3), none], [], M)
noncomputable def D_X12_usesOf_17 (xs : Nat → Int32) (xl d : Nat) (v1 : Int32) (v2 : Int32) (v3 : Int32) (v4 : Int32) (M : dp_M) : Option dp_Res := dp_lim true xs xl (dp_den true xs xl d) dp_m_X12_usesOf (17, [some (.ref 114), some (.int v1), some (.int v2), some (.int v3), some (.int v4)], [], M)
noncomputable def D_X12_usesOf_4_a (xs : Nat → Int32) (xl d : Nat) (v1 : Int32) (v2 : Int32) (v3 : Int32) (v4 : Int32) (M : dp_M) : Option dp_Res := dp_lim true xs xl (dp_den true xs xl d) dp_m_X12_usesOf (4, [some (.ref 114), some (.int v1), some (.int v2), some (.int v3), some (.int v4)], [], M)
theorem D_X12_usesOf_0_den (xs : Nat → Int32) (xl d : Nat) (a0 : Int32) (M : dp_M) : dp_den true xs xl (d + 1) 522 [.ref 114, .int a0] M = D_X12_usesOf_0 xs xl d a0 M := rfl
set_option maxRecDepth 20000 in
theorem D_X12_usesOf_0_eq (xs : Nat → Int32) (xl d : Nat) (v1 : Int32) (M : dp_M) : D_X12_usesOf_0 xs xl d v1 M = dp_w (0 : Int32) (fun y1 => dp_w (1 : Int32) (fun y2 => D_X12_usesOf_4 xs xl d v1 y1 y2 M)) := by
  have hF := dp_den_grow (md := true) (xs := xs) (xl := xl) d
  unfold D_X12_usesOf_0
  refine dp_s1 hF (i := .iconst 0) rfl (fun _ => rfl) ?_
  refine dp_s1w (0 : Int32) (fun (y1 : Int32) => (2, [some (.ref 114), some (.int v1), some (.int y1), none, none], [], M)) hF (i := .istore_n 2) rfl (fun _ => rfl) (fun y1 => ?_)
  refine dp_s1 hF (i := .iconst 1) rfl (fun _ => rfl) ?_
  refine dp_s1w (1 : Int32) (fun (y2 : Int32) => (4, [some (.ref 114), some (.int v1), some (.int y1), some (.int y2), none], [], M)) hF (i := .istore_n 3) rfl (fun _ => rfl) (fun y2 => ?_)
  exact rfl
set_option maxRecDepth 20000 in
theorem D_X12_usesOf_4_eq (xs : Nat → Int32) (xl d : Nat) (v1 : Int32) (v2 : Int32) (v3 : Int32) (M : dp_M) : D_X12_usesOf_4 xs xl d v1 v2 v3 M = if (dp_I M 114 133) < v3 then (some (.inl (some (.int v2)), M)) else (dp_w ((4 : Int32) * v3) (fun y1 => D_X12_usesOf_17 xs xl d v1 v2 v3 y1 M)) := by
  have hF := dp_den_grow (md := true) (xs := xs) (xl := xl) d
  unfold D_X12_usesOf_4
  refine dp_s1 hF (i := .iload_n 3) rfl (fun _ => rfl) ?_
  refine dp_s1 hF (i := .aload_n 0) rfl (fun _ => rfl) ?_
  refine dp_s1 hF (i := .getfield 923) rfl (fun _ => rfl) ?_
  refine dp_s2 hF (i := .if_icmp .gt 54) (a := (63, [some (.ref 114), some (.int v1), some (.int v2), some (.int v3), none], [], M)) (b := (12, [some (.ref 114), some (.int v1), some (.int v2), some (.int v3), none], [], M)) rfl (fun _ => rfl) ?_ ?_
  · refine dp_s1 hF (i := .iload_n 2) rfl (fun _ => rfl) ?_
    exact dp_s0 hF (i := .ireturn) rfl (fun _ => rfl)
  refine dp_s1 hF (i := .iconst 4) rfl (fun _ => rfl) ?_
  refine dp_s1 hF (i := .iload_n 3) rfl (fun _ => rfl) ?_
  refine dp_s1 hF (i := .imul) rfl (fun _ => rfl) ?_
  refine dp_s1w ((4 : Int32) * v3) (fun (y1 : Int32) => (17, [some (.ref 114), some (.int v1), some (.int v2), some (.int v3), some (.int y1)], [], M)) hF (i := .istore 4) rfl (fun _ => rfl) (fun y1 => ?_)
  exact rfl
set_option maxRecDepth 20000 in
theorem D_X12_usesOf_17_eq (xs : Nat → Int32) (xl d : Nat) (v1 : Int32) (v2 : Int32) (v3 : Int32) (v4 : Int32) (M : dp_M) : D_X12_usesOf_17 xs xl d v1 v2 v3 v4 M = if v3 < 0 ∨ 402 ≤ Int32.toNatClampNeg v3 then none else (if (((4 : Int32) * v3) + (dp_I M 216 (Int32.toNatClampNeg v3))) ≤ v4 then (dp_w (v3 + (1 : Int32)) (fun y1 => D_X12_usesOf_4_a xs xl d v1 v2 y1 v4 M)) else (if v4 < 0 ∨ 1608 ≤ Int32.toNatClampNeg v4 then none else (if (dp_I M 217 (Int32.toNatClampNeg v4)) = v1 then (dp_w (v2 + (1 : Int32)) (fun y2 => dp_w (v4 + (1 : Int32)) (fun y3 => D_X12_usesOf_17 xs xl d v1 y2 v3 y3 M))) else (dp_w (v2 + (0 : Int32)) (fun y4 => dp_w (v4 + (1 : Int32)) (fun y5 => D_X12_usesOf_17 xs xl d v1 y4 v3 y5 M)))))) := by
  have hF := dp_den_grow (md := true) (xs := xs) (xl := xl) d
  unfold D_X12_usesOf_17
  refine dp_s1 hF (i := .iload 4) rfl (fun _ => rfl) ?_
  refine dp_s1 hF (i := .iconst 4) rfl (fun _ => rfl) ?_
  refine dp_s1 hF (i := .iload_n 3) rfl (fun _ => rfl) ?_
  refine dp_s1 hF (i := .imul) rfl (fun _ => rfl) ?_
  refine dp_s1 hF (i := .aload_n 0) rfl (fun _ => rfl) ?_
  refine dp_s1 hF (i := .getfield 320) rfl (fun _ => rfl) ?_
  refine dp_s1 hF (i := .iload_n 3) rfl (fun _ => rfl) ?_
  refine dp_s3 hF (i := .iaload) rfl (fun _ => rfl) ?_
  refine dp_s1 hF (i := .iadd) rfl (fun _ => rfl) ?_
  refine dp_s2 hF (i := .if_icmp .ge 28) (a := (57, [some (.ref 114), some (.int v1), some (.int v2), some (.int v3), some (.int v4)], [], M)) (b := (32, [some (.ref 114), some (.int v1), some (.int v2), some (.int v3), some (.int v4)], [], M)) rfl (fun _ => rfl) ?_ ?_
  · refine dp_s1w (v3 + (1 : Int32)) (fun (y1 : Int32) => (60, [some (.ref 114), some (.int v1), some (.int v2), some (.int y1), some (.int v4)], [], M)) hF (i := .iinc 3 1) rfl (fun _ => rfl) (fun y1 => ?_)
    refine dp_s1 hF (i := .goto (-56)) rfl (fun _ => rfl) ?_
    exact rfl
  refine dp_s1 hF (i := .iload_n 2) rfl (fun _ => rfl) ?_
  refine dp_s1 hF (i := .aload_n 0) rfl (fun _ => rfl) ?_
  refine dp_s1 hF (i := .getfield 323) rfl (fun _ => rfl) ?_
  refine dp_s1 hF (i := .iload 4) rfl (fun _ => rfl) ?_
  refine dp_s3 hF (i := .iaload) rfl (fun _ => rfl) ?_
  refine dp_s1 hF (i := .iload_n 1) rfl (fun _ => rfl) ?_
  refine dp_s2 hF (i := .if_icmp .ne 7) (a := (44, [some (.ref 114), some (.int v1), some (.int v2), some (.int v3), some (.int v4)], [.int v2], M)) (b := (48, [some (.ref 114), some (.int v1), some (.int v2), some (.int v3), some (.int v4)], [.int v2], M)) rfl (fun _ => rfl) ?_ ?_
  · refine dp_s1 hF (i := .iconst 1) rfl (fun _ => rfl) ?_
    refine dp_s1 hF (i := .goto 4) rfl (fun _ => rfl) ?_
    refine dp_s1 hF (i := .iadd) rfl (fun _ => rfl) ?_
    refine dp_s1w (v2 + (1 : Int32)) (fun (y2 : Int32) => (51, [some (.ref 114), some (.int v1), some (.int y2), some (.int v3), some (.int v4)], [], M)) hF (i := .istore_n 2) rfl (fun _ => rfl) (fun y2 => ?_)
    refine dp_s1w (v4 + (1 : Int32)) (fun (y3 : Int32) => (54, [some (.ref 114), some (.int v1), some (.int y2), some (.int v3), some (.int y3)], [], M)) hF (i := .iinc 4 1) rfl (fun _ => rfl) (fun y3 => ?_)
    refine dp_s1 hF (i := .goto (-37)) rfl (fun _ => rfl) ?_
    exact rfl
  refine dp_s1 hF (i := .iconst 0) rfl (fun _ => rfl) ?_
  refine dp_s1 hF (i := .iadd) rfl (fun _ => rfl) ?_
  refine dp_s1w (v2 + (0 : Int32)) (fun (y4 : Int32) => (51, [some (.ref 114), some (.int v1), some (.int y4), some (.int v3), some (.int v4)], [], M)) hF (i := .istore_n 2) rfl (fun _ => rfl) (fun y4 => ?_)
  refine dp_s1w (v4 + (1 : Int32)) (fun (y5 : Int32) => (54, [some (.ref 114), some (.int v1), some (.int y4), some (.int v3), some (.int y5)], [], M)) hF (i := .iinc 4 1) rfl (fun _ => rfl) (fun y5 => ?_)
  refine dp_s1 hF (i := .goto (-37)) rfl (fun _ => rfl) ?_
  exact rfl
set_option maxRecDepth 20000 in
theorem D_X12_usesOf_4_a_eq (xs : Nat → Int32) (xl d : Nat) (v1 : Int32) (v2 : Int32) (v3 : Int32) (v4 : Int32) (M : dp_M) : D_X12_usesOf_4_a xs xl d v1 v2 v3 v4 M = if (dp_I M 114 133) < v3 then (some (.inl (some (.int v2)), M)) else (dp_w ((4 : Int32) * v3) (fun y1 => D_X12_usesOf_17 xs xl d v1 v2 v3 y1 M)) := by
  have hF := dp_den_grow (md := true) (xs := xs) (xl := xl) d
  unfold D_X12_usesOf_4_a
  refine dp_s1 hF (i := .iload_n 3) rfl (fun _ => rfl) ?_
  refine dp_s1 hF (i := .aload_n 0) rfl (fun _ => rfl) ?_
  refine dp_s1 hF (i := .getfield 923) rfl (fun _ => rfl) ?_
  refine dp_s2 hF (i := .if_icmp .gt 54) (a := (63, [some (.ref 114), some (.int v1), some (.int v2), some (.int v3), some (.int v4)], [], M)) (b := (12, [some (.ref 114), some (.int v1), some (.int v2), some (.int v3), some (.int v4)], [], M)) rfl (fun _ => rfl) ?_ ?_
  · refine dp_s1 hF (i := .iload_n 2) rfl (fun _ => rfl) ?_
    exact dp_s0 hF (i := .ireturn) rfl (fun _ => rfl)
  refine dp_s1 hF (i := .iconst 4) rfl (fun _ => rfl) ?_
  refine dp_s1 hF (i := .iload_n 3) rfl (fun _ => rfl) ?_
  refine dp_s1 hF (i := .imul) rfl (fun _ => rfl) ?_
  refine dp_s1w ((4 : Int32) * v3) (fun (y1 : Int32) => (17, [some (.ref 114), some (.int v1), some (.int v2), some (.int v3), some (.int y1)], [], M)) hF (i := .istore 4) rfl (fun _ => rfl) (fun y1 => ?_)
  exact rfl
noncomputable def D_X12_freeOf_0 (xs : Nat → Int32) (xl d : Nat) (v1 : Int32) (M : dp_M) : Option dp_Res := dp_lim true xs xl (dp_den true xs xl d) dp_m_X12_freeOf (0, [some (.ref 114), some (.int v1), none, none], [], M)
theorem D_X12_freeOf_0_den (xs : Nat → Int32) (xl d : Nat) (a0 : Int32) (M : dp_M) : dp_den true xs xl (d + 1) 523 [.ref 114, .int a0] M = D_X12_freeOf_0 xs xl d a0 M := rfl
set_option maxRecDepth 20000 in
theorem D_X12_freeOf_0_eq (xs : Nat → Int32) (xl d : Nat) (v1 : Int32) (M : dp_M) : D_X12_freeOf_0 xs xl d v1 M = if v1 < 0 ∨ 41 ≤ Int32.toNatClampNeg v1 then none else (dp_bl (dp_den true xs xl d 521 [.ref 114, .int v1] M) (fun r2 M1 => dp_w ((dp_J M 203 (Int32.toNatClampNeg v1)) - r2) (fun y3 => if 0 ≤ (lg_cmp y3 (0 : Int64)) then (some (.inl (some (.long y3)), M1)) else (some (.inl (some (.long (0 : Int64))), M1))))) := by
  have hF := dp_den_grow (md := true) (xs := xs) (xl := xl) d
  unfold D_X12_freeOf_0
  refine dp_s1 hF (i := .aload_n 0) rfl (fun _ => rfl) ?_
  refine dp_s1 hF (i := .getfield 281) rfl (fun _ => rfl) ?_
  refine dp_s1 hF (i := .iload_n 1) rfl (fun _ => rfl) ?_
  refine dp_s3 hF (i := .laload) rfl (fun _ => rfl) ?_
  refine dp_s1 hF (i := .aload_n 0) rfl (fun _ => rfl) ?_
  refine dp_s1 hF (i := .iload_n 1) rfl (fun _ => rfl) ?_
  refine dp_sl9 (mj := dp_m_X12_neededOf) (i := .invokevirtual 930) rfl rfl rfl rfl (fun _ => rfl) (fun r2 M1 => ?_)
  refine dp_s1 hF (i := .lsub) rfl (fun _ => rfl) ?_
  refine dp_s1w ((dp_J M 203 (Int32.toNatClampNeg v1)) - r2) (fun (y3 : Int64) => (13, [some (.ref 114), some (.int v1), some (.long y3), none], [], M1)) hF (i := .lstore_n 2) rfl (fun _ => rfl) (fun y3 => ?_)
  refine dp_s1 hF (i := .lload_n 2) rfl (fun _ => rfl) ?_
  refine dp_s1 hF (i := .lconst 0) rfl (fun _ => rfl) ?_
  refine dp_s1 hF (i := .lcmp) rfl (fun _ => rfl) ?_
  refine dp_s2 hF (i := .ifCond .ge 7) (a := (23, [some (.ref 114), some (.int v1), some (.long y3), none], [], M1)) (b := (19, [some (.ref 114), some (.int v1), some (.long y3), none], [], M1)) rfl (fun _ => rfl) ?_ ?_
  · refine dp_s1 hF (i := .lload_n 2) rfl (fun _ => rfl) ?_
    exact dp_s0 hF (i := .lreturn) rfl (fun _ => rfl)
  refine dp_s1 hF (i := .lconst 0) rfl (fun _ => rfl) ?_
  refine dp_s1 hF (i := .goto 4) rfl (fun _ => rfl) ?_
  exact dp_s0 hF (i := .lreturn) rfl (fun _ => rfl)
noncomputable def D_X12_mayCover_0 (xs : Nat → Int32) (xl d : Nat) (v1 : Int32) (M : dp_M) : Option dp_Res := dp_lim true xs xl (dp_den true xs xl d) dp_m_X12_mayCover (0, [some (.ref 114), some (.int v1)], [], M)
noncomputable def D_X12_mayCover_28 (xs : Nat → Int32) (xl d : Nat) (v1 : Int32) (M : dp_M) : Option dp_Res := dp_lim true xs xl (dp_den true xs xl d) dp_m_X12_mayCover (28, [some (.ref 114), some (.int v1)], [], M)
theorem D_X12_mayCover_0_den (xs : Nat → Int32) (xl d : Nat) (a0 : Int32) (M : dp_M) : dp_den true xs xl (d + 1) 524 [.ref 114, .int a0] M = D_X12_mayCover_0 xs xl d a0 M := rfl
set_option maxRecDepth 20000 in
theorem D_X12_mayCover_0_eq (xs : Nat → Int32) (xl d : Nat) (v1 : Int32) (M : dp_M) : D_X12_mayCover_0 xs xl d v1 M = if v1 < 0 ∨ 41 ≤ Int32.toNatClampNeg v1 then none else (if (dp_I M 208 (Int32.toNatClampNeg v1)) = 0 then (if v1 < 0 ∨ 41 ≤ Int32.toNatClampNeg v1 then none else (if (dp_I M 206 (Int32.toNatClampNeg v1)) = 0 then (D_X12_mayCover_28 xs xl d v1 M) else (dp_bi (dp_den true xs xl d 522 [.ref 114, .int v1] M) (fun r2 M1 => if r2 ≤ 0 then (D_X12_mayCover_28 xs xl d v1 M1) else (some (.inl (some (.long (0 : Int64))), M1)))))) else (some (.inl (some (.long (0 : Int64))), M))) := by
  have hF := dp_den_grow (md := true) (xs := xs) (xl := xl) d
  unfold D_X12_mayCover_0
  refine dp_s1 hF (i := .aload_n 0) rfl (fun _ => rfl) ?_
  refine dp_s1 hF (i := .getfield 296) rfl (fun _ => rfl) ?_
  refine dp_s1 hF (i := .iload_n 1) rfl (fun _ => rfl) ?_
  refine dp_s3 hF (i := .baload) rfl (fun _ => rfl) ?_
  refine dp_s2 hF (i := .ifCond .ne 20) (a := (9, [some (.ref 114), some (.int v1)], [], M)) (b := (26, [some (.ref 114), some (.int v1)], [], M)) rfl (fun _ => rfl) ?_ ?_
  · refine dp_s1 hF (i := .aload_n 0) rfl (fun _ => rfl) ?_
    refine dp_s1 hF (i := .getfield 290) rfl (fun _ => rfl) ?_
    refine dp_s1 hF (i := .iload_n 1) rfl (fun _ => rfl) ?_
    refine dp_s3 hF (i := .baload) rfl (fun _ => rfl) ?_
    refine dp_s2 hF (i := .ifCond .eq 13) (a := (28, [some (.ref 114), some (.int v1)], [], M)) (b := (18, [some (.ref 114), some (.int v1)], [], M)) rfl (fun _ => rfl) ?_ ?_
    · exact rfl
    refine dp_s1 hF (i := .aload_n 0) rfl (fun _ => rfl) ?_
    refine dp_s1 hF (i := .iload_n 1) rfl (fun _ => rfl) ?_
    refine dp_si (mj := dp_m_X12_usesOf) (i := .invokevirtual 933) rfl rfl (Or.inl rfl) rfl (fun _ => rfl) (fun r2 M1 => ?_)
    refine dp_s2 hF (i := .ifCond .le 5) (a := (28, [some (.ref 114), some (.int v1)], [], M1)) (b := (26, [some (.ref 114), some (.int v1)], [], M1)) rfl (fun _ => rfl) ?_ ?_
    · exact rfl
    refine dp_s1 hF (i := .lconst 0) rfl (fun _ => rfl) ?_
    exact dp_s0 hF (i := .lreturn) rfl (fun _ => rfl)
  refine dp_s1 hF (i := .lconst 0) rfl (fun _ => rfl) ?_
  exact dp_s0 hF (i := .lreturn) rfl (fun _ => rfl)
set_option maxRecDepth 20000 in
theorem D_X12_mayCover_28_eq (xs : Nat → Int32) (xl d : Nat) (v1 : Int32) (M : dp_M) : D_X12_mayCover_28 xs xl d v1 M = if v1 < 0 ∨ 41 ≤ Int32.toNatClampNeg v1 then none else (if (dp_I M 204 (Int32.toNatClampNeg v1)) = 0 then (some (.inl (some (.long (1000000000 : Int64))), M)) else (dp_bl (dp_den true xs xl d 523 [.ref 114, .int v1] M) (fun r2 M1 => if v1 < 0 ∨ 41 ≤ Int32.toNatClampNeg v1 then none else (if v1 < 0 ∨ 41 ≤ Int32.toNatClampNeg v1 then none else (if (Int32.toInt64 (dp_I M1 204 (Int32.toNatClampNeg v1))) = 0 then none else (some (.inl (some (.long ((r2 * (Int32.toInt64 (dp_I M1 205 (Int32.toNatClampNeg v1)))) / (Int32.toInt64 (dp_I M1 204 (Int32.toNatClampNeg v1)))))), M1))))))) := by
  have hF := dp_den_grow (md := true) (xs := xs) (xl := xl) d
  unfold D_X12_mayCover_28
  refine dp_s1 hF (i := .aload_n 0) rfl (fun _ => rfl) ?_
  refine dp_s1 hF (i := .getfield 284) rfl (fun _ => rfl) ?_
  refine dp_s1 hF (i := .iload_n 1) rfl (fun _ => rfl) ?_
  refine dp_s3 hF (i := .iaload) rfl (fun _ => rfl) ?_
  refine dp_s2 hF (i := .ifCond .ne 9) (a := (37, [some (.ref 114), some (.int v1)], [], M)) (b := (43, [some (.ref 114), some (.int v1)], [], M)) rfl (fun _ => rfl) ?_ ?_
  · refine dp_s1 hF (i := .ldc2_w 900) rfl (fun _ => rfl) ?_
    refine dp_s1 hF (i := .goto 24) rfl (fun _ => rfl) ?_
    exact dp_s0 hF (i := .lreturn) rfl (fun _ => rfl)
  refine dp_s1 hF (i := .aload_n 0) rfl (fun _ => rfl) ?_
  refine dp_s1 hF (i := .iload_n 1) rfl (fun _ => rfl) ?_
  refine dp_sl9 (mj := dp_m_X12_freeOf) (i := .invokevirtual 936) rfl rfl rfl rfl (fun _ => rfl) (fun r2 M1 => ?_)
  refine dp_s1 hF (i := .aload_n 0) rfl (fun _ => rfl) ?_
  refine dp_s1 hF (i := .getfield 287) rfl (fun _ => rfl) ?_
  refine dp_s1 hF (i := .iload_n 1) rfl (fun _ => rfl) ?_
  refine dp_s3 hF (i := .iaload) rfl (fun _ => rfl) ?_
  refine dp_s1 hF (i := .i2l) rfl (fun _ => rfl) ?_
  refine dp_s1 hF (i := .lmul) rfl (fun _ => rfl) ?_
  refine dp_s1 hF (i := .aload_n 0) rfl (fun _ => rfl) ?_
  refine dp_s1 hF (i := .getfield 284) rfl (fun _ => rfl) ?_
  refine dp_s1 hF (i := .iload_n 1) rfl (fun _ => rfl) ?_
  refine dp_s3 hF (i := .iaload) rfl (fun _ => rfl) ?_
  refine dp_s1 hF (i := .i2l) rfl (fun _ => rfl) ?_
  refine dp_s3 hF (i := .ldiv) rfl (fun _ => rfl) ?_
  exact dp_s0 hF (i := .lreturn) rfl (fun _ => rfl)
noncomputable def D_X12_togetherOf_0 (xs : Nat → Int32) (xl d : Nat) (v1 : Int32) (M : dp_M) : Option dp_Res := dp_lim true xs xl (dp_den true xs xl d) dp_m_X12_togetherOf (0, [some (.ref 114), some (.int v1), none, none, none], [], M)
noncomputable def D_X12_togetherOf_5 (xs : Nat → Int32) (xl d : Nat) (v1 : Int32) (v2 : Int64) (v4 : Int32) (M : dp_M) : Option dp_Res := dp_lim true xs xl (dp_den true xs xl d) dp_m_X12_togetherOf (5, [some (.ref 114), some (.int v1), some (.long v2), none, some (.int v4)], [], M)
theorem D_X12_togetherOf_0_den (xs : Nat → Int32) (xl d : Nat) (a0 : Int32) (M : dp_M) : dp_den true xs xl (d + 1) 525 [.ref 114, .int a0] M = D_X12_togetherOf_0 xs xl d a0 M := rfl
set_option maxRecDepth 20000 in
theorem D_X12_togetherOf_0_eq (xs : Nat → Int32) (xl d : Nat) (v1 : Int32) (M : dp_M) : D_X12_togetherOf_0 xs xl d v1 M = dp_w (0 : Int64) (fun y1 => dp_w (1 : Int32) (fun y2 => D_X12_togetherOf_5 xs xl d v1 y1 y2 M)) := by
  have hF := dp_den_grow (md := true) (xs := xs) (xl := xl) d
  unfold D_X12_togetherOf_0
  refine dp_s1 hF (i := .lconst 0) rfl (fun _ => rfl) ?_
  refine dp_s1w (0 : Int64) (fun (y1 : Int64) => (2, [some (.ref 114), some (.int v1), some (.long y1), none, none], [], M)) hF (i := .lstore_n 2) rfl (fun _ => rfl) (fun y1 => ?_)
  refine dp_s1 hF (i := .iconst 1) rfl (fun _ => rfl) ?_
  refine dp_s1w (1 : Int32) (fun (y2 : Int32) => (5, [some (.ref 114), some (.int v1), some (.long y1), none, some (.int y2)], [], M)) hF (i := .istore 4) rfl (fun _ => rfl) (fun y2 => ?_)
  exact rfl
set_option maxRecDepth 20000 in
theorem D_X12_togetherOf_5_eq (xs : Nat → Int32) (xl d : Nat) (v1 : Int32) (v2 : Int64) (v4 : Int32) (M : dp_M) : D_X12_togetherOf_5 xs xl d v1 v2 v4 M = if (dp_I M 114 119) < v4 then (if (lg_cmp v2 (2000000000 : Int64)) ≤ 0 then (some (.inl (some (.long v2)), M)) else (some (.inl (some (.long (2000000000 : Int64))), M))) else (if v4 < 0 ∨ 41 ≤ Int32.toNatClampNeg v4 then none else (if (dp_I M 202 (Int32.toNatClampNeg v4)) = v1 then (dp_bl (dp_den true xs xl d 524 [.ref 114, .int v4] M) (fun r2 M1 => dp_w (v2 + r2) (fun y3 => dp_w (v4 + (1 : Int32)) (fun y4 => D_X12_togetherOf_5 xs xl d v1 y3 y4 M1)))) else (dp_w (v2 + (0 : Int64)) (fun y5 => dp_w (v4 + (1 : Int32)) (fun y6 => D_X12_togetherOf_5 xs xl d v1 y5 y6 M))))) := by
  have hF := dp_den_grow (md := true) (xs := xs) (xl := xl) d
  unfold D_X12_togetherOf_5
  refine dp_s1 hF (i := .iload 4) rfl (fun _ => rfl) ?_
  refine dp_s1 hF (i := .aload_n 0) rfl (fun _ => rfl) ?_
  refine dp_s1 hF (i := .getfield 911) rfl (fun _ => rfl) ?_
  refine dp_s2 hF (i := .if_icmp .gt 33) (a := (44, [some (.ref 114), some (.int v1), some (.long v2), none, some (.int v4)], [], M)) (b := (14, [some (.ref 114), some (.int v1), some (.long v2), none, some (.int v4)], [], M)) rfl (fun _ => rfl) ?_ ?_
  · refine dp_s1 hF (i := .lload_n 2) rfl (fun _ => rfl) ?_
    refine dp_s1 hF (i := .ldc2_w 942) rfl (fun _ => rfl) ?_
    refine dp_s1 hF (i := .lcmp) rfl (fun _ => rfl) ?_
    refine dp_s2 hF (i := .ifCond .le 9) (a := (58, [some (.ref 114), some (.int v1), some (.long v2), none, some (.int v4)], [], M)) (b := (52, [some (.ref 114), some (.int v1), some (.long v2), none, some (.int v4)], [], M)) rfl (fun _ => rfl) ?_ ?_
    · refine dp_s1 hF (i := .lload_n 2) rfl (fun _ => rfl) ?_
      exact dp_s0 hF (i := .lreturn) rfl (fun _ => rfl)
    refine dp_s1 hF (i := .ldc2_w 942) rfl (fun _ => rfl) ?_
    refine dp_s1 hF (i := .goto 4) rfl (fun _ => rfl) ?_
    exact dp_s0 hF (i := .lreturn) rfl (fun _ => rfl)
  refine dp_s1 hF (i := .lload_n 2) rfl (fun _ => rfl) ?_
  refine dp_s1 hF (i := .aload_n 0) rfl (fun _ => rfl) ?_
  refine dp_s1 hF (i := .getfield 278) rfl (fun _ => rfl) ?_
  refine dp_s1 hF (i := .iload 4) rfl (fun _ => rfl) ?_
  refine dp_s3 hF (i := .iaload) rfl (fun _ => rfl) ?_
  refine dp_s1 hF (i := .iload_n 1) rfl (fun _ => rfl) ?_
  refine dp_s2 hF (i := .if_icmp .ne 12) (a := (26, [some (.ref 114), some (.int v1), some (.long v2), none, some (.int v4)], [.long v2], M)) (b := (35, [some (.ref 114), some (.int v1), some (.long v2), none, some (.int v4)], [.long v2], M)) rfl (fun _ => rfl) ?_ ?_
  · refine dp_s1 hF (i := .aload_n 0) rfl (fun _ => rfl) ?_
    refine dp_s1 hF (i := .iload 4) rfl (fun _ => rfl) ?_
    refine dp_sl9 (mj := dp_m_X12_mayCover) (i := .invokevirtual 939) rfl rfl rfl rfl (fun _ => rfl) (fun r2 M1 => ?_)
    refine dp_s1 hF (i := .goto 4) rfl (fun _ => rfl) ?_
    refine dp_s1 hF (i := .ladd) rfl (fun _ => rfl) ?_
    refine dp_s1w (v2 + r2) (fun (y3 : Int64) => (38, [some (.ref 114), some (.int v1), some (.long y3), none, some (.int v4)], [], M1)) hF (i := .lstore_n 2) rfl (fun _ => rfl) (fun y3 => ?_)
    refine dp_s1w (v4 + (1 : Int32)) (fun (y4 : Int32) => (41, [some (.ref 114), some (.int v1), some (.long y3), none, some (.int y4)], [], M1)) hF (i := .iinc 4 1) rfl (fun _ => rfl) (fun y4 => ?_)
    refine dp_s1 hF (i := .goto (-36)) rfl (fun _ => rfl) ?_
    exact rfl
  refine dp_s1 hF (i := .lconst 0) rfl (fun _ => rfl) ?_
  refine dp_s1 hF (i := .ladd) rfl (fun _ => rfl) ?_
  refine dp_s1w (v2 + (0 : Int64)) (fun (y5 : Int64) => (38, [some (.ref 114), some (.int v1), some (.long y5), none, some (.int v4)], [], M)) hF (i := .lstore_n 2) rfl (fun _ => rfl) (fun y5 => ?_)
  refine dp_s1w (v4 + (1 : Int32)) (fun (y6 : Int32) => (41, [some (.ref 114), some (.int v1), some (.long y5), none, some (.int y6)], [], M)) hF (i := .iinc 4 1) rfl (fun _ => rfl) (fun y6 => ?_)
  refine dp_s1 hF (i := .goto (-36)) rfl (fun _ => rfl) ?_
  exact rfl
noncomputable def D_X12_free_0 (xs : Nat → Int32) (xl d : Nat) (v1 : Int32) (M : dp_M) : Option dp_Res := dp_lim true xs xl (dp_den true xs xl d) dp_m_X12_free (0, [some (.ref 114), some (.int v1)], [], M)
theorem D_X12_free_0_den (xs : Nat → Int32) (xl d : Nat) (a0 : Int32) (M : dp_M) : dp_den true xs xl (d + 1) 526 [.ref 114, .int a0] M = D_X12_free_0 xs xl d a0 M := rfl
set_option maxRecDepth 20000 in
theorem D_X12_free_0_eq (xs : Nat → Int32) (xl d : Nat) (v1 : Int32) (M : dp_M) : D_X12_free_0 xs xl d v1 M = dp_w (dp_setI M 114 0 (0 : Int32)) (fun M1 => dp_bi (dp_den true xs xl d 516 [.int v1] M1) (fun r3 M2 => if r3 = 0 then (some (.inl (some (.long (-1 : Int64))), M2)) else (dp_bl (dp_den true xs xl d 525 [.ref 114, .int v1] M2) (fun r5 M4 => some (.inl (some (.long r5)), M4))))) := by
  have hF := dp_den_grow (md := true) (xs := xs) (xl := xl) d
  unfold D_X12_free_0
  refine dp_s1 hF (i := .aload_n 0) rfl (fun _ => rfl) ?_
  refine dp_s1 hF (i := .iconst 0) rfl (fun _ => rfl) ?_
  refine dp_s1w (dp_setI M 114 0 (0 : Int32)) (fun (M1 : dp_M) => (5, [some (.ref 114), some (.int v1)], [], M1)) hF (i := .putfield 1) rfl (fun _ => rfl) (fun M1 => ?_)
  refine dp_s1 hF (i := .iload_n 1) rfl (fun _ => rfl) ?_
  refine dp_si (mj := dp_m_X12_isHolder) (i := .invokestatic 914) rfl rfl (Or.inr rfl) rfl (fun _ => rfl) (fun r3 M2 => ?_)
  refine dp_s2 hF (i := .ifCond .eq 11) (a := (20, [some (.ref 114), some (.int v1)], [], M2)) (b := (12, [some (.ref 114), some (.int v1)], [], M2)) rfl (fun _ => rfl) ?_ ?_
  · refine dp_s1 hF (i := .ldc2_w 435) rfl (fun _ => rfl) ?_
    exact dp_s0 hF (i := .lreturn) rfl (fun _ => rfl)
  refine dp_s1 hF (i := .aload_n 0) rfl (fun _ => rfl) ?_
  refine dp_s1 hF (i := .iload_n 1) rfl (fun _ => rfl) ?_
  refine dp_sl9 (mj := dp_m_X12_togetherOf) (i := .invokevirtual 944) rfl rfl rfl rfl (fun _ => rfl) (fun r5 M4 => ?_)
  refine dp_s1 hF (i := .goto 6) rfl (fun _ => rfl) ?_
  exact dp_s0 hF (i := .lreturn) rfl (fun _ => rfl)
noncomputable def D_X12_lays_0 (xs : Nat → Int32) (xl d : Nat) (v1 : Int32) (v2 : Int64) (M : dp_M) : Option dp_Res := dp_lim true xs xl (dp_den true xs xl d) dp_m_X12_lays (0, [some (.ref 114), some (.int v1), some (.long v2), none, none, none, none, none, none, none, none, none], [], M)
noncomputable def D_X12_lays_25 (xs : Nat → Int32) (xl d : Nat) (v1 : Int32) (v2 : Int64) (v4 : Int32) (v5 : Int64) (v7 : Int32) (v8 : Int32) (M : dp_M) : Option dp_Res := dp_lim true xs xl (dp_den true xs xl d) dp_m_X12_lays (25, [some (.ref 114), some (.int v1), some (.long v2), none, some (.int v4), some (.long v5), none, some (.int v7), some (.int v8), none, none, none], [], M)
noncomputable def D_X12_lays_156 (xs : Nat → Int32) (xl d : Nat) (v1 : Int32) (v2 : Int64) (v4 : Int32) (v5 : Int64) (v7 : Int32) (v8 : Int32) (M : dp_M) : Option dp_Res := dp_lim true xs xl (dp_den true xs xl d) dp_m_X12_lays (156, [some (.ref 114), some (.int v1), some (.long v2), none, some (.int v4), some (.long v5), none, some (.int v7), some (.int v8), none, none, none], [], M)
noncomputable def D_X12_lays_71 (xs : Nat → Int32) (xl d : Nat) (v1 : Int32) (v2 : Int64) (v4 : Int32) (v5 : Int64) (v7 : Int32) (v8 : Int32) (v9 : Int32) (vs0 : Int64) (M : dp_M) : Option dp_Res := dp_lim true xs xl (dp_den true xs xl d) dp_m_X12_lays (71, [some (.ref 114), some (.int v1), some (.long v2), none, some (.int v4), some (.long v5), none, some (.int v7), some (.int v8), some (.int v9), none, none], [.long vs0], M)
noncomputable def D_X12_lays_105 (xs : Nat → Int32) (xl d : Nat) (v1 : Int32) (v2 : Int64) (v4 : Int32) (v5 : Int64) (v7 : Int32) (v8 : Int32) (v9 : Int32) (v10 : Int64) (M : dp_M) : Option dp_Res := dp_lim true xs xl (dp_den true xs xl d) dp_m_X12_lays (105, [some (.ref 114), some (.int v1), some (.long v2), none, some (.int v4), some (.long v5), none, some (.int v7), some (.int v8), some (.int v9), some (.long v10), none], [], M)
noncomputable def D_X12_lays_25_a (xs : Nat → Int32) (xl d : Nat) (v1 : Int32) (v2 : Int64) (v4 : Int32) (v5 : Int64) (v7 : Int32) (v8 : Int32) (v9 : Int32) (v10 : Int64) (M : dp_M) : Option dp_Res := dp_lim true xs xl (dp_den true xs xl d) dp_m_X12_lays (25, [some (.ref 114), some (.int v1), some (.long v2), none, some (.int v4), some (.long v5), none, some (.int v7), some (.int v8), some (.int v9), some (.long v10), none], [], M)
noncomputable def D_X12_lays_156_a (xs : Nat → Int32) (xl d : Nat) (v1 : Int32) (v2 : Int64) (v4 : Int32) (v5 : Int64) (v7 : Int32) (v8 : Int32) (v9 : Int32) (v10 : Int64) (M : dp_M) : Option dp_Res := dp_lim true xs xl (dp_den true xs xl d) dp_m_X12_lays (156, [some (.ref 114), some (.int v1), some (.long v2), none, some (.int v4), some (.long v5), none, some (.int v7), some (.int v8), some (.int v9), some (.long v10), none], [], M)
noncomputable def D_X12_lays_71_a (xs : Nat → Int32) (xl d : Nat) (v1 : Int32) (v2 : Int64) (v4 : Int32) (v5 : Int64) (v7 : Int32) (v8 : Int32) (v9 : Int32) (v10 : Int64) (vs0 : Int64) (M : dp_M) : Option dp_Res := dp_lim true xs xl (dp_den true xs xl d) dp_m_X12_lays (71, [some (.ref 114), some (.int v1), some (.long v2), none, some (.int v4), some (.long v5), none, some (.int v7), some (.int v8), some (.int v9), some (.long v10), none], [.long vs0], M)
theorem D_X12_lays_0_den (xs : Nat → Int32) (xl d : Nat) (a0 : Int32) (a1 : Int64) (M : dp_M) : dp_den true xs xl (d + 1) 527 [.ref 114, .int a0, .long a1] M = D_X12_lays_0 xs xl d a0 a1 M := rfl
set_option maxRecDepth 20000 in
theorem D_X12_lays_0_eq (xs : Nat → Int32) (xl d : Nat) (v1 : Int32) (v2 : Int64) (M : dp_M) : D_X12_lays_0 xs xl d v1 v2 M = dp_w ((dp_I M 114 133) + (1 : Int32)) (fun y1 => dp_w (0 : Int32) (fun y2 => if y1 < 0 ∨ 402 ≤ Int32.toNatClampNeg y1 then none else dp_w (dp_setI M 216 (Int32.toNatClampNeg y1) (0 : Int32)) (fun M3 => dp_w (0 : Int32) (fun y4 => D_X12_lays_25 xs xl d v1 v2 y1 v2 y2 y4 M3)))) := by
  have hF := dp_den_grow (md := true) (xs := xs) (xl := xl) d
  unfold D_X12_lays_0
  refine dp_s1 hF (i := .aload_n 0) rfl (fun _ => rfl) ?_
  refine dp_s1 hF (i := .getfield 923) rfl (fun _ => rfl) ?_
  refine dp_s1 hF (i := .iconst 1) rfl (fun _ => rfl) ?_
  refine dp_s1 hF (i := .iadd) rfl (fun _ => rfl) ?_
  refine dp_s1w ((dp_I M 114 133) + (1 : Int32)) (fun (y1 : Int32) => (8, [some (.ref 114), some (.int v1), some (.long v2), none, some (.int y1), none, none, none, none, none, none, none], [], M)) hF (i := .istore 4) rfl (fun _ => rfl) (fun y1 => ?_)
  refine dp_s1 hF (i := .lload_n 2) rfl (fun _ => rfl) ?_
  refine dp_s1 hF (i := .lstore 5) rfl (fun _ => rfl) ?_
  refine dp_s1 hF (i := .iconst 0) rfl (fun _ => rfl) ?_
  refine dp_s1w (0 : Int32) (fun (y2 : Int32) => (14, [some (.ref 114), some (.int v1), some (.long v2), none, some (.int y1), some (.long v2), none, some (.int y2), none, none, none, none], [], M)) hF (i := .istore 7) rfl (fun _ => rfl) (fun y2 => ?_)
  refine dp_s1 hF (i := .aload_n 0) rfl (fun _ => rfl) ?_
  refine dp_s1 hF (i := .getfield 320) rfl (fun _ => rfl) ?_
  refine dp_s1 hF (i := .iload 4) rfl (fun _ => rfl) ?_
  refine dp_s1 hF (i := .iconst 0) rfl (fun _ => rfl) ?_
  refine dp_s3w (dp_setI M 216 (Int32.toNatClampNeg y1) (0 : Int32)) (fun (M3 : dp_M) => (22, [some (.ref 114), some (.int v1), some (.long v2), none, some (.int y1), some (.long v2), none, some (.int y2), none, none, none, none], [], M3)) hF (i := .iastore) rfl (fun _ => rfl) (fun M3 => ?_)
  refine dp_s1 hF (i := .iconst 0) rfl (fun _ => rfl) ?_
  refine dp_s1w (0 : Int32) (fun (y4 : Int32) => (25, [some (.ref 114), some (.int v1), some (.long v2), none, some (.int y1), some (.long v2), none, some (.int y2), some (.int y4), none, none, none], [], M3)) hF (i := .istore 8) rfl (fun _ => rfl) (fun y4 => ?_)
  exact rfl
set_option maxRecDepth 20000 in
theorem D_X12_lays_25_eq (xs : Nat → Int32) (xl d : Nat) (v1 : Int32) (v2 : Int64) (v4 : Int32) (v5 : Int64) (v7 : Int32) (v8 : Int32) (M : dp_M) : D_X12_lays_25 xs xl d v1 v2 v4 v5 v7 v8 M = if (dp_I M 114 119) ≤ v8 then (D_X12_lays_156 xs xl d v1 v2 v4 v5 v7 v8 M) else (if (lg_cmp v5 (0 : Int64)) ≤ 0 then (D_X12_lays_156 xs xl d v1 v2 v4 v5 v7 v8 M) else (if v8 < 0 ∨ 40 ≤ Int32.toNatClampNeg v8 then none else (dp_w (dp_I M 213 (Int32.toNatClampNeg v8)) (fun y1 => if y1 < 0 ∨ 41 ≤ Int32.toNatClampNeg y1 then none else (if (dp_I M 202 (Int32.toNatClampNeg y1)) = v1 then (dp_bl (dp_den true xs xl d 524 [.ref 114, .int y1] M) (fun r3 M2 => D_X12_lays_71 xs xl d v1 v2 v4 v5 v7 v8 y1 r3 M2)) else (D_X12_lays_71 xs xl d v1 v2 v4 v5 v7 v8 y1 (0 : Int64) M)))))) := by
  have hF := dp_den_grow (md := true) (xs := xs) (xl := xl) d
  unfold D_X12_lays_25
  refine dp_s1 hF (i := .iload 8) rfl (fun _ => rfl) ?_
  refine dp_s1 hF (i := .aload_n 0) rfl (fun _ => rfl) ?_
  refine dp_s1 hF (i := .getfield 911) rfl (fun _ => rfl) ?_
  refine dp_s2 hF (i := .if_icmp .ge 125) (a := (156, [some (.ref 114), some (.int v1), some (.long v2), none, some (.int v4), some (.long v5), none, some (.int v7), some (.int v8), none, none, none], [], M)) (b := (34, [some (.ref 114), some (.int v1), some (.long v2), none, some (.int v4), some (.long v5), none, some (.int v7), some (.int v8), none, none, none], [], M)) rfl (fun _ => rfl) ?_ ?_
  · exact rfl
  refine dp_s1 hF (i := .lload 5) rfl (fun _ => rfl) ?_
  refine dp_s1 hF (i := .lconst 0) rfl (fun _ => rfl) ?_
  refine dp_s1 hF (i := .lcmp) rfl (fun _ => rfl) ?_
  refine dp_s2 hF (i := .ifCond .le 118) (a := (156, [some (.ref 114), some (.int v1), some (.long v2), none, some (.int v4), some (.long v5), none, some (.int v7), some (.int v8), none, none, none], [], M)) (b := (41, [some (.ref 114), some (.int v1), some (.long v2), none, some (.int v4), some (.long v5), none, some (.int v7), some (.int v8), none, none, none], [], M)) rfl (fun _ => rfl) ?_ ?_
  · exact rfl
  refine dp_s1 hF (i := .aload_n 0) rfl (fun _ => rfl) ?_
  refine dp_s1 hF (i := .getfield 311) rfl (fun _ => rfl) ?_
  refine dp_s1 hF (i := .iload 8) rfl (fun _ => rfl) ?_
  refine dp_s3 hF (i := .iaload) rfl (fun _ => rfl) ?_
  refine dp_s1w (dp_I M 213 (Int32.toNatClampNeg v8)) (fun (y1 : Int32) => (50, [some (.ref 114), some (.int v1), some (.long v2), none, some (.int v4), some (.long v5), none, some (.int v7), some (.int v8), some (.int y1), none, none], [], M)) hF (i := .istore 9) rfl (fun _ => rfl) (fun y1 => ?_)
  refine dp_s1 hF (i := .aload_n 0) rfl (fun _ => rfl) ?_
  refine dp_s1 hF (i := .getfield 278) rfl (fun _ => rfl) ?_
  refine dp_s1 hF (i := .iload 9) rfl (fun _ => rfl) ?_
  refine dp_s3 hF (i := .iaload) rfl (fun _ => rfl) ?_
  refine dp_s1 hF (i := .iload_n 1) rfl (fun _ => rfl) ?_
  refine dp_s2 hF (i := .if_icmp .ne 12) (a := (61, [some (.ref 114), some (.int v1), some (.long v2), none, some (.int v4), some (.long v5), none, some (.int v7), some (.int v8), some (.int y1), none, none], [], M)) (b := (70, [some (.ref 114), some (.int v1), some (.long v2), none, some (.int v4), some (.long v5), none, some (.int v7), some (.int v8), some (.int y1), none, none], [], M)) rfl (fun _ => rfl) ?_ ?_
  · refine dp_s1 hF (i := .aload_n 0) rfl (fun _ => rfl) ?_
    refine dp_s1 hF (i := .iload 9) rfl (fun _ => rfl) ?_
    refine dp_sl9 (mj := dp_m_X12_mayCover) (i := .invokevirtual 939) rfl rfl rfl rfl (fun _ => rfl) (fun r3 M2 => ?_)
    refine dp_s1 hF (i := .goto 4) rfl (fun _ => rfl) ?_
    exact rfl
  refine dp_s1 hF (i := .lconst 0) rfl (fun _ => rfl) ?_
  exact rfl
set_option maxRecDepth 20000 in
theorem D_X12_lays_156_eq (xs : Nat → Int32) (xl d : Nat) (v1 : Int32) (v2 : Int64) (v4 : Int32) (v5 : Int64) (v7 : Int32) (v8 : Int32) (M : dp_M) : D_X12_lays_156 xs xl d v1 v2 v4 v5 v7 v8 M = if (lg_cmp v5 (0 : Int64)) = 0 then (dp_bi (dp_den true xs xl d 528 [.ref 114, .int v4, .int v7] M) (fun r2 M1 => if r2 = 0 then (some (.inl (some (.int (0 : Int32))), M1)) else (some (.inl (some (.int (1 : Int32))), M1)))) else (some (.inl (some (.int (0 : Int32))), M)) := by
  have hF := dp_den_grow (md := true) (xs := xs) (xl := xl) d
  unfold D_X12_lays_156
  refine dp_s1 hF (i := .lload 5) rfl (fun _ => rfl) ?_
  refine dp_s1 hF (i := .lconst 0) rfl (fun _ => rfl) ?_
  refine dp_s1 hF (i := .lcmp) rfl (fun _ => rfl) ?_
  refine dp_s2 hF (i := .ifCond .ne 18) (a := (163, [some (.ref 114), some (.int v1), some (.long v2), none, some (.int v4), some (.long v5), none, some (.int v7), some (.int v8), none, none, none], [], M)) (b := (178, [some (.ref 114), some (.int v1), some (.long v2), none, some (.int v4), some (.long v5), none, some (.int v7), some (.int v8), none, none, none], [], M)) rfl (fun _ => rfl) ?_ ?_
  · refine dp_s1 hF (i := .aload_n 0) rfl (fun _ => rfl) ?_
    refine dp_s1 hF (i := .iload 4) rfl (fun _ => rfl) ?_
    refine dp_s1 hF (i := .iload 7) rfl (fun _ => rfl) ?_
    refine dp_si (mj := dp_m_X12_setsParts) (i := .invokevirtual 947) rfl rfl (Or.inr rfl) rfl (fun _ => rfl) (fun r2 M1 => ?_)
    refine dp_s2 hF (i := .ifCond .eq 7) (a := (178, [some (.ref 114), some (.int v1), some (.long v2), none, some (.int v4), some (.long v5), none, some (.int v7), some (.int v8), none, none, none], [], M1)) (b := (174, [some (.ref 114), some (.int v1), some (.long v2), none, some (.int v4), some (.long v5), none, some (.int v7), some (.int v8), none, none, none], [], M1)) rfl (fun _ => rfl) ?_ ?_
    · refine dp_s1 hF (i := .iconst 0) rfl (fun _ => rfl) ?_
      exact dp_s0 hF (i := .ireturn) rfl (fun _ => rfl)
    refine dp_s1 hF (i := .iconst 1) rfl (fun _ => rfl) ?_
    refine dp_s1 hF (i := .goto 4) rfl (fun _ => rfl) ?_
    exact dp_s0 hF (i := .ireturn) rfl (fun _ => rfl)
  refine dp_s1 hF (i := .iconst 0) rfl (fun _ => rfl) ?_
  exact dp_s0 hF (i := .ireturn) rfl (fun _ => rfl)
set_option maxRecDepth 20000 in
theorem D_X12_lays_71_eq (xs : Nat → Int32) (xl d : Nat) (v1 : Int32) (v2 : Int64) (v4 : Int32) (v5 : Int64) (v7 : Int32) (v8 : Int32) (v9 : Int32) (vs0 : Int64) (M : dp_M) : D_X12_lays_71 xs xl d v1 v2 v4 v5 v7 v8 v9 vs0 M = if 0 ≤ (lg_cmp vs0 v5) then (if (lg_cmp v5 (0 : Int64)) ≤ 0 then (D_X12_lays_105 xs xl d v1 v2 v4 v5 v7 v8 v9 v5 M) else (if v7 = (4 : Int32) then (some (.inl (some (.int (0 : Int32))), M)) else (D_X12_lays_105 xs xl d v1 v2 v4 v5 v7 v8 v9 v5 M))) else (if (lg_cmp vs0 (0 : Int64)) ≤ 0 then (D_X12_lays_105 xs xl d v1 v2 v4 v5 v7 v8 v9 vs0 M) else (if v7 = (4 : Int32) then (some (.inl (some (.int (0 : Int32))), M)) else (D_X12_lays_105 xs xl d v1 v2 v4 v5 v7 v8 v9 vs0 M))) := by
  have hF := dp_den_grow (md := true) (xs := xs) (xl := xl) d
  unfold D_X12_lays_71
  refine dp_s1 hF (i := .lstore 10) rfl (fun _ => rfl) ?_
  refine dp_s1 hF (i := .lload 10) rfl (fun _ => rfl) ?_
  refine dp_s1 hF (i := .lload 5) rfl (fun _ => rfl) ?_
  refine dp_s1 hF (i := .lcmp) rfl (fun _ => rfl) ?_
  refine dp_s2 hF (i := .ifCond .ge 8) (a := (86, [some (.ref 114), some (.int v1), some (.long v2), none, some (.int v4), some (.long v5), none, some (.int v7), some (.int v8), some (.int v9), some (.long vs0), none], [], M)) (b := (81, [some (.ref 114), some (.int v1), some (.long v2), none, some (.int v4), some (.long v5), none, some (.int v7), some (.int v8), some (.int v9), some (.long vs0), none], [], M)) rfl (fun _ => rfl) ?_ ?_
  · refine dp_s1 hF (i := .lload 5) rfl (fun _ => rfl) ?_
    refine dp_s1 hF (i := .lstore 10) rfl (fun _ => rfl) ?_
    refine dp_s1 hF (i := .lload 10) rfl (fun _ => rfl) ?_
    refine dp_s1 hF (i := .lconst 0) rfl (fun _ => rfl) ?_
    refine dp_s1 hF (i := .lcmp) rfl (fun _ => rfl) ?_
    refine dp_s2 hF (i := .ifCond .le 11) (a := (105, [some (.ref 114), some (.int v1), some (.long v2), none, some (.int v4), some (.long v5), none, some (.int v7), some (.int v8), some (.int v9), some (.long v5), none], [], M)) (b := (97, [some (.ref 114), some (.int v1), some (.long v2), none, some (.int v4), some (.long v5), none, some (.int v7), some (.int v8), some (.int v9), some (.long v5), none], [], M)) rfl (fun _ => rfl) ?_ ?_
    · exact rfl
    refine dp_s1 hF (i := .iload 7) rfl (fun _ => rfl) ?_
    refine dp_s1 hF (i := .iconst 4) rfl (fun _ => rfl) ?_
    refine dp_s2 hF (i := .if_icmp .ne 5) (a := (103, [some (.ref 114), some (.int v1), some (.long v2), none, some (.int v4), some (.long v5), none, some (.int v7), some (.int v8), some (.int v9), some (.long v5), none], [], M)) (b := (105, [some (.ref 114), some (.int v1), some (.long v2), none, some (.int v4), some (.long v5), none, some (.int v7), some (.int v8), some (.int v9), some (.long v5), none], [], M)) rfl (fun _ => rfl) ?_ ?_
    · refine dp_s1 hF (i := .iconst 0) rfl (fun _ => rfl) ?_
      exact dp_s0 hF (i := .ireturn) rfl (fun _ => rfl)
    exact rfl
  refine dp_s1 hF (i := .lload 10) rfl (fun _ => rfl) ?_
  refine dp_s1 hF (i := .goto 5) rfl (fun _ => rfl) ?_
  refine dp_s1 hF (i := .lstore 10) rfl (fun _ => rfl) ?_
  refine dp_s1 hF (i := .lload 10) rfl (fun _ => rfl) ?_
  refine dp_s1 hF (i := .lconst 0) rfl (fun _ => rfl) ?_
  refine dp_s1 hF (i := .lcmp) rfl (fun _ => rfl) ?_
  refine dp_s2 hF (i := .ifCond .le 11) (a := (105, [some (.ref 114), some (.int v1), some (.long v2), none, some (.int v4), some (.long v5), none, some (.int v7), some (.int v8), some (.int v9), some (.long vs0), none], [], M)) (b := (97, [some (.ref 114), some (.int v1), some (.long v2), none, some (.int v4), some (.long v5), none, some (.int v7), some (.int v8), some (.int v9), some (.long vs0), none], [], M)) rfl (fun _ => rfl) ?_ ?_
  · exact rfl
  refine dp_s1 hF (i := .iload 7) rfl (fun _ => rfl) ?_
  refine dp_s1 hF (i := .iconst 4) rfl (fun _ => rfl) ?_
  refine dp_s2 hF (i := .if_icmp .ne 5) (a := (103, [some (.ref 114), some (.int v1), some (.long v2), none, some (.int v4), some (.long v5), none, some (.int v7), some (.int v8), some (.int v9), some (.long vs0), none], [], M)) (b := (105, [some (.ref 114), some (.int v1), some (.long v2), none, some (.int v4), some (.long v5), none, some (.int v7), some (.int v8), some (.int v9), some (.long vs0), none], [], M)) rfl (fun _ => rfl) ?_ ?_
  · refine dp_s1 hF (i := .iconst 0) rfl (fun _ => rfl) ?_
    exact dp_s0 hF (i := .ireturn) rfl (fun _ => rfl)
  exact rfl
set_option maxRecDepth 20000 in
theorem D_X12_lays_105_eq (xs : Nat → Int32) (xl d : Nat) (v1 : Int32) (v2 : Int64) (v4 : Int32) (v5 : Int64) (v7 : Int32) (v8 : Int32) (v9 : Int32) (v10 : Int64) (M : dp_M) : D_X12_lays_105 xs xl d v1 v2 v4 v5 v7 v8 v9 v10 M = if (lg_cmp v10 (0 : Int64)) ≤ 0 then (dp_w (v8 + (1 : Int32)) (fun y1 => D_X12_lays_25_a xs xl d v1 v2 v4 v5 v7 y1 v9 v10 M)) else (if (((4 : Int32) * v4) + v7) < 0 ∨ 1608 ≤ Int32.toNatClampNeg (((4 : Int32) * v4) + v7) then none else dp_w (dp_setI M 217 (Int32.toNatClampNeg (((4 : Int32) * v4) + v7)) v9) (fun M2 => if (((4 : Int32) * v4) + v7) < 0 ∨ 1608 ≤ Int32.toNatClampNeg (((4 : Int32) * v4) + v7) then none else dp_w (dp_setJ M2 218 (Int32.toNatClampNeg (((4 : Int32) * v4) + v7)) v10) (fun M3 => dp_w (v7 + (1 : Int32)) (fun y4 => dp_w (v5 - v10) (fun y5 => dp_w (v8 + (1 : Int32)) (fun y6 => D_X12_lays_25_a xs xl d v1 v2 v4 y5 y4 y6 v9 v10 M3)))))) := by
  have hF := dp_den_grow (md := true) (xs := xs) (xl := xl) d
  unfold D_X12_lays_105
  refine dp_s1 hF (i := .lload 10) rfl (fun _ => rfl) ?_
  refine dp_s1 hF (i := .lconst 0) rfl (fun _ => rfl) ?_
  refine dp_s1 hF (i := .lcmp) rfl (fun _ => rfl) ?_
  refine dp_s2 hF (i := .ifCond .le 41) (a := (150, [some (.ref 114), some (.int v1), some (.long v2), none, some (.int v4), some (.long v5), none, some (.int v7), some (.int v8), some (.int v9), some (.long v10), none], [], M)) (b := (112, [some (.ref 114), some (.int v1), some (.long v2), none, some (.int v4), some (.long v5), none, some (.int v7), some (.int v8), some (.int v9), some (.long v10), none], [], M)) rfl (fun _ => rfl) ?_ ?_
  · refine dp_s1w (v8 + (1 : Int32)) (fun (y1 : Int32) => (153, [some (.ref 114), some (.int v1), some (.long v2), none, some (.int v4), some (.long v5), none, some (.int v7), some (.int y1), some (.int v9), some (.long v10), none], [], M)) hF (i := .iinc 8 1) rfl (fun _ => rfl) (fun y1 => ?_)
    refine dp_s1 hF (i := .goto (-128)) rfl (fun _ => rfl) ?_
    exact rfl
  refine dp_s1 hF (i := .aload_n 0) rfl (fun _ => rfl) ?_
  refine dp_s1 hF (i := .getfield 323) rfl (fun _ => rfl) ?_
  refine dp_s1 hF (i := .iconst 4) rfl (fun _ => rfl) ?_
  refine dp_s1 hF (i := .iload 4) rfl (fun _ => rfl) ?_
  refine dp_s1 hF (i := .imul) rfl (fun _ => rfl) ?_
  refine dp_s1 hF (i := .iload 7) rfl (fun _ => rfl) ?_
  refine dp_s1 hF (i := .iadd) rfl (fun _ => rfl) ?_
  refine dp_s1 hF (i := .iload 9) rfl (fun _ => rfl) ?_
  refine dp_s3w (dp_setI M 217 (Int32.toNatClampNeg (((4 : Int32) * v4) + v7)) v9) (fun (M2 : dp_M) => (126, [some (.ref 114), some (.int v1), some (.long v2), none, some (.int v4), some (.long v5), none, some (.int v7), some (.int v8), some (.int v9), some (.long v10), none], [], M2)) hF (i := .iastore) rfl (fun _ => rfl) (fun M2 => ?_)
  refine dp_s1 hF (i := .aload_n 0) rfl (fun _ => rfl) ?_
  refine dp_s1 hF (i := .getfield 326) rfl (fun _ => rfl) ?_
  refine dp_s1 hF (i := .iconst 4) rfl (fun _ => rfl) ?_
  refine dp_s1 hF (i := .iload 4) rfl (fun _ => rfl) ?_
  refine dp_s1 hF (i := .imul) rfl (fun _ => rfl) ?_
  refine dp_s1 hF (i := .iload 7) rfl (fun _ => rfl) ?_
  refine dp_s1 hF (i := .iadd) rfl (fun _ => rfl) ?_
  refine dp_s1 hF (i := .lload 10) rfl (fun _ => rfl) ?_
  refine dp_s3w (dp_setJ M2 218 (Int32.toNatClampNeg (((4 : Int32) * v4) + v7)) v10) (fun (M3 : dp_M) => (140, [some (.ref 114), some (.int v1), some (.long v2), none, some (.int v4), some (.long v5), none, some (.int v7), some (.int v8), some (.int v9), some (.long v10), none], [], M3)) hF (i := .lastore) rfl (fun _ => rfl) (fun M3 => ?_)
  refine dp_s1w (v7 + (1 : Int32)) (fun (y4 : Int32) => (143, [some (.ref 114), some (.int v1), some (.long v2), none, some (.int v4), some (.long v5), none, some (.int y4), some (.int v8), some (.int v9), some (.long v10), none], [], M3)) hF (i := .iinc 7 1) rfl (fun _ => rfl) (fun y4 => ?_)
  refine dp_s1 hF (i := .lload 5) rfl (fun _ => rfl) ?_
  refine dp_s1 hF (i := .lload 10) rfl (fun _ => rfl) ?_
  refine dp_s1 hF (i := .lsub) rfl (fun _ => rfl) ?_
  refine dp_s1w (v5 - v10) (fun (y5 : Int64) => (150, [some (.ref 114), some (.int v1), some (.long v2), none, some (.int v4), some (.long y5), none, some (.int y4), some (.int v8), some (.int v9), some (.long v10), none], [], M3)) hF (i := .lstore 5) rfl (fun _ => rfl) (fun y5 => ?_)
  refine dp_s1w (v8 + (1 : Int32)) (fun (y6 : Int32) => (153, [some (.ref 114), some (.int v1), some (.long v2), none, some (.int v4), some (.long y5), none, some (.int y4), some (.int y6), some (.int v9), some (.long v10), none], [], M3)) hF (i := .iinc 8 1) rfl (fun _ => rfl) (fun y6 => ?_)
  refine dp_s1 hF (i := .goto (-128)) rfl (fun _ => rfl) ?_
  exact rfl
set_option maxRecDepth 20000 in
theorem D_X12_lays_25_a_eq (xs : Nat → Int32) (xl d : Nat) (v1 : Int32) (v2 : Int64) (v4 : Int32) (v5 : Int64) (v7 : Int32) (v8 : Int32) (v9 : Int32) (v10 : Int64) (M : dp_M) : D_X12_lays_25_a xs xl d v1 v2 v4 v5 v7 v8 v9 v10 M = if (dp_I M 114 119) ≤ v8 then (D_X12_lays_156_a xs xl d v1 v2 v4 v5 v7 v8 v9 v10 M) else (if (lg_cmp v5 (0 : Int64)) ≤ 0 then (D_X12_lays_156_a xs xl d v1 v2 v4 v5 v7 v8 v9 v10 M) else (if v8 < 0 ∨ 40 ≤ Int32.toNatClampNeg v8 then none else (dp_w (dp_I M 213 (Int32.toNatClampNeg v8)) (fun y1 => if y1 < 0 ∨ 41 ≤ Int32.toNatClampNeg y1 then none else (if (dp_I M 202 (Int32.toNatClampNeg y1)) = v1 then (dp_bl (dp_den true xs xl d 524 [.ref 114, .int y1] M) (fun r3 M2 => D_X12_lays_71_a xs xl d v1 v2 v4 v5 v7 v8 y1 v10 r3 M2)) else (D_X12_lays_71_a xs xl d v1 v2 v4 v5 v7 v8 y1 v10 (0 : Int64) M)))))) := by
  have hF := dp_den_grow (md := true) (xs := xs) (xl := xl) d
  unfold D_X12_lays_25_a
  refine dp_s1 hF (i := .iload 8) rfl (fun _ => rfl) ?_
  refine dp_s1 hF (i := .aload_n 0) rfl (fun _ => rfl) ?_
  refine dp_s1 hF (i := .getfield 911) rfl (fun _ => rfl) ?_
  refine dp_s2 hF (i := .if_icmp .ge 125) (a := (156, [some (.ref 114), some (.int v1), some (.long v2), none, some (.int v4), some (.long v5), none, some (.int v7), some (.int v8), some (.int v9), some (.long v10), none], [], M)) (b := (34, [some (.ref 114), some (.int v1), some (.long v2), none, some (.int v4), some (.long v5), none, some (.int v7), some (.int v8), some (.int v9), some (.long v10), none], [], M)) rfl (fun _ => rfl) ?_ ?_
  · exact rfl
  refine dp_s1 hF (i := .lload 5) rfl (fun _ => rfl) ?_
  refine dp_s1 hF (i := .lconst 0) rfl (fun _ => rfl) ?_
  refine dp_s1 hF (i := .lcmp) rfl (fun _ => rfl) ?_
  refine dp_s2 hF (i := .ifCond .le 118) (a := (156, [some (.ref 114), some (.int v1), some (.long v2), none, some (.int v4), some (.long v5), none, some (.int v7), some (.int v8), some (.int v9), some (.long v10), none], [], M)) (b := (41, [some (.ref 114), some (.int v1), some (.long v2), none, some (.int v4), some (.long v5), none, some (.int v7), some (.int v8), some (.int v9), some (.long v10), none], [], M)) rfl (fun _ => rfl) ?_ ?_
  · exact rfl
  refine dp_s1 hF (i := .aload_n 0) rfl (fun _ => rfl) ?_
  refine dp_s1 hF (i := .getfield 311) rfl (fun _ => rfl) ?_
  refine dp_s1 hF (i := .iload 8) rfl (fun _ => rfl) ?_
  refine dp_s3 hF (i := .iaload) rfl (fun _ => rfl) ?_
  refine dp_s1w (dp_I M 213 (Int32.toNatClampNeg v8)) (fun (y1 : Int32) => (50, [some (.ref 114), some (.int v1), some (.long v2), none, some (.int v4), some (.long v5), none, some (.int v7), some (.int v8), some (.int y1), some (.long v10), none], [], M)) hF (i := .istore 9) rfl (fun _ => rfl) (fun y1 => ?_)
  refine dp_s1 hF (i := .aload_n 0) rfl (fun _ => rfl) ?_
  refine dp_s1 hF (i := .getfield 278) rfl (fun _ => rfl) ?_
  refine dp_s1 hF (i := .iload 9) rfl (fun _ => rfl) ?_
  refine dp_s3 hF (i := .iaload) rfl (fun _ => rfl) ?_
  refine dp_s1 hF (i := .iload_n 1) rfl (fun _ => rfl) ?_
  refine dp_s2 hF (i := .if_icmp .ne 12) (a := (61, [some (.ref 114), some (.int v1), some (.long v2), none, some (.int v4), some (.long v5), none, some (.int v7), some (.int v8), some (.int y1), some (.long v10), none], [], M)) (b := (70, [some (.ref 114), some (.int v1), some (.long v2), none, some (.int v4), some (.long v5), none, some (.int v7), some (.int v8), some (.int y1), some (.long v10), none], [], M)) rfl (fun _ => rfl) ?_ ?_
  · refine dp_s1 hF (i := .aload_n 0) rfl (fun _ => rfl) ?_
    refine dp_s1 hF (i := .iload 9) rfl (fun _ => rfl) ?_
    refine dp_sl9 (mj := dp_m_X12_mayCover) (i := .invokevirtual 939) rfl rfl rfl rfl (fun _ => rfl) (fun r3 M2 => ?_)
    refine dp_s1 hF (i := .goto 4) rfl (fun _ => rfl) ?_
    exact rfl
  refine dp_s1 hF (i := .lconst 0) rfl (fun _ => rfl) ?_
  exact rfl
set_option maxRecDepth 20000 in
theorem D_X12_lays_156_a_eq (xs : Nat → Int32) (xl d : Nat) (v1 : Int32) (v2 : Int64) (v4 : Int32) (v5 : Int64) (v7 : Int32) (v8 : Int32) (v9 : Int32) (v10 : Int64) (M : dp_M) : D_X12_lays_156_a xs xl d v1 v2 v4 v5 v7 v8 v9 v10 M = if (lg_cmp v5 (0 : Int64)) = 0 then (dp_bi (dp_den true xs xl d 528 [.ref 114, .int v4, .int v7] M) (fun r2 M1 => if r2 = 0 then (some (.inl (some (.int (0 : Int32))), M1)) else (some (.inl (some (.int (1 : Int32))), M1)))) else (some (.inl (some (.int (0 : Int32))), M)) := by
  have hF := dp_den_grow (md := true) (xs := xs) (xl := xl) d
  unfold D_X12_lays_156_a
  refine dp_s1 hF (i := .lload 5) rfl (fun _ => rfl) ?_
  refine dp_s1 hF (i := .lconst 0) rfl (fun _ => rfl) ?_
  refine dp_s1 hF (i := .lcmp) rfl (fun _ => rfl) ?_
  refine dp_s2 hF (i := .ifCond .ne 18) (a := (163, [some (.ref 114), some (.int v1), some (.long v2), none, some (.int v4), some (.long v5), none, some (.int v7), some (.int v8), some (.int v9), some (.long v10), none], [], M)) (b := (178, [some (.ref 114), some (.int v1), some (.long v2), none, some (.int v4), some (.long v5), none, some (.int v7), some (.int v8), some (.int v9), some (.long v10), none], [], M)) rfl (fun _ => rfl) ?_ ?_
  · refine dp_s1 hF (i := .aload_n 0) rfl (fun _ => rfl) ?_
    refine dp_s1 hF (i := .iload 4) rfl (fun _ => rfl) ?_
    refine dp_s1 hF (i := .iload 7) rfl (fun _ => rfl) ?_
    refine dp_si (mj := dp_m_X12_setsParts) (i := .invokevirtual 947) rfl rfl (Or.inr rfl) rfl (fun _ => rfl) (fun r2 M1 => ?_)
    refine dp_s2 hF (i := .ifCond .eq 7) (a := (178, [some (.ref 114), some (.int v1), some (.long v2), none, some (.int v4), some (.long v5), none, some (.int v7), some (.int v8), some (.int v9), some (.long v10), none], [], M1)) (b := (174, [some (.ref 114), some (.int v1), some (.long v2), none, some (.int v4), some (.long v5), none, some (.int v7), some (.int v8), some (.int v9), some (.long v10), none], [], M1)) rfl (fun _ => rfl) ?_ ?_
    · refine dp_s1 hF (i := .iconst 0) rfl (fun _ => rfl) ?_
      exact dp_s0 hF (i := .ireturn) rfl (fun _ => rfl)
    refine dp_s1 hF (i := .iconst 1) rfl (fun _ => rfl) ?_
    refine dp_s1 hF (i := .goto 4) rfl (fun _ => rfl) ?_
    exact dp_s0 hF (i := .ireturn) rfl (fun _ => rfl)
  refine dp_s1 hF (i := .iconst 0) rfl (fun _ => rfl) ?_
  exact dp_s0 hF (i := .ireturn) rfl (fun _ => rfl)
set_option maxRecDepth 20000 in
theorem D_X12_lays_71_a_eq (xs : Nat → Int32) (xl d : Nat) (v1 : Int32) (v2 : Int64) (v4 : Int32) (v5 : Int64) (v7 : Int32) (v8 : Int32) (v9 : Int32) (v10 : Int64) (vs0 : Int64) (M : dp_M) : D_X12_lays_71_a xs xl d v1 v2 v4 v5 v7 v8 v9 v10 vs0 M = if 0 ≤ (lg_cmp vs0 v5) then (if (lg_cmp v5 (0 : Int64)) ≤ 0 then (D_X12_lays_105 xs xl d v1 v2 v4 v5 v7 v8 v9 v5 M) else (if v7 = (4 : Int32) then (some (.inl (some (.int (0 : Int32))), M)) else (D_X12_lays_105 xs xl d v1 v2 v4 v5 v7 v8 v9 v5 M))) else (if (lg_cmp vs0 (0 : Int64)) ≤ 0 then (D_X12_lays_105 xs xl d v1 v2 v4 v5 v7 v8 v9 vs0 M) else (if v7 = (4 : Int32) then (some (.inl (some (.int (0 : Int32))), M)) else (D_X12_lays_105 xs xl d v1 v2 v4 v5 v7 v8 v9 vs0 M))) := by
  have hF := dp_den_grow (md := true) (xs := xs) (xl := xl) d
  unfold D_X12_lays_71_a
  refine dp_s1 hF (i := .lstore 10) rfl (fun _ => rfl) ?_
  refine dp_s1 hF (i := .lload 10) rfl (fun _ => rfl) ?_
  refine dp_s1 hF (i := .lload 5) rfl (fun _ => rfl) ?_
  refine dp_s1 hF (i := .lcmp) rfl (fun _ => rfl) ?_
  refine dp_s2 hF (i := .ifCond .ge 8) (a := (86, [some (.ref 114), some (.int v1), some (.long v2), none, some (.int v4), some (.long v5), none, some (.int v7), some (.int v8), some (.int v9), some (.long vs0), none], [], M)) (b := (81, [some (.ref 114), some (.int v1), some (.long v2), none, some (.int v4), some (.long v5), none, some (.int v7), some (.int v8), some (.int v9), some (.long vs0), none], [], M)) rfl (fun _ => rfl) ?_ ?_
  · refine dp_s1 hF (i := .lload 5) rfl (fun _ => rfl) ?_
    refine dp_s1 hF (i := .lstore 10) rfl (fun _ => rfl) ?_
    refine dp_s1 hF (i := .lload 10) rfl (fun _ => rfl) ?_
    refine dp_s1 hF (i := .lconst 0) rfl (fun _ => rfl) ?_
    refine dp_s1 hF (i := .lcmp) rfl (fun _ => rfl) ?_
    refine dp_s2 hF (i := .ifCond .le 11) (a := (105, [some (.ref 114), some (.int v1), some (.long v2), none, some (.int v4), some (.long v5), none, some (.int v7), some (.int v8), some (.int v9), some (.long v5), none], [], M)) (b := (97, [some (.ref 114), some (.int v1), some (.long v2), none, some (.int v4), some (.long v5), none, some (.int v7), some (.int v8), some (.int v9), some (.long v5), none], [], M)) rfl (fun _ => rfl) ?_ ?_
    · exact rfl
    refine dp_s1 hF (i := .iload 7) rfl (fun _ => rfl) ?_
    refine dp_s1 hF (i := .iconst 4) rfl (fun _ => rfl) ?_
    refine dp_s2 hF (i := .if_icmp .ne 5) (a := (103, [some (.ref 114), some (.int v1), some (.long v2), none, some (.int v4), some (.long v5), none, some (.int v7), some (.int v8), some (.int v9), some (.long v5), none], [], M)) (b := (105, [some (.ref 114), some (.int v1), some (.long v2), none, some (.int v4), some (.long v5), none, some (.int v7), some (.int v8), some (.int v9), some (.long v5), none], [], M)) rfl (fun _ => rfl) ?_ ?_
    · refine dp_s1 hF (i := .iconst 0) rfl (fun _ => rfl) ?_
      exact dp_s0 hF (i := .ireturn) rfl (fun _ => rfl)
    exact rfl
  refine dp_s1 hF (i := .lload 10) rfl (fun _ => rfl) ?_
  refine dp_s1 hF (i := .goto 5) rfl (fun _ => rfl) ?_
  refine dp_s1 hF (i := .lstore 10) rfl (fun _ => rfl) ?_
  refine dp_s1 hF (i := .lload 10) rfl (fun _ => rfl) ?_
  refine dp_s1 hF (i := .lconst 0) rfl (fun _ => rfl) ?_
  refine dp_s1 hF (i := .lcmp) rfl (fun _ => rfl) ?_
  refine dp_s2 hF (i := .ifCond .le 11) (a := (105, [some (.ref 114), some (.int v1), some (.long v2), none, some (.int v4), some (.long v5), none, some (.int v7), some (.int v8), some (.int v9), some (.long vs0), none], [], M)) (b := (97, [some (.ref 114), some (.int v1), some (.long v2), none, some (.int v4), some (.long v5), none, some (.int v7), some (.int v8), some (.int v9), some (.long vs0), none], [], M)) rfl (fun _ => rfl) ?_ ?_
  · exact rfl
  refine dp_s1 hF (i := .iload 7) rfl (fun _ => rfl) ?_
  refine dp_s1 hF (i := .iconst 4) rfl (fun _ => rfl) ?_
  refine dp_s2 hF (i := .if_icmp .ne 5) (a := (103, [some (.ref 114), some (.int v1), some (.long v2), none, some (.int v4), some (.long v5), none, some (.int v7), some (.int v8), some (.int v9), some (.long vs0), none], [], M)) (b := (105, [some (.ref 114), some (.int v1), some (.long v2), none, some (.int v4), some (.long v5), none, some (.int v7), some (.int v8), some (.int v9), some (.long vs0), none], [], M)) rfl (fun _ => rfl) ?_ ?_
  · refine dp_s1 hF (i := .iconst 0) rfl (fun _ => rfl) ?_
    exact dp_s0 hF (i := .ireturn) rfl (fun _ => rfl)
  exact rfl
noncomputable def D_X12_setsParts_0 (xs : Nat → Int32) (xl d : Nat) (v1 : Int32) (v2 : Int32) (M : dp_M) : Option dp_Res := dp_lim true xs xl (dp_den true xs xl d) dp_m_X12_setsParts (0, [some (.ref 114), some (.int v1), some (.int v2)], [], M)
theorem D_X12_setsParts_0_den (xs : Nat → Int32) (xl d : Nat) (a0 : Int32) (a1 : Int32) (M : dp_M) : dp_den true xs xl (d + 1) 528 [.ref 114, .int a0, .int a1] M = D_X12_setsParts_0 xs xl d a0 a1 M := rfl
set_option maxRecDepth 20000 in
theorem D_X12_setsParts_0_eq (xs : Nat → Int32) (xl d : Nat) (v1 : Int32) (v2 : Int32) (M : dp_M) : D_X12_setsParts_0 xs xl d v1 v2 M = if v1 < 0 ∨ 402 ≤ Int32.toNatClampNeg v1 then none else dp_w (dp_setI M 216 (Int32.toNatClampNeg v1) v2) (fun M1 => some (.inl (some (.int (1 : Int32))), M1)) := by
  have hF := dp_den_grow (md := true) (xs := xs) (xl := xl) d
  unfold D_X12_setsParts_0
  refine dp_s1 hF (i := .aload_n 0) rfl (fun _ => rfl) ?_
  refine dp_s1 hF (i := .getfield 320) rfl (fun _ => rfl) ?_
  refine dp_s1 hF (i := .iload_n 1) rfl (fun _ => rfl) ?_
  refine dp_s1 hF (i := .iload_n 2) rfl (fun _ => rfl) ?_
  refine dp_s3w (dp_setI M 216 (Int32.toNatClampNeg v1) v2) (fun (M1 : dp_M) => (7, [some (.ref 114), some (.int v1), some (.int v2)], [], M1)) hF (i := .iastore) rfl (fun _ => rfl) (fun M1 => ?_)
  refine dp_s1 hF (i := .iconst 1) rfl (fun _ => rfl) ?_
  exact dp_s0 hF (i := .ireturn) rfl (fun _ => rfl)
noncomputable def D_X12_reservesAt_0 (xs : Nat → Int32) (xl d : Nat) (v1 : Int32) (v2 : Int32) (v3 : Int64) (M : dp_M) : Option dp_Res := dp_lim true xs xl (dp_den true xs xl d) dp_m_X12_reservesAt (0, [some (.ref 114), some (.int v1), some (.int v2), some (.long v3), none], [], M)
theorem D_X12_reservesAt_0_den (xs : Nat → Int32) (xl d : Nat) (a0 : Int32) (a1 : Int32) (a2 : Int64) (M : dp_M) : dp_den true xs xl (d + 1) 529 [.ref 114, .int a0, .int a1, .long a2] M = D_X12_reservesAt_0 xs xl d a0 a1 a2 M := rfl
set_option maxRecDepth 20000 in
theorem D_X12_reservesAt_0_eq (xs : Nat → Int32) (xl d : Nat) (v1 : Int32) (v2 : Int32) (v3 : Int64) (M : dp_M) : D_X12_reservesAt_0 xs xl d v1 v2 v3 M = dp_bi (dp_den true xs xl d 527 [.ref 114, .int v2, .long v3] M) (fun r2 M1 => if r2 = 0 then (dp_bl (dp_den true xs xl d 525 [.ref 114, .int v2] M1) (fun r4 M3 => some (.inl (some (.long ((-2 : Int64) - r4))), M3))) else (if v1 < 0 ∨ 4 ≤ Int32.toNatClampNeg v1 then none else (if (dp_I M1 219 (Int32.toNatClampNeg v1)) = 0 then (dp_w (dp_setI M1 114 133 ((dp_I M1 114 133) + (1 : Int32))) (fun M5 => if (dp_I M5 114 133) < 0 ∨ 402 ≤ Int32.toNatClampNeg (dp_I M5 114 133) then none else dp_w (dp_setI M5 214 (Int32.toNatClampNeg (dp_I M5 114 133)) v2) (fun M6 => some (.inl (some (.long (Int32.toInt64 (dp_I M6 114 133)))), M6)))) else (if v1 < 0 ∨ 4 ≤ Int32.toNatClampNeg v1 then none else dp_w (dp_setI M1 219 (Int32.toNatClampNeg v1) ((0 : Int32) &&& 1)) (fun M7 => if v1 < 0 ∨ 4 ≤ Int32.toNatClampNeg v1 then none else (if v1 < 0 ∨ 4 ≤ Int32.toNatClampNeg v1 then none else dp_w (dp_setI M7 220 (Int32.toNatClampNeg v1) ((dp_I M7 220 (Int32.toNatClampNeg v1)) + (1 : Int32))) (fun M8 => if ((dp_I M8 114 133) + (1 : Int32)) < 0 ∨ 402 ≤ Int32.toNatClampNeg ((dp_I M8 114 133) + (1 : Int32)) then none else dp_w (dp_setI M8 216 (Int32.toNatClampNeg ((dp_I M8 114 133) + (1 : Int32))) (0 : Int32)) (fun M9 => some (.inl (some (.long (-1 : Int64))), M9))))))))) := by
  have hF := dp_den_grow (md := true) (xs := xs) (xl := xl) d
  unfold D_X12_reservesAt_0
  refine dp_s1 hF (i := .aload_n 0) rfl (fun _ => rfl) ?_
  refine dp_s1 hF (i := .iload_n 2) rfl (fun _ => rfl) ?_
  refine dp_s1 hF (i := .lload_n 3) rfl (fun _ => rfl) ?_
  refine dp_si (mj := dp_m_X12_lays) (i := .invokevirtual 950) rfl rfl (Or.inr rfl) rfl (fun _ => rfl) (fun r2 M1 => ?_)
  refine dp_s2 hF (i := .ifCond .ne 13) (a := (9, [some (.ref 114), some (.int v1), some (.int v2), some (.long v3), none], [], M1)) (b := (19, [some (.ref 114), some (.int v1), some (.int v2), some (.long v3), none], [], M1)) rfl (fun _ => rfl) ?_ ?_
  · refine dp_s1 hF (i := .ldc2_w 954) rfl (fun _ => rfl) ?_
    refine dp_s1 hF (i := .aload_n 0) rfl (fun _ => rfl) ?_
    refine dp_s1 hF (i := .iload_n 2) rfl (fun _ => rfl) ?_
    refine dp_sl9 (mj := dp_m_X12_togetherOf) (i := .invokevirtual 944) rfl rfl rfl rfl (fun _ => rfl) (fun r4 M3 => ?_)
    refine dp_s1 hF (i := .lsub) rfl (fun _ => rfl) ?_
    exact dp_s0 hF (i := .lreturn) rfl (fun _ => rfl)
  refine dp_s1 hF (i := .aload_n 0) rfl (fun _ => rfl) ?_
  refine dp_s1 hF (i := .getfield 329) rfl (fun _ => rfl) ?_
  refine dp_s1 hF (i := .iload_n 1) rfl (fun _ => rfl) ?_
  refine dp_s3 hF (i := .baload) rfl (fun _ => rfl) ?_
  refine dp_s2 hF (i := .ifCond .eq 36) (a := (61, [some (.ref 114), some (.int v1), some (.int v2), some (.long v3), none], [], M1)) (b := (28, [some (.ref 114), some (.int v1), some (.int v2), some (.long v3), none], [], M1)) rfl (fun _ => rfl) ?_ ?_
  · refine dp_s1 hF (i := .aload_n 0) rfl (fun _ => rfl) ?_
    refine dp_s1 hF (i := .dup) rfl (fun _ => rfl) ?_
    refine dp_s1 hF (i := .getfield 923) rfl (fun _ => rfl) ?_
    refine dp_s1 hF (i := .iconst 1) rfl (fun _ => rfl) ?_
    refine dp_s1 hF (i := .iadd) rfl (fun _ => rfl) ?_
    refine dp_s1w (dp_setI M1 114 133 ((dp_I M1 114 133) + (1 : Int32))) (fun (M5 : dp_M) => (71, [some (.ref 114), some (.int v1), some (.int v2), some (.long v3), none], [], M5)) hF (i := .putfield 923) rfl (fun _ => rfl) (fun M5 => ?_)
    refine dp_s1 hF (i := .aload_n 0) rfl (fun _ => rfl) ?_
    refine dp_s1 hF (i := .getfield 314) rfl (fun _ => rfl) ?_
    refine dp_s1 hF (i := .aload_n 0) rfl (fun _ => rfl) ?_
    refine dp_s1 hF (i := .getfield 923) rfl (fun _ => rfl) ?_
    refine dp_s1 hF (i := .iload_n 2) rfl (fun _ => rfl) ?_
    refine dp_s3w (dp_setI M5 214 (Int32.toNatClampNeg (dp_I M5 114 133)) v2) (fun (M6 : dp_M) => (81, [some (.ref 114), some (.int v1), some (.int v2), some (.long v3), none], [], M6)) hF (i := .iastore) rfl (fun _ => rfl) (fun M6 => ?_)
    refine dp_s1 hF (i := .aload_n 0) rfl (fun _ => rfl) ?_
    refine dp_s1 hF (i := .getfield 923) rfl (fun _ => rfl) ?_
    refine dp_s1 hF (i := .i2l) rfl (fun _ => rfl) ?_
    exact dp_s0 hF (i := .lreturn) rfl (fun _ => rfl)
  refine dp_s1 hF (i := .aload_n 0) rfl (fun _ => rfl) ?_
  refine dp_s1 hF (i := .getfield 329) rfl (fun _ => rfl) ?_
  refine dp_s1 hF (i := .iload_n 1) rfl (fun _ => rfl) ?_
  refine dp_s1 hF (i := .iconst 0) rfl (fun _ => rfl) ?_
  refine dp_s3w (dp_setI M1 219 (Int32.toNatClampNeg v1) ((0 : Int32) &&& 1)) (fun (M7 : dp_M) => (35, [some (.ref 114), some (.int v1), some (.int v2), some (.long v3), none], [], M7)) hF (i := .bastore) rfl (fun _ => rfl) (fun M7 => ?_)
  refine dp_s1 hF (i := .aload_n 0) rfl (fun _ => rfl) ?_
  refine dp_s1 hF (i := .getfield 332) rfl (fun _ => rfl) ?_
  refine dp_s1 hF (i := .iload_n 1) rfl (fun _ => rfl) ?_
  refine dp_s1 hF (i := .dup2) rfl (fun _ => rfl) ?_
  refine dp_s3 hF (i := .iaload) rfl (fun _ => rfl) ?_
  refine dp_s1 hF (i := .iconst 1) rfl (fun _ => rfl) ?_
  refine dp_s1 hF (i := .iadd) rfl (fun _ => rfl) ?_
  refine dp_s3w (dp_setI M7 220 (Int32.toNatClampNeg v1) ((dp_I M7 220 (Int32.toNatClampNeg v1)) + (1 : Int32))) (fun (M8 : dp_M) => (45, [some (.ref 114), some (.int v1), some (.int v2), some (.long v3), none], [], M8)) hF (i := .iastore) rfl (fun _ => rfl) (fun M8 => ?_)
  refine dp_s1 hF (i := .aload_n 0) rfl (fun _ => rfl) ?_
  refine dp_s1 hF (i := .getfield 320) rfl (fun _ => rfl) ?_
  refine dp_s1 hF (i := .aload_n 0) rfl (fun _ => rfl) ?_
  refine dp_s1 hF (i := .getfield 923) rfl (fun _ => rfl) ?_
  refine dp_s1 hF (i := .iconst 1) rfl (fun _ => rfl) ?_
  refine dp_s1 hF (i := .iadd) rfl (fun _ => rfl) ?_
  refine dp_s1 hF (i := .iconst 0) rfl (fun _ => rfl) ?_
  refine dp_s3w (dp_setI M8 216 (Int32.toNatClampNeg ((dp_I M8 114 133) + (1 : Int32))) (0 : Int32)) (fun (M9 : dp_M) => (57, [some (.ref 114), some (.int v1), some (.int v2), some (.long v3), none], [], M9)) hF (i := .iastore) rfl (fun _ => rfl) (fun M9 => ?_)
  refine dp_s1 hF (i := .ldc2_w 435) rfl (fun _ => rfl) ?_
  exact dp_s0 hF (i := .lreturn) rfl (fun _ => rfl)
noncomputable def D_X12_endsAs_0 (xs : Nat → Int32) (xl d : Nat) (v1 : Int32) (v2 : Int32) (M : dp_M) : Option dp_Res := dp_lim true xs xl (dp_den true xs xl d) dp_m_X12_endsAs (0, [some (.ref 114), some (.int v1), some (.int v2)], [], M)
theorem D_X12_endsAs_0_den (xs : Nat → Int32) (xl d : Nat) (a0 : Int32) (a1 : Int32) (M : dp_M) : dp_den true xs xl (d + 1) 530 [.ref 114, .int a0, .int a1] M = D_X12_endsAs_0 xs xl d a0 a1 M := rfl
set_option maxRecDepth 20000 in
theorem D_X12_endsAs_0_eq (xs : Nat → Int32) (xl d : Nat) (v1 : Int32) (v2 : Int32) (M : dp_M) : D_X12_endsAs_0 xs xl d v1 v2 M = if v1 < 0 ∨ 402 ≤ Int32.toNatClampNeg v1 then none else dp_w (dp_setI M 215 (Int32.toNatClampNeg v1) v2) (fun M1 => if v1 < 0 ∨ 402 ≤ Int32.toNatClampNeg v1 then none else dp_w (dp_setI M1 216 (Int32.toNatClampNeg v1) (0 : Int32)) (fun M2 => some (.inl none, M2))) := by
  have hF := dp_den_grow (md := true) (xs := xs) (xl := xl) d
  unfold D_X12_endsAs_0
  refine dp_s1 hF (i := .aload_n 0) rfl (fun _ => rfl) ?_
  refine dp_s1 hF (i := .getfield 317) rfl (fun _ => rfl) ?_
  refine dp_s1 hF (i := .iload_n 1) rfl (fun _ => rfl) ?_
  refine dp_s1 hF (i := .iload_n 2) rfl (fun _ => rfl) ?_
  refine dp_s3w (dp_setI M 215 (Int32.toNatClampNeg v1) v2) (fun (M1 : dp_M) => (7, [some (.ref 114), some (.int v1), some (.int v2)], [], M1)) hF (i := .iastore) rfl (fun _ => rfl) (fun M1 => ?_)
  refine dp_s1 hF (i := .aload_n 0) rfl (fun _ => rfl) ?_
  refine dp_s1 hF (i := .getfield 320) rfl (fun _ => rfl) ?_
  refine dp_s1 hF (i := .iload_n 1) rfl (fun _ => rfl) ?_
  refine dp_s1 hF (i := .iconst 0) rfl (fun _ => rfl) ?_
  refine dp_s3w (dp_setI M1 216 (Int32.toNatClampNeg v1) (0 : Int32)) (fun (M2 : dp_M) => (14, [some (.ref 114), some (.int v1), some (.int v2)], [], M2)) hF (i := .iastore) rfl (fun _ => rfl) (fun M2 => ?_)
  exact dp_s0 hF (i := .return_) rfl (fun _ => rfl)
noncomputable def D_X12_earnedNow_0 (xs : Nat → Int32) (xl d : Nat) (v1 : Int32) (M : dp_M) : Option dp_Res := dp_lim true xs xl (dp_den true xs xl d) dp_m_X12_earnedNow (0, [some (.ref 114), some (.int v1), none], [], M)
noncomputable def D_X12_earnedNow_22 (xs : Nat → Int32) (xl d : Nat) (v1 : Int32) (vs0 : Int32) (M : dp_M) : Option dp_Res := dp_lim true xs xl (dp_den true xs xl d) dp_m_X12_earnedNow (22, [some (.ref 114), some (.int v1), none], [.int vs0], M)
theorem D_X12_earnedNow_0_den (xs : Nat → Int32) (xl d : Nat) (a0 : Int32) (M : dp_M) : dp_den true xs xl (d + 1) 531 [.ref 114, .int a0] M = D_X12_earnedNow_0 xs xl d a0 M := rfl
set_option maxRecDepth 20000 in
theorem D_X12_earnedNow_0_eq (xs : Nat → Int32) (xl d : Nat) (v1 : Int32) (M : dp_M) : D_X12_earnedNow_0 xs xl d v1 M = if v1 < 0 ∨ 41 ≤ Int32.toNatClampNeg v1 then none else (if (dp_I M 208 (Int32.toNatClampNeg v1)) = 0 then (D_X12_earnedNow_22 xs xl d v1 (dp_I M 114 120) M) else (if v1 < 0 ∨ 41 ≤ Int32.toNatClampNeg v1 then none else (D_X12_earnedNow_22 xs xl d v1 (dp_I M 209 (Int32.toNatClampNeg v1)) M))) := by
  have hF := dp_den_grow (md := true) (xs := xs) (xl := xl) d
  unfold D_X12_earnedNow_0
  refine dp_s1 hF (i := .aload_n 0) rfl (fun _ => rfl) ?_
  refine dp_s1 hF (i := .getfield 296) rfl (fun _ => rfl) ?_
  refine dp_s1 hF (i := .iload_n 1) rfl (fun _ => rfl) ?_
  refine dp_s3 hF (i := .baload) rfl (fun _ => rfl) ?_
  refine dp_s2 hF (i := .ifCond .eq 12) (a := (18, [some (.ref 114), some (.int v1), none], [], M)) (b := (9, [some (.ref 114), some (.int v1), none], [], M)) rfl (fun _ => rfl) ?_ ?_
  · refine dp_s1 hF (i := .aload_n 0) rfl (fun _ => rfl) ?_
    refine dp_s1 hF (i := .getfield 917) rfl (fun _ => rfl) ?_
    exact rfl
  refine dp_s1 hF (i := .aload_n 0) rfl (fun _ => rfl) ?_
  refine dp_s1 hF (i := .getfield 299) rfl (fun _ => rfl) ?_
  refine dp_s1 hF (i := .iload_n 1) rfl (fun _ => rfl) ?_
  refine dp_s3 hF (i := .iaload) rfl (fun _ => rfl) ?_
  refine dp_s1 hF (i := .goto 7) rfl (fun _ => rfl) ?_
  exact rfl
set_option maxRecDepth 20000 in
theorem D_X12_earnedNow_22_eq (xs : Nat → Int32) (xl d : Nat) (v1 : Int32) (vs0 : Int32) (M : dp_M) : D_X12_earnedNow_22 xs xl d v1 vs0 M = if v1 < 0 ∨ 41 ≤ Int32.toNatClampNeg v1 then none else (if (dp_I M 212 (Int32.toNatClampNeg v1)) < vs0 then (if v1 < 0 ∨ 41 ≤ Int32.toNatClampNeg v1 then none else (if v1 < 0 ∨ 41 ≤ Int32.toNatClampNeg v1 then none else (if v1 < 0 ∨ 41 ≤ Int32.toNatClampNeg v1 then none else (some (.inl (some (.long ((((dp_J M 203 (Int32.toNatClampNeg v1)) * (Int32.toInt64 (vs0 - (dp_I M 212 (Int32.toNatClampNeg v1))))) * (Int32.toInt64 (dp_I M 207 (Int32.toNatClampNeg v1)))) / (3650000 : Int64)))), M))))) else (some (.inl (some (.long (0 : Int64))), M))) := by
  have hF := dp_den_grow (md := true) (xs := xs) (xl := xl) d
  unfold D_X12_earnedNow_22
  refine dp_s1 hF (i := .istore_n 2) rfl (fun _ => rfl) ?_
  refine dp_s1 hF (i := .iload_n 2) rfl (fun _ => rfl) ?_
  refine dp_s1 hF (i := .aload_n 0) rfl (fun _ => rfl) ?_
  refine dp_s1 hF (i := .getfield 308) rfl (fun _ => rfl) ?_
  refine dp_s1 hF (i := .iload_n 1) rfl (fun _ => rfl) ?_
  refine dp_s3 hF (i := .iaload) rfl (fun _ => rfl) ?_
  refine dp_s2 hF (i := .if_icmp .gt 7) (a := (37, [some (.ref 114), some (.int v1), some (.int vs0)], [], M)) (b := (33, [some (.ref 114), some (.int v1), some (.int vs0)], [], M)) rfl (fun _ => rfl) ?_ ?_
  · refine dp_s1 hF (i := .aload_n 0) rfl (fun _ => rfl) ?_
    refine dp_s1 hF (i := .getfield 281) rfl (fun _ => rfl) ?_
    refine dp_s1 hF (i := .iload_n 1) rfl (fun _ => rfl) ?_
    refine dp_s3 hF (i := .laload) rfl (fun _ => rfl) ?_
    refine dp_s1 hF (i := .iload_n 2) rfl (fun _ => rfl) ?_
    refine dp_s1 hF (i := .aload_n 0) rfl (fun _ => rfl) ?_
    refine dp_s1 hF (i := .getfield 308) rfl (fun _ => rfl) ?_
    refine dp_s1 hF (i := .iload_n 1) rfl (fun _ => rfl) ?_
    refine dp_s3 hF (i := .iaload) rfl (fun _ => rfl) ?_
    refine dp_s1 hF (i := .isub) rfl (fun _ => rfl) ?_
    refine dp_s1 hF (i := .i2l) rfl (fun _ => rfl) ?_
    refine dp_s1 hF (i := .lmul) rfl (fun _ => rfl) ?_
    refine dp_s1 hF (i := .aload_n 0) rfl (fun _ => rfl) ?_
    refine dp_s1 hF (i := .getfield 293) rfl (fun _ => rfl) ?_
    refine dp_s1 hF (i := .iload_n 1) rfl (fun _ => rfl) ?_
    refine dp_s3 hF (i := .iaload) rfl (fun _ => rfl) ?_
    refine dp_s1 hF (i := .i2l) rfl (fun _ => rfl) ?_
    refine dp_s1 hF (i := .lmul) rfl (fun _ => rfl) ?_
    refine dp_s1 hF (i := .ldc2_w 956) rfl (fun _ => rfl) ?_
    refine dp_s1 hF (i := .ldiv) rfl (fun _ => rfl) ?_
    exact dp_s0 hF (i := .lreturn) rfl (fun _ => rfl)
  refine dp_s1 hF (i := .lconst 0) rfl (fun _ => rfl) ?_
  refine dp_s1 hF (i := .goto 31) rfl (fun _ => rfl) ?_
  exact dp_s0 hF (i := .lreturn) rfl (fun _ => rfl)
noncomputable def D_X12_wouldTake_0 (xs : Nat → Int32) (xl d : Nat) (v1 : Int32) (M : dp_M) : Option dp_Res := dp_lim true xs xl (dp_den true xs xl d) dp_m_X12_wouldTake (0, [some (.ref 114), some (.int v1), none, none, none], [], M)
noncomputable def D_X12_wouldTake_7 (xs : Nat → Int32) (xl d : Nat) (v1 : Int32) (v2 : Int64) (v4 : Int32) (M : dp_M) : Option dp_Res := dp_lim true xs xl (dp_den true xs xl d) dp_m_X12_wouldTake (7, [some (.ref 114), some (.int v1), some (.long v2), none, some (.int v4)], [], M)
theorem D_X12_wouldTake_0_den (xs : Nat → Int32) (xl d : Nat) (a0 : Int32) (M : dp_M) : dp_den true xs xl (d + 1) 532 [.ref 114, .int a0] M = D_X12_wouldTake_0 xs xl d a0 M := rfl
set_option maxRecDepth 20000 in
theorem D_X12_wouldTake_0_eq (xs : Nat → Int32) (xl d : Nat) (v1 : Int32) (M : dp_M) : D_X12_wouldTake_0 xs xl d v1 M = dp_w (0 : Int64) (fun y1 => dp_w ((4 : Int32) * v1) (fun y2 => D_X12_wouldTake_7 xs xl d v1 y1 y2 M)) := by
  have hF := dp_den_grow (md := true) (xs := xs) (xl := xl) d
  unfold D_X12_wouldTake_0
  refine dp_s1 hF (i := .lconst 0) rfl (fun _ => rfl) ?_
  refine dp_s1w (0 : Int64) (fun (y1 : Int64) => (2, [some (.ref 114), some (.int v1), some (.long y1), none, none], [], M)) hF (i := .lstore_n 2) rfl (fun _ => rfl) (fun y1 => ?_)
  refine dp_s1 hF (i := .iconst 4) rfl (fun _ => rfl) ?_
  refine dp_s1 hF (i := .iload_n 1) rfl (fun _ => rfl) ?_
  refine dp_s1 hF (i := .imul) rfl (fun _ => rfl) ?_
  refine dp_s1w ((4 : Int32) * v1) (fun (y2 : Int32) => (7, [some (.ref 114), some (.int v1), some (.long y1), none, some (.int y2)], [], M)) hF (i := .istore 4) rfl (fun _ => rfl) (fun y2 => ?_)
  exact rfl
set_option maxRecDepth 20000 in
theorem D_X12_wouldTake_7_eq (xs : Nat → Int32) (xl d : Nat) (v1 : Int32) (v2 : Int64) (v4 : Int32) (M : dp_M) : D_X12_wouldTake_7 xs xl d v1 v2 v4 M = if v1 < 0 ∨ 402 ≤ Int32.toNatClampNeg v1 then none else (if (((4 : Int32) * v1) + (dp_I M 216 (Int32.toNatClampNeg v1))) ≤ v4 then (some (.inl (some (.long v2)), M)) else (if v4 < 0 ∨ 1608 ≤ Int32.toNatClampNeg v4 then none else (if v4 < 0 ∨ 1608 ≤ Int32.toNatClampNeg v4 then none else (if (dp_I M 217 (Int32.toNatClampNeg v4)) < 0 ∨ 41 ≤ Int32.toNatClampNeg (dp_I M 217 (Int32.toNatClampNeg v4)) then none else (if 0 ≤ (lg_cmp (dp_J M 218 (Int32.toNatClampNeg v4)) (dp_J M 203 (Int32.toNatClampNeg (dp_I M 217 (Int32.toNatClampNeg v4))))) then (if v4 < 0 ∨ 1608 ≤ Int32.toNatClampNeg v4 then none else (if (dp_I M 217 (Int32.toNatClampNeg v4)) < 0 ∨ 41 ≤ Int32.toNatClampNeg (dp_I M 217 (Int32.toNatClampNeg v4)) then none else (dp_w (v2 + (dp_J M 203 (Int32.toNatClampNeg (dp_I M 217 (Int32.toNatClampNeg v4))))) (fun y1 => dp_w (v4 + (1 : Int32)) (fun y2 => D_X12_wouldTake_7 xs xl d v1 y1 y2 M))))) else (if v4 < 0 ∨ 1608 ≤ Int32.toNatClampNeg v4 then none else (dp_w (v2 + (dp_J M 218 (Int32.toNatClampNeg v4))) (fun y3 => dp_w (v4 + (1 : Int32)) (fun y4 => D_X12_wouldTake_7 xs xl d v1 y3 y4 M))))))))) := by
  have hF := dp_den_grow (md := true) (xs := xs) (xl := xl) d
  unfold D_X12_wouldTake_7
  refine dp_s1 hF (i := .iload 4) rfl (fun _ => rfl) ?_
  refine dp_s1 hF (i := .iconst 4) rfl (fun _ => rfl) ?_
  refine dp_s1 hF (i := .iload_n 1) rfl (fun _ => rfl) ?_
  refine dp_s1 hF (i := .imul) rfl (fun _ => rfl) ?_
  refine dp_s1 hF (i := .aload_n 0) rfl (fun _ => rfl) ?_
  refine dp_s1 hF (i := .getfield 320) rfl (fun _ => rfl) ?_
  refine dp_s1 hF (i := .iload_n 1) rfl (fun _ => rfl) ?_
  refine dp_s3 hF (i := .iaload) rfl (fun _ => rfl) ?_
  refine dp_s1 hF (i := .iadd) rfl (fun _ => rfl) ?_
  refine dp_s2 hF (i := .if_icmp .ge 57) (a := (76, [some (.ref 114), some (.int v1), some (.long v2), none, some (.int v4)], [], M)) (b := (22, [some (.ref 114), some (.int v1), some (.long v2), none, some (.int v4)], [], M)) rfl (fun _ => rfl) ?_ ?_
  · refine dp_s1 hF (i := .lload_n 2) rfl (fun _ => rfl) ?_
    exact dp_s0 hF (i := .lreturn) rfl (fun _ => rfl)
  refine dp_s1 hF (i := .lload_n 2) rfl (fun _ => rfl) ?_
  refine dp_s1 hF (i := .aload_n 0) rfl (fun _ => rfl) ?_
  refine dp_s1 hF (i := .getfield 326) rfl (fun _ => rfl) ?_
  refine dp_s1 hF (i := .iload 4) rfl (fun _ => rfl) ?_
  refine dp_s3 hF (i := .laload) rfl (fun _ => rfl) ?_
  refine dp_s1 hF (i := .aload_n 0) rfl (fun _ => rfl) ?_
  refine dp_s1 hF (i := .getfield 281) rfl (fun _ => rfl) ?_
  refine dp_s1 hF (i := .aload_n 0) rfl (fun _ => rfl) ?_
  refine dp_s1 hF (i := .getfield 323) rfl (fun _ => rfl) ?_
  refine dp_s1 hF (i := .iload 4) rfl (fun _ => rfl) ?_
  refine dp_s3 hF (i := .iaload) rfl (fun _ => rfl) ?_
  refine dp_s3 hF (i := .laload) rfl (fun _ => rfl) ?_
  refine dp_s1 hF (i := .lcmp) rfl (fun _ => rfl) ?_
  refine dp_s2 hF (i := .ifCond .ge 13) (a := (56, [some (.ref 114), some (.int v1), some (.long v2), none, some (.int v4)], [.long v2], M)) (b := (46, [some (.ref 114), some (.int v1), some (.long v2), none, some (.int v4)], [.long v2], M)) rfl (fun _ => rfl) ?_ ?_
  · refine dp_s1 hF (i := .aload_n 0) rfl (fun _ => rfl) ?_
    refine dp_s1 hF (i := .getfield 281) rfl (fun _ => rfl) ?_
    refine dp_s1 hF (i := .aload_n 0) rfl (fun _ => rfl) ?_
    refine dp_s1 hF (i := .getfield 323) rfl (fun _ => rfl) ?_
    refine dp_s1 hF (i := .iload 4) rfl (fun _ => rfl) ?_
    refine dp_s3 hF (i := .iaload) rfl (fun _ => rfl) ?_
    refine dp_s3 hF (i := .laload) rfl (fun _ => rfl) ?_
    refine dp_s1 hF (i := .ladd) rfl (fun _ => rfl) ?_
    refine dp_s1w (v2 + (dp_J M 203 (Int32.toNatClampNeg (dp_I M 217 (Int32.toNatClampNeg v4))))) (fun (y1 : Int64) => (70, [some (.ref 114), some (.int v1), some (.long y1), none, some (.int v4)], [], M)) hF (i := .lstore_n 2) rfl (fun _ => rfl) (fun y1 => ?_)
    refine dp_s1w (v4 + (1 : Int32)) (fun (y2 : Int32) => (73, [some (.ref 114), some (.int v1), some (.long y1), none, some (.int y2)], [], M)) hF (i := .iinc 4 1) rfl (fun _ => rfl) (fun y2 => ?_)
    refine dp_s1 hF (i := .goto (-66)) rfl (fun _ => rfl) ?_
    exact rfl
  refine dp_s1 hF (i := .aload_n 0) rfl (fun _ => rfl) ?_
  refine dp_s1 hF (i := .getfield 326) rfl (fun _ => rfl) ?_
  refine dp_s1 hF (i := .iload 4) rfl (fun _ => rfl) ?_
  refine dp_s3 hF (i := .laload) rfl (fun _ => rfl) ?_
  refine dp_s1 hF (i := .goto 15) rfl (fun _ => rfl) ?_
  refine dp_s1 hF (i := .ladd) rfl (fun _ => rfl) ?_
  refine dp_s1w (v2 + (dp_J M 218 (Int32.toNatClampNeg v4))) (fun (y3 : Int64) => (70, [some (.ref 114), some (.int v1), some (.long y3), none, some (.int v4)], [], M)) hF (i := .lstore_n 2) rfl (fun _ => rfl) (fun y3 => ?_)
  refine dp_s1w (v4 + (1 : Int32)) (fun (y4 : Int32) => (73, [some (.ref 114), some (.int v1), some (.long y3), none, some (.int y4)], [], M)) hF (i := .iinc 4 1) rfl (fun _ => rfl) (fun y4 => ?_)
  refine dp_s1 hF (i := .goto (-66)) rfl (fun _ => rfl) ?_
  exact rfl
noncomputable def D_X12_claimsAll_0 (xs : Nat → Int32) (xl d : Nat) (v1 : Int32) (M : dp_M) : Option dp_Res := dp_lim true xs xl (dp_den true xs xl d) dp_m_X12_claimsAll (0, [some (.ref 114), some (.int v1), none, none, none, none], [], M)
noncomputable def D_X12_claimsAll_4 (xs : Nat → Int32) (xl d : Nat) (v1 : Int32) (v2 : Int32) (M : dp_M) : Option dp_Res := dp_lim true xs xl (dp_den true xs xl d) dp_m_X12_claimsAll (4, [some (.ref 114), some (.int v1), some (.int v2), none, none, none], [], M)
noncomputable def D_X12_claimsAll_56 (xs : Nat → Int32) (xl d : Nat) (v1 : Int32) (v2 : Int32) (v3 : Int32) (vs0 : Int64) (M : dp_M) : Option dp_Res := dp_lim true xs xl (dp_den true xs xl d) dp_m_X12_claimsAll (56, [some (.ref 114), some (.int v1), some (.int v2), some (.int v3), none, none], [.long vs0], M)
noncomputable def D_X12_claimsAll_4_a (xs : Nat → Int32) (xl d : Nat) (v1 : Int32) (v2 : Int32) (v3 : Int32) (v4 : Int64) (M : dp_M) : Option dp_Res := dp_lim true xs xl (dp_den true xs xl d) dp_m_X12_claimsAll (4, [some (.ref 114), some (.int v1), some (.int v2), some (.int v3), some (.long v4), none], [], M)
noncomputable def D_X12_claimsAll_56_a (xs : Nat → Int32) (xl d : Nat) (v1 : Int32) (v2 : Int32) (v3 : Int32) (v4 : Int64) (vs0 : Int64) (M : dp_M) : Option dp_Res := dp_lim true xs xl (dp_den true xs xl d) dp_m_X12_claimsAll (56, [some (.ref 114), some (.int v1), some (.int v2), some (.int v3), some (.long v4), none], [.long vs0], M)
theorem D_X12_claimsAll_0_den (xs : Nat → Int32) (xl d : Nat) (a0 : Int32) (M : dp_M) : dp_den true xs xl (d + 1) 533 [.ref 114, .int a0] M = D_X12_claimsAll_0 xs xl d a0 M := rfl
set_option maxRecDepth 20000 in
theorem D_X12_claimsAll_0_eq (xs : Nat → Int32) (xl d : Nat) (v1 : Int32) (M : dp_M) : D_X12_claimsAll_0 xs xl d v1 M = dp_w ((4 : Int32) * v1) (fun y1 => D_X12_claimsAll_4 xs xl d v1 y1 M) := by
  have hF := dp_den_grow (md := true) (xs := xs) (xl := xl) d
  unfold D_X12_claimsAll_0
  refine dp_s1 hF (i := .iconst 4) rfl (fun _ => rfl) ?_
  refine dp_s1 hF (i := .iload_n 1) rfl (fun _ => rfl) ?_
  refine dp_s1 hF (i := .imul) rfl (fun _ => rfl) ?_
  refine dp_s1w ((4 : Int32) * v1) (fun (y1 : Int32) => (4, [some (.ref 114), some (.int v1), some (.int y1), none, none, none], [], M)) hF (i := .istore_n 2) rfl (fun _ => rfl) (fun y1 => ?_)
  exact rfl
set_option maxRecDepth 20000 in
theorem D_X12_claimsAll_4_eq (xs : Nat → Int32) (xl d : Nat) (v1 : Int32) (v2 : Int32) (M : dp_M) : D_X12_claimsAll_4 xs xl d v1 v2 M = if v1 < 0 ∨ 402 ≤ Int32.toNatClampNeg v1 then none else (if (((4 : Int32) * v1) + (dp_I M 216 (Int32.toNatClampNeg v1))) ≤ v2 then (dp_bv (dp_den true xs xl d 530 [.ref 114, .int v1, .int (3 : Int32)] M) (fun M1 => some (.inl none, M1))) else (if v2 < 0 ∨ 1608 ≤ Int32.toNatClampNeg v2 then none else (dp_w (dp_I M 217 (Int32.toNatClampNeg v2)) (fun y2 => if v2 < 0 ∨ 1608 ≤ Int32.toNatClampNeg v2 then none else (if y2 < 0 ∨ 41 ≤ Int32.toNatClampNeg y2 then none else (if 0 ≤ (lg_cmp (dp_J M 218 (Int32.toNatClampNeg v2)) (dp_J M 203 (Int32.toNatClampNeg y2))) then (if y2 < 0 ∨ 41 ≤ Int32.toNatClampNeg y2 then none else (D_X12_claimsAll_56 xs xl d v1 v2 y2 (dp_J M 203 (Int32.toNatClampNeg y2)) M)) else (if v2 < 0 ∨ 1608 ≤ Int32.toNatClampNeg v2 then none else (D_X12_claimsAll_56 xs xl d v1 v2 y2 (dp_J M 218 (Int32.toNatClampNeg v2)) M)))))))) := by
  have hF := dp_den_grow (md := true) (xs := xs) (xl := xl) d
  unfold D_X12_claimsAll_4
  refine dp_s1 hF (i := .iload_n 2) rfl (fun _ => rfl) ?_
  refine dp_s1 hF (i := .iconst 4) rfl (fun _ => rfl) ?_
  refine dp_s1 hF (i := .iload_n 1) rfl (fun _ => rfl) ?_
  refine dp_s1 hF (i := .imul) rfl (fun _ => rfl) ?_
  refine dp_s1 hF (i := .aload_n 0) rfl (fun _ => rfl) ?_
  refine dp_s1 hF (i := .getfield 320) rfl (fun _ => rfl) ?_
  refine dp_s1 hF (i := .iload_n 1) rfl (fun _ => rfl) ?_
  refine dp_s3 hF (i := .iaload) rfl (fun _ => rfl) ?_
  refine dp_s1 hF (i := .iadd) rfl (fun _ => rfl) ?_
  refine dp_s2 hF (i := .if_icmp .ge 102) (a := (117, [some (.ref 114), some (.int v1), some (.int v2), none, none, none], [], M)) (b := (18, [some (.ref 114), some (.int v1), some (.int v2), none, none, none], [], M)) rfl (fun _ => rfl) ?_ ?_
  · refine dp_s1 hF (i := .aload_n 0) rfl (fun _ => rfl) ?_
    refine dp_s1 hF (i := .iload_n 1) rfl (fun _ => rfl) ?_
    refine dp_s1 hF (i := .iconst 3) rfl (fun _ => rfl) ?_
    refine dp_sv (mj := dp_m_X12_endsAs) (i := .invokevirtual 961) rfl rfl rfl rfl (fun _ => rfl) (fun M1 => ?_)
    exact dp_s0 hF (i := .return_) rfl (fun _ => rfl)
  refine dp_s1 hF (i := .aload_n 0) rfl (fun _ => rfl) ?_
  refine dp_s1 hF (i := .getfield 323) rfl (fun _ => rfl) ?_
  refine dp_s1 hF (i := .iload_n 2) rfl (fun _ => rfl) ?_
  refine dp_s3 hF (i := .iaload) rfl (fun _ => rfl) ?_
  refine dp_s1w (dp_I M 217 (Int32.toNatClampNeg v2)) (fun (y2 : Int32) => (25, [some (.ref 114), some (.int v1), some (.int v2), some (.int y2), none, none], [], M)) hF (i := .istore_n 3) rfl (fun _ => rfl) (fun y2 => ?_)
  refine dp_s1 hF (i := .aload_n 0) rfl (fun _ => rfl) ?_
  refine dp_s1 hF (i := .getfield 326) rfl (fun _ => rfl) ?_
  refine dp_s1 hF (i := .iload_n 2) rfl (fun _ => rfl) ?_
  refine dp_s3 hF (i := .laload) rfl (fun _ => rfl) ?_
  refine dp_s1 hF (i := .aload_n 0) rfl (fun _ => rfl) ?_
  refine dp_s1 hF (i := .getfield 281) rfl (fun _ => rfl) ?_
  refine dp_s1 hF (i := .iload_n 3) rfl (fun _ => rfl) ?_
  refine dp_s3 hF (i := .laload) rfl (fun _ => rfl) ?_
  refine dp_s1 hF (i := .lcmp) rfl (fun _ => rfl) ?_
  refine dp_s2 hF (i := .ifCond .ge 12) (a := (50, [some (.ref 114), some (.int v1), some (.int v2), some (.int y2), none, none], [], M)) (b := (41, [some (.ref 114), some (.int v1), some (.int v2), some (.int y2), none, none], [], M)) rfl (fun _ => rfl) ?_ ?_
  · refine dp_s1 hF (i := .aload_n 0) rfl (fun _ => rfl) ?_
    refine dp_s1 hF (i := .getfield 281) rfl (fun _ => rfl) ?_
    refine dp_s1 hF (i := .iload_n 3) rfl (fun _ => rfl) ?_
    refine dp_s3 hF (i := .laload) rfl (fun _ => rfl) ?_
    exact rfl
  refine dp_s1 hF (i := .aload_n 0) rfl (fun _ => rfl) ?_
  refine dp_s1 hF (i := .getfield 326) rfl (fun _ => rfl) ?_
  refine dp_s1 hF (i := .iload_n 2) rfl (fun _ => rfl) ?_
  refine dp_s3 hF (i := .laload) rfl (fun _ => rfl) ?_
  refine dp_s1 hF (i := .goto 9) rfl (fun _ => rfl) ?_
  exact rfl
set_option maxRecDepth 20000 in
theorem D_X12_claimsAll_56_eq (xs : Nat → Int32) (xl d : Nat) (v1 : Int32) (v2 : Int32) (v3 : Int32) (vs0 : Int64) (M : dp_M) : D_X12_claimsAll_56 xs xl d v1 v2 v3 vs0 M = if (lg_cmp vs0 (0 : Int64)) ≤ 0 then (dp_w (v2 + (1 : Int32)) (fun y1 => D_X12_claimsAll_4_a xs xl d v1 y1 v3 vs0 M)) else (if v3 < 0 ∨ 41 ≤ Int32.toNatClampNeg v3 then none else (dp_bl (dp_den true xs xl d 531 [.ref 114, .int v3] M) (fun r3 M2 => if v3 < 0 ∨ 41 ≤ Int32.toNatClampNeg v3 then none else dp_w (dp_setJ M2 211 (Int32.toNatClampNeg v3) ((dp_J M 211 (Int32.toNatClampNeg v3)) + r3)) (fun M4 => if v3 < 0 ∨ 41 ≤ Int32.toNatClampNeg v3 then none else dp_w (dp_setI M4 212 (Int32.toNatClampNeg v3) (dp_I M4 114 120)) (fun M5 => if v3 < 0 ∨ 41 ≤ Int32.toNatClampNeg v3 then none else (if v3 < 0 ∨ 41 ≤ Int32.toNatClampNeg v3 then none else dp_w (dp_setJ M5 203 (Int32.toNatClampNeg v3) ((dp_J M5 203 (Int32.toNatClampNeg v3)) - vs0)) (fun M6 => if v3 < 0 ∨ 41 ≤ Int32.toNatClampNeg v3 then none else (if v3 < 0 ∨ 41 ≤ Int32.toNatClampNeg v3 then none else dp_w (dp_setJ M6 210 (Int32.toNatClampNeg v3) ((dp_J M6 210 (Int32.toNatClampNeg v3)) + vs0)) (fun M7 => dp_w (v2 + (1 : Int32)) (fun y8 => D_X12_claimsAll_4_a xs xl d v1 y8 v3 vs0 M7)))))))))) := by
  have hF := dp_den_grow (md := true) (xs := xs) (xl := xl) d
  unfold D_X12_claimsAll_56
  refine dp_s1 hF (i := .lstore 4) rfl (fun _ => rfl) ?_
  refine dp_s1 hF (i := .lload 4) rfl (fun _ => rfl) ?_
  refine dp_s1 hF (i := .lconst 0) rfl (fun _ => rfl) ?_
  refine dp_s1 hF (i := .lcmp) rfl (fun _ => rfl) ?_
  refine dp_s2 hF (i := .ifCond .le 49) (a := (111, [some (.ref 114), some (.int v1), some (.int v2), some (.int v3), some (.long vs0), none], [], M)) (b := (65, [some (.ref 114), some (.int v1), some (.int v2), some (.int v3), some (.long vs0), none], [], M)) rfl (fun _ => rfl) ?_ ?_
  · refine dp_s1w (v2 + (1 : Int32)) (fun (y1 : Int32) => (114, [some (.ref 114), some (.int v1), some (.int y1), some (.int v3), some (.long vs0), none], [], M)) hF (i := .iinc 2 1) rfl (fun _ => rfl) (fun y1 => ?_)
    refine dp_s1 hF (i := .goto (-110)) rfl (fun _ => rfl) ?_
    exact rfl
  refine dp_s1 hF (i := .aload_n 0) rfl (fun _ => rfl) ?_
  refine dp_s1 hF (i := .getfield 305) rfl (fun _ => rfl) ?_
  refine dp_s1 hF (i := .iload_n 3) rfl (fun _ => rfl) ?_
  refine dp_s1 hF (i := .dup2) rfl (fun _ => rfl) ?_
  refine dp_s3 hF (i := .laload) rfl (fun _ => rfl) ?_
  refine dp_s1 hF (i := .aload_n 0) rfl (fun _ => rfl) ?_
  refine dp_s1 hF (i := .iload_n 3) rfl (fun _ => rfl) ?_
  refine dp_sl9 (mj := dp_m_X12_earnedNow) (i := .invokevirtual 958) rfl rfl rfl rfl (fun _ => rfl) (fun r3 M2 => ?_)
  refine dp_s1 hF (i := .ladd) rfl (fun _ => rfl) ?_
  refine dp_s3w (dp_setJ M2 211 (Int32.toNatClampNeg v3) ((dp_J M 211 (Int32.toNatClampNeg v3)) + r3)) (fun (M4 : dp_M) => (79, [some (.ref 114), some (.int v1), some (.int v2), some (.int v3), some (.long vs0), none], [], M4)) hF (i := .lastore) rfl (fun _ => rfl) (fun M4 => ?_)
  refine dp_s1 hF (i := .aload_n 0) rfl (fun _ => rfl) ?_
  refine dp_s1 hF (i := .getfield 308) rfl (fun _ => rfl) ?_
  refine dp_s1 hF (i := .iload_n 3) rfl (fun _ => rfl) ?_
  refine dp_s1 hF (i := .aload_n 0) rfl (fun _ => rfl) ?_
  refine dp_s1 hF (i := .getfield 917) rfl (fun _ => rfl) ?_
  refine dp_s3w (dp_setI M4 212 (Int32.toNatClampNeg v3) (dp_I M4 114 120)) (fun (M5 : dp_M) => (89, [some (.ref 114), some (.int v1), some (.int v2), some (.int v3), some (.long vs0), none], [], M5)) hF (i := .iastore) rfl (fun _ => rfl) (fun M5 => ?_)
  refine dp_s1 hF (i := .aload_n 0) rfl (fun _ => rfl) ?_
  refine dp_s1 hF (i := .getfield 281) rfl (fun _ => rfl) ?_
  refine dp_s1 hF (i := .iload_n 3) rfl (fun _ => rfl) ?_
  refine dp_s1 hF (i := .dup2) rfl (fun _ => rfl) ?_
  refine dp_s3 hF (i := .laload) rfl (fun _ => rfl) ?_
  refine dp_s1 hF (i := .lload 4) rfl (fun _ => rfl) ?_
  refine dp_s1 hF (i := .lsub) rfl (fun _ => rfl) ?_
  refine dp_s3w (dp_setJ M5 203 (Int32.toNatClampNeg v3) ((dp_J M5 203 (Int32.toNatClampNeg v3)) - vs0)) (fun (M6 : dp_M) => (100, [some (.ref 114), some (.int v1), some (.int v2), some (.int v3), some (.long vs0), none], [], M6)) hF (i := .lastore) rfl (fun _ => rfl) (fun M6 => ?_)
  refine dp_s1 hF (i := .aload_n 0) rfl (fun _ => rfl) ?_
  refine dp_s1 hF (i := .getfield 302) rfl (fun _ => rfl) ?_
  refine dp_s1 hF (i := .iload_n 3) rfl (fun _ => rfl) ?_
  refine dp_s1 hF (i := .dup2) rfl (fun _ => rfl) ?_
  refine dp_s3 hF (i := .laload) rfl (fun _ => rfl) ?_
  refine dp_s1 hF (i := .lload 4) rfl (fun _ => rfl) ?_
  refine dp_s1 hF (i := .ladd) rfl (fun _ => rfl) ?_
  refine dp_s3w (dp_setJ M6 210 (Int32.toNatClampNeg v3) ((dp_J M6 210 (Int32.toNatClampNeg v3)) + vs0)) (fun (M7 : dp_M) => (111, [some (.ref 114), some (.int v1), some (.int v2), some (.int v3), some (.long vs0), none], [], M7)) hF (i := .lastore) rfl (fun _ => rfl) (fun M7 => ?_)
  refine dp_s1w (v2 + (1 : Int32)) (fun (y8 : Int32) => (114, [some (.ref 114), some (.int v1), some (.int y8), some (.int v3), some (.long vs0), none], [], M7)) hF (i := .iinc 2 1) rfl (fun _ => rfl) (fun y8 => ?_)
  refine dp_s1 hF (i := .goto (-110)) rfl (fun _ => rfl) ?_
  exact rfl
set_option maxRecDepth 20000 in
theorem D_X12_claimsAll_4_a_eq (xs : Nat → Int32) (xl d : Nat) (v1 : Int32) (v2 : Int32) (v3 : Int32) (v4 : Int64) (M : dp_M) : D_X12_claimsAll_4_a xs xl d v1 v2 v3 v4 M = if v1 < 0 ∨ 402 ≤ Int32.toNatClampNeg v1 then none else (if (((4 : Int32) * v1) + (dp_I M 216 (Int32.toNatClampNeg v1))) ≤ v2 then (dp_bv (dp_den true xs xl d 530 [.ref 114, .int v1, .int (3 : Int32)] M) (fun M1 => some (.inl none, M1))) else (if v2 < 0 ∨ 1608 ≤ Int32.toNatClampNeg v2 then none else (dp_w (dp_I M 217 (Int32.toNatClampNeg v2)) (fun y2 => if v2 < 0 ∨ 1608 ≤ Int32.toNatClampNeg v2 then none else (if y2 < 0 ∨ 41 ≤ Int32.toNatClampNeg y2 then none else (if 0 ≤ (lg_cmp (dp_J M 218 (Int32.toNatClampNeg v2)) (dp_J M 203 (Int32.toNatClampNeg y2))) then (if y2 < 0 ∨ 41 ≤ Int32.toNatClampNeg y2 then none else (D_X12_claimsAll_56_a xs xl d v1 v2 y2 v4 (dp_J M 203 (Int32.toNatClampNeg y2)) M)) else (if v2 < 0 ∨ 1608 ≤ Int32.toNatClampNeg v2 then none else (D_X12_claimsAll_56_a xs xl d v1 v2 y2 v4 (dp_J M 218 (Int32.toNatClampNeg v2)) M)))))))) := by
  have hF := dp_den_grow (md := true) (xs := xs) (xl := xl) d
  unfold D_X12_claimsAll_4_a
  refine dp_s1 hF (i := .iload_n 2) rfl (fun _ => rfl) ?_
  refine dp_s1 hF (i := .iconst 4) rfl (fun _ => rfl) ?_
  refine dp_s1 hF (i := .iload_n 1) rfl (fun _ => rfl) ?_
  refine dp_s1 hF (i := .imul) rfl (fun _ => rfl) ?_
  refine dp_s1 hF (i := .aload_n 0) rfl (fun _ => rfl) ?_
  refine dp_s1 hF (i := .getfield 320) rfl (fun _ => rfl) ?_
  refine dp_s1 hF (i := .iload_n 1) rfl (fun _ => rfl) ?_
  refine dp_s3 hF (i := .iaload) rfl (fun _ => rfl) ?_
  refine dp_s1 hF (i := .iadd) rfl (fun _ => rfl) ?_
  refine dp_s2 hF (i := .if_icmp .ge 102) (a := (117, [some (.ref 114), some (.int v1), some (.int v2), some (.int v3), some (.long v4), none], [], M)) (b := (18, [some (.ref 114), some (.int v1), some (.int v2), some (.int v3), some (.long v4), none], [], M)) rfl (fun _ => rfl) ?_ ?_
  · refine dp_s1 hF (i := .aload_n 0) rfl (fun _ => rfl) ?_
    refine dp_s1 hF (i := .iload_n 1) rfl (fun _ => rfl) ?_
    refine dp_s1 hF (i := .iconst 3) rfl (fun _ => rfl) ?_
    refine dp_sv (mj := dp_m_X12_endsAs) (i := .invokevirtual 961) rfl rfl rfl rfl (fun _ => rfl) (fun M1 => ?_)
    exact dp_s0 hF (i := .return_) rfl (fun _ => rfl)
  refine dp_s1 hF (i := .aload_n 0) rfl (fun _ => rfl) ?_
  refine dp_s1 hF (i := .getfield 323) rfl (fun _ => rfl) ?_
  refine dp_s1 hF (i := .iload_n 2) rfl (fun _ => rfl) ?_
  refine dp_s3 hF (i := .iaload) rfl (fun _ => rfl) ?_
  refine dp_s1w (dp_I M 217 (Int32.toNatClampNeg v2)) (fun (y2 : Int32) => (25, [some (.ref 114), some (.int v1), some (.int v2), some (.int y2), some (.long v4), none], [], M)) hF (i := .istore_n 3) rfl (fun _ => rfl) (fun y2 => ?_)
  refine dp_s1 hF (i := .aload_n 0) rfl (fun _ => rfl) ?_
  refine dp_s1 hF (i := .getfield 326) rfl (fun _ => rfl) ?_
  refine dp_s1 hF (i := .iload_n 2) rfl (fun _ => rfl) ?_
  refine dp_s3 hF (i := .laload) rfl (fun _ => rfl) ?_
  refine dp_s1 hF (i := .aload_n 0) rfl (fun _ => rfl) ?_
  refine dp_s1 hF (i := .getfield 281) rfl (fun _ => rfl) ?_
  refine dp_s1 hF (i := .iload_n 3) rfl (fun _ => rfl) ?_
  refine dp_s3 hF (i := .laload) rfl (fun _ => rfl) ?_
  refine dp_s1 hF (i := .lcmp) rfl (fun _ => rfl) ?_
  refine dp_s2 hF (i := .ifCond .ge 12) (a := (50, [some (.ref 114), some (.int v1), some (.int v2), some (.int y2), some (.long v4), none], [], M)) (b := (41, [some (.ref 114), some (.int v1), some (.int v2), some (.int y2), some (.long v4), none], [], M)) rfl (fun _ => rfl) ?_ ?_
  · refine dp_s1 hF (i := .aload_n 0) rfl (fun _ => rfl) ?_
    refine dp_s1 hF (i := .getfield 281) rfl (fun _ => rfl) ?_
    refine dp_s1 hF (i := .iload_n 3) rfl (fun _ => rfl) ?_
    refine dp_s3 hF (i := .laload) rfl (fun _ => rfl) ?_
    exact rfl
  refine dp_s1 hF (i := .aload_n 0) rfl (fun _ => rfl) ?_
  refine dp_s1 hF (i := .getfield 326) rfl (fun _ => rfl) ?_
  refine dp_s1 hF (i := .iload_n 2) rfl (fun _ => rfl) ?_
  refine dp_s3 hF (i := .laload) rfl (fun _ => rfl) ?_
  refine dp_s1 hF (i := .goto 9) rfl (fun _ => rfl) ?_
  exact rfl
set_option maxRecDepth 20000 in
theorem D_X12_claimsAll_56_a_eq (xs : Nat → Int32) (xl d : Nat) (v1 : Int32) (v2 : Int32) (v3 : Int32) (v4 : Int64) (vs0 : Int64) (M : dp_M) : D_X12_claimsAll_56_a xs xl d v1 v2 v3 v4 vs0 M = if (lg_cmp vs0 (0 : Int64)) ≤ 0 then (dp_w (v2 + (1 : Int32)) (fun y1 => D_X12_claimsAll_4_a xs xl d v1 y1 v3 vs0 M)) else (if v3 < 0 ∨ 41 ≤ Int32.toNatClampNeg v3 then none else (dp_bl (dp_den true xs xl d 531 [.ref 114, .int v3] M) (fun r3 M2 => if v3 < 0 ∨ 41 ≤ Int32.toNatClampNeg v3 then none else dp_w (dp_setJ M2 211 (Int32.toNatClampNeg v3) ((dp_J M 211 (Int32.toNatClampNeg v3)) + r3)) (fun M4 => if v3 < 0 ∨ 41 ≤ Int32.toNatClampNeg v3 then none else dp_w (dp_setI M4 212 (Int32.toNatClampNeg v3) (dp_I M4 114 120)) (fun M5 => if v3 < 0 ∨ 41 ≤ Int32.toNatClampNeg v3 then none else (if v3 < 0 ∨ 41 ≤ Int32.toNatClampNeg v3 then none else dp_w (dp_setJ M5 203 (Int32.toNatClampNeg v3) ((dp_J M5 203 (Int32.toNatClampNeg v3)) - vs0)) (fun M6 => if v3 < 0 ∨ 41 ≤ Int32.toNatClampNeg v3 then none else (if v3 < 0 ∨ 41 ≤ Int32.toNatClampNeg v3 then none else dp_w (dp_setJ M6 210 (Int32.toNatClampNeg v3) ((dp_J M6 210 (Int32.toNatClampNeg v3)) + vs0)) (fun M7 => dp_w (v2 + (1 : Int32)) (fun y8 => D_X12_claimsAll_4_a xs xl d v1 y8 v3 vs0 M7)))))))))) := by
  have hF := dp_den_grow (md := true) (xs := xs) (xl := xl) d
  unfold D_X12_claimsAll_56_a
  refine dp_s1 hF (i := .lstore 4) rfl (fun _ => rfl) ?_
  refine dp_s1 hF (i := .lload 4) rfl (fun _ => rfl) ?_
  refine dp_s1 hF (i := .lconst 0) rfl (fun _ => rfl) ?_
  refine dp_s1 hF (i := .lcmp) rfl (fun _ => rfl) ?_
  refine dp_s2 hF (i := .ifCond .le 49) (a := (111, [some (.ref 114), some (.int v1), some (.int v2), some (.int v3), some (.long vs0), none], [], M)) (b := (65, [some (.ref 114), some (.int v1), some (.int v2), some (.int v3), some (.long vs0), none], [], M)) rfl (fun _ => rfl) ?_ ?_
  · refine dp_s1w (v2 + (1 : Int32)) (fun (y1 : Int32) => (114, [some (.ref 114), some (.int v1), some (.int y1), some (.int v3), some (.long vs0), none], [], M)) hF (i := .iinc 2 1) rfl (fun _ => rfl) (fun y1 => ?_)
    refine dp_s1 hF (i := .goto (-110)) rfl (fun _ => rfl) ?_
    exact rfl
  refine dp_s1 hF (i := .aload_n 0) rfl (fun _ => rfl) ?_
  refine dp_s1 hF (i := .getfield 305) rfl (fun _ => rfl) ?_
  refine dp_s1 hF (i := .iload_n 3) rfl (fun _ => rfl) ?_
  refine dp_s1 hF (i := .dup2) rfl (fun _ => rfl) ?_
  refine dp_s3 hF (i := .laload) rfl (fun _ => rfl) ?_
  refine dp_s1 hF (i := .aload_n 0) rfl (fun _ => rfl) ?_
  refine dp_s1 hF (i := .iload_n 3) rfl (fun _ => rfl) ?_
  refine dp_sl9 (mj := dp_m_X12_earnedNow) (i := .invokevirtual 958) rfl rfl rfl rfl (fun _ => rfl) (fun r3 M2 => ?_)
  refine dp_s1 hF (i := .ladd) rfl (fun _ => rfl) ?_
  refine dp_s3w (dp_setJ M2 211 (Int32.toNatClampNeg v3) ((dp_J M 211 (Int32.toNatClampNeg v3)) + r3)) (fun (M4 : dp_M) => (79, [some (.ref 114), some (.int v1), some (.int v2), some (.int v3), some (.long vs0), none], [], M4)) hF (i := .lastore) rfl (fun _ => rfl) (fun M4 => ?_)
  refine dp_s1 hF (i := .aload_n 0) rfl (fun _ => rfl) ?_
  refine dp_s1 hF (i := .getfield 308) rfl (fun _ => rfl) ?_
  refine dp_s1 hF (i := .iload_n 3) rfl (fun _ => rfl) ?_
  refine dp_s1 hF (i := .aload_n 0) rfl (fun _ => rfl) ?_
  refine dp_s1 hF (i := .getfield 917) rfl (fun _ => rfl) ?_
  refine dp_s3w (dp_setI M4 212 (Int32.toNatClampNeg v3) (dp_I M4 114 120)) (fun (M5 : dp_M) => (89, [some (.ref 114), some (.int v1), some (.int v2), some (.int v3), some (.long vs0), none], [], M5)) hF (i := .iastore) rfl (fun _ => rfl) (fun M5 => ?_)
  refine dp_s1 hF (i := .aload_n 0) rfl (fun _ => rfl) ?_
  refine dp_s1 hF (i := .getfield 281) rfl (fun _ => rfl) ?_
  refine dp_s1 hF (i := .iload_n 3) rfl (fun _ => rfl) ?_
  refine dp_s1 hF (i := .dup2) rfl (fun _ => rfl) ?_
  refine dp_s3 hF (i := .laload) rfl (fun _ => rfl) ?_
  refine dp_s1 hF (i := .lload 4) rfl (fun _ => rfl) ?_
  refine dp_s1 hF (i := .lsub) rfl (fun _ => rfl) ?_
  refine dp_s3w (dp_setJ M5 203 (Int32.toNatClampNeg v3) ((dp_J M5 203 (Int32.toNatClampNeg v3)) - vs0)) (fun (M6 : dp_M) => (100, [some (.ref 114), some (.int v1), some (.int v2), some (.int v3), some (.long vs0), none], [], M6)) hF (i := .lastore) rfl (fun _ => rfl) (fun M6 => ?_)
  refine dp_s1 hF (i := .aload_n 0) rfl (fun _ => rfl) ?_
  refine dp_s1 hF (i := .getfield 302) rfl (fun _ => rfl) ?_
  refine dp_s1 hF (i := .iload_n 3) rfl (fun _ => rfl) ?_
  refine dp_s1 hF (i := .dup2) rfl (fun _ => rfl) ?_
  refine dp_s3 hF (i := .laload) rfl (fun _ => rfl) ?_
  refine dp_s1 hF (i := .lload 4) rfl (fun _ => rfl) ?_
  refine dp_s1 hF (i := .ladd) rfl (fun _ => rfl) ?_
  refine dp_s3w (dp_setJ M6 210 (Int32.toNatClampNeg v3) ((dp_J M6 210 (Int32.toNatClampNeg v3)) + vs0)) (fun (M7 : dp_M) => (111, [some (.ref 114), some (.int v1), some (.int v2), some (.int v3), some (.long vs0), none], [], M7)) hF (i := .lastore) rfl (fun _ => rfl) (fun M7 => ?_)
  refine dp_s1w (v2 + (1 : Int32)) (fun (y8 : Int32) => (114, [some (.ref 114), some (.int v1), some (.int y8), some (.int v3), some (.long vs0), none], [], M7)) hF (i := .iinc 2 1) rfl (fun _ => rfl) (fun y8 => ?_)
  refine dp_s1 hF (i := .goto (-110)) rfl (fun _ => rfl) ?_
  exact rfl
noncomputable def D_X12_shut_0 (xs : Nat → Int32) (xl d : Nat) (v1 : Int32) (M : dp_M) : Option dp_Res := dp_lim true xs xl (dp_den true xs xl d) dp_m_X12_shut (0, [some (.ref 114), some (.int v1)], [], M)
theorem D_X12_shut_0_den (xs : Nat → Int32) (xl d : Nat) (a0 : Int32) (M : dp_M) : dp_den true xs xl (d + 1) 534 [.ref 114, .int a0] M = D_X12_shut_0 xs xl d a0 M := rfl
set_option maxRecDepth 20000 in
theorem D_X12_shut_0_eq (xs : Nat → Int32) (xl d : Nat) (v1 : Int32) (M : dp_M) : D_X12_shut_0 xs xl d v1 M = dp_w (dp_setI M 114 0 (0 : Int32)) (fun M1 => dp_bi (dp_den true xs xl d 515 [.ref 114, .int v1] M1) (fun r3 M2 => if r3 = 0 then (some (.inl (some (.int (0 : Int32))), M2)) else (if v1 < 0 ∨ 41 ≤ Int32.toNatClampNeg v1 then none else (if (dp_I M2 208 (Int32.toNatClampNeg v1)) = 0 then (if v1 < 0 ∨ 41 ≤ Int32.toNatClampNeg v1 then none else dp_w (dp_setI M2 208 (Int32.toNatClampNeg v1) ((1 : Int32) &&& 1)) (fun M4 => if v1 < 0 ∨ 41 ≤ Int32.toNatClampNeg v1 then none else dp_w (dp_setI M4 209 (Int32.toNatClampNeg v1) (dp_I M4 114 120)) (fun M5 => some (.inl (some (.int (1 : Int32))), M5)))) else (some (.inl (some (.int (0 : Int32))), M2)))))) := by
  have hF := dp_den_grow (md := true) (xs := xs) (xl := xl) d
  unfold D_X12_shut_0
  refine dp_s1 hF (i := .aload_n 0) rfl (fun _ => rfl) ?_
  refine dp_s1 hF (i := .iconst 0) rfl (fun _ => rfl) ?_
  refine dp_s1w (dp_setI M 114 0 (0 : Int32)) (fun (M1 : dp_M) => (5, [some (.ref 114), some (.int v1)], [], M1)) hF (i := .putfield 1) rfl (fun _ => rfl) (fun M1 => ?_)
  refine dp_s1 hF (i := .aload_n 0) rfl (fun _ => rfl) ?_
  refine dp_s1 hF (i := .iload_n 1) rfl (fun _ => rfl) ?_
  refine dp_si (mj := dp_m_X12_isGuarantee) (i := .invokevirtual 920) rfl rfl (Or.inr rfl) rfl (fun _ => rfl) (fun r3 M2 => ?_)
  refine dp_s2 hF (i := .ifCond .eq 12) (a := (22, [some (.ref 114), some (.int v1)], [], M2)) (b := (13, [some (.ref 114), some (.int v1)], [], M2)) rfl (fun _ => rfl) ?_ ?_
  · refine dp_s1 hF (i := .iconst 0) rfl (fun _ => rfl) ?_
    exact dp_s0 hF (i := .ireturn) rfl (fun _ => rfl)
  refine dp_s1 hF (i := .aload_n 0) rfl (fun _ => rfl) ?_
  refine dp_s1 hF (i := .getfield 296) rfl (fun _ => rfl) ?_
  refine dp_s1 hF (i := .iload_n 1) rfl (fun _ => rfl) ?_
  refine dp_s3 hF (i := .baload) rfl (fun _ => rfl) ?_
  refine dp_s2 hF (i := .ifCond .eq 5) (a := (24, [some (.ref 114), some (.int v1)], [], M2)) (b := (22, [some (.ref 114), some (.int v1)], [], M2)) rfl (fun _ => rfl) ?_ ?_
  · refine dp_s1 hF (i := .aload_n 0) rfl (fun _ => rfl) ?_
    refine dp_s1 hF (i := .getfield 296) rfl (fun _ => rfl) ?_
    refine dp_s1 hF (i := .iload_n 1) rfl (fun _ => rfl) ?_
    refine dp_s1 hF (i := .iconst 1) rfl (fun _ => rfl) ?_
    refine dp_s3w (dp_setI M2 208 (Int32.toNatClampNeg v1) ((1 : Int32) &&& 1)) (fun (M4 : dp_M) => (31, [some (.ref 114), some (.int v1)], [], M4)) hF (i := .bastore) rfl (fun _ => rfl) (fun M4 => ?_)
    refine dp_s1 hF (i := .aload_n 0) rfl (fun _ => rfl) ?_
    refine dp_s1 hF (i := .getfield 299) rfl (fun _ => rfl) ?_
    refine dp_s1 hF (i := .iload_n 1) rfl (fun _ => rfl) ?_
    refine dp_s1 hF (i := .aload_n 0) rfl (fun _ => rfl) ?_
    refine dp_s1 hF (i := .getfield 917) rfl (fun _ => rfl) ?_
    refine dp_s3w (dp_setI M4 209 (Int32.toNatClampNeg v1) (dp_I M4 114 120)) (fun (M5 : dp_M) => (41, [some (.ref 114), some (.int v1)], [], M5)) hF (i := .iastore) rfl (fun _ => rfl) (fun M5 => ?_)
    refine dp_s1 hF (i := .iconst 1) rfl (fun _ => rfl) ?_
    exact dp_s0 hF (i := .ireturn) rfl (fun _ => rfl)
  refine dp_s1 hF (i := .iconst 0) rfl (fun _ => rfl) ?_
  exact dp_s0 hF (i := .ireturn) rfl (fun _ => rfl)
noncomputable def D_X12_fails_0 (xs : Nat → Int32) (xl d : Nat) (v1 : Int32) (v2 : Int32) (M : dp_M) : Option dp_Res := dp_lim true xs xl (dp_den true xs xl d) dp_m_X12_fails (0, [some (.ref 114), some (.int v1), some (.int v2)], [], M)
theorem D_X12_fails_0_den (xs : Nat → Int32) (xl d : Nat) (a0 : Int32) (a1 : Int32) (M : dp_M) : dp_den true xs xl (d + 1) 535 [.ref 114, .int a0, .int a1] M = D_X12_fails_0 xs xl d a0 a1 M := rfl
set_option maxRecDepth 20000 in
theorem D_X12_fails_0_eq (xs : Nat → Int32) (xl d : Nat) (v1 : Int32) (v2 : Int32) (M : dp_M) : D_X12_fails_0 xs xl d v1 v2 M = dp_w (dp_setI M 114 0 (0 : Int32)) (fun M1 => dp_bi (dp_den true xs xl d 367 [.long (Int32.toInt64 v1), .long (0 : Int64), .long (3 : Int64)] M1) (fun r3 M2 => if r3 = 0 then (some (.inl (some (.int (0 : Int32))), M2)) else (if v1 < 0 ∨ 4 ≤ Int32.toNatClampNeg v1 then none else (if (dp_I M2 219 (Int32.toNatClampNeg v1)) = v2 then (some (.inl (some (.int (0 : Int32))), M2)) else (if v1 < 0 ∨ 4 ≤ Int32.toNatClampNeg v1 then none else dp_w (dp_setI M2 219 (Int32.toNatClampNeg v1) (v2 &&& 1)) (fun M4 => some (.inl (some (.int (1 : Int32))), M4))))))) := by
  have hF := dp_den_grow (md := true) (xs := xs) (xl := xl) d
  unfold D_X12_fails_0
  refine dp_s1 hF (i := .aload_n 0) rfl (fun _ => rfl) ?_
  refine dp_s1 hF (i := .iconst 0) rfl (fun _ => rfl) ?_
  refine dp_s1w (dp_setI M 114 0 (0 : Int32)) (fun (M1 : dp_M) => (5, [some (.ref 114), some (.int v1), some (.int v2)], [], M1)) hF (i := .putfield 1) rfl (fun _ => rfl) (fun M1 => ?_)
  refine dp_s1 hF (i := .iload_n 1) rfl (fun _ => rfl) ?_
  refine dp_s1 hF (i := .i2l) rfl (fun _ => rfl) ?_
  refine dp_s1 hF (i := .lconst 0) rfl (fun _ => rfl) ?_
  refine dp_s1 hF (i := .ldc2_w 529) rfl (fun _ => rfl) ?_
  refine dp_si (mj := dp_m_X12_in) (i := .invokestatic 446) rfl rfl (Or.inr rfl) rfl (fun _ => rfl) (fun r3 M2 => ?_)
  refine dp_s2 hF (i := .ifCond .eq 13) (a := (27, [some (.ref 114), some (.int v1), some (.int v2)], [], M2)) (b := (17, [some (.ref 114), some (.int v1), some (.int v2)], [], M2)) rfl (fun _ => rfl) ?_ ?_
  · refine dp_s1 hF (i := .iconst 0) rfl (fun _ => rfl) ?_
    exact dp_s0 hF (i := .ireturn) rfl (fun _ => rfl)
  refine dp_s1 hF (i := .aload_n 0) rfl (fun _ => rfl) ?_
  refine dp_s1 hF (i := .getfield 329) rfl (fun _ => rfl) ?_
  refine dp_s1 hF (i := .iload_n 1) rfl (fun _ => rfl) ?_
  refine dp_s3 hF (i := .baload) rfl (fun _ => rfl) ?_
  refine dp_s1 hF (i := .iload_n 2) rfl (fun _ => rfl) ?_
  refine dp_s2 hF (i := .if_icmp .ne 5) (a := (27, [some (.ref 114), some (.int v1), some (.int v2)], [], M2)) (b := (29, [some (.ref 114), some (.int v1), some (.int v2)], [], M2)) rfl (fun _ => rfl) ?_ ?_
  · refine dp_s1 hF (i := .iconst 0) rfl (fun _ => rfl) ?_
    exact dp_s0 hF (i := .ireturn) rfl (fun _ => rfl)
  refine dp_s1 hF (i := .aload_n 0) rfl (fun _ => rfl) ?_
  refine dp_s1 hF (i := .getfield 329) rfl (fun _ => rfl) ?_
  refine dp_s1 hF (i := .iload_n 1) rfl (fun _ => rfl) ?_
  refine dp_s1 hF (i := .iload_n 2) rfl (fun _ => rfl) ?_
  refine dp_s3w (dp_setI M2 219 (Int32.toNatClampNeg v1) (v2 &&& 1)) (fun (M4 : dp_M) => (36, [some (.ref 114), some (.int v1), some (.int v2)], [], M4)) hF (i := .bastore) rfl (fun _ => rfl) (fun M4 => ?_)
  refine dp_s1 hF (i := .iconst 1) rfl (fun _ => rfl) ?_
  exact dp_s0 hF (i := .ireturn) rfl (fun _ => rfl)
noncomputable def D_X12_tick_0 (xs : Nat → Int32) (xl d : Nat) (v1 : Int32) (M : dp_M) : Option dp_Res := dp_lim true xs xl (dp_den true xs xl d) dp_m_X12_tick (0, [some (.ref 114), some (.int v1)], [], M)
theorem D_X12_tick_0_den (xs : Nat → Int32) (xl d : Nat) (a0 : Int32) (M : dp_M) : dp_den true xs xl (d + 1) 536 [.ref 114, .int a0] M = D_X12_tick_0 xs xl d a0 M := rfl
set_option maxRecDepth 20000 in
theorem D_X12_tick_0_eq (xs : Nat → Int32) (xl d : Nat) (v1 : Int32) (M : dp_M) : D_X12_tick_0 xs xl d v1 M = dp_w (dp_setI M 114 0 (0 : Int32)) (fun M1 => dp_bi (dp_den true xs xl d 367 [.long (Int32.toInt64 v1), .long (Int32.toInt64 (dp_I M1 114 120)), .long (100000 : Int64)] M1) (fun r3 M2 => if r3 = 0 then (some (.inl (some (.int (0 : Int32))), M2)) else (dp_w (dp_setI M2 114 120 v1) (fun M4 => some (.inl (some (.int (1 : Int32))), M4))))) := by
  have hF := dp_den_grow (md := true) (xs := xs) (xl := xl) d
  unfold D_X12_tick_0
  refine dp_s1 hF (i := .aload_n 0) rfl (fun _ => rfl) ?_
  refine dp_s1 hF (i := .iconst 0) rfl (fun _ => rfl) ?_
  refine dp_s1w (dp_setI M 114 0 (0 : Int32)) (fun (M1 : dp_M) => (5, [some (.ref 114), some (.int v1)], [], M1)) hF (i := .putfield 1) rfl (fun _ => rfl) (fun M1 => ?_)
  refine dp_s1 hF (i := .iload_n 1) rfl (fun _ => rfl) ?_
  refine dp_s1 hF (i := .i2l) rfl (fun _ => rfl) ?_
  refine dp_s1 hF (i := .aload_n 0) rfl (fun _ => rfl) ?_
  refine dp_s1 hF (i := .getfield 917) rfl (fun _ => rfl) ?_
  refine dp_s1 hF (i := .i2l) rfl (fun _ => rfl) ?_
  refine dp_s1 hF (i := .ldc2_w 653) rfl (fun _ => rfl) ?_
  refine dp_si (mj := dp_m_X12_in) (i := .invokestatic 446) rfl rfl (Or.inr rfl) rfl (fun _ => rfl) (fun r3 M2 => ?_)
  refine dp_s2 hF (i := .ifCond .ne 5) (a := (21, [some (.ref 114), some (.int v1)], [], M2)) (b := (23, [some (.ref 114), some (.int v1)], [], M2)) rfl (fun _ => rfl) ?_ ?_
  · refine dp_s1 hF (i := .iconst 0) rfl (fun _ => rfl) ?_
    exact dp_s0 hF (i := .ireturn) rfl (fun _ => rfl)
  refine dp_s1 hF (i := .aload_n 0) rfl (fun _ => rfl) ?_
  refine dp_s1 hF (i := .iload_n 1) rfl (fun _ => rfl) ?_
  refine dp_s1w (dp_setI M2 114 120 v1) (fun (M4 : dp_M) => (28, [some (.ref 114), some (.int v1)], [], M4)) hF (i := .putfield 917) rfl (fun _ => rfl) (fun M4 => ?_)
  refine dp_s1 hF (i := .iconst 1) rfl (fun _ => rfl) ?_
  exact dp_s0 hF (i := .ireturn) rfl (fun _ => rfl)
noncomputable def D_X12_interest_0 (xs : Nat → Int32) (xl d : Nat) (v1 : Int32) (M : dp_M) : Option dp_Res := dp_lim true xs xl (dp_den true xs xl d) dp_m_X12_interest (0, [some (.ref 114), some (.int v1)], [], M)
theorem D_X12_interest_0_den (xs : Nat → Int32) (xl d : Nat) (a0 : Int32) (M : dp_M) : dp_den true xs xl (d + 1) 537 [.ref 114, .int a0] M = D_X12_interest_0 xs xl d a0 M := rfl
set_option maxRecDepth 20000 in
theorem D_X12_interest_0_eq (xs : Nat → Int32) (xl d : Nat) (v1 : Int32) (M : dp_M) : D_X12_interest_0 xs xl d v1 M = dp_bi (dp_den true xs xl d 515 [.ref 114, .int v1] M) (fun r2 M1 => if r2 = 0 then (dp_bi (dp_den true xs xl d 366 [.ref 114, .int (1 : Int32)] M1) (fun r4 M3 => some (.inl (some (.long (Int32.toInt64 r4))), M3))) else (dp_w (dp_setI M1 114 0 (0 : Int32)) (fun M5 => if v1 < 0 ∨ 41 ≤ Int32.toNatClampNeg v1 then none else (dp_bl (dp_den true xs xl d 531 [.ref 114, .int v1] M5) (fun r7 M6 => some (.inl (some (.long ((dp_J M5 211 (Int32.toNatClampNeg v1)) + r7))), M6)))))) := by
  have hF := dp_den_grow (md := true) (xs := xs) (xl := xl) d
  unfold D_X12_interest_0
  refine dp_s1 hF (i := .aload_n 0) rfl (fun _ => rfl) ?_
  refine dp_s1 hF (i := .iload_n 1) rfl (fun _ => rfl) ?_
  refine dp_si (mj := dp_m_X12_isGuarantee) (i := .invokevirtual 920) rfl rfl (Or.inr rfl) rfl (fun _ => rfl) (fun r2 M1 => ?_)
  refine dp_s2 hF (i := .ifCond .ne 10) (a := (8, [some (.ref 114), some (.int v1)], [], M1)) (b := (15, [some (.ref 114), some (.int v1)], [], M1)) rfl (fun _ => rfl) ?_ ?_
  · refine dp_s1 hF (i := .aload_n 0) rfl (fun _ => rfl) ?_
    refine dp_s1 hF (i := .iconst 1) rfl (fun _ => rfl) ?_
    refine dp_si (mj := dp_m_X12_refuse) (i := .invokevirtual 460) rfl rfl (Or.inl rfl) rfl (fun _ => rfl) (fun r4 M3 => ?_)
    refine dp_s1 hF (i := .i2l) rfl (fun _ => rfl) ?_
    exact dp_s0 hF (i := .lreturn) rfl (fun _ => rfl)
  refine dp_s1 hF (i := .aload_n 0) rfl (fun _ => rfl) ?_
  refine dp_s1 hF (i := .iconst 0) rfl (fun _ => rfl) ?_
  refine dp_s1w (dp_setI M1 114 0 (0 : Int32)) (fun (M5 : dp_M) => (20, [some (.ref 114), some (.int v1)], [], M5)) hF (i := .putfield 1) rfl (fun _ => rfl) (fun M5 => ?_)
  refine dp_s1 hF (i := .aload_n 0) rfl (fun _ => rfl) ?_
  refine dp_s1 hF (i := .getfield 305) rfl (fun _ => rfl) ?_
  refine dp_s1 hF (i := .iload_n 1) rfl (fun _ => rfl) ?_
  refine dp_s3 hF (i := .laload) rfl (fun _ => rfl) ?_
  refine dp_s1 hF (i := .aload_n 0) rfl (fun _ => rfl) ?_
  refine dp_s1 hF (i := .iload_n 1) rfl (fun _ => rfl) ?_
  refine dp_sl9 (mj := dp_m_X12_earnedNow) (i := .invokevirtual 958) rfl rfl rfl rfl (fun _ => rfl) (fun r7 M6 => ?_)
  refine dp_s1 hF (i := .ladd) rfl (fun _ => rfl) ?_
  exact dp_s0 hF (i := .lreturn) rfl (fun _ => rfl)
noncomputable def D_X12_security_0 (xs : Nat → Int32) (xl d : Nat) (v1 : Int32) (v2 : Int32) (M : dp_M) : Option dp_Res := dp_lim true xs xl (dp_den true xs xl d) dp_m_X12_security (0, [some (.ref 114), some (.int v1), some (.int v2), none, none], [], M)
theorem D_X12_security_0_den (xs : Nat → Int32) (xl d : Nat) (a0 : Int32) (a1 : Int32) (M : dp_M) : dp_den true xs xl (d + 1) 538 [.ref 114, .int a0, .int a1] M = D_X12_security_0 xs xl d a0 a1 M := rfl
set_option maxRecDepth 20000 in
theorem D_X12_security_0_eq (xs : Nat → Int32) (xl d : Nat) (v1 : Int32) (v2 : Int32) (M : dp_M) : D_X12_security_0 xs xl d v1 v2 M = dp_bi (dp_den true xs xl d 515 [.ref 114, .int v1] M) (fun r2 M1 => if r2 = 0 then (dp_bi (dp_den true xs xl d 366 [.ref 114, .int (1 : Int32)] M1) (fun r4 M3 => some (.inl (some (.long (Int32.toInt64 r4))), M3))) else (dp_bi (dp_den true xs xl d 367 [.long (Int32.toInt64 v2), .long (0 : Int64), .long (8 : Int64)] M1) (fun r6 M5 => if r6 = 0 then (dp_bi (dp_den true xs xl d 366 [.ref 114, .int (1 : Int32)] M5) (fun r8 M7 => some (.inl (some (.long (Int32.toInt64 r8))), M7))) else (dp_w (dp_setI M5 114 0 (0 : Int32)) (fun M9 => dp_bl (dp_den true xs xl d 521 [.ref 114, .int v1] M9) (fun r11 M10 => if v1 < 0 ∨ 41 ≤ Int32.toNatClampNeg v1 then none else (dp_w (r11 - (dp_J M10 203 (Int32.toNatClampNeg v1))) (fun y12 => if v2 = (0 : Int32) then (if v1 < 0 ∨ 41 ≤ Int32.toNatClampNeg v1 then none else (some (.inl (some (.long (Int32.toInt64 (dp_I M10 202 (Int32.toNatClampNeg v1))))), M10))) else if v2 = (1 : Int32) then (if v1 < 0 ∨ 41 ≤ Int32.toNatClampNeg v1 then none else (some (.inl (some (.long (dp_J M10 203 (Int32.toNatClampNeg v1)))), M10))) else if v2 = (2 : Int32) then (dp_bl (dp_den true xs xl d 521 [.ref 114, .int v1] M10) (fun r14 M13 => some (.inl (some (.long r14)), M13))) else if v2 = (3 : Int32) then (dp_bl (dp_den true xs xl d 523 [.ref 114, .int v1] M10) (fun r16 M15 => some (.inl (some (.long r16)), M15))) else if v2 = (4 : Int32) then (dp_bl (dp_den true xs xl d 524 [.ref 114, .int v1] M10) (fun r18 M17 => some (.inl (some (.long r18)), M17))) else if v2 = (5 : Int32) then (dp_bi (dp_den true xs xl d 522 [.ref 114, .int v1] M10) (fun r20 M19 => some (.inl (some (.long (Int32.toInt64 r20))), M19))) else if v2 = (6 : Int32) then (if v1 < 0 ∨ 41 ≤ Int32.toNatClampNeg v1 then none else (if (dp_I M10 208 (Int32.toNatClampNeg v1)) = 0 then (some (.inl (some (.long (0 : Int64))), M10)) else (some (.inl (some (.long (1 : Int64))), M10)))) else if v2 = (7 : Int32) then (if (lg_cmp y12 (0 : Int64)) ≤ 0 then (some (.inl (some (.long (0 : Int64))), M10)) else (some (.inl (some (.long y12)), M10))) else (if v1 < 0 ∨ 41 ≤ Int32.toNatClampNeg v1 then none else (some (.inl (some (.long (dp_J M10 210 (Int32.toNatClampNeg v1)))), M10))))))))))) := by
  have hF := dp_den_grow (md := true) (xs := xs) (xl := xl) d
  unfold D_X12_security_0
  refine dp_s1 hF (i := .aload_n 0) rfl (fun _ => rfl) ?_
  refine dp_s1 hF (i := .iload_n 1) rfl (fun _ => rfl) ?_
  refine dp_si (mj := dp_m_X12_isGuarantee) (i := .invokevirtual 920) rfl rfl (Or.inr rfl) rfl (fun _ => rfl) (fun r2 M1 => ?_)
  refine dp_s2 hF (i := .ifCond .eq 15) (a := (20, [some (.ref 114), some (.int v1), some (.int v2), none, none], [], M1)) (b := (8, [some (.ref 114), some (.int v1), some (.int v2), none, none], [], M1)) rfl (fun _ => rfl) ?_ ?_
  · refine dp_s1 hF (i := .aload_n 0) rfl (fun _ => rfl) ?_
    refine dp_s1 hF (i := .iconst 1) rfl (fun _ => rfl) ?_
    refine dp_si (mj := dp_m_X12_refuse) (i := .invokevirtual 460) rfl rfl (Or.inl rfl) rfl (fun _ => rfl) (fun r4 M3 => ?_)
    refine dp_s1 hF (i := .i2l) rfl (fun _ => rfl) ?_
    exact dp_s0 hF (i := .lreturn) rfl (fun _ => rfl)
  refine dp_s1 hF (i := .iload_n 2) rfl (fun _ => rfl) ?_
  refine dp_s1 hF (i := .i2l) rfl (fun _ => rfl) ?_
  refine dp_s1 hF (i := .lconst 0) rfl (fun _ => rfl) ?_
  refine dp_s1 hF (i := .ldc2_w 452) rfl (fun _ => rfl) ?_
  refine dp_si (mj := dp_m_X12_in) (i := .invokestatic 446) rfl rfl (Or.inr rfl) rfl (fun _ => rfl) (fun r6 M5 => ?_)
  refine dp_s2 hF (i := .ifCond .ne 10) (a := (20, [some (.ref 114), some (.int v1), some (.int v2), none, none], [], M5)) (b := (27, [some (.ref 114), some (.int v1), some (.int v2), none, none], [], M5)) rfl (fun _ => rfl) ?_ ?_
  · refine dp_s1 hF (i := .aload_n 0) rfl (fun _ => rfl) ?_
    refine dp_s1 hF (i := .iconst 1) rfl (fun _ => rfl) ?_
    refine dp_si (mj := dp_m_X12_refuse) (i := .invokevirtual 460) rfl rfl (Or.inl rfl) rfl (fun _ => rfl) (fun r8 M7 => ?_)
    refine dp_s1 hF (i := .i2l) rfl (fun _ => rfl) ?_
    exact dp_s0 hF (i := .lreturn) rfl (fun _ => rfl)
  refine dp_s1 hF (i := .aload_n 0) rfl (fun _ => rfl) ?_
  refine dp_s1 hF (i := .iconst 0) rfl (fun _ => rfl) ?_
  refine dp_s1w (dp_setI M5 114 0 (0 : Int32)) (fun (M9 : dp_M) => (32, [some (.ref 114), some (.int v1), some (.int v2), none, none], [], M9)) hF (i := .putfield 1) rfl (fun _ => rfl) (fun M9 => ?_)
  refine dp_s1 hF (i := .aload_n 0) rfl (fun _ => rfl) ?_
  refine dp_s1 hF (i := .iload_n 1) rfl (fun _ => rfl) ?_
  refine dp_sl9 (mj := dp_m_X12_neededOf) (i := .invokevirtual 930) rfl rfl rfl rfl (fun _ => rfl) (fun r11 M10 => ?_)
  refine dp_s1 hF (i := .aload_n 0) rfl (fun _ => rfl) ?_
  refine dp_s1 hF (i := .getfield 281) rfl (fun _ => rfl) ?_
  refine dp_s1 hF (i := .iload_n 1) rfl (fun _ => rfl) ?_
  refine dp_s3 hF (i := .laload) rfl (fun _ => rfl) ?_
  refine dp_s1 hF (i := .lsub) rfl (fun _ => rfl) ?_
  refine dp_s1w (r11 - (dp_J M10 203 (Int32.toNatClampNeg v1))) (fun (y12 : Int64) => (45, [some (.ref 114), some (.int v1), some (.int v2), some (.long y12), none], [], M10)) hF (i := .lstore_n 3) rfl (fun _ => rfl) (fun y12 => ?_)
  refine dp_s1 hF (i := .iload_n 2) rfl (fun _ => rfl) ?_
  refine (dp_s (E := fun k => if v2 = (0 : Int32) then k (92, [some (.ref 114), some (.int v1), some (.int v2), some (.long y12), none], [], M10) else if v2 = (1 : Int32) then k (100, [some (.ref 114), some (.int v1), some (.int v2), some (.long y12), none], [], M10) else if v2 = (2 : Int32) then k (107, [some (.ref 114), some (.int v1), some (.int v2), some (.long y12), none], [], M10) else if v2 = (3 : Int32) then k (113, [some (.ref 114), some (.int v1), some (.int v2), some (.long y12), none], [], M10) else if v2 = (4 : Int32) then k (119, [some (.ref 114), some (.int v1), some (.int v2), some (.long y12), none], [], M10) else if v2 = (5 : Int32) then k (125, [some (.ref 114), some (.int v1), some (.int v2), some (.long y12), none], [], M10) else if v2 = (6 : Int32) then k (132, [some (.ref 114), some (.int v1), some (.int v2), some (.long y12), none], [], M10) else if v2 = (7 : Int32) then k (147, [some (.ref 114), some (.int v1), some (.int v2), some (.long y12), none], [], M10) else k (159, [some (.ref 114), some (.int v1), some (.int v2), some (.long y12), none], [], M10)) hF (i := .tableswitch 113 0 7 #[46, 54, 61, 67, 73, 79, 86, 101]) rfl (fun _ => rfl)).trans ?_
  refine dp_ifc ?_ ?_
  · refine dp_s1 hF (i := .aload_n 0) rfl (fun _ => rfl) ?_
    refine dp_s1 hF (i := .getfield 278) rfl (fun _ => rfl) ?_
    refine dp_s1 hF (i := .iload_n 1) rfl (fun _ => rfl) ?_
    refine dp_s3 hF (i := .iaload) rfl (fun _ => rfl) ?_
    refine dp_s1 hF (i := .i2l) rfl (fun _ => rfl) ?_
    exact dp_s0 hF (i := .lreturn) rfl (fun _ => rfl)
  refine dp_ifc ?_ ?_
  · refine dp_s1 hF (i := .aload_n 0) rfl (fun _ => rfl) ?_
    refine dp_s1 hF (i := .getfield 281) rfl (fun _ => rfl) ?_
    refine dp_s1 hF (i := .iload_n 1) rfl (fun _ => rfl) ?_
    refine dp_s3 hF (i := .laload) rfl (fun _ => rfl) ?_
    exact dp_s0 hF (i := .lreturn) rfl (fun _ => rfl)
  refine dp_ifc ?_ ?_
  · refine dp_s1 hF (i := .aload_n 0) rfl (fun _ => rfl) ?_
    refine dp_s1 hF (i := .iload_n 1) rfl (fun _ => rfl) ?_
    refine dp_sl9 (mj := dp_m_X12_neededOf) (i := .invokevirtual 930) rfl rfl rfl rfl (fun _ => rfl) (fun r14 M13 => ?_)
    exact dp_s0 hF (i := .lreturn) rfl (fun _ => rfl)
  refine dp_ifc ?_ ?_
  · refine dp_s1 hF (i := .aload_n 0) rfl (fun _ => rfl) ?_
    refine dp_s1 hF (i := .iload_n 1) rfl (fun _ => rfl) ?_
    refine dp_sl9 (mj := dp_m_X12_freeOf) (i := .invokevirtual 936) rfl rfl rfl rfl (fun _ => rfl) (fun r16 M15 => ?_)
    exact dp_s0 hF (i := .lreturn) rfl (fun _ => rfl)
  refine dp_ifc ?_ ?_
  · refine dp_s1 hF (i := .aload_n 0) rfl (fun _ => rfl) ?_
    refine dp_s1 hF (i := .iload_n 1) rfl (fun _ => rfl) ?_
    refine dp_sl9 (mj := dp_m_X12_mayCover) (i := .invokevirtual 939) rfl rfl rfl rfl (fun _ => rfl) (fun r18 M17 => ?_)
    exact dp_s0 hF (i := .lreturn) rfl (fun _ => rfl)
  refine dp_ifc ?_ ?_
  · refine dp_s1 hF (i := .aload_n 0) rfl (fun _ => rfl) ?_
    refine dp_s1 hF (i := .iload_n 1) rfl (fun _ => rfl) ?_
    refine dp_si (mj := dp_m_X12_usesOf) (i := .invokevirtual 933) rfl rfl (Or.inl rfl) rfl (fun _ => rfl) (fun r20 M19 => ?_)
    refine dp_s1 hF (i := .i2l) rfl (fun _ => rfl) ?_
    exact dp_s0 hF (i := .lreturn) rfl (fun _ => rfl)
  refine dp_ifc ?_ ?_
  · refine dp_s1 hF (i := .aload_n 0) rfl (fun _ => rfl) ?_
    refine dp_s1 hF (i := .getfield 296) rfl (fun _ => rfl) ?_
    refine dp_s1 hF (i := .iload_n 1) rfl (fun _ => rfl) ?_
    refine dp_s3 hF (i := .baload) rfl (fun _ => rfl) ?_
    refine dp_s2 hF (i := .ifCond .eq 7) (a := (145, [some (.ref 114), some (.int v1), some (.int v2), some (.long y12), none], [], M10)) (b := (141, [some (.ref 114), some (.int v1), some (.int v2), some (.long y12), none], [], M10)) rfl (fun _ => rfl) ?_ ?_
    · refine dp_s1 hF (i := .lconst 0) rfl (fun _ => rfl) ?_
      exact dp_s0 hF (i := .lreturn) rfl (fun _ => rfl)
    refine dp_s1 hF (i := .lconst 1) rfl (fun _ => rfl) ?_
    refine dp_s1 hF (i := .goto 4) rfl (fun _ => rfl) ?_
    exact dp_s0 hF (i := .lreturn) rfl (fun _ => rfl)
  refine dp_ifc ?_ ?_
  · refine dp_s1 hF (i := .lload_n 3) rfl (fun _ => rfl) ?_
    refine dp_s1 hF (i := .lconst 0) rfl (fun _ => rfl) ?_
    refine dp_s1 hF (i := .lcmp) rfl (fun _ => rfl) ?_
    refine dp_s2 hF (i := .ifCond .le 7) (a := (157, [some (.ref 114), some (.int v1), some (.int v2), some (.long y12), none], [], M10)) (b := (153, [some (.ref 114), some (.int v1), some (.int v2), some (.long y12), none], [], M10)) rfl (fun _ => rfl) ?_ ?_
    · refine dp_s1 hF (i := .lconst 0) rfl (fun _ => rfl) ?_
      exact dp_s0 hF (i := .lreturn) rfl (fun _ => rfl)
    refine dp_s1 hF (i := .lload_n 3) rfl (fun _ => rfl) ?_
    refine dp_s1 hF (i := .goto 4) rfl (fun _ => rfl) ?_
    exact dp_s0 hF (i := .lreturn) rfl (fun _ => rfl)
  refine dp_s1 hF (i := .aload_n 0) rfl (fun _ => rfl) ?_
  refine dp_s1 hF (i := .getfield 302) rfl (fun _ => rfl) ?_
  refine dp_s1 hF (i := .iload_n 1) rfl (fun _ => rfl) ?_
  refine dp_s3 hF (i := .laload) rfl (fun _ => rfl) ?_
  exact dp_s0 hF (i := .lreturn) rfl (fun _ => rfl)
noncomputable def D_X12_reservation_0 (xs : Nat → Int32) (xl d : Nat) (v1 : Int32) (v2 : Int32) (M : dp_M) : Option dp_Res := dp_lim true xs xl (dp_den true xs xl d) dp_m_X12_reservation (0, [some (.ref 114), some (.int v1), some (.int v2), none, none, none, none, none], [], M)
noncomputable def D_X12_reservation_45 (xs : Nat → Int32) (xl d : Nat) (v1 : Int32) (v2 : Int32) (v3 : Int32) (vs0 : Int32) (M : dp_M) : Option dp_Res := dp_lim true xs xl (dp_den true xs xl d) dp_m_X12_reservation (45, [some (.ref 114), some (.int v1), some (.int v2), some (.int v3), none, none, none, none], [.int vs0], M)
noncomputable def D_X12_reservation_95 (xs : Nat → Int32) (xl d : Nat) (v1 : Int32) (v2 : Int32) (v3 : Int32) (v4 : Int32) (v5 : Int64) (v7 : Int32) (M : dp_M) : Option dp_Res := dp_lim true xs xl (dp_den true xs xl d) dp_m_X12_reservation (95, [some (.ref 114), some (.int v1), some (.int v2), some (.int v3), some (.int v4), some (.long v5), none, some (.int v7)], [], M)
noncomputable def D_X12_reservation_71 (xs : Nat → Int32) (xl d : Nat) (v1 : Int32) (v2 : Int32) (v3 : Int32) (v4 : Int32) (vs0 : Int32) (vs2 : Int32) (M : dp_M) : Option dp_Res := dp_lim true xs xl (dp_den true xs xl d) dp_m_X12_reservation (71, [some (.ref 114), some (.int v1), some (.int v2), some (.int v3), some (.int v4), none, none, none], [.int vs0, .ref 216, .int vs2], M)
theorem D_X12_reservation_0_den (xs : Nat → Int32) (xl d : Nat) (a0 : Int32) (a1 : Int32) (M : dp_M) : dp_den true xs xl (d + 1) 539 [.ref 114, .int a0, .int a1] M = D_X12_reservation_0 xs xl d a0 a1 M := rfl
set_option maxRecDepth 20000 in
theorem D_X12_reservation_0_eq (xs : Nat → Int32) (xl d : Nat) (v1 : Int32) (v2 : Int32) (M : dp_M) : D_X12_reservation_0 xs xl d v1 v2 M = if v1 < (1 : Int32) then (dp_w (0 : Int32) (fun y1 => if (4 : Int32) ≤ v2 then (D_X12_reservation_45 xs xl d v1 v2 y1 ((v2 - (4 : Int32)) - (v2 - (4 : Int32)) / (4 : Int32) * (4 : Int32)) M) else (D_X12_reservation_45 xs xl d v1 v2 y1 (0 : Int32) M))) else (if (dp_I M 114 133) < v1 then (dp_w (0 : Int32) (fun y2 => if (4 : Int32) ≤ v2 then (D_X12_reservation_45 xs xl d v1 v2 y2 ((v2 - (4 : Int32)) - (v2 - (4 : Int32)) / (4 : Int32) * (4 : Int32)) M) else (D_X12_reservation_45 xs xl d v1 v2 y2 (0 : Int32) M))) else (dp_bi (dp_den true xs xl d 367 [.long (Int32.toInt64 v2), .long (0 : Int64), .long (11 : Int64)] M) (fun r4 M3 => if r4 = 0 then (dp_w (0 : Int32) (fun y5 => if (4 : Int32) ≤ v2 then (D_X12_reservation_45 xs xl d v1 v2 y5 ((v2 - (4 : Int32)) - (v2 - (4 : Int32)) / (4 : Int32) * (4 : Int32)) M3) else (D_X12_reservation_45 xs xl d v1 v2 y5 (0 : Int32) M3))) else (dp_w (1 : Int32) (fun y6 => if (4 : Int32) ≤ v2 then (D_X12_reservation_45 xs xl d v1 v2 y6 ((v2 - (4 : Int32)) - (v2 - (4 : Int32)) / (4 : Int32) * (4 : Int32)) M3) else (D_X12_reservation_45 xs xl d v1 v2 y6 (0 : Int32) M3)))))) := by
  have hF := dp_den_grow (md := true) (xs := xs) (xl := xl) d
  unfold D_X12_reservation_0
  refine dp_s1 hF (i := .iload_n 1) rfl (fun _ => rfl) ?_
  refine dp_s1 hF (i := .iconst 1) rfl (fun _ => rfl) ?_
  refine dp_s2 hF (i := .if_icmp .lt 27) (a := (29, [some (.ref 114), some (.int v1), some (.int v2), none, none, none, none, none], [], M)) (b := (5, [some (.ref 114), some (.int v1), some (.int v2), none, none, none, none, none], [], M)) rfl (fun _ => rfl) ?_ ?_
  · refine dp_s1 hF (i := .iconst 0) rfl (fun _ => rfl) ?_
    refine dp_s1w (0 : Int32) (fun (y1 : Int32) => (31, [some (.ref 114), some (.int v1), some (.int v2), some (.int y1), none, none, none, none], [], M)) hF (i := .istore_n 3) rfl (fun _ => rfl) (fun y1 => ?_)
    refine dp_s1 hF (i := .iload_n 2) rfl (fun _ => rfl) ?_
    refine dp_s1 hF (i := .iconst 4) rfl (fun _ => rfl) ?_
    refine dp_s2 hF (i := .if_icmp .ge 7) (a := (40, [some (.ref 114), some (.int v1), some (.int v2), some (.int y1), none, none, none, none], [], M)) (b := (36, [some (.ref 114), some (.int v1), some (.int v2), some (.int y1), none, none, none, none], [], M)) rfl (fun _ => rfl) ?_ ?_
    · refine dp_s1 hF (i := .iload_n 2) rfl (fun _ => rfl) ?_
      refine dp_s1 hF (i := .iconst 4) rfl (fun _ => rfl) ?_
      refine dp_s1 hF (i := .isub) rfl (fun _ => rfl) ?_
      refine dp_s1 hF (i := .iconst 4) rfl (fun _ => rfl) ?_
      refine dp_s1 hF (i := .irem) rfl (fun _ => rfl) ?_
      exact rfl
    refine dp_s1 hF (i := .iconst 0) rfl (fun _ => rfl) ?_
    refine dp_s1 hF (i := .goto 8) rfl (fun _ => rfl) ?_
    exact rfl
  refine dp_s1 hF (i := .iload_n 1) rfl (fun _ => rfl) ?_
  refine dp_s1 hF (i := .aload_n 0) rfl (fun _ => rfl) ?_
  refine dp_s1 hF (i := .getfield 923) rfl (fun _ => rfl) ?_
  refine dp_s2 hF (i := .if_icmp .gt 19) (a := (29, [some (.ref 114), some (.int v1), some (.int v2), none, none, none, none, none], [], M)) (b := (13, [some (.ref 114), some (.int v1), some (.int v2), none, none, none, none, none], [], M)) rfl (fun _ => rfl) ?_ ?_
  · refine dp_s1 hF (i := .iconst 0) rfl (fun _ => rfl) ?_
    refine dp_s1w (0 : Int32) (fun (y2 : Int32) => (31, [some (.ref 114), some (.int v1), some (.int v2), some (.int y2), none, none, none, none], [], M)) hF (i := .istore_n 3) rfl (fun _ => rfl) (fun y2 => ?_)
    refine dp_s1 hF (i := .iload_n 2) rfl (fun _ => rfl) ?_
    refine dp_s1 hF (i := .iconst 4) rfl (fun _ => rfl) ?_
    refine dp_s2 hF (i := .if_icmp .ge 7) (a := (40, [some (.ref 114), some (.int v1), some (.int v2), some (.int y2), none, none, none, none], [], M)) (b := (36, [some (.ref 114), some (.int v1), some (.int v2), some (.int y2), none, none, none, none], [], M)) rfl (fun _ => rfl) ?_ ?_
    · refine dp_s1 hF (i := .iload_n 2) rfl (fun _ => rfl) ?_
      refine dp_s1 hF (i := .iconst 4) rfl (fun _ => rfl) ?_
      refine dp_s1 hF (i := .isub) rfl (fun _ => rfl) ?_
      refine dp_s1 hF (i := .iconst 4) rfl (fun _ => rfl) ?_
      refine dp_s1 hF (i := .irem) rfl (fun _ => rfl) ?_
      exact rfl
    refine dp_s1 hF (i := .iconst 0) rfl (fun _ => rfl) ?_
    refine dp_s1 hF (i := .goto 8) rfl (fun _ => rfl) ?_
    exact rfl
  refine dp_s1 hF (i := .iload_n 2) rfl (fun _ => rfl) ?_
  refine dp_s1 hF (i := .i2l) rfl (fun _ => rfl) ?_
  refine dp_s1 hF (i := .lconst 0) rfl (fun _ => rfl) ?_
  refine dp_s1 hF (i := .ldc2_w 964) rfl (fun _ => rfl) ?_
  refine dp_si (mj := dp_m_X12_in) (i := .invokestatic 446) rfl rfl (Or.inr rfl) rfl (fun _ => rfl) (fun r4 M3 => ?_)
  refine dp_s2 hF (i := .ifCond .eq 7) (a := (29, [some (.ref 114), some (.int v1), some (.int v2), none, none, none, none, none], [], M3)) (b := (25, [some (.ref 114), some (.int v1), some (.int v2), none, none, none, none, none], [], M3)) rfl (fun _ => rfl) ?_ ?_
  · refine dp_s1 hF (i := .iconst 0) rfl (fun _ => rfl) ?_
    refine dp_s1w (0 : Int32) (fun (y5 : Int32) => (31, [some (.ref 114), some (.int v1), some (.int v2), some (.int y5), none, none, none, none], [], M3)) hF (i := .istore_n 3) rfl (fun _ => rfl) (fun y5 => ?_)
    refine dp_s1 hF (i := .iload_n 2) rfl (fun _ => rfl) ?_
    refine dp_s1 hF (i := .iconst 4) rfl (fun _ => rfl) ?_
    refine dp_s2 hF (i := .if_icmp .ge 7) (a := (40, [some (.ref 114), some (.int v1), some (.int v2), some (.int y5), none, none, none, none], [], M3)) (b := (36, [some (.ref 114), some (.int v1), some (.int v2), some (.int y5), none, none, none, none], [], M3)) rfl (fun _ => rfl) ?_ ?_
    · refine dp_s1 hF (i := .iload_n 2) rfl (fun _ => rfl) ?_
      refine dp_s1 hF (i := .iconst 4) rfl (fun _ => rfl) ?_
      refine dp_s1 hF (i := .isub) rfl (fun _ => rfl) ?_
      refine dp_s1 hF (i := .iconst 4) rfl (fun _ => rfl) ?_
      refine dp_s1 hF (i := .irem) rfl (fun _ => rfl) ?_
      exact rfl
    refine dp_s1 hF (i := .iconst 0) rfl (fun _ => rfl) ?_
    refine dp_s1 hF (i := .goto 8) rfl (fun _ => rfl) ?_
    exact rfl
  refine dp_s1 hF (i := .iconst 1) rfl (fun _ => rfl) ?_
  refine dp_s1 hF (i := .goto 4) rfl (fun _ => rfl) ?_
  refine dp_s1w (1 : Int32) (fun (y6 : Int32) => (31, [some (.ref 114), some (.int v1), some (.int v2), some (.int y6), none, none, none, none], [], M3)) hF (i := .istore_n 3) rfl (fun _ => rfl) (fun y6 => ?_)
  refine dp_s1 hF (i := .iload_n 2) rfl (fun _ => rfl) ?_
  refine dp_s1 hF (i := .iconst 4) rfl (fun _ => rfl) ?_
  refine dp_s2 hF (i := .if_icmp .ge 7) (a := (40, [some (.ref 114), some (.int v1), some (.int v2), some (.int y6), none, none, none, none], [], M3)) (b := (36, [some (.ref 114), some (.int v1), some (.int v2), some (.int y6), none, none, none, none], [], M3)) rfl (fun _ => rfl) ?_ ?_
  · refine dp_s1 hF (i := .iload_n 2) rfl (fun _ => rfl) ?_
    refine dp_s1 hF (i := .iconst 4) rfl (fun _ => rfl) ?_
    refine dp_s1 hF (i := .isub) rfl (fun _ => rfl) ?_
    refine dp_s1 hF (i := .iconst 4) rfl (fun _ => rfl) ?_
    refine dp_s1 hF (i := .irem) rfl (fun _ => rfl) ?_
    exact rfl
  refine dp_s1 hF (i := .iconst 0) rfl (fun _ => rfl) ?_
  refine dp_s1 hF (i := .goto 8) rfl (fun _ => rfl) ?_
  exact rfl
set_option maxRecDepth 20000 in
theorem D_X12_reservation_45_eq (xs : Nat → Int32) (xl d : Nat) (v1 : Int32) (v2 : Int32) (v3 : Int32) (vs0 : Int32) (M : dp_M) : D_X12_reservation_45 xs xl d v1 v2 v3 vs0 M = if v3 = 0 then (dp_bi (dp_den true xs xl d 366 [.ref 114, .int (1 : Int32)] M) (fun r2 M1 => some (.inl (some (.long (Int32.toInt64 r2))), M1))) else (if v2 ≤ (3 : Int32) then (dp_w (dp_setI M 114 0 (0 : Int32)) (fun M3 => dp_w (0 : Int64) (fun y4 => dp_w ((4 : Int32) * v1) (fun y5 => D_X12_reservation_95 xs xl d v1 v2 v3 vs0 y4 y5 M3)))) else (if v3 = 0 then (D_X12_reservation_71 xs xl d v1 v2 v3 vs0 (0 : Int32) vs0 M) else (D_X12_reservation_71 xs xl d v1 v2 v3 vs0 v1 vs0 M))) := by
  have hF := dp_den_grow (md := true) (xs := xs) (xl := xl) d
  unfold D_X12_reservation_45
  refine dp_s1 hF (i := .istore 4) rfl (fun _ => rfl) ?_
  refine dp_s1 hF (i := .iload_n 3) rfl (fun _ => rfl) ?_
  refine dp_s2 hF (i := .ifCond .eq 27) (a := (75, [some (.ref 114), some (.int v1), some (.int v2), some (.int v3), some (.int vs0), none, none, none], [], M)) (b := (51, [some (.ref 114), some (.int v1), some (.int v2), some (.int v3), some (.int vs0), none, none, none], [], M)) rfl (fun _ => rfl) ?_ ?_
  · refine dp_s1 hF (i := .aload_n 0) rfl (fun _ => rfl) ?_
    refine dp_s1 hF (i := .iconst 1) rfl (fun _ => rfl) ?_
    refine dp_si (mj := dp_m_X12_refuse) (i := .invokevirtual 460) rfl rfl (Or.inl rfl) rfl (fun _ => rfl) (fun r2 M1 => ?_)
    refine dp_s1 hF (i := .i2l) rfl (fun _ => rfl) ?_
    exact dp_s0 hF (i := .lreturn) rfl (fun _ => rfl)
  refine dp_s1 hF (i := .iload_n 2) rfl (fun _ => rfl) ?_
  refine dp_s1 hF (i := .iconst 3) rfl (fun _ => rfl) ?_
  refine dp_s2 hF (i := .if_icmp .le 29) (a := (82, [some (.ref 114), some (.int v1), some (.int v2), some (.int v3), some (.int vs0), none, none, none], [], M)) (b := (56, [some (.ref 114), some (.int v1), some (.int v2), some (.int v3), some (.int vs0), none, none, none], [], M)) rfl (fun _ => rfl) ?_ ?_
  · refine dp_s1 hF (i := .aload_n 0) rfl (fun _ => rfl) ?_
    refine dp_s1 hF (i := .iconst 0) rfl (fun _ => rfl) ?_
    refine dp_s1w (dp_setI M 114 0 (0 : Int32)) (fun (M3 : dp_M) => (87, [some (.ref 114), some (.int v1), some (.int v2), some (.int v3), some (.int vs0), none, none, none], [], M3)) hF (i := .putfield 1) rfl (fun _ => rfl) (fun M3 => ?_)
    refine dp_s1 hF (i := .lconst 0) rfl (fun _ => rfl) ?_
    refine dp_s1w (0 : Int64) (fun (y4 : Int64) => (90, [some (.ref 114), some (.int v1), some (.int v2), some (.int v3), some (.int vs0), some (.long y4), none, none], [], M3)) hF (i := .lstore 5) rfl (fun _ => rfl) (fun y4 => ?_)
    refine dp_s1 hF (i := .iconst 4) rfl (fun _ => rfl) ?_
    refine dp_s1 hF (i := .iload_n 1) rfl (fun _ => rfl) ?_
    refine dp_s1 hF (i := .imul) rfl (fun _ => rfl) ?_
    refine dp_s1w ((4 : Int32) * v1) (fun (y5 : Int32) => (95, [some (.ref 114), some (.int v1), some (.int v2), some (.int v3), some (.int vs0), some (.long y4), none, some (.int y5)], [], M3)) hF (i := .istore 7) rfl (fun _ => rfl) (fun y5 => ?_)
    exact rfl
  refine dp_s1 hF (i := .iload 4) rfl (fun _ => rfl) ?_
  refine dp_s1 hF (i := .aload_n 0) rfl (fun _ => rfl) ?_
  refine dp_s1 hF (i := .getfield 320) rfl (fun _ => rfl) ?_
  refine dp_s1 hF (i := .iload_n 3) rfl (fun _ => rfl) ?_
  refine dp_s2 hF (i := .ifCond .eq 7) (a := (70, [some (.ref 114), some (.int v1), some (.int v2), some (.int v3), some (.int vs0), none, none, none], [.ref 216, .int vs0], M)) (b := (66, [some (.ref 114), some (.int v1), some (.int v2), some (.int v3), some (.int vs0), none, none, none], [.ref 216, .int vs0], M)) rfl (fun _ => rfl) ?_ ?_
  · refine dp_s1 hF (i := .iconst 0) rfl (fun _ => rfl) ?_
    exact rfl
  refine dp_s1 hF (i := .iload_n 1) rfl (fun _ => rfl) ?_
  refine dp_s1 hF (i := .goto 4) rfl (fun _ => rfl) ?_
  exact rfl
set_option maxRecDepth 20000 in
theorem D_X12_reservation_95_eq (xs : Nat → Int32) (xl d : Nat) (v1 : Int32) (v2 : Int32) (v3 : Int32) (v4 : Int32) (v5 : Int64) (v7 : Int32) (M : dp_M) : D_X12_reservation_95 xs xl d v1 v2 v3 v4 v5 v7 M = if v1 < 0 ∨ 402 ≤ Int32.toNatClampNeg v1 then none else (if (((4 : Int32) * v1) + (dp_I M 216 (Int32.toNatClampNeg v1))) ≤ v7 then (if v2 = (0 : Int32) then (if v1 < 0 ∨ 402 ≤ Int32.toNatClampNeg v1 then none else (some (.inl (some (.long (Int32.toInt64 (dp_I M 214 (Int32.toNatClampNeg v1))))), M))) else if v2 = (1 : Int32) then (some (.inl (some (.long v5)), M)) else if v2 = (2 : Int32) then (if v1 < 0 ∨ 402 ≤ Int32.toNatClampNeg v1 then none else (some (.inl (some (.long (Int32.toInt64 (dp_I M 215 (Int32.toNatClampNeg v1))))), M))) else if v2 = (3 : Int32) then (if v1 < 0 ∨ 402 ≤ Int32.toNatClampNeg v1 then none else (some (.inl (some (.long (Int32.toInt64 (dp_I M 216 (Int32.toNatClampNeg v1))))), M))) else (if (8 : Int32) ≤ v2 then (if (((4 : Int32) * v1) + v4) < 0 ∨ 1608 ≤ Int32.toNatClampNeg (((4 : Int32) * v1) + v4) then none else (some (.inl (some (.long (dp_J M 218 (Int32.toNatClampNeg (((4 : Int32) * v1) + v4))))), M))) else (if (((4 : Int32) * v1) + v4) < 0 ∨ 1608 ≤ Int32.toNatClampNeg (((4 : Int32) * v1) + v4) then none else (some (.inl (some (.long (Int32.toInt64 (dp_I M 217 (Int32.toNatClampNeg (((4 : Int32) * v1) + v4)))))), M))))) else (if v7 < 0 ∨ 1608 ≤ Int32.toNatClampNeg v7 then none else (dp_w (v5 + (dp_J M 218 (Int32.toNatClampNeg v7))) (fun y1 => dp_w (v7 + (1 : Int32)) (fun y2 => D_X12_reservation_95 xs xl d v1 v2 v3 v4 y1 y2 M))))) := by
  have hF := dp_den_grow (md := true) (xs := xs) (xl := xl) d
  unfold D_X12_reservation_95
  refine dp_s1 hF (i := .iload 7) rfl (fun _ => rfl) ?_
  refine dp_s1 hF (i := .iconst 4) rfl (fun _ => rfl) ?_
  refine dp_s1 hF (i := .iload_n 1) rfl (fun _ => rfl) ?_
  refine dp_s1 hF (i := .imul) rfl (fun _ => rfl) ?_
  refine dp_s1 hF (i := .aload_n 0) rfl (fun _ => rfl) ?_
  refine dp_s1 hF (i := .getfield 320) rfl (fun _ => rfl) ?_
  refine dp_s1 hF (i := .iload_n 1) rfl (fun _ => rfl) ?_
  refine dp_s3 hF (i := .iaload) rfl (fun _ => rfl) ?_
  refine dp_s1 hF (i := .iadd) rfl (fun _ => rfl) ?_
  refine dp_s2 hF (i := .if_icmp .ge 21) (a := (128, [some (.ref 114), some (.int v1), some (.int v2), some (.int v3), some (.int v4), some (.long v5), none, some (.int v7)], [], M)) (b := (110, [some (.ref 114), some (.int v1), some (.int v2), some (.int v3), some (.int v4), some (.long v5), none, some (.int v7)], [], M)) rfl (fun _ => rfl) ?_ ?_
  · refine dp_s1 hF (i := .iload_n 2) rfl (fun _ => rfl) ?_
    refine (dp_s (E := fun k => if v2 = (0 : Int32) then k (160, [some (.ref 114), some (.int v1), some (.int v2), some (.int v3), some (.int v4), some (.long v5), none, some (.int v7)], [], M) else if v2 = (1 : Int32) then k (168, [some (.ref 114), some (.int v1), some (.int v2), some (.int v3), some (.int v4), some (.long v5), none, some (.int v7)], [], M) else if v2 = (2 : Int32) then k (171, [some (.ref 114), some (.int v1), some (.int v2), some (.int v3), some (.int v4), some (.long v5), none, some (.int v7)], [], M) else if v2 = (3 : Int32) then k (179, [some (.ref 114), some (.int v1), some (.int v2), some (.int v3), some (.int v4), some (.long v5), none, some (.int v7)], [], M) else k (187, [some (.ref 114), some (.int v1), some (.int v2), some (.int v3), some (.int v4), some (.long v5), none, some (.int v7)], [], M)) hF (i := .tableswitch 58 0 3 #[31, 39, 42, 50]) rfl (fun _ => rfl)).trans ?_
    refine dp_ifc ?_ ?_
    · refine dp_s1 hF (i := .aload_n 0) rfl (fun _ => rfl) ?_
      refine dp_s1 hF (i := .getfield 314) rfl (fun _ => rfl) ?_
      refine dp_s1 hF (i := .iload_n 1) rfl (fun _ => rfl) ?_
      refine dp_s3 hF (i := .iaload) rfl (fun _ => rfl) ?_
      refine dp_s1 hF (i := .i2l) rfl (fun _ => rfl) ?_
      exact dp_s0 hF (i := .lreturn) rfl (fun _ => rfl)
    refine dp_ifc ?_ ?_
    · refine dp_s1 hF (i := .lload 5) rfl (fun _ => rfl) ?_
      exact dp_s0 hF (i := .lreturn) rfl (fun _ => rfl)
    refine dp_ifc ?_ ?_
    · refine dp_s1 hF (i := .aload_n 0) rfl (fun _ => rfl) ?_
      refine dp_s1 hF (i := .getfield 317) rfl (fun _ => rfl) ?_
      refine dp_s1 hF (i := .iload_n 1) rfl (fun _ => rfl) ?_
      refine dp_s3 hF (i := .iaload) rfl (fun _ => rfl) ?_
      refine dp_s1 hF (i := .i2l) rfl (fun _ => rfl) ?_
      exact dp_s0 hF (i := .lreturn) rfl (fun _ => rfl)
    refine dp_ifc ?_ ?_
    · refine dp_s1 hF (i := .aload_n 0) rfl (fun _ => rfl) ?_
      refine dp_s1 hF (i := .getfield 320) rfl (fun _ => rfl) ?_
      refine dp_s1 hF (i := .iload_n 1) rfl (fun _ => rfl) ?_
      refine dp_s3 hF (i := .iaload) rfl (fun _ => rfl) ?_
      refine dp_s1 hF (i := .i2l) rfl (fun _ => rfl) ?_
      exact dp_s0 hF (i := .lreturn) rfl (fun _ => rfl)
    refine dp_s1 hF (i := .iload_n 2) rfl (fun _ => rfl) ?_
    refine dp_s1 hF (i := .bipush 8) rfl (fun _ => rfl) ?_
    refine dp_s2 hF (i := .if_icmp .ge 18) (a := (208, [some (.ref 114), some (.int v1), some (.int v2), some (.int v3), some (.int v4), some (.long v5), none, some (.int v7)], [], M)) (b := (193, [some (.ref 114), some (.int v1), some (.int v2), some (.int v3), some (.int v4), some (.long v5), none, some (.int v7)], [], M)) rfl (fun _ => rfl) ?_ ?_
    · refine dp_s1 hF (i := .aload_n 0) rfl (fun _ => rfl) ?_
      refine dp_s1 hF (i := .getfield 326) rfl (fun _ => rfl) ?_
      refine dp_s1 hF (i := .iconst 4) rfl (fun _ => rfl) ?_
      refine dp_s1 hF (i := .iload_n 1) rfl (fun _ => rfl) ?_
      refine dp_s1 hF (i := .imul) rfl (fun _ => rfl) ?_
      refine dp_s1 hF (i := .iload 4) rfl (fun _ => rfl) ?_
      refine dp_s1 hF (i := .iadd) rfl (fun _ => rfl) ?_
      refine dp_s3 hF (i := .laload) rfl (fun _ => rfl) ?_
      exact dp_s0 hF (i := .lreturn) rfl (fun _ => rfl)
    refine dp_s1 hF (i := .aload_n 0) rfl (fun _ => rfl) ?_
    refine dp_s1 hF (i := .getfield 323) rfl (fun _ => rfl) ?_
    refine dp_s1 hF (i := .iconst 4) rfl (fun _ => rfl) ?_
    refine dp_s1 hF (i := .iload_n 1) rfl (fun _ => rfl) ?_
    refine dp_s1 hF (i := .imul) rfl (fun _ => rfl) ?_
    refine dp_s1 hF (i := .iload 4) rfl (fun _ => rfl) ?_
    refine dp_s1 hF (i := .iadd) rfl (fun _ => rfl) ?_
    refine dp_s3 hF (i := .iaload) rfl (fun _ => rfl) ?_
    refine dp_s1 hF (i := .i2l) rfl (fun _ => rfl) ?_
    refine dp_s1 hF (i := .goto 14) rfl (fun _ => rfl) ?_
    exact dp_s0 hF (i := .lreturn) rfl (fun _ => rfl)
  refine dp_s1 hF (i := .lload 5) rfl (fun _ => rfl) ?_
  refine dp_s1 hF (i := .aload_n 0) rfl (fun _ => rfl) ?_
  refine dp_s1 hF (i := .getfield 326) rfl (fun _ => rfl) ?_
  refine dp_s1 hF (i := .iload 7) rfl (fun _ => rfl) ?_
  refine dp_s3 hF (i := .laload) rfl (fun _ => rfl) ?_
  refine dp_s1 hF (i := .ladd) rfl (fun _ => rfl) ?_
  refine dp_s1w (v5 + (dp_J M 218 (Int32.toNatClampNeg v7))) (fun (y1 : Int64) => (122, [some (.ref 114), some (.int v1), some (.int v2), some (.int v3), some (.int v4), some (.long y1), none, some (.int v7)], [], M)) hF (i := .lstore 5) rfl (fun _ => rfl) (fun y1 => ?_)
  refine dp_s1w (v7 + (1 : Int32)) (fun (y2 : Int32) => (125, [some (.ref 114), some (.int v1), some (.int v2), some (.int v3), some (.int v4), some (.long y1), none, some (.int y2)], [], M)) hF (i := .iinc 7 1) rfl (fun _ => rfl) (fun y2 => ?_)
  refine dp_s1 hF (i := .goto (-30)) rfl (fun _ => rfl) ?_
  exact rfl
set_option maxRecDepth 20000 in
theorem D_X12_reservation_71_eq (xs : Nat → Int32) (xl d : Nat) (v1 : Int32) (v2 : Int32) (v3 : Int32) (v4 : Int32) (vs0 : Int32) (vs2 : Int32) (M : dp_M) : D_X12_reservation_71 xs xl d v1 v2 v3 v4 vs0 vs2 M = if vs0 < 0 ∨ 402 ≤ Int32.toNatClampNeg vs0 then none else (if vs2 < (dp_I M 216 (Int32.toNatClampNeg vs0)) then (dp_w (dp_setI M 114 0 (0 : Int32)) (fun M1 => dp_w (0 : Int64) (fun y2 => dp_w ((4 : Int32) * v1) (fun y3 => D_X12_reservation_95 xs xl d v1 v2 v3 v4 y2 y3 M1)))) else (dp_bi (dp_den true xs xl d 366 [.ref 114, .int (1 : Int32)] M) (fun r5 M4 => some (.inl (some (.long (Int32.toInt64 r5))), M4)))) := by
  have hF := dp_den_grow (md := true) (xs := xs) (xl := xl) d
  unfold D_X12_reservation_71
  refine dp_s3 hF (i := .iaload) rfl (fun _ => rfl) ?_
  refine dp_s2 hF (i := .if_icmp .lt 10) (a := (82, [some (.ref 114), some (.int v1), some (.int v2), some (.int v3), some (.int v4), none, none, none], [], M)) (b := (75, [some (.ref 114), some (.int v1), some (.int v2), some (.int v3), some (.int v4), none, none, none], [], M)) rfl (fun _ => rfl) ?_ ?_
  · refine dp_s1 hF (i := .aload_n 0) rfl (fun _ => rfl) ?_
    refine dp_s1 hF (i := .iconst 0) rfl (fun _ => rfl) ?_
    refine dp_s1w (dp_setI M 114 0 (0 : Int32)) (fun (M1 : dp_M) => (87, [some (.ref 114), some (.int v1), some (.int v2), some (.int v3), some (.int v4), none, none, none], [], M1)) hF (i := .putfield 1) rfl (fun _ => rfl) (fun M1 => ?_)
    refine dp_s1 hF (i := .lconst 0) rfl (fun _ => rfl) ?_
    refine dp_s1w (0 : Int64) (fun (y2 : Int64) => (90, [some (.ref 114), some (.int v1), some (.int v2), some (.int v3), some (.int v4), some (.long y2), none, none], [], M1)) hF (i := .lstore 5) rfl (fun _ => rfl) (fun y2 => ?_)
    refine dp_s1 hF (i := .iconst 4) rfl (fun _ => rfl) ?_
    refine dp_s1 hF (i := .iload_n 1) rfl (fun _ => rfl) ?_
    refine dp_s1 hF (i := .imul) rfl (fun _ => rfl) ?_
    refine dp_s1w ((4 : Int32) * v1) (fun (y3 : Int32) => (95, [some (.ref 114), some (.int v1), some (.int v2), some (.int v3), some (.int v4), some (.long y2), none, some (.int y3)], [], M1)) hF (i := .istore 7) rfl (fun _ => rfl) (fun y3 => ?_)
    exact rfl
  refine dp_s1 hF (i := .aload_n 0) rfl (fun _ => rfl) ?_
  refine dp_s1 hF (i := .iconst 1) rfl (fun _ => rfl) ?_
  refine dp_si (mj := dp_m_X12_refuse) (i := .invokevirtual 460) rfl rfl (Or.inl rfl) rfl (fun _ => rfl) (fun r5 M4 => ?_)
  refine dp_s1 hF (i := .i2l) rfl (fun _ => rfl) ?_
  exact dp_s0 hF (i := .lreturn) rfl (fun _ => rfl)
noncomputable def D_X12_isLedgerDay_0 (xs : Nat → Int32) (xl d : Nat) (v0 : Int32) (M : dp_M) : Option dp_Res := dp_lim true xs xl (dp_den true xs xl d) dp_m_X12_isLedgerDay (0, [some (.int v0)], [], M)
theorem D_X12_isLedgerDay_0_den (xs : Nat → Int32) (xl d : Nat) (a0 : Int32) (M : dp_M) : dp_den true xs xl (d + 1) 540 [.int a0] M = D_X12_isLedgerDay_0 xs xl d a0 M := rfl
set_option maxRecDepth 20000 in
theorem D_X12_isLedgerDay_0_eq (xs : Nat → Int32) (xl d : Nat) (v0 : Int32) (M : dp_M) : D_X12_isLedgerDay_0 xs xl d v0 M = dp_bi (dp_den true xs xl d 367 [.long (Int32.toInt64 v0), .long (0 : Int64), .long (100000 : Int64)] M) (fun r2 M1 => if r2 = 0 ∨ r2 = 1 then some (.inl (some (.int r2)), M1) else none) := by
  have hF := dp_den_grow (md := true) (xs := xs) (xl := xl) d
  unfold D_X12_isLedgerDay_0
  refine dp_s1 hF (i := .iload_n 0) rfl (fun _ => rfl) ?_
  refine dp_s1 hF (i := .i2l) rfl (fun _ => rfl) ?_
  refine dp_s1 hF (i := .lconst 0) rfl (fun _ => rfl) ?_
  refine dp_s1 hF (i := .ldc2_w 653) rfl (fun _ => rfl) ?_
  refine dp_si (mj := dp_m_X12_in) (i := .invokestatic 446) rfl rfl (Or.inr rfl) rfl (fun _ => rfl) (fun r2 M1 => ?_)
  exact dp_s0 hF (i := .ireturn) rfl (fun _ => rfl)
noncomputable def D_X12_isAccount_0 (xs : Nat → Int32) (xl d : Nat) (v0 : Int32) (M : dp_M) : Option dp_Res := dp_lim true xs xl (dp_den true xs xl d) dp_m_X12_isAccount (0, [some (.int v0)], [], M)
theorem D_X12_isAccount_0_den (xs : Nat → Int32) (xl d : Nat) (a0 : Int32) (M : dp_M) : dp_den true xs xl (d + 1) 541 [.int a0] M = D_X12_isAccount_0 xs xl d a0 M := rfl
set_option maxRecDepth 20000 in
theorem D_X12_isAccount_0_eq (xs : Nat → Int32) (xl d : Nat) (v0 : Int32) (M : dp_M) : D_X12_isAccount_0 xs xl d v0 M = if v0 < 0 then (some (.inl (some (.int (0 : Int32))), M)) else (if (12 : Int32) ≤ v0 then (some (.inl (some (.int (0 : Int32))), M)) else (some (.inl (some (.int (1 : Int32))), M))) := by
  have hF := dp_den_grow (md := true) (xs := xs) (xl := xl) d
  unfold D_X12_isAccount_0
  refine dp_s1 hF (i := .iload_n 0) rfl (fun _ => rfl) ?_
  refine dp_s2 hF (i := .ifCond .lt 13) (a := (14, [some (.int v0)], [], M)) (b := (4, [some (.int v0)], [], M)) rfl (fun _ => rfl) ?_ ?_
  · refine dp_s1 hF (i := .iconst 0) rfl (fun _ => rfl) ?_
    exact dp_s0 hF (i := .ireturn) rfl (fun _ => rfl)
  refine dp_s1 hF (i := .iload_n 0) rfl (fun _ => rfl) ?_
  refine dp_s1 hF (i := .bipush 12) rfl (fun _ => rfl) ?_
  refine dp_s2 hF (i := .if_icmp .ge 7) (a := (14, [some (.int v0)], [], M)) (b := (10, [some (.int v0)], [], M)) rfl (fun _ => rfl) ?_ ?_
  · refine dp_s1 hF (i := .iconst 0) rfl (fun _ => rfl) ?_
    exact dp_s0 hF (i := .ireturn) rfl (fun _ => rfl)
  refine dp_s1 hF (i := .iconst 1) rfl (fun _ => rfl) ?_
  refine dp_s1 hF (i := .goto 4) rfl (fun _ => rfl) ?_
  exact dp_s0 hF (i := .ireturn) rfl (fun _ => rfl)
noncomputable def D_X12_kindOfAccount_0 (xs : Nat → Int32) (xl d : Nat) (v0 : Int32) (M : dp_M) : Option dp_Res := dp_lim true xs xl (dp_den true xs xl d) dp_m_X12_kindOfAccount (0, [some (.int v0)], [], M)
theorem D_X12_kindOfAccount_0_den (xs : Nat → Int32) (xl d : Nat) (a0 : Int32) (M : dp_M) : dp_den true xs xl (d + 1) 542 [.int a0] M = D_X12_kindOfAccount_0 xs xl d a0 M := rfl
set_option maxRecDepth 20000 in
theorem D_X12_kindOfAccount_0_eq (xs : Nat → Int32) (xl d : Nat) (v0 : Int32) (M : dp_M) : D_X12_kindOfAccount_0 xs xl d v0 M = if (8 : Int32) ≤ v0 then (if v0 = (8 : Int32) then (some (.inl (some (.int (1 : Int32))), M)) else (if v0 = (9 : Int32) then (some (.inl (some (.int (2 : Int32))), M)) else (some (.inl (some (.int (3 : Int32))), M)))) else (some (.inl (some (.int (0 : Int32))), M)) := by
  have hF := dp_den_grow (md := true) (xs := xs) (xl := xl) d
  unfold D_X12_kindOfAccount_0
  refine dp_s1 hF (i := .iload_n 0) rfl (fun _ => rfl) ?_
  refine dp_s1 hF (i := .bipush 8) rfl (fun _ => rfl) ?_
  refine dp_s2 hF (i := .if_icmp .ge 7) (a := (10, [some (.int v0)], [], M)) (b := (6, [some (.int v0)], [], M)) rfl (fun _ => rfl) ?_ ?_
  · refine dp_s1 hF (i := .iload_n 0) rfl (fun _ => rfl) ?_
    refine dp_s1 hF (i := .bipush 8) rfl (fun _ => rfl) ?_
    refine dp_s2 hF (i := .if_icmp .ne 7) (a := (16, [some (.int v0)], [], M)) (b := (20, [some (.int v0)], [], M)) rfl (fun _ => rfl) ?_ ?_
    · refine dp_s1 hF (i := .iconst 1) rfl (fun _ => rfl) ?_
      refine dp_s1 hF (i := .goto 14) rfl (fun _ => rfl) ?_
      exact dp_s0 hF (i := .ireturn) rfl (fun _ => rfl)
    refine dp_s1 hF (i := .iload_n 0) rfl (fun _ => rfl) ?_
    refine dp_s1 hF (i := .bipush 9) rfl (fun _ => rfl) ?_
    refine dp_s2 hF (i := .if_icmp .ne 7) (a := (26, [some (.int v0)], [], M)) (b := (30, [some (.int v0)], [], M)) rfl (fun _ => rfl) ?_ ?_
    · refine dp_s1 hF (i := .iconst 2) rfl (fun _ => rfl) ?_
      refine dp_s1 hF (i := .goto 4) rfl (fun _ => rfl) ?_
      exact dp_s0 hF (i := .ireturn) rfl (fun _ => rfl)
    refine dp_s1 hF (i := .iconst 3) rfl (fun _ => rfl) ?_
    exact dp_s0 hF (i := .ireturn) rfl (fun _ => rfl)
  refine dp_s1 hF (i := .iconst 0) rfl (fun _ => rfl) ?_
  refine dp_s1 hF (i := .goto 24) rfl (fun _ => rfl) ?_
  exact dp_s0 hF (i := .ireturn) rfl (fun _ => rfl)
noncomputable def D_X12_isOpenBatch_0 (xs : Nat → Int32) (xl d : Nat) (v1 : Int32) (M : dp_M) : Option dp_Res := dp_lim true xs xl (dp_den true xs xl d) dp_m_X12_isOpenBatch (0, [some (.ref 114), some (.int v1)], [], M)
theorem D_X12_isOpenBatch_0_den (xs : Nat → Int32) (xl d : Nat) (a0 : Int32) (M : dp_M) : dp_den true xs xl (d + 1) 543 [.ref 114, .int a0] M = D_X12_isOpenBatch_0 xs xl d a0 M := rfl
set_option maxRecDepth 20000 in
theorem D_X12_isOpenBatch_0_eq (xs : Nat → Int32) (xl d : Nat) (v1 : Int32) (M : dp_M) : D_X12_isOpenBatch_0 xs xl d v1 M = if v1 < 0 then (some (.inl (some (.int (0 : Int32))), M)) else (if (dp_I M 114 141) ≤ v1 then (some (.inl (some (.int (0 : Int32))), M)) else (if v1 < 0 ∨ 801 ≤ Int32.toNatClampNeg v1 then none else (if (dp_I M 221 (Int32.toNatClampNeg v1)) = 0 then (some (.inl (some (.int (1 : Int32))), M)) else (some (.inl (some (.int (0 : Int32))), M))))) := by
  have hF := dp_den_grow (md := true) (xs := xs) (xl := xl) d
  unfold D_X12_isOpenBatch_0
  refine dp_s1 hF (i := .iload_n 1) rfl (fun _ => rfl) ?_
  refine dp_s2 hF (i := .ifCond .lt 24) (a := (25, [some (.ref 114), some (.int v1)], [], M)) (b := (4, [some (.ref 114), some (.int v1)], [], M)) rfl (fun _ => rfl) ?_ ?_
  · refine dp_s1 hF (i := .iconst 0) rfl (fun _ => rfl) ?_
    exact dp_s0 hF (i := .ireturn) rfl (fun _ => rfl)
  refine dp_s1 hF (i := .iload_n 1) rfl (fun _ => rfl) ?_
  refine dp_s1 hF (i := .aload_n 0) rfl (fun _ => rfl) ?_
  refine dp_s1 hF (i := .getfield 966) rfl (fun _ => rfl) ?_
  refine dp_s2 hF (i := .if_icmp .ge 16) (a := (25, [some (.ref 114), some (.int v1)], [], M)) (b := (12, [some (.ref 114), some (.int v1)], [], M)) rfl (fun _ => rfl) ?_ ?_
  · refine dp_s1 hF (i := .iconst 0) rfl (fun _ => rfl) ?_
    exact dp_s0 hF (i := .ireturn) rfl (fun _ => rfl)
  refine dp_s1 hF (i := .aload_n 0) rfl (fun _ => rfl) ?_
  refine dp_s1 hF (i := .getfield 344) rfl (fun _ => rfl) ?_
  refine dp_s1 hF (i := .iload_n 1) rfl (fun _ => rfl) ?_
  refine dp_s3 hF (i := .iaload) rfl (fun _ => rfl) ?_
  refine dp_s2 hF (i := .ifCond .ne 7) (a := (21, [some (.ref 114), some (.int v1)], [], M)) (b := (25, [some (.ref 114), some (.int v1)], [], M)) rfl (fun _ => rfl) ?_ ?_
  · refine dp_s1 hF (i := .iconst 1) rfl (fun _ => rfl) ?_
    refine dp_s1 hF (i := .goto 4) rfl (fun _ => rfl) ?_
    exact dp_s0 hF (i := .ireturn) rfl (fun _ => rfl)
  refine dp_s1 hF (i := .iconst 0) rfl (fun _ => rfl) ?_
  exact dp_s0 hF (i := .ireturn) rfl (fun _ => rfl)
noncomputable def D_X12_beginsBatch_0 (xs : Nat → Int32) (xl d : Nat) (v1 : Int32) (v2 : Int32) (v3 : Int32) (M : dp_M) : Option dp_Res := dp_lim true xs xl (dp_den true xs xl d) dp_m_X12_beginsBatch (0, [some (.ref 114), some (.int v1), some (.int v2), some (.int v3)], [], M)
theorem D_X12_beginsBatch_0_den (xs : Nat → Int32) (xl d : Nat) (a0 : Int32) (a1 : Int32) (a2 : Int32) (M : dp_M) : dp_den true xs xl (d + 1) 544 [.ref 114, .int a0, .int a1, .int a2] M = D_X12_beginsBatch_0 xs xl d a0 a1 a2 M := rfl
set_option maxRecDepth 20000 in
theorem D_X12_beginsBatch_0_eq (xs : Nat → Int32) (xl d : Nat) (v1 : Int32) (v2 : Int32) (v3 : Int32) (M : dp_M) : D_X12_beginsBatch_0 xs xl d v1 v2 v3 M = if v1 < 0 ∨ 801 ≤ Int32.toNatClampNeg v1 then none else dp_w (dp_setI M 221 (Int32.toNatClampNeg v1) (0 : Int32)) (fun M1 => if v1 < 0 ∨ 801 ≤ Int32.toNatClampNeg v1 then none else dp_w (dp_setI M1 222 (Int32.toNatClampNeg v1) v2) (fun M2 => if v1 < 0 ∨ 801 ≤ Int32.toNatClampNeg v1 then none else dp_w (dp_setI M2 223 (Int32.toNatClampNeg v1) v3) (fun M3 => if v1 < 0 ∨ 801 ≤ Int32.toNatClampNeg v1 then none else dp_w (dp_setI M3 224 (Int32.toNatClampNeg v1) (-1 : Int32)) (fun M4 => if v1 < 0 ∨ 801 ≤ Int32.toNatClampNeg v1 then none else dp_w (dp_setI M4 225 (Int32.toNatClampNeg v1) (-1 : Int32)) (fun M5 => if v1 < 0 ∨ 801 ≤ Int32.toNatClampNeg v1 then none else dp_w (dp_setI M5 226 (Int32.toNatClampNeg v1) ((0 : Int32) &&& 1)) (fun M6 => if v1 < 0 ∨ 801 ≤ Int32.toNatClampNeg v1 then none else dp_w (dp_setI M6 227 (Int32.toNatClampNeg v1) (0 : Int32)) (fun M7 => some (.inl none, M7)))))))) := by
  have hF := dp_den_grow (md := true) (xs := xs) (xl := xl) d
  unfold D_X12_beginsBatch_0
  refine dp_s1 hF (i := .aload_n 0) rfl (fun _ => rfl) ?_
  refine dp_s1 hF (i := .getfield 344) rfl (fun _ => rfl) ?_
  refine dp_s1 hF (i := .iload_n 1) rfl (fun _ => rfl) ?_
  refine dp_s1 hF (i := .iconst 0) rfl (fun _ => rfl) ?_
  refine dp_s3w (dp_setI M 221 (Int32.toNatClampNeg v1) (0 : Int32)) (fun (M1 : dp_M) => (7, [some (.ref 114), some (.int v1), some (.int v2), some (.int v3)], [], M1)) hF (i := .iastore) rfl (fun _ => rfl) (fun M1 => ?_)
  refine dp_s1 hF (i := .aload_n 0) rfl (fun _ => rfl) ?_
  refine dp_s1 hF (i := .getfield 347) rfl (fun _ => rfl) ?_
  refine dp_s1 hF (i := .iload_n 1) rfl (fun _ => rfl) ?_
  refine dp_s1 hF (i := .iload_n 2) rfl (fun _ => rfl) ?_
  refine dp_s3w (dp_setI M1 222 (Int32.toNatClampNeg v1) v2) (fun (M2 : dp_M) => (14, [some (.ref 114), some (.int v1), some (.int v2), some (.int v3)], [], M2)) hF (i := .iastore) rfl (fun _ => rfl) (fun M2 => ?_)
  refine dp_s1 hF (i := .aload_n 0) rfl (fun _ => rfl) ?_
  refine dp_s1 hF (i := .getfield 350) rfl (fun _ => rfl) ?_
  refine dp_s1 hF (i := .iload_n 1) rfl (fun _ => rfl) ?_
  refine dp_s1 hF (i := .iload_n 3) rfl (fun _ => rfl) ?_
  refine dp_s3w (dp_setI M2 223 (Int32.toNatClampNeg v1) v3) (fun (M3 : dp_M) => (21, [some (.ref 114), some (.int v1), some (.int v2), some (.int v3)], [], M3)) hF (i := .iastore) rfl (fun _ => rfl) (fun M3 => ?_)
  refine dp_s1 hF (i := .aload_n 0) rfl (fun _ => rfl) ?_
  refine dp_s1 hF (i := .getfield 353) rfl (fun _ => rfl) ?_
  refine dp_s1 hF (i := .iload_n 1) rfl (fun _ => rfl) ?_
  refine dp_s1 hF (i := .iconst (-1)) rfl (fun _ => rfl) ?_
  refine dp_s3w (dp_setI M3 224 (Int32.toNatClampNeg v1) (-1 : Int32)) (fun (M4 : dp_M) => (28, [some (.ref 114), some (.int v1), some (.int v2), some (.int v3)], [], M4)) hF (i := .iastore) rfl (fun _ => rfl) (fun M4 => ?_)
  refine dp_s1 hF (i := .aload_n 0) rfl (fun _ => rfl) ?_
  refine dp_s1 hF (i := .getfield 356) rfl (fun _ => rfl) ?_
  refine dp_s1 hF (i := .iload_n 1) rfl (fun _ => rfl) ?_
  refine dp_s1 hF (i := .iconst (-1)) rfl (fun _ => rfl) ?_
  refine dp_s3w (dp_setI M4 225 (Int32.toNatClampNeg v1) (-1 : Int32)) (fun (M5 : dp_M) => (35, [some (.ref 114), some (.int v1), some (.int v2), some (.int v3)], [], M5)) hF (i := .iastore) rfl (fun _ => rfl) (fun M5 => ?_)
  refine dp_s1 hF (i := .aload_n 0) rfl (fun _ => rfl) ?_
  refine dp_s1 hF (i := .getfield 359) rfl (fun _ => rfl) ?_
  refine dp_s1 hF (i := .iload_n 1) rfl (fun _ => rfl) ?_
  refine dp_s1 hF (i := .iconst 0) rfl (fun _ => rfl) ?_
  refine dp_s3w (dp_setI M5 226 (Int32.toNatClampNeg v1) ((0 : Int32) &&& 1)) (fun (M6 : dp_M) => (42, [some (.ref 114), some (.int v1), some (.int v2), some (.int v3)], [], M6)) hF (i := .bastore) rfl (fun _ => rfl) (fun M6 => ?_)
  refine dp_s1 hF (i := .aload_n 0) rfl (fun _ => rfl) ?_
  refine dp_s1 hF (i := .getfield 362) rfl (fun _ => rfl) ?_
  refine dp_s1 hF (i := .iload_n 1) rfl (fun _ => rfl) ?_
  refine dp_s1 hF (i := .iconst 0) rfl (fun _ => rfl) ?_
  refine dp_s3w (dp_setI M6 227 (Int32.toNatClampNeg v1) (0 : Int32)) (fun (M7 : dp_M) => (49, [some (.ref 114), some (.int v1), some (.int v2), some (.int v3)], [], M7)) hF (i := .iastore) rfl (fun _ => rfl) (fun M7 => ?_)
  exact dp_s0 hF (i := .return_) rfl (fun _ => rfl)
noncomputable def D_X12_enters_0 (xs : Nat → Int32) (xl d : Nat) (v1 : Int32) (v2 : Int32) (v3 : Int64) (M : dp_M) : Option dp_Res := dp_lim true xs xl (dp_den true xs xl d) dp_m_X12_enters (0, [some (.ref 114), some (.int v1), some (.int v2), some (.long v3), none], [], M)
theorem D_X12_enters_0_den (xs : Nat → Int32) (xl d : Nat) (a0 : Int32) (a1 : Int32) (a2 : Int64) (M : dp_M) : dp_den true xs xl (d + 1) 545 [.ref 114, .int a0, .int a1, .long a2] M = D_X12_enters_0 xs xl d a0 a1 a2 M := rfl
set_option maxRecDepth 20000 in
theorem D_X12_enters_0_eq (xs : Nat → Int32) (xl d : Nat) (v1 : Int32) (v2 : Int32) (v3 : Int64) (M : dp_M) : D_X12_enters_0 xs xl d v1 v2 v3 M = if (lg_cmp v3 (0 : Int64)) = 0 then (some (.inl none, M)) else (if v1 < 0 ∨ 801 ≤ Int32.toNatClampNeg v1 then none else (if (((20 : Int32) * v1) + (dp_I M 227 (Int32.toNatClampNeg v1))) < 0 ∨ 16020 ≤ Int32.toNatClampNeg (((20 : Int32) * v1) + (dp_I M 227 (Int32.toNatClampNeg v1))) then none else dp_w (dp_setI M 228 (Int32.toNatClampNeg (((20 : Int32) * v1) + (dp_I M 227 (Int32.toNatClampNeg v1)))) v2) (fun M1 => if v1 < 0 ∨ 801 ≤ Int32.toNatClampNeg v1 then none else (if (((20 : Int32) * v1) + (dp_I M1 227 (Int32.toNatClampNeg v1))) < 0 ∨ 16020 ≤ Int32.toNatClampNeg (((20 : Int32) * v1) + (dp_I M1 227 (Int32.toNatClampNeg v1))) then none else dp_w (dp_setJ M1 229 (Int32.toNatClampNeg (((20 : Int32) * v1) + (dp_I M1 227 (Int32.toNatClampNeg v1)))) v3) (fun M2 => if v1 < 0 ∨ 801 ≤ Int32.toNatClampNeg v1 then none else (if v1 < 0 ∨ 801 ≤ Int32.toNatClampNeg v1 then none else dp_w (dp_setI M2 227 (Int32.toNatClampNeg v1) ((dp_I M2 227 (Int32.toNatClampNeg v1)) + (1 : Int32))) (fun M3 => some (.inl none, M3)))))))) := by
  have hF := dp_den_grow (md := true) (xs := xs) (xl := xl) d
  unfold D_X12_enters_0
  refine dp_s1 hF (i := .lload_n 3) rfl (fun _ => rfl) ?_
  refine dp_s1 hF (i := .lconst 0) rfl (fun _ => rfl) ?_
  refine dp_s1 hF (i := .lcmp) rfl (fun _ => rfl) ?_
  refine dp_s2 hF (i := .ifCond .eq 47) (a := (50, [some (.ref 114), some (.int v1), some (.int v2), some (.long v3), none], [], M)) (b := (6, [some (.ref 114), some (.int v1), some (.int v2), some (.long v3), none], [], M)) rfl (fun _ => rfl) ?_ ?_
  · exact dp_s0 hF (i := .return_) rfl (fun _ => rfl)
  refine dp_s1 hF (i := .aload_n 0) rfl (fun _ => rfl) ?_
  refine dp_s1 hF (i := .getfield 365) rfl (fun _ => rfl) ?_
  refine dp_s1 hF (i := .bipush 20) rfl (fun _ => rfl) ?_
  refine dp_s1 hF (i := .iload_n 1) rfl (fun _ => rfl) ?_
  refine dp_s1 hF (i := .imul) rfl (fun _ => rfl) ?_
  refine dp_s1 hF (i := .aload_n 0) rfl (fun _ => rfl) ?_
  refine dp_s1 hF (i := .getfield 362) rfl (fun _ => rfl) ?_
  refine dp_s1 hF (i := .iload_n 1) rfl (fun _ => rfl) ?_
  refine dp_s3 hF (i := .iaload) rfl (fun _ => rfl) ?_
  refine dp_s1 hF (i := .iadd) rfl (fun _ => rfl) ?_
  refine dp_s1 hF (i := .iload_n 2) rfl (fun _ => rfl) ?_
  refine dp_s3w (dp_setI M 228 (Int32.toNatClampNeg (((20 : Int32) * v1) + (dp_I M 227 (Int32.toNatClampNeg v1)))) v2) (fun (M1 : dp_M) => (23, [some (.ref 114), some (.int v1), some (.int v2), some (.long v3), none], [], M1)) hF (i := .iastore) rfl (fun _ => rfl) (fun M1 => ?_)
  refine dp_s1 hF (i := .aload_n 0) rfl (fun _ => rfl) ?_
  refine dp_s1 hF (i := .getfield 368) rfl (fun _ => rfl) ?_
  refine dp_s1 hF (i := .bipush 20) rfl (fun _ => rfl) ?_
  refine dp_s1 hF (i := .iload_n 1) rfl (fun _ => rfl) ?_
  refine dp_s1 hF (i := .imul) rfl (fun _ => rfl) ?_
  refine dp_s1 hF (i := .aload_n 0) rfl (fun _ => rfl) ?_
  refine dp_s1 hF (i := .getfield 362) rfl (fun _ => rfl) ?_
  refine dp_s1 hF (i := .iload_n 1) rfl (fun _ => rfl) ?_
  refine dp_s3 hF (i := .iaload) rfl (fun _ => rfl) ?_
  refine dp_s1 hF (i := .iadd) rfl (fun _ => rfl) ?_
  refine dp_s1 hF (i := .lload_n 3) rfl (fun _ => rfl) ?_
  refine dp_s3w (dp_setJ M1 229 (Int32.toNatClampNeg (((20 : Int32) * v1) + (dp_I M1 227 (Int32.toNatClampNeg v1)))) v3) (fun (M2 : dp_M) => (40, [some (.ref 114), some (.int v1), some (.int v2), some (.long v3), none], [], M2)) hF (i := .lastore) rfl (fun _ => rfl) (fun M2 => ?_)
  refine dp_s1 hF (i := .aload_n 0) rfl (fun _ => rfl) ?_
  refine dp_s1 hF (i := .getfield 362) rfl (fun _ => rfl) ?_
  refine dp_s1 hF (i := .iload_n 1) rfl (fun _ => rfl) ?_
  refine dp_s1 hF (i := .dup2) rfl (fun _ => rfl) ?_
  refine dp_s3 hF (i := .iaload) rfl (fun _ => rfl) ?_
  refine dp_s1 hF (i := .iconst 1) rfl (fun _ => rfl) ?_
  refine dp_s1 hF (i := .iadd) rfl (fun _ => rfl) ?_
  refine dp_s3w (dp_setI M2 227 (Int32.toNatClampNeg v1) ((dp_I M2 227 (Int32.toNatClampNeg v1)) + (1 : Int32))) (fun (M3 : dp_M) => (50, [some (.ref 114), some (.int v1), some (.int v2), some (.long v3), none], [], M3)) hF (i := .iastore) rfl (fun _ => rfl) (fun M3 => ?_)
  exact dp_s0 hF (i := .return_) rfl (fun _ => rfl)
noncomputable def D_X12_batch_0 (xs : Nat → Int32) (xl d : Nat) (v1 : Int32) (v2 : Int32) (M : dp_M) : Option dp_Res := dp_lim true xs xl (dp_den true xs xl d) dp_m_X12_batch (0, [some (.ref 114), some (.int v1), some (.int v2)], [], M)
theorem D_X12_batch_0_den (xs : Nat → Int32) (xl d : Nat) (a0 : Int32) (a1 : Int32) (M : dp_M) : dp_den true xs xl (d + 1) 546 [.ref 114, .int a0, .int a1] M = D_X12_batch_0 xs xl d a0 a1 M := rfl
set_option maxRecDepth 20000 in
theorem D_X12_batch_0_eq (xs : Nat → Int32) (xl d : Nat) (v1 : Int32) (v2 : Int32) (M : dp_M) : D_X12_batch_0 xs xl d v1 v2 M = dp_bi (dp_den true xs xl d 540 [.int v1] M) (fun r2 M1 => if r2 = 0 then (dp_bi (dp_den true xs xl d 366 [.ref 114, .int (1 : Int32)] M1) (fun r4 M3 => some (.inl (some (.int r4)), M3))) else (dp_bi (dp_den true xs xl d 540 [.int v2] M1) (fun r6 M5 => if r6 = 0 then (dp_bi (dp_den true xs xl d 366 [.ref 114, .int (1 : Int32)] M5) (fun r8 M7 => some (.inl (some (.int r8)), M7))) else (if (dp_I M5 114 141) = (800 : Int32) then (dp_bi (dp_den true xs xl d 366 [.ref 114, .int (2 : Int32)] M5) (fun r10 M9 => some (.inl (some (.int r10)), M9))) else (dp_w (dp_setI M5 114 0 (0 : Int32)) (fun M11 => dp_bv (dp_den true xs xl d 544 [.ref 114, .int (dp_I M11 114 141), .int v1, .int v2] M11) (fun M12 => dp_w (dp_setI M12 114 141 ((dp_I M12 114 141) + (1 : Int32))) (fun M13 => some (.inl (some (.int ((dp_I M13 114 141) - (1 : Int32)))), M13))))))))) := by
  have hF := dp_den_grow (md := true) (xs := xs) (xl := xl) d
  unfold D_X12_batch_0
  refine dp_s1 hF (i := .iload_n 1) rfl (fun _ => rfl) ?_
  refine dp_si (mj := dp_m_X12_isLedgerDay) (i := .invokestatic 969) rfl rfl (Or.inr rfl) rfl (fun _ => rfl) (fun r2 M1 => ?_)
  refine dp_s2 hF (i := .ifCond .eq 10) (a := (14, [some (.ref 114), some (.int v1), some (.int v2)], [], M1)) (b := (7, [some (.ref 114), some (.int v1), some (.int v2)], [], M1)) rfl (fun _ => rfl) ?_ ?_
  · refine dp_s1 hF (i := .aload_n 0) rfl (fun _ => rfl) ?_
    refine dp_s1 hF (i := .iconst 1) rfl (fun _ => rfl) ?_
    refine dp_si (mj := dp_m_X12_refuse) (i := .invokevirtual 460) rfl rfl (Or.inl rfl) rfl (fun _ => rfl) (fun r4 M3 => ?_)
    exact dp_s0 hF (i := .ireturn) rfl (fun _ => rfl)
  refine dp_s1 hF (i := .iload_n 2) rfl (fun _ => rfl) ?_
  refine dp_si (mj := dp_m_X12_isLedgerDay) (i := .invokestatic 969) rfl rfl (Or.inr rfl) rfl (fun _ => rfl) (fun r6 M5 => ?_)
  refine dp_s2 hF (i := .ifCond .ne 9) (a := (14, [some (.ref 114), some (.int v1), some (.int v2)], [], M5)) (b := (20, [some (.ref 114), some (.int v1), some (.int v2)], [], M5)) rfl (fun _ => rfl) ?_ ?_
  · refine dp_s1 hF (i := .aload_n 0) rfl (fun _ => rfl) ?_
    refine dp_s1 hF (i := .iconst 1) rfl (fun _ => rfl) ?_
    refine dp_si (mj := dp_m_X12_refuse) (i := .invokevirtual 460) rfl rfl (Or.inl rfl) rfl (fun _ => rfl) (fun r8 M7 => ?_)
    exact dp_s0 hF (i := .ireturn) rfl (fun _ => rfl)
  refine dp_s1 hF (i := .aload_n 0) rfl (fun _ => rfl) ?_
  refine dp_s1 hF (i := .getfield 966) rfl (fun _ => rfl) ?_
  refine dp_s1 hF (i := .sipush 800) rfl (fun _ => rfl) ?_
  refine dp_s2 hF (i := .if_icmp .ne 9) (a := (30, [some (.ref 114), some (.int v1), some (.int v2)], [], M5)) (b := (36, [some (.ref 114), some (.int v1), some (.int v2)], [], M5)) rfl (fun _ => rfl) ?_ ?_
  · refine dp_s1 hF (i := .aload_n 0) rfl (fun _ => rfl) ?_
    refine dp_s1 hF (i := .iconst 2) rfl (fun _ => rfl) ?_
    refine dp_si (mj := dp_m_X12_refuse) (i := .invokevirtual 460) rfl rfl (Or.inl rfl) rfl (fun _ => rfl) (fun r10 M9 => ?_)
    exact dp_s0 hF (i := .ireturn) rfl (fun _ => rfl)
  refine dp_s1 hF (i := .aload_n 0) rfl (fun _ => rfl) ?_
  refine dp_s1 hF (i := .iconst 0) rfl (fun _ => rfl) ?_
  refine dp_s1w (dp_setI M5 114 0 (0 : Int32)) (fun (M11 : dp_M) => (41, [some (.ref 114), some (.int v1), some (.int v2)], [], M11)) hF (i := .putfield 1) rfl (fun _ => rfl) (fun M11 => ?_)
  refine dp_s1 hF (i := .aload_n 0) rfl (fun _ => rfl) ?_
  refine dp_s1 hF (i := .aload_n 0) rfl (fun _ => rfl) ?_
  refine dp_s1 hF (i := .getfield 966) rfl (fun _ => rfl) ?_
  refine dp_s1 hF (i := .iload_n 1) rfl (fun _ => rfl) ?_
  refine dp_s1 hF (i := .iload_n 2) rfl (fun _ => rfl) ?_
  refine dp_sv (mj := dp_m_X12_beginsBatch) (i := .invokevirtual 972) rfl rfl rfl rfl (fun _ => rfl) (fun M12 => ?_)
  refine dp_s1 hF (i := .aload_n 0) rfl (fun _ => rfl) ?_
  refine dp_s1 hF (i := .dup) rfl (fun _ => rfl) ?_
  refine dp_s1 hF (i := .getfield 966) rfl (fun _ => rfl) ?_
  refine dp_s1 hF (i := .iconst 1) rfl (fun _ => rfl) ?_
  refine dp_s1 hF (i := .iadd) rfl (fun _ => rfl) ?_
  refine dp_s1w (dp_setI M12 114 141 ((dp_I M12 114 141) + (1 : Int32))) (fun (M13 : dp_M) => (61, [some (.ref 114), some (.int v1), some (.int v2)], [], M13)) hF (i := .putfield 966) rfl (fun _ => rfl) (fun M13 => ?_)
  refine dp_s1 hF (i := .aload_n 0) rfl (fun _ => rfl) ?_
  refine dp_s1 hF (i := .getfield 966) rfl (fun _ => rfl) ?_
  refine dp_s1 hF (i := .iconst 1) rfl (fun _ => rfl) ?_
  refine dp_s1 hF (i := .isub) rfl (fun _ => rfl) ?_
  exact dp_s0 hF (i := .ireturn) rfl (fun _ => rfl)
noncomputable def D_X12_entry_0 (xs : Nat → Int32) (xl d : Nat) (v1 : Int32) (v2 : Int32) (v3 : Int64) (M : dp_M) : Option dp_Res := dp_lim true xs xl (dp_den true xs xl d) dp_m_X12_entry (0, [some (.ref 114), some (.int v1), some (.int v2), some (.long v3), none], [], M)
theorem D_X12_entry_0_den (xs : Nat → Int32) (xl d : Nat) (a0 : Int32) (a1 : Int32) (a2 : Int64) (M : dp_M) : dp_den true xs xl (d + 1) 547 [.ref 114, .int a0, .int a1, .long a2] M = D_X12_entry_0 xs xl d a0 a1 a2 M := rfl
set_option maxRecDepth 20000 in
theorem D_X12_entry_0_eq (xs : Nat → Int32) (xl d : Nat) (v1 : Int32) (v2 : Int32) (v3 : Int64) (M : dp_M) : D_X12_entry_0 xs xl d v1 v2 v3 M = dp_w (dp_setI M 114 0 (0 : Int32)) (fun M1 => dp_bi (dp_den true xs xl d 543 [.ref 114, .int v1] M1) (fun r3 M2 => if r3 = 0 then (some (.inl (some (.int (0 : Int32))), M2)) else (dp_bi (dp_den true xs xl d 541 [.int v2] M2) (fun r5 M4 => if r5 = 0 then (some (.inl (some (.int (0 : Int32))), M4)) else (if (lg_cmp v3 (0 : Int64)) = 0 then (some (.inl (some (.int (0 : Int32))), M4)) else (dp_bi (dp_den true xs xl d 367 [.long v3, .long (-1000000000 : Int64), .long (1000000000 : Int64)] M4) (fun r7 M6 => if r7 = 0 then (some (.inl (some (.int (0 : Int32))), M6)) else (if v1 < 0 ∨ 801 ≤ Int32.toNatClampNeg v1 then none else (if (dp_I M6 227 (Int32.toNatClampNeg v1)) = (20 : Int32) then (some (.inl (some (.int (0 : Int32))), M6)) else (dp_bv (dp_den true xs xl d 545 [.ref 114, .int v1, .int v2, .long v3] M6) (fun M8 => some (.inl (some (.int (1 : Int32))), M8)))))))))))) := by
  have hF := dp_den_grow (md := true) (xs := xs) (xl := xl) d
  unfold D_X12_entry_0
  refine dp_s1 hF (i := .aload_n 0) rfl (fun _ => rfl) ?_
  refine dp_s1 hF (i := .iconst 0) rfl (fun _ => rfl) ?_
  refine dp_s1w (dp_setI M 114 0 (0 : Int32)) (fun (M1 : dp_M) => (5, [some (.ref 114), some (.int v1), some (.int v2), some (.long v3), none], [], M1)) hF (i := .putfield 1) rfl (fun _ => rfl) (fun M1 => ?_)
  refine dp_s1 hF (i := .aload_n 0) rfl (fun _ => rfl) ?_
  refine dp_s1 hF (i := .iload_n 1) rfl (fun _ => rfl) ?_
  refine dp_si (mj := dp_m_X12_isOpenBatch) (i := .invokevirtual 976) rfl rfl (Or.inr rfl) rfl (fun _ => rfl) (fun r3 M2 => ?_)
  refine dp_s2 hF (i := .ifCond .eq 40) (a := (50, [some (.ref 114), some (.int v1), some (.int v2), some (.long v3), none], [], M2)) (b := (13, [some (.ref 114), some (.int v1), some (.int v2), some (.long v3), none], [], M2)) rfl (fun _ => rfl) ?_ ?_
  · refine dp_s1 hF (i := .iconst 0) rfl (fun _ => rfl) ?_
    exact dp_s0 hF (i := .ireturn) rfl (fun _ => rfl)
  refine dp_s1 hF (i := .iload_n 2) rfl (fun _ => rfl) ?_
  refine dp_si (mj := dp_m_X12_isAccount) (i := .invokestatic 979) rfl rfl (Or.inr rfl) rfl (fun _ => rfl) (fun r5 M4 => ?_)
  refine dp_s2 hF (i := .ifCond .eq 33) (a := (50, [some (.ref 114), some (.int v1), some (.int v2), some (.long v3), none], [], M4)) (b := (20, [some (.ref 114), some (.int v1), some (.int v2), some (.long v3), none], [], M4)) rfl (fun _ => rfl) ?_ ?_
  · refine dp_s1 hF (i := .iconst 0) rfl (fun _ => rfl) ?_
    exact dp_s0 hF (i := .ireturn) rfl (fun _ => rfl)
  refine dp_s1 hF (i := .lload_n 3) rfl (fun _ => rfl) ?_
  refine dp_s1 hF (i := .lconst 0) rfl (fun _ => rfl) ?_
  refine dp_s1 hF (i := .lcmp) rfl (fun _ => rfl) ?_
  refine dp_s2 hF (i := .ifCond .eq 27) (a := (50, [some (.ref 114), some (.int v1), some (.int v2), some (.long v3), none], [], M4)) (b := (26, [some (.ref 114), some (.int v1), some (.int v2), some (.long v3), none], [], M4)) rfl (fun _ => rfl) ?_ ?_
  · refine dp_s1 hF (i := .iconst 0) rfl (fun _ => rfl) ?_
    exact dp_s0 hF (i := .ireturn) rfl (fun _ => rfl)
  refine dp_s1 hF (i := .lload_n 3) rfl (fun _ => rfl) ?_
  refine dp_s1 hF (i := .ldc2_w 982) rfl (fun _ => rfl) ?_
  refine dp_s1 hF (i := .ldc2_w 900) rfl (fun _ => rfl) ?_
  refine dp_si (mj := dp_m_X12_in) (i := .invokestatic 446) rfl rfl (Or.inr rfl) rfl (fun _ => rfl) (fun r7 M6 => ?_)
  refine dp_s2 hF (i := .ifCond .eq 14) (a := (50, [some (.ref 114), some (.int v1), some (.int v2), some (.long v3), none], [], M6)) (b := (39, [some (.ref 114), some (.int v1), some (.int v2), some (.long v3), none], [], M6)) rfl (fun _ => rfl) ?_ ?_
  · refine dp_s1 hF (i := .iconst 0) rfl (fun _ => rfl) ?_
    exact dp_s0 hF (i := .ireturn) rfl (fun _ => rfl)
  refine dp_s1 hF (i := .aload_n 0) rfl (fun _ => rfl) ?_
  refine dp_s1 hF (i := .getfield 362) rfl (fun _ => rfl) ?_
  refine dp_s1 hF (i := .iload_n 1) rfl (fun _ => rfl) ?_
  refine dp_s3 hF (i := .iaload) rfl (fun _ => rfl) ?_
  refine dp_s1 hF (i := .bipush 20) rfl (fun _ => rfl) ?_
  refine dp_s2 hF (i := .if_icmp .ne 5) (a := (50, [some (.ref 114), some (.int v1), some (.int v2), some (.long v3), none], [], M6)) (b := (52, [some (.ref 114), some (.int v1), some (.int v2), some (.long v3), none], [], M6)) rfl (fun _ => rfl) ?_ ?_
  · refine dp_s1 hF (i := .iconst 0) rfl (fun _ => rfl) ?_
    exact dp_s0 hF (i := .ireturn) rfl (fun _ => rfl)
  refine dp_s1 hF (i := .aload_n 0) rfl (fun _ => rfl) ?_
  refine dp_s1 hF (i := .iload_n 1) rfl (fun _ => rfl) ?_
  refine dp_s1 hF (i := .iload_n 2) rfl (fun _ => rfl) ?_
  refine dp_s1 hF (i := .lload_n 3) rfl (fun _ => rfl) ?_
  refine dp_sv (mj := dp_m_X12_enters) (i := .invokevirtual 984) rfl rfl rfl rfl (fun _ => rfl) (fun M8 => ?_)
  refine dp_s1 hF (i := .iconst 1) rfl (fun _ => rfl) ?_
  exact dp_s0 hF (i := .ireturn) rfl (fun _ => rfl)
noncomputable def D_X12_failing_0 (xs : Nat → Int32) (xl d : Nat) (v1 : Int32) (v2 : Int32) (M : dp_M) : Option dp_Res := dp_lim true xs xl (dp_den true xs xl d) dp_m_X12_failing (0, [some (.ref 114), some (.int v1), some (.int v2)], [], M)
theorem D_X12_failing_0_den (xs : Nat → Int32) (xl d : Nat) (a0 : Int32) (a1 : Int32) (M : dp_M) : dp_den true xs xl (d + 1) 548 [.ref 114, .int a0, .int a1] M = D_X12_failing_0 xs xl d a0 a1 M := rfl
set_option maxRecDepth 20000 in
theorem D_X12_failing_0_eq (xs : Nat → Int32) (xl d : Nat) (v1 : Int32) (v2 : Int32) (M : dp_M) : D_X12_failing_0 xs xl d v1 v2 M = dp_w (dp_setI M 114 0 (0 : Int32)) (fun M1 => dp_bi (dp_den true xs xl d 543 [.ref 114, .int v1] M1) (fun r3 M2 => if r3 = 0 then (some (.inl (some (.int (0 : Int32))), M2)) else (if v1 < 0 ∨ 801 ≤ Int32.toNatClampNeg v1 then none else dp_w (dp_setI M2 226 (Int32.toNatClampNeg v1) (v2 &&& 1)) (fun M4 => some (.inl (some (.int (1 : Int32))), M4))))) := by
  have hF := dp_den_grow (md := true) (xs := xs) (xl := xl) d
  unfold D_X12_failing_0
  refine dp_s1 hF (i := .aload_n 0) rfl (fun _ => rfl) ?_
  refine dp_s1 hF (i := .iconst 0) rfl (fun _ => rfl) ?_
  refine dp_s1w (dp_setI M 114 0 (0 : Int32)) (fun (M1 : dp_M) => (5, [some (.ref 114), some (.int v1), some (.int v2)], [], M1)) hF (i := .putfield 1) rfl (fun _ => rfl) (fun M1 => ?_)
  refine dp_s1 hF (i := .aload_n 0) rfl (fun _ => rfl) ?_
  refine dp_s1 hF (i := .iload_n 1) rfl (fun _ => rfl) ?_
  refine dp_si (mj := dp_m_X12_isOpenBatch) (i := .invokevirtual 976) rfl rfl (Or.inr rfl) rfl (fun _ => rfl) (fun r3 M2 => ?_)
  refine dp_s2 hF (i := .ifCond .ne 5) (a := (13, [some (.ref 114), some (.int v1), some (.int v2)], [], M2)) (b := (15, [some (.ref 114), some (.int v1), some (.int v2)], [], M2)) rfl (fun _ => rfl) ?_ ?_
  · refine dp_s1 hF (i := .iconst 0) rfl (fun _ => rfl) ?_
    exact dp_s0 hF (i := .ireturn) rfl (fun _ => rfl)
  refine dp_s1 hF (i := .aload_n 0) rfl (fun _ => rfl) ?_
  refine dp_s1 hF (i := .getfield 359) rfl (fun _ => rfl) ?_
  refine dp_s1 hF (i := .iload_n 1) rfl (fun _ => rfl) ?_
  refine dp_s1 hF (i := .iload_n 2) rfl (fun _ => rfl) ?_
  refine dp_s3w (dp_setI M2 226 (Int32.toNatClampNeg v1) (v2 &&& 1)) (fun (M4 : dp_M) => (22, [some (.ref 114), some (.int v1), some (.int v2)], [], M4)) hF (i := .bastore) rfl (fun _ => rfl) (fun M4 => ?_)
  refine dp_s1 hF (i := .iconst 1) rfl (fun _ => rfl) ?_
  exact dp_s0 hF (i := .ireturn) rfl (fun _ => rfl)
noncomputable def D_X12_sumIn_0 (xs : Nat → Int32) (xl d : Nat) (v1 : Int32) (v2 : Int32) (M : dp_M) : Option dp_Res := dp_lim true xs xl (dp_den true xs xl d) dp_m_X12_sumIn (0, [some (.ref 114), some (.int v1), some (.int v2), none, none, none], [], M)
noncomputable def D_X12_sumIn_8 (xs : Nat → Int32) (xl d : Nat) (v1 : Int32) (v2 : Int32) (v3 : Int64) (v5 : Int32) (M : dp_M) : Option dp_Res := dp_lim true xs xl (dp_den true xs xl d) dp_m_X12_sumIn (8, [some (.ref 114), some (.int v1), some (.int v2), some (.long v3), none, some (.int v5)], [], M)
theorem D_X12_sumIn_0_den (xs : Nat → Int32) (xl d : Nat) (a0 : Int32) (a1 : Int32) (M : dp_M) : dp_den true xs xl (d + 1) 549 [.ref 114, .int a0, .int a1] M = D_X12_sumIn_0 xs xl d a0 a1 M := rfl
set_option maxRecDepth 20000 in
theorem D_X12_sumIn_0_eq (xs : Nat → Int32) (xl d : Nat) (v1 : Int32) (v2 : Int32) (M : dp_M) : D_X12_sumIn_0 xs xl d v1 v2 M = dp_w (0 : Int64) (fun y1 => dp_w ((20 : Int32) * v1) (fun y2 => D_X12_sumIn_8 xs xl d v1 v2 y1 y2 M)) := by
  have hF := dp_den_grow (md := true) (xs := xs) (xl := xl) d
  unfold D_X12_sumIn_0
  refine dp_s1 hF (i := .lconst 0) rfl (fun _ => rfl) ?_
  refine dp_s1w (0 : Int64) (fun (y1 : Int64) => (2, [some (.ref 114), some (.int v1), some (.int v2), some (.long y1), none, none], [], M)) hF (i := .lstore_n 3) rfl (fun _ => rfl) (fun y1 => ?_)
  refine dp_s1 hF (i := .bipush 20) rfl (fun _ => rfl) ?_
  refine dp_s1 hF (i := .iload_n 1) rfl (fun _ => rfl) ?_
  refine dp_s1 hF (i := .imul) rfl (fun _ => rfl) ?_
  refine dp_s1w ((20 : Int32) * v1) (fun (y2 : Int32) => (8, [some (.ref 114), some (.int v1), some (.int v2), some (.long y1), none, some (.int y2)], [], M)) hF (i := .istore 5) rfl (fun _ => rfl) (fun y2 => ?_)
  exact rfl
set_option maxRecDepth 20000 in
theorem D_X12_sumIn_8_eq (xs : Nat → Int32) (xl d : Nat) (v1 : Int32) (v2 : Int32) (v3 : Int64) (v5 : Int32) (M : dp_M) : D_X12_sumIn_8 xs xl d v1 v2 v3 v5 M = if v1 < 0 ∨ 801 ≤ Int32.toNatClampNeg v1 then none else (if (((20 : Int32) * v1) + (dp_I M 227 (Int32.toNatClampNeg v1))) ≤ v5 then (some (.inl (some (.long v3)), M)) else (if v2 = (-1 : Int32) then (if v5 < 0 ∨ 16020 ≤ Int32.toNatClampNeg v5 then none else (dp_w (v3 + (dp_J M 229 (Int32.toNatClampNeg v5))) (fun y1 => dp_w (v5 + (1 : Int32)) (fun y2 => D_X12_sumIn_8 xs xl d v1 v2 y1 y2 M)))) else (if v5 < 0 ∨ 16020 ≤ Int32.toNatClampNeg v5 then none else (if (dp_I M 228 (Int32.toNatClampNeg v5)) = v2 then (if v5 < 0 ∨ 16020 ≤ Int32.toNatClampNeg v5 then none else (dp_w (v3 + (dp_J M 229 (Int32.toNatClampNeg v5))) (fun y3 => dp_w (v5 + (1 : Int32)) (fun y4 => D_X12_sumIn_8 xs xl d v1 v2 y3 y4 M)))) else (dp_w (v3 + (0 : Int64)) (fun y5 => dp_w (v5 + (1 : Int32)) (fun y6 => D_X12_sumIn_8 xs xl d v1 v2 y5 y6 M))))))) := by
  have hF := dp_den_grow (md := true) (xs := xs) (xl := xl) d
  unfold D_X12_sumIn_8
  refine dp_s1 hF (i := .iload 5) rfl (fun _ => rfl) ?_
  refine dp_s1 hF (i := .bipush 20) rfl (fun _ => rfl) ?_
  refine dp_s1 hF (i := .iload_n 1) rfl (fun _ => rfl) ?_
  refine dp_s1 hF (i := .imul) rfl (fun _ => rfl) ?_
  refine dp_s1 hF (i := .aload_n 0) rfl (fun _ => rfl) ?_
  refine dp_s1 hF (i := .getfield 362) rfl (fun _ => rfl) ?_
  refine dp_s1 hF (i := .iload_n 1) rfl (fun _ => rfl) ?_
  refine dp_s3 hF (i := .iaload) rfl (fun _ => rfl) ?_
  refine dp_s1 hF (i := .iadd) rfl (fun _ => rfl) ?_
  refine dp_s2 hF (i := .if_icmp .ge 39) (a := (60, [some (.ref 114), some (.int v1), some (.int v2), some (.long v3), none, some (.int v5)], [], M)) (b := (24, [some (.ref 114), some (.int v1), some (.int v2), some (.long v3), none, some (.int v5)], [], M)) rfl (fun _ => rfl) ?_ ?_
  · refine dp_s1 hF (i := .lload_n 3) rfl (fun _ => rfl) ?_
    exact dp_s0 hF (i := .lreturn) rfl (fun _ => rfl)
  refine dp_s1 hF (i := .lload_n 3) rfl (fun _ => rfl) ?_
  refine dp_s1 hF (i := .iload_n 2) rfl (fun _ => rfl) ?_
  refine dp_s1 hF (i := .iconst (-1)) rfl (fun _ => rfl) ?_
  refine dp_s2 hF (i := .if_icmp .eq 14) (a := (41, [some (.ref 114), some (.int v1), some (.int v2), some (.long v3), none, some (.int v5)], [.long v3], M)) (b := (30, [some (.ref 114), some (.int v1), some (.int v2), some (.long v3), none, some (.int v5)], [.long v3], M)) rfl (fun _ => rfl) ?_ ?_
  · refine dp_s1 hF (i := .aload_n 0) rfl (fun _ => rfl) ?_
    refine dp_s1 hF (i := .getfield 368) rfl (fun _ => rfl) ?_
    refine dp_s1 hF (i := .iload 5) rfl (fun _ => rfl) ?_
    refine dp_s3 hF (i := .laload) rfl (fun _ => rfl) ?_
    refine dp_s1 hF (i := .goto 4) rfl (fun _ => rfl) ?_
    refine dp_s1 hF (i := .ladd) rfl (fun _ => rfl) ?_
    refine dp_s1w (v3 + (dp_J M 229 (Int32.toNatClampNeg v5))) (fun (y1 : Int64) => (54, [some (.ref 114), some (.int v1), some (.int v2), some (.long y1), none, some (.int v5)], [], M)) hF (i := .lstore_n 3) rfl (fun _ => rfl) (fun y1 => ?_)
    refine dp_s1w (v5 + (1 : Int32)) (fun (y2 : Int32) => (57, [some (.ref 114), some (.int v1), some (.int v2), some (.long y1), none, some (.int y2)], [], M)) hF (i := .iinc 5 1) rfl (fun _ => rfl) (fun y2 => ?_)
    refine dp_s1 hF (i := .goto (-49)) rfl (fun _ => rfl) ?_
    exact rfl
  refine dp_s1 hF (i := .aload_n 0) rfl (fun _ => rfl) ?_
  refine dp_s1 hF (i := .getfield 365) rfl (fun _ => rfl) ?_
  refine dp_s1 hF (i := .iload 5) rfl (fun _ => rfl) ?_
  refine dp_s3 hF (i := .iaload) rfl (fun _ => rfl) ?_
  refine dp_s1 hF (i := .iload_n 2) rfl (fun _ => rfl) ?_
  refine dp_s2 hF (i := .if_icmp .ne 13) (a := (41, [some (.ref 114), some (.int v1), some (.int v2), some (.long v3), none, some (.int v5)], [.long v3], M)) (b := (51, [some (.ref 114), some (.int v1), some (.int v2), some (.long v3), none, some (.int v5)], [.long v3], M)) rfl (fun _ => rfl) ?_ ?_
  · refine dp_s1 hF (i := .aload_n 0) rfl (fun _ => rfl) ?_
    refine dp_s1 hF (i := .getfield 368) rfl (fun _ => rfl) ?_
    refine dp_s1 hF (i := .iload 5) rfl (fun _ => rfl) ?_
    refine dp_s3 hF (i := .laload) rfl (fun _ => rfl) ?_
    refine dp_s1 hF (i := .goto 4) rfl (fun _ => rfl) ?_
    refine dp_s1 hF (i := .ladd) rfl (fun _ => rfl) ?_
    refine dp_s1w (v3 + (dp_J M 229 (Int32.toNatClampNeg v5))) (fun (y3 : Int64) => (54, [some (.ref 114), some (.int v1), some (.int v2), some (.long y3), none, some (.int v5)], [], M)) hF (i := .lstore_n 3) rfl (fun _ => rfl) (fun y3 => ?_)
    refine dp_s1w (v5 + (1 : Int32)) (fun (y4 : Int32) => (57, [some (.ref 114), some (.int v1), some (.int v2), some (.long y3), none, some (.int y4)], [], M)) hF (i := .iinc 5 1) rfl (fun _ => rfl) (fun y4 => ?_)
    refine dp_s1 hF (i := .goto (-49)) rfl (fun _ => rfl) ?_
    exact rfl
  refine dp_s1 hF (i := .lconst 0) rfl (fun _ => rfl) ?_
  refine dp_s1 hF (i := .ladd) rfl (fun _ => rfl) ?_
  refine dp_s1w (v3 + (0 : Int64)) (fun (y5 : Int64) => (54, [some (.ref 114), some (.int v1), some (.int v2), some (.long y5), none, some (.int v5)], [], M)) hF (i := .lstore_n 3) rfl (fun _ => rfl) (fun y5 => ?_)
  refine dp_s1w (v5 + (1 : Int32)) (fun (y6 : Int32) => (57, [some (.ref 114), some (.int v1), some (.int v2), some (.long y5), none, some (.int y6)], [], M)) hF (i := .iinc 5 1) rfl (fun _ => rfl) (fun y6 => ?_)
  refine dp_s1 hF (i := .goto (-49)) rfl (fun _ => rfl) ?_
  exact rfl
noncomputable def D_X12_wrongWith_0 (xs : Nat → Int32) (xl d : Nat) (v1 : Int32) (M : dp_M) : Option dp_Res := dp_lim true xs xl (dp_den true xs xl d) dp_m_X12_wrongWith (0, [some (.ref 114), some (.int v1)], [], M)
theorem D_X12_wrongWith_0_den (xs : Nat → Int32) (xl d : Nat) (a0 : Int32) (M : dp_M) : dp_den true xs xl (d + 1) 550 [.ref 114, .int a0] M = D_X12_wrongWith_0 xs xl d a0 M := rfl
set_option maxRecDepth 20000 in
theorem D_X12_wrongWith_0_eq (xs : Nat → Int32) (xl d : Nat) (v1 : Int32) (M : dp_M) : D_X12_wrongWith_0 xs xl d v1 M = if v1 < 0 ∨ 801 ≤ Int32.toNatClampNeg v1 then none else (if (dp_I M 227 (Int32.toNatClampNeg v1)) = 0 then (some (.inl (some (.int (1 : Int32))), M)) else (dp_bl (dp_den true xs xl d 549 [.ref 114, .int v1, .int (-1 : Int32)] M) (fun r2 M1 => if (lg_cmp r2 (0 : Int64)) = 0 then (if v1 < 0 ∨ 801 ≤ Int32.toNatClampNeg v1 then none else (if (dp_I M1 114 143) < (dp_I M1 223 (Int32.toNatClampNeg v1)) then (if v1 < 0 ∨ 801 ≤ Int32.toNatClampNeg v1 then none else (if (dp_I M1 114 144) ≤ (dp_I M1 223 (Int32.toNatClampNeg v1)) then (if v1 < 0 ∨ 801 ≤ Int32.toNatClampNeg v1 then none else (if ((dp_I M1 114 142) + (dp_I M1 227 (Int32.toNatClampNeg v1))) ≤ (4000 : Int32) then (some (.inl (some (.int (0 : Int32))), M1)) else (some (.inl (some (.int (5 : Int32))), M1)))) else (some (.inl (some (.int (4 : Int32))), M1)))) else (some (.inl (some (.int (3 : Int32))), M1)))) else (some (.inl (some (.int (2 : Int32))), M1))))) := by
  have hF := dp_den_grow (md := true) (xs := xs) (xl := xl) d
  unfold D_X12_wrongWith_0
  refine dp_s1 hF (i := .aload_n 0) rfl (fun _ => rfl) ?_
  refine dp_s1 hF (i := .getfield 362) rfl (fun _ => rfl) ?_
  refine dp_s1 hF (i := .iload_n 1) rfl (fun _ => rfl) ?_
  refine dp_s3 hF (i := .iaload) rfl (fun _ => rfl) ?_
  refine dp_s2 hF (i := .ifCond .ne 5) (a := (9, [some (.ref 114), some (.int v1)], [], M)) (b := (11, [some (.ref 114), some (.int v1)], [], M)) rfl (fun _ => rfl) ?_ ?_
  · refine dp_s1 hF (i := .iconst 1) rfl (fun _ => rfl) ?_
    exact dp_s0 hF (i := .ireturn) rfl (fun _ => rfl)
  refine dp_s1 hF (i := .aload_n 0) rfl (fun _ => rfl) ?_
  refine dp_s1 hF (i := .iload_n 1) rfl (fun _ => rfl) ?_
  refine dp_s1 hF (i := .iconst (-1)) rfl (fun _ => rfl) ?_
  refine dp_sl9 (mj := dp_m_X12_sumIn) (i := .invokevirtual 988) rfl rfl rfl rfl (fun _ => rfl) (fun r2 M1 => ?_)
  refine dp_s1 hF (i := .lconst 0) rfl (fun _ => rfl) ?_
  refine dp_s1 hF (i := .lcmp) rfl (fun _ => rfl) ?_
  refine dp_s2 hF (i := .ifCond .eq 5) (a := (24, [some (.ref 114), some (.int v1)], [], M1)) (b := (22, [some (.ref 114), some (.int v1)], [], M1)) rfl (fun _ => rfl) ?_ ?_
  · refine dp_s1 hF (i := .aload_n 0) rfl (fun _ => rfl) ?_
    refine dp_s1 hF (i := .getfield 350) rfl (fun _ => rfl) ?_
    refine dp_s1 hF (i := .iload_n 1) rfl (fun _ => rfl) ?_
    refine dp_s3 hF (i := .iaload) rfl (fun _ => rfl) ?_
    refine dp_s1 hF (i := .aload_n 0) rfl (fun _ => rfl) ?_
    refine dp_s1 hF (i := .getfield 335) rfl (fun _ => rfl) ?_
    refine dp_s2 hF (i := .if_icmp .gt 5) (a := (39, [some (.ref 114), some (.int v1)], [], M1)) (b := (37, [some (.ref 114), some (.int v1)], [], M1)) rfl (fun _ => rfl) ?_ ?_
    · refine dp_s1 hF (i := .aload_n 0) rfl (fun _ => rfl) ?_
      refine dp_s1 hF (i := .getfield 350) rfl (fun _ => rfl) ?_
      refine dp_s1 hF (i := .iload_n 1) rfl (fun _ => rfl) ?_
      refine dp_s3 hF (i := .iaload) rfl (fun _ => rfl) ?_
      refine dp_s1 hF (i := .aload_n 0) rfl (fun _ => rfl) ?_
      refine dp_s1 hF (i := .getfield 338) rfl (fun _ => rfl) ?_
      refine dp_s2 hF (i := .if_icmp .ge 7) (a := (56, [some (.ref 114), some (.int v1)], [], M1)) (b := (52, [some (.ref 114), some (.int v1)], [], M1)) rfl (fun _ => rfl) ?_ ?_
      · refine dp_s1 hF (i := .aload_n 0) rfl (fun _ => rfl) ?_
        refine dp_s1 hF (i := .getfield 992) rfl (fun _ => rfl) ?_
        refine dp_s1 hF (i := .aload_n 0) rfl (fun _ => rfl) ?_
        refine dp_s1 hF (i := .getfield 362) rfl (fun _ => rfl) ?_
        refine dp_s1 hF (i := .iload_n 1) rfl (fun _ => rfl) ?_
        refine dp_s3 hF (i := .iaload) rfl (fun _ => rfl) ?_
        refine dp_s1 hF (i := .iadd) rfl (fun _ => rfl) ?_
        refine dp_s1 hF (i := .sipush 4000) rfl (fun _ => rfl) ?_
        refine dp_s2 hF (i := .if_icmp .le 7) (a := (77, [some (.ref 114), some (.int v1)], [], M1)) (b := (73, [some (.ref 114), some (.int v1)], [], M1)) rfl (fun _ => rfl) ?_ ?_
        · refine dp_s1 hF (i := .iconst 0) rfl (fun _ => rfl) ?_
          exact dp_s0 hF (i := .ireturn) rfl (fun _ => rfl)
        refine dp_s1 hF (i := .iconst 5) rfl (fun _ => rfl) ?_
        refine dp_s1 hF (i := .goto 4) rfl (fun _ => rfl) ?_
        exact dp_s0 hF (i := .ireturn) rfl (fun _ => rfl)
      refine dp_s1 hF (i := .iconst 4) rfl (fun _ => rfl) ?_
      refine dp_s1 hF (i := .goto 25) rfl (fun _ => rfl) ?_
      exact dp_s0 hF (i := .ireturn) rfl (fun _ => rfl)
    refine dp_s1 hF (i := .iconst 3) rfl (fun _ => rfl) ?_
    exact dp_s0 hF (i := .ireturn) rfl (fun _ => rfl)
  refine dp_s1 hF (i := .iconst 2) rfl (fun _ => rfl) ?_
  exact dp_s0 hF (i := .ireturn) rfl (fun _ => rfl)
noncomputable def D_X12_posts_0 (xs : Nat → Int32) (xl d : Nat) (v1 : Int32) (M : dp_M) : Option dp_Res := dp_lim true xs xl (dp_den true xs xl d) dp_m_X12_posts (0, [some (.ref 114), some (.int v1), none], [], M)
noncomputable def D_X12_posts_2 (xs : Nat → Int32) (xl d : Nat) (v1 : Int32) (v2 : Int32) (M : dp_M) : Option dp_Res := dp_lim true xs xl (dp_den true xs xl d) dp_m_X12_posts (2, [some (.ref 114), some (.int v1), some (.int v2)], [], M)
theorem D_X12_posts_0_den (xs : Nat → Int32) (xl d : Nat) (a0 : Int32) (M : dp_M) : dp_den true xs xl (d + 1) 551 [.ref 114, .int a0] M = D_X12_posts_0 xs xl d a0 M := rfl
set_option maxRecDepth 20000 in
theorem D_X12_posts_0_eq (xs : Nat → Int32) (xl d : Nat) (v1 : Int32) (M : dp_M) : D_X12_posts_0 xs xl d v1 M = dp_w (0 : Int32) (fun y1 => D_X12_posts_2 xs xl d v1 y1 M) := by
  have hF := dp_den_grow (md := true) (xs := xs) (xl := xl) d
  unfold D_X12_posts_0
  refine dp_s1 hF (i := .iconst 0) rfl (fun _ => rfl) ?_
  refine dp_s1w (0 : Int32) (fun (y1 : Int32) => (2, [some (.ref 114), some (.int v1), some (.int y1)], [], M)) hF (i := .istore_n 2) rfl (fun _ => rfl) (fun y1 => ?_)
  exact rfl
set_option maxRecDepth 20000 in
theorem D_X12_posts_2_eq (xs : Nat → Int32) (xl d : Nat) (v1 : Int32) (v2 : Int32) (M : dp_M) : D_X12_posts_2 xs xl d v1 v2 M = if v1 < 0 ∨ 801 ≤ Int32.toNatClampNeg v1 then none else (if (dp_I M 227 (Int32.toNatClampNeg v1)) ≤ v2 then (if v1 < 0 ∨ 801 ≤ Int32.toNatClampNeg v1 then none else (dp_w (dp_setI M 114 142 ((dp_I M 114 142) + (dp_I M 227 (Int32.toNatClampNeg v1)))) (fun M1 => if v1 < 0 ∨ 801 ≤ Int32.toNatClampNeg v1 then none else (dp_w (dp_setI M1 114 144 (dp_I M1 223 (Int32.toNatClampNeg v1))) (fun M2 => if v1 < 0 ∨ 801 ≤ Int32.toNatClampNeg v1 then none else dp_w (dp_setI M2 221 (Int32.toNatClampNeg v1) (1 : Int32)) (fun M3 => some (.inl none, M3))))))) else (if ((dp_I M 114 142) + v2) < 0 ∨ 4000 ≤ Int32.toNatClampNeg ((dp_I M 114 142) + v2) then none else dp_w (dp_setI M 230 (Int32.toNatClampNeg ((dp_I M 114 142) + v2)) (((20 : Int32) * v1) + v2)) (fun M4 => dp_w (v2 + (1 : Int32)) (fun y5 => D_X12_posts_2 xs xl d v1 y5 M4)))) := by
  have hF := dp_den_grow (md := true) (xs := xs) (xl := xl) d
  unfold D_X12_posts_2
  refine dp_s1 hF (i := .iload_n 2) rfl (fun _ => rfl) ?_
  refine dp_s1 hF (i := .aload_n 0) rfl (fun _ => rfl) ?_
  refine dp_s1 hF (i := .getfield 362) rfl (fun _ => rfl) ?_
  refine dp_s1 hF (i := .iload_n 1) rfl (fun _ => rfl) ?_
  refine dp_s3 hF (i := .iaload) rfl (fun _ => rfl) ?_
  refine dp_s2 hF (i := .if_icmp .ge 26) (a := (35, [some (.ref 114), some (.int v1), some (.int v2)], [], M)) (b := (12, [some (.ref 114), some (.int v1), some (.int v2)], [], M)) rfl (fun _ => rfl) ?_ ?_
  · refine dp_s1 hF (i := .aload_n 0) rfl (fun _ => rfl) ?_
    refine dp_s1 hF (i := .dup) rfl (fun _ => rfl) ?_
    refine dp_s1 hF (i := .getfield 992) rfl (fun _ => rfl) ?_
    refine dp_s1 hF (i := .aload_n 0) rfl (fun _ => rfl) ?_
    refine dp_s1 hF (i := .getfield 362) rfl (fun _ => rfl) ?_
    refine dp_s1 hF (i := .iload_n 1) rfl (fun _ => rfl) ?_
    refine dp_s3 hF (i := .iaload) rfl (fun _ => rfl) ?_
    refine dp_s1 hF (i := .iadd) rfl (fun _ => rfl) ?_
    refine dp_s1w (dp_setI M 114 142 ((dp_I M 114 142) + (dp_I M 227 (Int32.toNatClampNeg v1)))) (fun (M1 : dp_M) => (50, [some (.ref 114), some (.int v1), some (.int v2)], [], M1)) hF (i := .putfield 992) rfl (fun _ => rfl) (fun M1 => ?_)
    refine dp_s1 hF (i := .aload_n 0) rfl (fun _ => rfl) ?_
    refine dp_s1 hF (i := .aload_n 0) rfl (fun _ => rfl) ?_
    refine dp_s1 hF (i := .getfield 350) rfl (fun _ => rfl) ?_
    refine dp_s1 hF (i := .iload_n 1) rfl (fun _ => rfl) ?_
    refine dp_s3 hF (i := .iaload) rfl (fun _ => rfl) ?_
    refine dp_s1w (dp_setI M1 114 144 (dp_I M1 223 (Int32.toNatClampNeg v1))) (fun (M2 : dp_M) => (60, [some (.ref 114), some (.int v1), some (.int v2)], [], M2)) hF (i := .putfield 338) rfl (fun _ => rfl) (fun M2 => ?_)
    refine dp_s1 hF (i := .aload_n 0) rfl (fun _ => rfl) ?_
    refine dp_s1 hF (i := .getfield 344) rfl (fun _ => rfl) ?_
    refine dp_s1 hF (i := .iload_n 1) rfl (fun _ => rfl) ?_
    refine dp_s1 hF (i := .iconst 1) rfl (fun _ => rfl) ?_
    refine dp_s3w (dp_setI M2 221 (Int32.toNatClampNeg v1) (1 : Int32)) (fun (M3 : dp_M) => (67, [some (.ref 114), some (.int v1), some (.int v2)], [], M3)) hF (i := .iastore) rfl (fun _ => rfl) (fun M3 => ?_)
    exact dp_s0 hF (i := .return_) rfl (fun _ => rfl)
  refine dp_s1 hF (i := .aload_n 0) rfl (fun _ => rfl) ?_
  refine dp_s1 hF (i := .getfield 371) rfl (fun _ => rfl) ?_
  refine dp_s1 hF (i := .aload_n 0) rfl (fun _ => rfl) ?_
  refine dp_s1 hF (i := .getfield 992) rfl (fun _ => rfl) ?_
  refine dp_s1 hF (i := .iload_n 2) rfl (fun _ => rfl) ?_
  refine dp_s1 hF (i := .iadd) rfl (fun _ => rfl) ?_
  refine dp_s1 hF (i := .bipush 20) rfl (fun _ => rfl) ?_
  refine dp_s1 hF (i := .iload_n 1) rfl (fun _ => rfl) ?_
  refine dp_s1 hF (i := .imul) rfl (fun _ => rfl) ?_
  refine dp_s1 hF (i := .iload_n 2) rfl (fun _ => rfl) ?_
  refine dp_s1 hF (i := .iadd) rfl (fun _ => rfl) ?_
  refine dp_s3w (dp_setI M 230 (Int32.toNatClampNeg ((dp_I M 114 142) + v2)) (((20 : Int32) * v1) + v2)) (fun (M4 : dp_M) => (29, [some (.ref 114), some (.int v1), some (.int v2)], [], M4)) hF (i := .iastore) rfl (fun _ => rfl) (fun M4 => ?_)
  refine dp_s1w (v2 + (1 : Int32)) (fun (y5 : Int32) => (32, [some (.ref 114), some (.int v1), some (.int y5)], [], M4)) hF (i := .iinc 2 1) rfl (fun _ => rfl) (fun y5 => ?_)
  refine dp_s1 hF (i := .goto (-30)) rfl (fun _ => rfl) ?_
  exact rfl
noncomputable def D_X12_greatestIn_0 (xs : Nat → Int32) (xl d : Nat) (v1 : Int32) (M : dp_M) : Option dp_Res := dp_lim true xs xl (dp_den true xs xl d) dp_m_X12_greatestIn (0, [some (.ref 114), some (.int v1), none, none, none, none, none, none], [], M)
noncomputable def D_X12_greatestIn_7 (xs : Nat → Int32) (xl d : Nat) (v1 : Int32) (v2 : Int32) (v3 : Int64) (v5 : Int32) (M : dp_M) : Option dp_Res := dp_lim true xs xl (dp_den true xs xl d) dp_m_X12_greatestIn (7, [some (.ref 114), some (.int v1), some (.int v2), some (.long v3), none, some (.int v5), none, none], [], M)
noncomputable def D_X12_greatestIn_38 (xs : Nat → Int32) (xl d : Nat) (v1 : Int32) (v2 : Int32) (v3 : Int64) (v5 : Int32) (v6 : Int64) (vs0 : Int64) (M : dp_M) : Option dp_Res := dp_lim true xs xl (dp_den true xs xl d) dp_m_X12_greatestIn (38, [some (.ref 114), some (.int v1), some (.int v2), some (.long v3), none, some (.int v5), some (.long v6), none], [.long vs0], M)
noncomputable def D_X12_greatestIn_7_a (xs : Nat → Int32) (xl d : Nat) (v1 : Int32) (v2 : Int32) (v3 : Int64) (v5 : Int32) (v6 : Int64) (M : dp_M) : Option dp_Res := dp_lim true xs xl (dp_den true xs xl d) dp_m_X12_greatestIn (7, [some (.ref 114), some (.int v1), some (.int v2), some (.long v3), none, some (.int v5), some (.long v6), none], [], M)
theorem D_X12_greatestIn_0_den (xs : Nat → Int32) (xl d : Nat) (a0 : Int32) (M : dp_M) : dp_den true xs xl (d + 1) 552 [.ref 114, .int a0] M = D_X12_greatestIn_0 xs xl d a0 M := rfl
set_option maxRecDepth 20000 in
theorem D_X12_greatestIn_0_eq (xs : Nat → Int32) (xl d : Nat) (v1 : Int32) (M : dp_M) : D_X12_greatestIn_0 xs xl d v1 M = dp_w (-1 : Int32) (fun y1 => dp_w (0 : Int64) (fun y2 => dp_w (0 : Int32) (fun y3 => D_X12_greatestIn_7 xs xl d v1 y1 y2 y3 M))) := by
  have hF := dp_den_grow (md := true) (xs := xs) (xl := xl) d
  unfold D_X12_greatestIn_0
  refine dp_s1 hF (i := .iconst (-1)) rfl (fun _ => rfl) ?_
  refine dp_s1w (-1 : Int32) (fun (y1 : Int32) => (2, [some (.ref 114), some (.int v1), some (.int y1), none, none, none, none, none], [], M)) hF (i := .istore_n 2) rfl (fun _ => rfl) (fun y1 => ?_)
  refine dp_s1 hF (i := .lconst 0) rfl (fun _ => rfl) ?_
  refine dp_s1w (0 : Int64) (fun (y2 : Int64) => (4, [some (.ref 114), some (.int v1), some (.int y1), some (.long y2), none, none, none, none], [], M)) hF (i := .lstore_n 3) rfl (fun _ => rfl) (fun y2 => ?_)
  refine dp_s1 hF (i := .iconst 0) rfl (fun _ => rfl) ?_
  refine dp_s1w (0 : Int32) (fun (y3 : Int32) => (7, [some (.ref 114), some (.int v1), some (.int y1), some (.long y2), none, some (.int y3), none, none], [], M)) hF (i := .istore 5) rfl (fun _ => rfl) (fun y3 => ?_)
  exact rfl
set_option maxRecDepth 20000 in
theorem D_X12_greatestIn_7_eq (xs : Nat → Int32) (xl d : Nat) (v1 : Int32) (v2 : Int32) (v3 : Int64) (v5 : Int32) (M : dp_M) : D_X12_greatestIn_7 xs xl d v1 v2 v3 v5 M = if (12 : Int32) ≤ v5 then (some (.inl (some (.int v2)), M)) else (dp_bl (dp_den true xs xl d 549 [.ref 114, .int v1, .int v5] M) (fun r2 M1 => if 0 ≤ (lg_cmp r2 (0 : Int64)) then (D_X12_greatestIn_38 xs xl d v1 v2 v3 v5 r2 r2 M1) else (D_X12_greatestIn_38 xs xl d v1 v2 v3 v5 r2 (-r2) M1))) := by
  have hF := dp_den_grow (md := true) (xs := xs) (xl := xl) d
  unfold D_X12_greatestIn_7
  refine dp_s1 hF (i := .iload 5) rfl (fun _ => rfl) ?_
  refine dp_s1 hF (i := .bipush 12) rfl (fun _ => rfl) ?_
  refine dp_s2 hF (i := .if_icmp .ge 63) (a := (74, [some (.ref 114), some (.int v1), some (.int v2), some (.long v3), none, some (.int v5), none, none], [], M)) (b := (14, [some (.ref 114), some (.int v1), some (.int v2), some (.long v3), none, some (.int v5), none, none], [], M)) rfl (fun _ => rfl) ?_ ?_
  · refine dp_s1 hF (i := .iload_n 2) rfl (fun _ => rfl) ?_
    exact dp_s0 hF (i := .ireturn) rfl (fun _ => rfl)
  refine dp_s1 hF (i := .aload_n 0) rfl (fun _ => rfl) ?_
  refine dp_s1 hF (i := .iload_n 1) rfl (fun _ => rfl) ?_
  refine dp_s1 hF (i := .iload 5) rfl (fun _ => rfl) ?_
  refine dp_sl9 (mj := dp_m_X12_sumIn) (i := .invokevirtual 988) rfl rfl rfl rfl (fun _ => rfl) (fun r2 M1 => ?_)
  refine dp_s1 hF (i := .lstore 6) rfl (fun _ => rfl) ?_
  refine dp_s1 hF (i := .lload 6) rfl (fun _ => rfl) ?_
  refine dp_s1 hF (i := .lconst 0) rfl (fun _ => rfl) ?_
  refine dp_s1 hF (i := .lcmp) rfl (fun _ => rfl) ?_
  refine dp_s2 hF (i := .ifCond .ge 9) (a := (36, [some (.ref 114), some (.int v1), some (.int v2), some (.long v3), none, some (.int v5), some (.long r2), none], [], M1)) (b := (30, [some (.ref 114), some (.int v1), some (.int v2), some (.long v3), none, some (.int v5), some (.long r2), none], [], M1)) rfl (fun _ => rfl) ?_ ?_
  · refine dp_s1 hF (i := .lload 6) rfl (fun _ => rfl) ?_
    exact rfl
  refine dp_s1 hF (i := .lload 6) rfl (fun _ => rfl) ?_
  refine dp_s1 hF (i := .lneg) rfl (fun _ => rfl) ?_
  refine dp_s1 hF (i := .goto 5) rfl (fun _ => rfl) ?_
  exact rfl
set_option maxRecDepth 20000 in
theorem D_X12_greatestIn_38_eq (xs : Nat → Int32) (xl d : Nat) (v1 : Int32) (v2 : Int32) (v3 : Int64) (v5 : Int32) (v6 : Int64) (vs0 : Int64) (M : dp_M) : D_X12_greatestIn_38 xs xl d v1 v2 v3 v5 v6 vs0 M = if (lg_cmp vs0 v3) ≤ 0 then (if (lg_cmp vs0 v3) ≤ 0 then (dp_w (v5 + (1 : Int32)) (fun y1 => D_X12_greatestIn_7_a xs xl d v1 v2 v3 y1 vs0 M)) else (dp_w (v5 + (1 : Int32)) (fun y2 => D_X12_greatestIn_7_a xs xl d v1 v2 vs0 y2 vs0 M))) else (if (lg_cmp vs0 v3) ≤ 0 then (dp_w (v5 + (1 : Int32)) (fun y3 => D_X12_greatestIn_7_a xs xl d v1 v5 v3 y3 vs0 M)) else (dp_w (v5 + (1 : Int32)) (fun y4 => D_X12_greatestIn_7_a xs xl d v1 v5 vs0 y4 vs0 M))) := by
  have hF := dp_den_grow (md := true) (xs := xs) (xl := xl) d
  unfold D_X12_greatestIn_38
  refine dp_s1 hF (i := .lstore 6) rfl (fun _ => rfl) ?_
  refine dp_s1 hF (i := .lload 6) rfl (fun _ => rfl) ?_
  refine dp_s1 hF (i := .lload_n 3) rfl (fun _ => rfl) ?_
  refine dp_s1 hF (i := .lcmp) rfl (fun _ => rfl) ?_
  refine dp_s2 hF (i := .ifCond .le 8) (a := (52, [some (.ref 114), some (.int v1), some (.int v2), some (.long v3), none, some (.int v5), some (.long vs0), none], [], M)) (b := (47, [some (.ref 114), some (.int v1), some (.int v2), some (.long v3), none, some (.int v5), some (.long vs0), none], [], M)) rfl (fun _ => rfl) ?_ ?_
  · refine dp_s1 hF (i := .iload_n 2) rfl (fun _ => rfl) ?_
    refine dp_s1 hF (i := .istore_n 2) rfl (fun _ => rfl) ?_
    refine dp_s1 hF (i := .lload 6) rfl (fun _ => rfl) ?_
    refine dp_s1 hF (i := .lload_n 3) rfl (fun _ => rfl) ?_
    refine dp_s1 hF (i := .lcmp) rfl (fun _ => rfl) ?_
    refine dp_s2 hF (i := .ifCond .le 8) (a := (66, [some (.ref 114), some (.int v1), some (.int v2), some (.long v3), none, some (.int v5), some (.long vs0), none], [], M)) (b := (61, [some (.ref 114), some (.int v1), some (.int v2), some (.long v3), none, some (.int v5), some (.long vs0), none], [], M)) rfl (fun _ => rfl) ?_ ?_
    · refine dp_s1 hF (i := .lload_n 3) rfl (fun _ => rfl) ?_
      refine dp_s1 hF (i := .lstore_n 3) rfl (fun _ => rfl) ?_
      refine dp_s1w (v5 + (1 : Int32)) (fun (y1 : Int32) => (71, [some (.ref 114), some (.int v1), some (.int v2), some (.long v3), none, some (.int y1), some (.long vs0), none], [], M)) hF (i := .iinc 5 1) rfl (fun _ => rfl) (fun y1 => ?_)
      refine dp_s1 hF (i := .goto (-64)) rfl (fun _ => rfl) ?_
      exact rfl
    refine dp_s1 hF (i := .lload 6) rfl (fun _ => rfl) ?_
    refine dp_s1 hF (i := .goto 4) rfl (fun _ => rfl) ?_
    refine dp_s1 hF (i := .lstore_n 3) rfl (fun _ => rfl) ?_
    refine dp_s1w (v5 + (1 : Int32)) (fun (y2 : Int32) => (71, [some (.ref 114), some (.int v1), some (.int v2), some (.long vs0), none, some (.int y2), some (.long vs0), none], [], M)) hF (i := .iinc 5 1) rfl (fun _ => rfl) (fun y2 => ?_)
    refine dp_s1 hF (i := .goto (-64)) rfl (fun _ => rfl) ?_
    exact rfl
  refine dp_s1 hF (i := .iload 5) rfl (fun _ => rfl) ?_
  refine dp_s1 hF (i := .goto 4) rfl (fun _ => rfl) ?_
  refine dp_s1 hF (i := .istore_n 2) rfl (fun _ => rfl) ?_
  refine dp_s1 hF (i := .lload 6) rfl (fun _ => rfl) ?_
  refine dp_s1 hF (i := .lload_n 3) rfl (fun _ => rfl) ?_
  refine dp_s1 hF (i := .lcmp) rfl (fun _ => rfl) ?_
  refine dp_s2 hF (i := .ifCond .le 8) (a := (66, [some (.ref 114), some (.int v1), some (.int v5), some (.long v3), none, some (.int v5), some (.long vs0), none], [], M)) (b := (61, [some (.ref 114), some (.int v1), some (.int v5), some (.long v3), none, some (.int v5), some (.long vs0), none], [], M)) rfl (fun _ => rfl) ?_ ?_
  · refine dp_s1 hF (i := .lload_n 3) rfl (fun _ => rfl) ?_
    refine dp_s1 hF (i := .lstore_n 3) rfl (fun _ => rfl) ?_
    refine dp_s1w (v5 + (1 : Int32)) (fun (y3 : Int32) => (71, [some (.ref 114), some (.int v1), some (.int v5), some (.long v3), none, some (.int y3), some (.long vs0), none], [], M)) hF (i := .iinc 5 1) rfl (fun _ => rfl) (fun y3 => ?_)
    refine dp_s1 hF (i := .goto (-64)) rfl (fun _ => rfl) ?_
    exact rfl
  refine dp_s1 hF (i := .lload 6) rfl (fun _ => rfl) ?_
  refine dp_s1 hF (i := .goto 4) rfl (fun _ => rfl) ?_
  refine dp_s1 hF (i := .lstore_n 3) rfl (fun _ => rfl) ?_
  refine dp_s1w (v5 + (1 : Int32)) (fun (y4 : Int32) => (71, [some (.ref 114), some (.int v1), some (.int v5), some (.long vs0), none, some (.int y4), some (.long vs0), none], [], M)) hF (i := .iinc 5 1) rfl (fun _ => rfl) (fun y4 => ?_)
  refine dp_s1 hF (i := .goto (-64)) rfl (fun _ => rfl) ?_
  exact rfl
set_option maxRecDepth 20000 in
theorem D_X12_greatestIn_7_a_eq (xs : Nat → Int32) (xl d : Nat) (v1 : Int32) (v2 : Int32) (v3 : Int64) (v5 : Int32) (v6 : Int64) (M : dp_M) : D_X12_greatestIn_7_a xs xl d v1 v2 v3 v5 v6 M = if (12 : Int32) ≤ v5 then (some (.inl (some (.int v2)), M)) else (dp_bl (dp_den true xs xl d 549 [.ref 114, .int v1, .int v5] M) (fun r2 M1 => if 0 ≤ (lg_cmp r2 (0 : Int64)) then (D_X12_greatestIn_38 xs xl d v1 v2 v3 v5 r2 r2 M1) else (D_X12_greatestIn_38 xs xl d v1 v2 v3 v5 r2 (-r2) M1))) := by
  have hF := dp_den_grow (md := true) (xs := xs) (xl := xl) d
  unfold D_X12_greatestIn_7_a
  refine dp_s1 hF (i := .iload 5) rfl (fun _ => rfl) ?_
  refine dp_s1 hF (i := .bipush 12) rfl (fun _ => rfl) ?_
  refine dp_s2 hF (i := .if_icmp .ge 63) (a := (74, [some (.ref 114), some (.int v1), some (.int v2), some (.long v3), none, some (.int v5), some (.long v6), none], [], M)) (b := (14, [some (.ref 114), some (.int v1), some (.int v2), some (.long v3), none, some (.int v5), some (.long v6), none], [], M)) rfl (fun _ => rfl) ?_ ?_
  · refine dp_s1 hF (i := .iload_n 2) rfl (fun _ => rfl) ?_
    exact dp_s0 hF (i := .ireturn) rfl (fun _ => rfl)
  refine dp_s1 hF (i := .aload_n 0) rfl (fun _ => rfl) ?_
  refine dp_s1 hF (i := .iload_n 1) rfl (fun _ => rfl) ?_
  refine dp_s1 hF (i := .iload 5) rfl (fun _ => rfl) ?_
  refine dp_sl9 (mj := dp_m_X12_sumIn) (i := .invokevirtual 988) rfl rfl rfl rfl (fun _ => rfl) (fun r2 M1 => ?_)
  refine dp_s1 hF (i := .lstore 6) rfl (fun _ => rfl) ?_
  refine dp_s1 hF (i := .lload 6) rfl (fun _ => rfl) ?_
  refine dp_s1 hF (i := .lconst 0) rfl (fun _ => rfl) ?_
  refine dp_s1 hF (i := .lcmp) rfl (fun _ => rfl) ?_
  refine dp_s2 hF (i := .ifCond .ge 9) (a := (36, [some (.ref 114), some (.int v1), some (.int v2), some (.long v3), none, some (.int v5), some (.long r2), none], [], M1)) (b := (30, [some (.ref 114), some (.int v1), some (.int v2), some (.long v3), none, some (.int v5), some (.long r2), none], [], M1)) rfl (fun _ => rfl) ?_ ?_
  · refine dp_s1 hF (i := .lload 6) rfl (fun _ => rfl) ?_
    exact rfl
  refine dp_s1 hF (i := .lload 6) rfl (fun _ => rfl) ?_
  refine dp_s1 hF (i := .lneg) rfl (fun _ => rfl) ?_
  refine dp_s1 hF (i := .goto 5) rfl (fun _ => rfl) ?_
  exact rfl
noncomputable def D_X12_post_0 (xs : Nat → Int32) (xl d : Nat) (v1 : Int32) (M : dp_M) : Option dp_Res := dp_lim true xs xl (dp_den true xs xl d) dp_m_X12_post (0, [some (.ref 114), some (.int v1), none], [], M)
theorem D_X12_post_0_den (xs : Nat → Int32) (xl d : Nat) (a0 : Int32) (M : dp_M) : dp_den true xs xl (d + 1) 553 [.ref 114, .int a0] M = D_X12_post_0 xs xl d a0 M := rfl
set_option maxRecDepth 20000 in
theorem D_X12_post_0_eq (xs : Nat → Int32) (xl d : Nat) (v1 : Int32) (M : dp_M) : D_X12_post_0 xs xl d v1 M = dp_bi (dp_den true xs xl d 543 [.ref 114, .int v1] M) (fun r2 M1 => if r2 = 0 then (dp_bi (dp_den true xs xl d 366 [.ref 114, .int (1 : Int32)] M1) (fun r4 M3 => some (.inl (some (.int r4)), M3))) else (dp_bi (dp_den true xs xl d 550 [.ref 114, .int v1] M1) (fun r6 M5 => if r6 ≤ 0 then (if v1 < 0 ∨ 801 ≤ Int32.toNatClampNeg v1 then none else (if (dp_I M5 226 (Int32.toNatClampNeg v1)) = 0 then (dp_w (dp_setI M5 114 0 (0 : Int32)) (fun M7 => dp_bv (dp_den true xs xl d 551 [.ref 114, .int v1] M7) (fun M8 => some (.inl (some (.int (1 : Int32))), M8)))) else (if v1 < 0 ∨ 801 ≤ Int32.toNatClampNeg v1 then none else dp_w (dp_setI M5 226 (Int32.toNatClampNeg v1) ((0 : Int32) &&& 1)) (fun M9 => dp_w (dp_setI M9 114 147 ((dp_I M9 114 147) + (1 : Int32))) (fun M10 => dp_bi (dp_den true xs xl d 366 [.ref 114, .int (3 : Int32)] M10) (fun r12 M11 => some (.inl (some (.int r12)), M11))))))) else (dp_w (dp_setI M5 114 145 r6) (fun M13 => if r6 = (2 : Int32) then (dp_bi (dp_den true xs xl d 552 [.ref 114, .int v1] M13) (fun r15 M14 => dp_w (dp_setI M14 114 146 r15) (fun M16 => if v1 < 0 ∨ 801 ≤ Int32.toNatClampNeg v1 then none else dp_w (dp_setI M16 221 (Int32.toNatClampNeg v1) (2 : Int32)) (fun M17 => dp_bi (dp_den true xs xl d 366 [.ref 114, .int (2 : Int32)] M17) (fun r19 M18 => some (.inl (some (.int r19)), M18)))))) else (dp_w (dp_setI M13 114 146 (-1 : Int32)) (fun M20 => if v1 < 0 ∨ 801 ≤ Int32.toNatClampNeg v1 then none else dp_w (dp_setI M20 221 (Int32.toNatClampNeg v1) (2 : Int32)) (fun M21 => dp_bi (dp_den true xs xl d 366 [.ref 114, .int (2 : Int32)] M21) (fun r23 M22 => some (.inl (some (.int r23)), M22)))))))))) := by
  have hF := dp_den_grow (md := true) (xs := xs) (xl := xl) d
  unfold D_X12_post_0
  refine dp_s1 hF (i := .aload_n 0) rfl (fun _ => rfl) ?_
  refine dp_s1 hF (i := .iload_n 1) rfl (fun _ => rfl) ?_
  refine dp_si (mj := dp_m_X12_isOpenBatch) (i := .invokevirtual 976) rfl rfl (Or.inr rfl) rfl (fun _ => rfl) (fun r2 M1 => ?_)
  refine dp_s2 hF (i := .ifCond .ne 9) (a := (8, [some (.ref 114), some (.int v1), none], [], M1)) (b := (14, [some (.ref 114), some (.int v1), none], [], M1)) rfl (fun _ => rfl) ?_ ?_
  · refine dp_s1 hF (i := .aload_n 0) rfl (fun _ => rfl) ?_
    refine dp_s1 hF (i := .iconst 1) rfl (fun _ => rfl) ?_
    refine dp_si (mj := dp_m_X12_refuse) (i := .invokevirtual 460) rfl rfl (Or.inl rfl) rfl (fun _ => rfl) (fun r4 M3 => ?_)
    exact dp_s0 hF (i := .ireturn) rfl (fun _ => rfl)
  refine dp_s1 hF (i := .aload_n 0) rfl (fun _ => rfl) ?_
  refine dp_s1 hF (i := .iload_n 1) rfl (fun _ => rfl) ?_
  refine dp_si (mj := dp_m_X12_wrongWith) (i := .invokevirtual 995) rfl rfl (Or.inl rfl) rfl (fun _ => rfl) (fun r6 M5 => ?_)
  refine dp_s1 hF (i := .istore_n 2) rfl (fun _ => rfl) ?_
  refine dp_s1 hF (i := .iload_n 2) rfl (fun _ => rfl) ?_
  refine dp_s2 hF (i := .ifCond .le 39) (a := (60, [some (.ref 114), some (.int v1), some (.int r6)], [], M5)) (b := (24, [some (.ref 114), some (.int v1), some (.int r6)], [], M5)) rfl (fun _ => rfl) ?_ ?_
  · refine dp_s1 hF (i := .aload_n 0) rfl (fun _ => rfl) ?_
    refine dp_s1 hF (i := .getfield 359) rfl (fun _ => rfl) ?_
    refine dp_s1 hF (i := .iload_n 1) rfl (fun _ => rfl) ?_
    refine dp_s3 hF (i := .baload) rfl (fun _ => rfl) ?_
    refine dp_s2 hF (i := .ifCond .eq 26) (a := (92, [some (.ref 114), some (.int v1), some (.int r6)], [], M5)) (b := (69, [some (.ref 114), some (.int v1), some (.int r6)], [], M5)) rfl (fun _ => rfl) ?_ ?_
    · refine dp_s1 hF (i := .aload_n 0) rfl (fun _ => rfl) ?_
      refine dp_s1 hF (i := .iconst 0) rfl (fun _ => rfl) ?_
      refine dp_s1w (dp_setI M5 114 0 (0 : Int32)) (fun (M7 : dp_M) => (97, [some (.ref 114), some (.int v1), some (.int r6)], [], M7)) hF (i := .putfield 1) rfl (fun _ => rfl) (fun M7 => ?_)
      refine dp_s1 hF (i := .aload_n 0) rfl (fun _ => rfl) ?_
      refine dp_s1 hF (i := .iload_n 1) rfl (fun _ => rfl) ?_
      refine dp_sv (mj := dp_m_X12_posts) (i := .invokevirtual 1007) rfl rfl rfl rfl (fun _ => rfl) (fun M8 => ?_)
      refine dp_s1 hF (i := .iconst 1) rfl (fun _ => rfl) ?_
      exact dp_s0 hF (i := .ireturn) rfl (fun _ => rfl)
    refine dp_s1 hF (i := .aload_n 0) rfl (fun _ => rfl) ?_
    refine dp_s1 hF (i := .getfield 359) rfl (fun _ => rfl) ?_
    refine dp_s1 hF (i := .iload_n 1) rfl (fun _ => rfl) ?_
    refine dp_s1 hF (i := .iconst 0) rfl (fun _ => rfl) ?_
    refine dp_s3w (dp_setI M5 226 (Int32.toNatClampNeg v1) ((0 : Int32) &&& 1)) (fun (M9 : dp_M) => (76, [some (.ref 114), some (.int v1), some (.int r6)], [], M9)) hF (i := .bastore) rfl (fun _ => rfl) (fun M9 => ?_)
    refine dp_s1 hF (i := .aload_n 0) rfl (fun _ => rfl) ?_
    refine dp_s1 hF (i := .dup) rfl (fun _ => rfl) ?_
    refine dp_s1 hF (i := .getfield 1004) rfl (fun _ => rfl) ?_
    refine dp_s1 hF (i := .iconst 1) rfl (fun _ => rfl) ?_
    refine dp_s1 hF (i := .iadd) rfl (fun _ => rfl) ?_
    refine dp_s1w (dp_setI M9 114 147 ((dp_I M9 114 147) + (1 : Int32))) (fun (M10 : dp_M) => (86, [some (.ref 114), some (.int v1), some (.int r6)], [], M10)) hF (i := .putfield 1004) rfl (fun _ => rfl) (fun M10 => ?_)
    refine dp_s1 hF (i := .aload_n 0) rfl (fun _ => rfl) ?_
    refine dp_s1 hF (i := .iconst 3) rfl (fun _ => rfl) ?_
    refine dp_si (mj := dp_m_X12_refuse) (i := .invokevirtual 460) rfl rfl (Or.inl rfl) rfl (fun _ => rfl) (fun r12 M11 => ?_)
    exact dp_s0 hF (i := .ireturn) rfl (fun _ => rfl)
  refine dp_s1 hF (i := .aload_n 0) rfl (fun _ => rfl) ?_
  refine dp_s1 hF (i := .iload_n 2) rfl (fun _ => rfl) ?_
  refine dp_s1w (dp_setI M5 114 145 r6) (fun (M13 : dp_M) => (29, [some (.ref 114), some (.int v1), some (.int r6)], [], M13)) hF (i := .putfield 998) rfl (fun _ => rfl) (fun M13 => ?_)
  refine dp_s1 hF (i := .aload_n 0) rfl (fun _ => rfl) ?_
  refine dp_s1 hF (i := .iload_n 2) rfl (fun _ => rfl) ?_
  refine dp_s1 hF (i := .iconst 2) rfl (fun _ => rfl) ?_
  refine dp_s2 hF (i := .if_icmp .ne 11) (a := (35, [some (.ref 114), some (.int v1), some (.int r6)], [.ref 114], M13)) (b := (43, [some (.ref 114), some (.int v1), some (.int r6)], [.ref 114], M13)) rfl (fun _ => rfl) ?_ ?_
  · refine dp_s1 hF (i := .aload_n 0) rfl (fun _ => rfl) ?_
    refine dp_s1 hF (i := .iload_n 1) rfl (fun _ => rfl) ?_
    refine dp_si (mj := dp_m_X12_greatestIn) (i := .invokevirtual 1001) rfl rfl (Or.inl rfl) rfl (fun _ => rfl) (fun r15 M14 => ?_)
    refine dp_s1 hF (i := .goto 4) rfl (fun _ => rfl) ?_
    refine dp_s1w (dp_setI M14 114 146 r15) (fun (M16 : dp_M) => (47, [some (.ref 114), some (.int v1), some (.int r6)], [], M16)) hF (i := .putfield 341) rfl (fun _ => rfl) (fun M16 => ?_)
    refine dp_s1 hF (i := .aload_n 0) rfl (fun _ => rfl) ?_
    refine dp_s1 hF (i := .getfield 344) rfl (fun _ => rfl) ?_
    refine dp_s1 hF (i := .iload_n 1) rfl (fun _ => rfl) ?_
    refine dp_s1 hF (i := .iconst 2) rfl (fun _ => rfl) ?_
    refine dp_s3w (dp_setI M16 221 (Int32.toNatClampNeg v1) (2 : Int32)) (fun (M17 : dp_M) => (54, [some (.ref 114), some (.int v1), some (.int r6)], [], M17)) hF (i := .iastore) rfl (fun _ => rfl) (fun M17 => ?_)
    refine dp_s1 hF (i := .aload_n 0) rfl (fun _ => rfl) ?_
    refine dp_s1 hF (i := .iconst 2) rfl (fun _ => rfl) ?_
    refine dp_si (mj := dp_m_X12_refuse) (i := .invokevirtual 460) rfl rfl (Or.inl rfl) rfl (fun _ => rfl) (fun r19 M18 => ?_)
    exact dp_s0 hF (i := .ireturn) rfl (fun _ => rfl)
  refine dp_s1 hF (i := .iconst (-1)) rfl (fun _ => rfl) ?_
  refine dp_s1w (dp_setI M13 114 146 (-1 : Int32)) (fun (M20 : dp_M) => (47, [some (.ref 114), some (.int v1), some (.int r6)], [], M20)) hF (i := .putfield 341) rfl (fun _ => rfl) (fun M20 => ?_)
  refine dp_s1 hF (i := .aload_n 0) rfl (fun _ => rfl) ?_
  refine dp_s1 hF (i := .getfield 344) rfl (fun _ => rfl) ?_
  refine dp_s1 hF (i := .iload_n 1) rfl (fun _ => rfl) ?_
  refine dp_s1 hF (i := .iconst 2) rfl (fun _ => rfl) ?_
  refine dp_s3w (dp_setI M20 221 (Int32.toNatClampNeg v1) (2 : Int32)) (fun (M21 : dp_M) => (54, [some (.ref 114), some (.int v1), some (.int r6)], [], M21)) hF (i := .iastore) rfl (fun _ => rfl) (fun M21 => ?_)
  refine dp_s1 hF (i := .aload_n 0) rfl (fun _ => rfl) ?_
  refine dp_s1 hF (i := .iconst 2) rfl (fun _ => rfl) ?_
  refine dp_si (mj := dp_m_X12_refuse) (i := .invokevirtual 460) rfl rfl (Or.inl rfl) rfl (fun _ => rfl) (fun r23 M22 => ?_)
  exact dp_s0 hF (i := .ireturn) rfl (fun _ => rfl)
noncomputable def D_X12_reverse_0 (xs : Nat → Int32) (xl d : Nat) (v1 : Int32) (v2 : Int32) (M : dp_M) : Option dp_Res := dp_lim true xs xl (dp_den true xs xl d) dp_m_X12_reverse (0, [some (.ref 114), some (.int v1), some (.int v2), none, none, none], [], M)
noncomputable def D_X12_reverse_50 (xs : Nat → Int32) (xl d : Nat) (v1 : Int32) (v2 : Int32) (vs0 : Int32) (M : dp_M) : Option dp_Res := dp_lim true xs xl (dp_den true xs xl d) dp_m_X12_reverse (50, [some (.ref 114), some (.int v1), some (.int v2), none, none, none], [.int vs0], M)
noncomputable def D_X12_reverse_120 (xs : Nat → Int32) (xl d : Nat) (v1 : Int32) (v2 : Int32) (v3 : Int32) (v4 : Int32) (v5 : Int32) (M : dp_M) : Option dp_Res := dp_lim true xs xl (dp_den true xs xl d) dp_m_X12_reverse (120, [some (.ref 114), some (.int v1), some (.int v2), some (.int v3), some (.int v4), some (.int v5)], [], M)
theorem D_X12_reverse_0_den (xs : Nat → Int32) (xl d : Nat) (a0 : Int32) (a1 : Int32) (M : dp_M) : dp_den true xs xl (d + 1) 554 [.ref 114, .int a0, .int a1] M = D_X12_reverse_0 xs xl d a0 a1 M := rfl
set_option maxRecDepth 20000 in
theorem D_X12_reverse_0_eq (xs : Nat → Int32) (xl d : Nat) (v1 : Int32) (v2 : Int32) (M : dp_M) : D_X12_reverse_0 xs xl d v1 v2 M = if v1 < 0 then (D_X12_reverse_50 xs xl d v1 v2 (0 : Int32) M) else (if (dp_I M 114 141) ≤ v1 then (D_X12_reverse_50 xs xl d v1 v2 (0 : Int32) M) else (if v1 < 0 then (if (0 : Int32) < 0 ∨ 801 ≤ Int32.toNatClampNeg (0 : Int32) then none else (if (dp_I M 221 (Int32.toNatClampNeg (0 : Int32))) = (1 : Int32) then (dp_bi (dp_den true xs xl d 540 [.int v2] M) (fun r2 M1 => if r2 = 0 then (D_X12_reverse_50 xs xl d v1 v2 (0 : Int32) M1) else (D_X12_reverse_50 xs xl d v1 v2 (1 : Int32) M1))) else (D_X12_reverse_50 xs xl d v1 v2 (0 : Int32) M))) else (if (dp_I M 114 141) ≤ v1 then (if (0 : Int32) < 0 ∨ 801 ≤ Int32.toNatClampNeg (0 : Int32) then none else (if (dp_I M 221 (Int32.toNatClampNeg (0 : Int32))) = (1 : Int32) then (dp_bi (dp_den true xs xl d 540 [.int v2] M) (fun r4 M3 => if r4 = 0 then (D_X12_reverse_50 xs xl d v1 v2 (0 : Int32) M3) else (D_X12_reverse_50 xs xl d v1 v2 (1 : Int32) M3))) else (D_X12_reverse_50 xs xl d v1 v2 (0 : Int32) M))) else (if v1 < 0 ∨ 801 ≤ Int32.toNatClampNeg v1 then none else (if (dp_I M 221 (Int32.toNatClampNeg v1)) = (1 : Int32) then (dp_bi (dp_den true xs xl d 540 [.int v2] M) (fun r6 M5 => if r6 = 0 then (D_X12_reverse_50 xs xl d v1 v2 (0 : Int32) M5) else (D_X12_reverse_50 xs xl d v1 v2 (1 : Int32) M5))) else (D_X12_reverse_50 xs xl d v1 v2 (0 : Int32) M)))))) := by
  have hF := dp_den_grow (md := true) (xs := xs) (xl := xl) d
  unfold D_X12_reverse_0
  refine dp_s1 hF (i := .iload_n 1) rfl (fun _ => rfl) ?_
  refine dp_s2 hF (i := .ifCond .lt 48) (a := (49, [some (.ref 114), some (.int v1), some (.int v2), none, none, none], [], M)) (b := (4, [some (.ref 114), some (.int v1), some (.int v2), none, none, none], [], M)) rfl (fun _ => rfl) ?_ ?_
  · refine dp_s1 hF (i := .iconst 0) rfl (fun _ => rfl) ?_
    exact rfl
  refine dp_s1 hF (i := .iload_n 1) rfl (fun _ => rfl) ?_
  refine dp_s1 hF (i := .aload_n 0) rfl (fun _ => rfl) ?_
  refine dp_s1 hF (i := .getfield 966) rfl (fun _ => rfl) ?_
  refine dp_s2 hF (i := .if_icmp .ge 40) (a := (49, [some (.ref 114), some (.int v1), some (.int v2), none, none, none], [], M)) (b := (12, [some (.ref 114), some (.int v1), some (.int v2), none, none, none], [], M)) rfl (fun _ => rfl) ?_ ?_
  · refine dp_s1 hF (i := .iconst 0) rfl (fun _ => rfl) ?_
    exact rfl
  refine dp_s1 hF (i := .aload_n 0) rfl (fun _ => rfl) ?_
  refine dp_s1 hF (i := .getfield 344) rfl (fun _ => rfl) ?_
  refine dp_s1 hF (i := .iload_n 1) rfl (fun _ => rfl) ?_
  refine dp_s2 hF (i := .ifCond .lt 15) (a := (32, [some (.ref 114), some (.int v1), some (.int v2), none, none, none], [.ref 221], M)) (b := (20, [some (.ref 114), some (.int v1), some (.int v2), none, none, none], [.ref 221], M)) rfl (fun _ => rfl) ?_ ?_
  · refine dp_s1 hF (i := .iconst 0) rfl (fun _ => rfl) ?_
    refine dp_s3 hF (i := .iaload) rfl (fun _ => rfl) ?_
    refine dp_s1 hF (i := .iconst 1) rfl (fun _ => rfl) ?_
    refine dp_s2 hF (i := .if_icmp .ne 14) (a := (38, [some (.ref 114), some (.int v1), some (.int v2), none, none, none], [], M)) (b := (49, [some (.ref 114), some (.int v1), some (.int v2), none, none, none], [], M)) rfl (fun _ => rfl) ?_ ?_
    · refine dp_s1 hF (i := .iload_n 2) rfl (fun _ => rfl) ?_
      refine dp_si (mj := dp_m_X12_isLedgerDay) (i := .invokestatic 969) rfl rfl (Or.inr rfl) rfl (fun _ => rfl) (fun r2 M1 => ?_)
      refine dp_s2 hF (i := .ifCond .eq 7) (a := (49, [some (.ref 114), some (.int v1), some (.int v2), none, none, none], [], M1)) (b := (45, [some (.ref 114), some (.int v1), some (.int v2), none, none, none], [], M1)) rfl (fun _ => rfl) ?_ ?_
      · refine dp_s1 hF (i := .iconst 0) rfl (fun _ => rfl) ?_
        exact rfl
      refine dp_s1 hF (i := .iconst 1) rfl (fun _ => rfl) ?_
      refine dp_s1 hF (i := .goto 4) rfl (fun _ => rfl) ?_
      exact rfl
    refine dp_s1 hF (i := .iconst 0) rfl (fun _ => rfl) ?_
    exact rfl
  refine dp_s1 hF (i := .iload_n 1) rfl (fun _ => rfl) ?_
  refine dp_s1 hF (i := .aload_n 0) rfl (fun _ => rfl) ?_
  refine dp_s1 hF (i := .getfield 966) rfl (fun _ => rfl) ?_
  refine dp_s2 hF (i := .if_icmp .ge 7) (a := (32, [some (.ref 114), some (.int v1), some (.int v2), none, none, none], [.ref 221], M)) (b := (28, [some (.ref 114), some (.int v1), some (.int v2), none, none, none], [.ref 221], M)) rfl (fun _ => rfl) ?_ ?_
  · refine dp_s1 hF (i := .iconst 0) rfl (fun _ => rfl) ?_
    refine dp_s3 hF (i := .iaload) rfl (fun _ => rfl) ?_
    refine dp_s1 hF (i := .iconst 1) rfl (fun _ => rfl) ?_
    refine dp_s2 hF (i := .if_icmp .ne 14) (a := (38, [some (.ref 114), some (.int v1), some (.int v2), none, none, none], [], M)) (b := (49, [some (.ref 114), some (.int v1), some (.int v2), none, none, none], [], M)) rfl (fun _ => rfl) ?_ ?_
    · refine dp_s1 hF (i := .iload_n 2) rfl (fun _ => rfl) ?_
      refine dp_si (mj := dp_m_X12_isLedgerDay) (i := .invokestatic 969) rfl rfl (Or.inr rfl) rfl (fun _ => rfl) (fun r4 M3 => ?_)
      refine dp_s2 hF (i := .ifCond .eq 7) (a := (49, [some (.ref 114), some (.int v1), some (.int v2), none, none, none], [], M3)) (b := (45, [some (.ref 114), some (.int v1), some (.int v2), none, none, none], [], M3)) rfl (fun _ => rfl) ?_ ?_
      · refine dp_s1 hF (i := .iconst 0) rfl (fun _ => rfl) ?_
        exact rfl
      refine dp_s1 hF (i := .iconst 1) rfl (fun _ => rfl) ?_
      refine dp_s1 hF (i := .goto 4) rfl (fun _ => rfl) ?_
      exact rfl
    refine dp_s1 hF (i := .iconst 0) rfl (fun _ => rfl) ?_
    exact rfl
  refine dp_s1 hF (i := .iload_n 1) rfl (fun _ => rfl) ?_
  refine dp_s1 hF (i := .goto 4) rfl (fun _ => rfl) ?_
  refine dp_s3 hF (i := .iaload) rfl (fun _ => rfl) ?_
  refine dp_s1 hF (i := .iconst 1) rfl (fun _ => rfl) ?_
  refine dp_s2 hF (i := .if_icmp .ne 14) (a := (38, [some (.ref 114), some (.int v1), some (.int v2), none, none, none], [], M)) (b := (49, [some (.ref 114), some (.int v1), some (.int v2), none, none, none], [], M)) rfl (fun _ => rfl) ?_ ?_
  · refine dp_s1 hF (i := .iload_n 2) rfl (fun _ => rfl) ?_
    refine dp_si (mj := dp_m_X12_isLedgerDay) (i := .invokestatic 969) rfl rfl (Or.inr rfl) rfl (fun _ => rfl) (fun r6 M5 => ?_)
    refine dp_s2 hF (i := .ifCond .eq 7) (a := (49, [some (.ref 114), some (.int v1), some (.int v2), none, none, none], [], M5)) (b := (45, [some (.ref 114), some (.int v1), some (.int v2), none, none, none], [], M5)) rfl (fun _ => rfl) ?_ ?_
    · refine dp_s1 hF (i := .iconst 0) rfl (fun _ => rfl) ?_
      exact rfl
    refine dp_s1 hF (i := .iconst 1) rfl (fun _ => rfl) ?_
    refine dp_s1 hF (i := .goto 4) rfl (fun _ => rfl) ?_
    exact rfl
  refine dp_s1 hF (i := .iconst 0) rfl (fun _ => rfl) ?_
  exact rfl
set_option maxRecDepth 20000 in
theorem D_X12_reverse_50_eq (xs : Nat → Int32) (xl d : Nat) (v1 : Int32) (v2 : Int32) (vs0 : Int32) (M : dp_M) : D_X12_reverse_50 xs xl d v1 v2 vs0 M = if vs0 = 0 then (dp_bi (dp_den true xs xl d 366 [.ref 114, .int (1 : Int32)] M) (fun r2 M1 => some (.inl (some (.int r2)), M1))) else (if v1 < 0 ∨ 801 ≤ Int32.toNatClampNeg v1 then none else (if 0 ≤ (dp_I M 225 (Int32.toNatClampNeg v1)) then (dp_bi (dp_den true xs xl d 366 [.ref 114, .int (2 : Int32)] M) (fun r4 M3 => some (.inl (some (.int r4)), M3))) else (if v1 < 0 ∨ 801 ≤ Int32.toNatClampNeg v1 then none else (if 0 ≤ (dp_I M 224 (Int32.toNatClampNeg v1)) then (dp_bi (dp_den true xs xl d 366 [.ref 114, .int (2 : Int32)] M) (fun r6 M5 => some (.inl (some (.int r6)), M5))) else (if (dp_I M 114 141) = (800 : Int32) then (dp_bi (dp_den true xs xl d 366 [.ref 114, .int (2 : Int32)] M) (fun r8 M7 => some (.inl (some (.int r8)), M7))) else (dp_w (dp_I M 114 141) (fun y9 => if v1 < 0 ∨ 801 ≤ Int32.toNatClampNeg v1 then none else (dp_bv (dp_den true xs xl d 544 [.ref 114, .int y9, .int (dp_I M 222 (Int32.toNatClampNeg v1)), .int v2] M) (fun M10 => dp_w ((20 : Int32) * v1) (fun y11 => D_X12_reverse_120 xs xl d v1 v2 vs0 y9 y11 M10)))))))))) := by
  have hF := dp_den_grow (md := true) (xs := xs) (xl := xl) d
  unfold D_X12_reverse_50
  refine dp_s1 hF (i := .istore_n 3) rfl (fun _ => rfl) ?_
  refine dp_s1 hF (i := .iload_n 3) rfl (fun _ => rfl) ?_
  refine dp_s2 hF (i := .ifCond .ne 9) (a := (55, [some (.ref 114), some (.int v1), some (.int v2), some (.int vs0), none, none], [], M)) (b := (61, [some (.ref 114), some (.int v1), some (.int v2), some (.int vs0), none, none], [], M)) rfl (fun _ => rfl) ?_ ?_
  · refine dp_s1 hF (i := .aload_n 0) rfl (fun _ => rfl) ?_
    refine dp_s1 hF (i := .iconst 1) rfl (fun _ => rfl) ?_
    refine dp_si (mj := dp_m_X12_refuse) (i := .invokevirtual 460) rfl rfl (Or.inl rfl) rfl (fun _ => rfl) (fun r2 M1 => ?_)
    exact dp_s0 hF (i := .ireturn) rfl (fun _ => rfl)
  refine dp_s1 hF (i := .aload_n 0) rfl (fun _ => rfl) ?_
  refine dp_s1 hF (i := .getfield 356) rfl (fun _ => rfl) ?_
  refine dp_s1 hF (i := .iload_n 1) rfl (fun _ => rfl) ?_
  refine dp_s3 hF (i := .iaload) rfl (fun _ => rfl) ?_
  refine dp_s2 hF (i := .ifCond .ge 22) (a := (89, [some (.ref 114), some (.int v1), some (.int v2), some (.int vs0), none, none], [], M)) (b := (70, [some (.ref 114), some (.int v1), some (.int v2), some (.int vs0), none, none], [], M)) rfl (fun _ => rfl) ?_ ?_
  · refine dp_s1 hF (i := .aload_n 0) rfl (fun _ => rfl) ?_
    refine dp_s1 hF (i := .iconst 2) rfl (fun _ => rfl) ?_
    refine dp_si (mj := dp_m_X12_refuse) (i := .invokevirtual 460) rfl rfl (Or.inl rfl) rfl (fun _ => rfl) (fun r4 M3 => ?_)
    exact dp_s0 hF (i := .ireturn) rfl (fun _ => rfl)
  refine dp_s1 hF (i := .aload_n 0) rfl (fun _ => rfl) ?_
  refine dp_s1 hF (i := .getfield 353) rfl (fun _ => rfl) ?_
  refine dp_s1 hF (i := .iload_n 1) rfl (fun _ => rfl) ?_
  refine dp_s3 hF (i := .iaload) rfl (fun _ => rfl) ?_
  refine dp_s2 hF (i := .ifCond .ge 13) (a := (89, [some (.ref 114), some (.int v1), some (.int v2), some (.int vs0), none, none], [], M)) (b := (79, [some (.ref 114), some (.int v1), some (.int v2), some (.int vs0), none, none], [], M)) rfl (fun _ => rfl) ?_ ?_
  · refine dp_s1 hF (i := .aload_n 0) rfl (fun _ => rfl) ?_
    refine dp_s1 hF (i := .iconst 2) rfl (fun _ => rfl) ?_
    refine dp_si (mj := dp_m_X12_refuse) (i := .invokevirtual 460) rfl rfl (Or.inl rfl) rfl (fun _ => rfl) (fun r6 M5 => ?_)
    exact dp_s0 hF (i := .ireturn) rfl (fun _ => rfl)
  refine dp_s1 hF (i := .aload_n 0) rfl (fun _ => rfl) ?_
  refine dp_s1 hF (i := .getfield 966) rfl (fun _ => rfl) ?_
  refine dp_s1 hF (i := .sipush 800) rfl (fun _ => rfl) ?_
  refine dp_s2 hF (i := .if_icmp .ne 9) (a := (89, [some (.ref 114), some (.int v1), some (.int v2), some (.int vs0), none, none], [], M)) (b := (95, [some (.ref 114), some (.int v1), some (.int v2), some (.int vs0), none, none], [], M)) rfl (fun _ => rfl) ?_ ?_
  · refine dp_s1 hF (i := .aload_n 0) rfl (fun _ => rfl) ?_
    refine dp_s1 hF (i := .iconst 2) rfl (fun _ => rfl) ?_
    refine dp_si (mj := dp_m_X12_refuse) (i := .invokevirtual 460) rfl rfl (Or.inl rfl) rfl (fun _ => rfl) (fun r8 M7 => ?_)
    exact dp_s0 hF (i := .ireturn) rfl (fun _ => rfl)
  refine dp_s1 hF (i := .aload_n 0) rfl (fun _ => rfl) ?_
  refine dp_s1 hF (i := .getfield 966) rfl (fun _ => rfl) ?_
  refine dp_s1w (dp_I M 114 141) (fun (y9 : Int32) => (101, [some (.ref 114), some (.int v1), some (.int v2), some (.int vs0), some (.int y9), none], [], M)) hF (i := .istore 4) rfl (fun _ => rfl) (fun y9 => ?_)
  refine dp_s1 hF (i := .aload_n 0) rfl (fun _ => rfl) ?_
  refine dp_s1 hF (i := .iload 4) rfl (fun _ => rfl) ?_
  refine dp_s1 hF (i := .aload_n 0) rfl (fun _ => rfl) ?_
  refine dp_s1 hF (i := .getfield 347) rfl (fun _ => rfl) ?_
  refine dp_s1 hF (i := .iload_n 1) rfl (fun _ => rfl) ?_
  refine dp_s3 hF (i := .iaload) rfl (fun _ => rfl) ?_
  refine dp_s1 hF (i := .iload_n 2) rfl (fun _ => rfl) ?_
  refine dp_sv (mj := dp_m_X12_beginsBatch) (i := .invokevirtual 972) rfl rfl rfl rfl (fun _ => rfl) (fun M10 => ?_)
  refine dp_s1 hF (i := .bipush 20) rfl (fun _ => rfl) ?_
  refine dp_s1 hF (i := .iload_n 1) rfl (fun _ => rfl) ?_
  refine dp_s1 hF (i := .imul) rfl (fun _ => rfl) ?_
  refine dp_s1w ((20 : Int32) * v1) (fun (y11 : Int32) => (120, [some (.ref 114), some (.int v1), some (.int v2), some (.int vs0), some (.int y9), some (.int y11)], [], M10)) hF (i := .istore 5) rfl (fun _ => rfl) (fun y11 => ?_)
  exact rfl
set_option maxRecDepth 20000 in
theorem D_X12_reverse_120_eq (xs : Nat → Int32) (xl d : Nat) (v1 : Int32) (v2 : Int32) (v3 : Int32) (v4 : Int32) (v5 : Int32) (M : dp_M) : D_X12_reverse_120 xs xl d v1 v2 v3 v4 v5 M = if v1 < 0 ∨ 801 ≤ Int32.toNatClampNeg v1 then none else (if (((20 : Int32) * v1) + (dp_I M 227 (Int32.toNatClampNeg v1))) ≤ v5 then (dp_bi (dp_den true xs xl d 550 [.ref 114, .int v4] M) (fun r2 M1 => if r2 ≤ 0 then (dp_w (dp_setI M1 114 0 (0 : Int32)) (fun M3 => dp_bv (dp_den true xs xl d 551 [.ref 114, .int v4] M3) (fun M4 => dp_w (dp_setI M4 114 141 ((dp_I M4 114 141) + (1 : Int32))) (fun M5 => if v4 < 0 ∨ 801 ≤ Int32.toNatClampNeg v4 then none else dp_w (dp_setI M5 224 (Int32.toNatClampNeg v4) v1) (fun M6 => if v1 < 0 ∨ 801 ≤ Int32.toNatClampNeg v1 then none else dp_w (dp_setI M6 225 (Int32.toNatClampNeg v1) v4) (fun M7 => some (.inl (some (.int v4)), M7))))))) else (dp_bi (dp_den true xs xl d 366 [.ref 114, .int (2 : Int32)] M1) (fun r9 M8 => some (.inl (some (.int r9)), M8))))) else (if v5 < 0 ∨ 16020 ≤ Int32.toNatClampNeg v5 then none else (if v5 < 0 ∨ 16020 ≤ Int32.toNatClampNeg v5 then none else (dp_bv (dp_den true xs xl d 545 [.ref 114, .int v4, .int (dp_I M 228 (Int32.toNatClampNeg v5)), .long (-(dp_J M 229 (Int32.toNatClampNeg v5)))] M) (fun M10 => dp_w (v5 + (1 : Int32)) (fun y11 => D_X12_reverse_120 xs xl d v1 v2 v3 v4 y11 M10)))))) := by
  have hF := dp_den_grow (md := true) (xs := xs) (xl := xl) d
  unfold D_X12_reverse_120
  refine dp_s1 hF (i := .iload 5) rfl (fun _ => rfl) ?_
  refine dp_s1 hF (i := .bipush 20) rfl (fun _ => rfl) ?_
  refine dp_s1 hF (i := .iload_n 1) rfl (fun _ => rfl) ?_
  refine dp_s1 hF (i := .imul) rfl (fun _ => rfl) ?_
  refine dp_s1 hF (i := .aload_n 0) rfl (fun _ => rfl) ?_
  refine dp_s1 hF (i := .getfield 362) rfl (fun _ => rfl) ?_
  refine dp_s1 hF (i := .iload_n 1) rfl (fun _ => rfl) ?_
  refine dp_s3 hF (i := .iaload) rfl (fun _ => rfl) ?_
  refine dp_s1 hF (i := .iadd) rfl (fun _ => rfl) ?_
  refine dp_s2 hF (i := .if_icmp .ge 30) (a := (163, [some (.ref 114), some (.int v1), some (.int v2), some (.int v3), some (.int v4), some (.int v5)], [], M)) (b := (136, [some (.ref 114), some (.int v1), some (.int v2), some (.int v3), some (.int v4), some (.int v5)], [], M)) rfl (fun _ => rfl) ?_ ?_
  · refine dp_s1 hF (i := .aload_n 0) rfl (fun _ => rfl) ?_
    refine dp_s1 hF (i := .iload 4) rfl (fun _ => rfl) ?_
    refine dp_si (mj := dp_m_X12_wrongWith) (i := .invokevirtual 995) rfl rfl (Or.inl rfl) rfl (fun _ => rfl) (fun r2 M1 => ?_)
    refine dp_s2 hF (i := .ifCond .le 9) (a := (178, [some (.ref 114), some (.int v1), some (.int v2), some (.int v3), some (.int v4), some (.int v5)], [], M1)) (b := (172, [some (.ref 114), some (.int v1), some (.int v2), some (.int v3), some (.int v4), some (.int v5)], [], M1)) rfl (fun _ => rfl) ?_ ?_
    · refine dp_s1 hF (i := .aload_n 0) rfl (fun _ => rfl) ?_
      refine dp_s1 hF (i := .iconst 0) rfl (fun _ => rfl) ?_
      refine dp_s1w (dp_setI M1 114 0 (0 : Int32)) (fun (M3 : dp_M) => (183, [some (.ref 114), some (.int v1), some (.int v2), some (.int v3), some (.int v4), some (.int v5)], [], M3)) hF (i := .putfield 1) rfl (fun _ => rfl) (fun M3 => ?_)
      refine dp_s1 hF (i := .aload_n 0) rfl (fun _ => rfl) ?_
      refine dp_s1 hF (i := .iload 4) rfl (fun _ => rfl) ?_
      refine dp_sv (mj := dp_m_X12_posts) (i := .invokevirtual 1007) rfl rfl rfl rfl (fun _ => rfl) (fun M4 => ?_)
      refine dp_s1 hF (i := .aload_n 0) rfl (fun _ => rfl) ?_
      refine dp_s1 hF (i := .dup) rfl (fun _ => rfl) ?_
      refine dp_s1 hF (i := .getfield 966) rfl (fun _ => rfl) ?_
      refine dp_s1 hF (i := .iconst 1) rfl (fun _ => rfl) ?_
      refine dp_s1 hF (i := .iadd) rfl (fun _ => rfl) ?_
      refine dp_s1w (dp_setI M4 114 141 ((dp_I M4 114 141) + (1 : Int32))) (fun (M5 : dp_M) => (199, [some (.ref 114), some (.int v1), some (.int v2), some (.int v3), some (.int v4), some (.int v5)], [], M5)) hF (i := .putfield 966) rfl (fun _ => rfl) (fun M5 => ?_)
      refine dp_s1 hF (i := .aload_n 0) rfl (fun _ => rfl) ?_
      refine dp_s1 hF (i := .getfield 353) rfl (fun _ => rfl) ?_
      refine dp_s1 hF (i := .iload 4) rfl (fun _ => rfl) ?_
      refine dp_s1 hF (i := .iload_n 1) rfl (fun _ => rfl) ?_
      refine dp_s3w (dp_setI M5 224 (Int32.toNatClampNeg v4) v1) (fun (M6 : dp_M) => (207, [some (.ref 114), some (.int v1), some (.int v2), some (.int v3), some (.int v4), some (.int v5)], [], M6)) hF (i := .iastore) rfl (fun _ => rfl) (fun M6 => ?_)
      refine dp_s1 hF (i := .aload_n 0) rfl (fun _ => rfl) ?_
      refine dp_s1 hF (i := .getfield 356) rfl (fun _ => rfl) ?_
      refine dp_s1 hF (i := .iload_n 1) rfl (fun _ => rfl) ?_
      refine dp_s1 hF (i := .iload 4) rfl (fun _ => rfl) ?_
      refine dp_s3w (dp_setI M6 225 (Int32.toNatClampNeg v1) v4) (fun (M7 : dp_M) => (215, [some (.ref 114), some (.int v1), some (.int v2), some (.int v3), some (.int v4), some (.int v5)], [], M7)) hF (i := .iastore) rfl (fun _ => rfl) (fun M7 => ?_)
      refine dp_s1 hF (i := .iload 4) rfl (fun _ => rfl) ?_
      exact dp_s0 hF (i := .ireturn) rfl (fun _ => rfl)
    refine dp_s1 hF (i := .aload_n 0) rfl (fun _ => rfl) ?_
    refine dp_s1 hF (i := .iconst 2) rfl (fun _ => rfl) ?_
    refine dp_si (mj := dp_m_X12_refuse) (i := .invokevirtual 460) rfl rfl (Or.inl rfl) rfl (fun _ => rfl) (fun r9 M8 => ?_)
    exact dp_s0 hF (i := .ireturn) rfl (fun _ => rfl)
  refine dp_s1 hF (i := .aload_n 0) rfl (fun _ => rfl) ?_
  refine dp_s1 hF (i := .iload 4) rfl (fun _ => rfl) ?_
  refine dp_s1 hF (i := .aload_n 0) rfl (fun _ => rfl) ?_
  refine dp_s1 hF (i := .getfield 365) rfl (fun _ => rfl) ?_
  refine dp_s1 hF (i := .iload 5) rfl (fun _ => rfl) ?_
  refine dp_s3 hF (i := .iaload) rfl (fun _ => rfl) ?_
  refine dp_s1 hF (i := .aload_n 0) rfl (fun _ => rfl) ?_
  refine dp_s1 hF (i := .getfield 368) rfl (fun _ => rfl) ?_
  refine dp_s1 hF (i := .iload 5) rfl (fun _ => rfl) ?_
  refine dp_s3 hF (i := .laload) rfl (fun _ => rfl) ?_
  refine dp_s1 hF (i := .lneg) rfl (fun _ => rfl) ?_
  refine dp_sv (mj := dp_m_X12_enters) (i := .invokevirtual 984) rfl rfl rfl rfl (fun _ => rfl) (fun M10 => ?_)
  refine dp_s1w (v5 + (1 : Int32)) (fun (y11 : Int32) => (160, [some (.ref 114), some (.int v1), some (.int v2), some (.int v3), some (.int v4), some (.int y11)], [], M10)) hF (i := .iinc 5 1) rfl (fun _ => rfl) (fun y11 => ?_)
  refine dp_s1 hF (i := .goto (-40)) rfl (fun _ => rfl) ?_
  exact rfl
