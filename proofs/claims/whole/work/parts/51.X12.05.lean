noncomputable def D_X12_close_0 (xs : Nat → Int32) (xl d : Nat) (v1 : Int32) (M : dp_M) : Option dp_Res := dp_lim true xs xl (dp_den true xs xl d) dp_m_X12_close (0, [some (.ref 114), some (.int v1)], [], M)
theorem D_X12_close_0_den (xs : Nat → Int32) (xl d : Nat) (a0 : Int32) (M : dp_M) : dp_den true xs xl (d + 1) 555 [.ref 114, .int a0] M = D_X12_close_0 xs xl d a0 M := rfl
set_option maxRecDepth 20000 in
theorem D_X12_close_0_eq (xs : Nat → Int32) (xl d : Nat) (v1 : Int32) (M : dp_M) : D_X12_close_0 xs xl d v1 M = dp_w (dp_setI M 114 0 (0 : Int32)) (fun M1 => dp_bi (dp_den true xs xl d 540 [.int v1] M1) (fun r3 M2 => if r3 = 0 then (some (.inl (some (.int (0 : Int32))), M2)) else (if (dp_I M2 114 143) < v1 then (dp_w (dp_setI M2 114 143 v1) (fun M4 => some (.inl (some (.int (1 : Int32))), M4))) else (some (.inl (some (.int (0 : Int32))), M2))))) := by
  have hF := dp_den_grow (md := true) (xs := xs) (xl := xl) d
  unfold D_X12_close_0
  refine dp_s1 hF (i := .aload_n 0) rfl (fun _ => rfl) ?_
  refine dp_s1 hF (i := .iconst 0) rfl (fun _ => rfl) ?_
  refine dp_s1w (dp_setI M 114 0 (0 : Int32)) (fun (M1 : dp_M) => (5, [some (.ref 114), some (.int v1)], [], M1)) hF (i := .putfield 1) rfl (fun _ => rfl) (fun M1 => ?_)
  refine dp_s1 hF (i := .iload_n 1) rfl (fun _ => rfl) ?_
  refine dp_si (mj := dp_m_X12_isLedgerDay) (i := .invokestatic 969) rfl rfl (Or.inr rfl) rfl (fun _ => rfl) (fun r3 M2 => ?_)
  refine dp_s2 hF (i := .ifCond .eq 11) (a := (20, [some (.ref 114), some (.int v1)], [], M2)) (b := (12, [some (.ref 114), some (.int v1)], [], M2)) rfl (fun _ => rfl) ?_ ?_
  · refine dp_s1 hF (i := .iconst 0) rfl (fun _ => rfl) ?_
    exact dp_s0 hF (i := .ireturn) rfl (fun _ => rfl)
  refine dp_s1 hF (i := .iload_n 1) rfl (fun _ => rfl) ?_
  refine dp_s1 hF (i := .aload_n 0) rfl (fun _ => rfl) ?_
  refine dp_s1 hF (i := .getfield 335) rfl (fun _ => rfl) ?_
  refine dp_s2 hF (i := .if_icmp .gt 5) (a := (22, [some (.ref 114), some (.int v1)], [], M2)) (b := (20, [some (.ref 114), some (.int v1)], [], M2)) rfl (fun _ => rfl) ?_ ?_
  · refine dp_s1 hF (i := .aload_n 0) rfl (fun _ => rfl) ?_
    refine dp_s1 hF (i := .iload_n 1) rfl (fun _ => rfl) ?_
    refine dp_s1w (dp_setI M2 114 143 v1) (fun (M4 : dp_M) => (27, [some (.ref 114), some (.int v1)], [], M4)) hF (i := .putfield 335) rfl (fun _ => rfl) (fun M4 => ?_)
    refine dp_s1 hF (i := .iconst 1) rfl (fun _ => rfl) ?_
    exact dp_s0 hF (i := .ireturn) rfl (fun _ => rfl)
  refine dp_s1 hF (i := .iconst 0) rfl (fun _ => rfl) ?_
  exact dp_s0 hF (i := .ireturn) rfl (fun _ => rfl)
noncomputable def D_X12_sumOf_0 (xs : Nat → Int32) (xl d : Nat) (v1 : Int32) (v2 : Int32) (v3 : Int32) (v4 : Int32) (M : dp_M) : Option dp_Res := dp_lim true xs xl (dp_den true xs xl d) dp_m_X12_sumOf (0, [some (.ref 114), some (.int v1), some (.int v2), some (.int v3), some (.int v4), none, none, none, none, none], [], M)
noncomputable def D_X12_sumOf_6 (xs : Nat → Int32) (xl d : Nat) (v1 : Int32) (v2 : Int32) (v3 : Int32) (v4 : Int32) (v5 : Int64) (v7 : Int32) (M : dp_M) : Option dp_Res := dp_lim true xs xl (dp_den true xs xl d) dp_m_X12_sumOf (6, [some (.ref 114), some (.int v1), some (.int v2), some (.int v3), some (.int v4), some (.long v5), none, some (.int v7), none, none], [], M)
noncomputable def D_X12_sumOf_78 (xs : Nat → Int32) (xl d : Nat) (v1 : Int32) (v2 : Int32) (v3 : Int32) (v4 : Int32) (v5 : Int64) (v7 : Int32) (v8 : Int32) (vs0 : Int32) (M : dp_M) : Option dp_Res := dp_lim true xs xl (dp_den true xs xl d) dp_m_X12_sumOf (78, [some (.ref 114), some (.int v1), some (.int v2), some (.int v3), some (.int v4), some (.long v5), none, some (.int v7), some (.int v8), none], [.int vs0], M)
noncomputable def D_X12_sumOf_6_a (xs : Nat → Int32) (xl d : Nat) (v1 : Int32) (v2 : Int32) (v3 : Int32) (v4 : Int32) (v5 : Int64) (v7 : Int32) (v8 : Int32) (v9 : Int32) (M : dp_M) : Option dp_Res := dp_lim true xs xl (dp_den true xs xl d) dp_m_X12_sumOf (6, [some (.ref 114), some (.int v1), some (.int v2), some (.int v3), some (.int v4), some (.long v5), none, some (.int v7), some (.int v8), some (.int v9)], [], M)
noncomputable def D_X12_sumOf_78_a (xs : Nat → Int32) (xl d : Nat) (v1 : Int32) (v2 : Int32) (v3 : Int32) (v4 : Int32) (v5 : Int64) (v7 : Int32) (v8 : Int32) (v9 : Int32) (vs0 : Int32) (M : dp_M) : Option dp_Res := dp_lim true xs xl (dp_den true xs xl d) dp_m_X12_sumOf (78, [some (.ref 114), some (.int v1), some (.int v2), some (.int v3), some (.int v4), some (.long v5), none, some (.int v7), some (.int v8), some (.int v9)], [.int vs0], M)
theorem D_X12_sumOf_0_den (xs : Nat → Int32) (xl d : Nat) (a0 : Int32) (a1 : Int32) (a2 : Int32) (a3 : Int32) (M : dp_M) : dp_den true xs xl (d + 1) 556 [.ref 114, .int a0, .int a1, .int a2, .int a3] M = D_X12_sumOf_0 xs xl d a0 a1 a2 a3 M := rfl
set_option maxRecDepth 20000 in
theorem D_X12_sumOf_0_eq (xs : Nat → Int32) (xl d : Nat) (v1 : Int32) (v2 : Int32) (v3 : Int32) (v4 : Int32) (M : dp_M) : D_X12_sumOf_0 xs xl d v1 v2 v3 v4 M = dp_w (0 : Int64) (fun y1 => dp_w (0 : Int32) (fun y2 => D_X12_sumOf_6 xs xl d v1 v2 v3 v4 y1 y2 M)) := by
  have hF := dp_den_grow (md := true) (xs := xs) (xl := xl) d
  unfold D_X12_sumOf_0
  refine dp_s1 hF (i := .lconst 0) rfl (fun _ => rfl) ?_
  refine dp_s1w (0 : Int64) (fun (y1 : Int64) => (3, [some (.ref 114), some (.int v1), some (.int v2), some (.int v3), some (.int v4), some (.long y1), none, none, none, none], [], M)) hF (i := .lstore 5) rfl (fun _ => rfl) (fun y1 => ?_)
  refine dp_s1 hF (i := .iconst 0) rfl (fun _ => rfl) ?_
  refine dp_s1w (0 : Int32) (fun (y2 : Int32) => (6, [some (.ref 114), some (.int v1), some (.int v2), some (.int v3), some (.int v4), some (.long y1), none, some (.int y2), none, none], [], M)) hF (i := .istore 7) rfl (fun _ => rfl) (fun y2 => ?_)
  exact rfl
set_option maxRecDepth 20000 in
theorem D_X12_sumOf_6_eq (xs : Nat → Int32) (xl d : Nat) (v1 : Int32) (v2 : Int32) (v3 : Int32) (v4 : Int32) (v5 : Int64) (v7 : Int32) (M : dp_M) : D_X12_sumOf_6 xs xl d v1 v2 v3 v4 v5 v7 M = if (dp_I M 114 142) ≤ v7 then (some (.inl (some (.long v5)), M)) else (if v7 < 0 ∨ 4000 ≤ Int32.toNatClampNeg v7 then none else (dp_w ((dp_I M 230 (Int32.toNatClampNeg v7)) / (20 : Int32)) (fun y1 => if v7 < 0 ∨ 4000 ≤ Int32.toNatClampNeg v7 then none else (if (dp_I M 230 (Int32.toNatClampNeg v7)) < 0 ∨ 16020 ≤ Int32.toNatClampNeg (dp_I M 230 (Int32.toNatClampNeg v7)) then none else (if (dp_I M 228 (Int32.toNatClampNeg (dp_I M 230 (Int32.toNatClampNeg v7)))) = v1 then (if y1 < 0 ∨ 801 ≤ Int32.toNatClampNeg y1 then none else (dp_bi (dp_den true xs xl d 367 [.long (Int32.toInt64 (dp_I M 222 (Int32.toNatClampNeg y1))), .long (Int32.toInt64 v2), .long (Int32.toInt64 v3)] M) (fun r3 M2 => if r3 = 0 then (D_X12_sumOf_78 xs xl d v1 v2 v3 v4 v5 v7 y1 (0 : Int32) M2) else (if y1 < 0 ∨ 801 ≤ Int32.toNatClampNeg y1 then none else (if v4 < (dp_I M2 223 (Int32.toNatClampNeg y1)) then (D_X12_sumOf_78 xs xl d v1 v2 v3 v4 v5 v7 y1 (0 : Int32) M2) else (D_X12_sumOf_78 xs xl d v1 v2 v3 v4 v5 v7 y1 (1 : Int32) M2)))))) else (D_X12_sumOf_78 xs xl d v1 v2 v3 v4 v5 v7 y1 (0 : Int32) M)))))) := by
  have hF := dp_den_grow (md := true) (xs := xs) (xl := xl) d
  unfold D_X12_sumOf_6
  refine dp_s1 hF (i := .iload 7) rfl (fun _ => rfl) ?_
  refine dp_s1 hF (i := .aload_n 0) rfl (fun _ => rfl) ?_
  refine dp_s1 hF (i := .getfield 992) rfl (fun _ => rfl) ?_
  refine dp_s2 hF (i := .if_icmp .ge 100) (a := (112, [some (.ref 114), some (.int v1), some (.int v2), some (.int v3), some (.int v4), some (.long v5), none, some (.int v7), none, none], [], M)) (b := (15, [some (.ref 114), some (.int v1), some (.int v2), some (.int v3), some (.int v4), some (.long v5), none, some (.int v7), none, none], [], M)) rfl (fun _ => rfl) ?_ ?_
  · refine dp_s1 hF (i := .lload 5) rfl (fun _ => rfl) ?_
    exact dp_s0 hF (i := .lreturn) rfl (fun _ => rfl)
  refine dp_s1 hF (i := .aload_n 0) rfl (fun _ => rfl) ?_
  refine dp_s1 hF (i := .getfield 371) rfl (fun _ => rfl) ?_
  refine dp_s1 hF (i := .iload 7) rfl (fun _ => rfl) ?_
  refine dp_s3 hF (i := .iaload) rfl (fun _ => rfl) ?_
  refine dp_s1 hF (i := .bipush 20) rfl (fun _ => rfl) ?_
  refine dp_s1 hF (i := .idiv) rfl (fun _ => rfl) ?_
  refine dp_s1w ((dp_I M 230 (Int32.toNatClampNeg v7)) / (20 : Int32)) (fun (y1 : Int32) => (27, [some (.ref 114), some (.int v1), some (.int v2), some (.int v3), some (.int v4), some (.long v5), none, some (.int v7), some (.int y1), none], [], M)) hF (i := .istore 8) rfl (fun _ => rfl) (fun y1 => ?_)
  refine dp_s1 hF (i := .aload_n 0) rfl (fun _ => rfl) ?_
  refine dp_s1 hF (i := .getfield 365) rfl (fun _ => rfl) ?_
  refine dp_s1 hF (i := .aload_n 0) rfl (fun _ => rfl) ?_
  refine dp_s1 hF (i := .getfield 371) rfl (fun _ => rfl) ?_
  refine dp_s1 hF (i := .iload 7) rfl (fun _ => rfl) ?_
  refine dp_s3 hF (i := .iaload) rfl (fun _ => rfl) ?_
  refine dp_s3 hF (i := .iaload) rfl (fun _ => rfl) ?_
  refine dp_s1 hF (i := .iload_n 1) rfl (fun _ => rfl) ?_
  refine dp_s2 hF (i := .if_icmp .ne 37) (a := (43, [some (.ref 114), some (.int v1), some (.int v2), some (.int v3), some (.int v4), some (.long v5), none, some (.int v7), some (.int y1), none], [], M)) (b := (77, [some (.ref 114), some (.int v1), some (.int v2), some (.int v3), some (.int v4), some (.long v5), none, some (.int v7), some (.int y1), none], [], M)) rfl (fun _ => rfl) ?_ ?_
  · refine dp_s1 hF (i := .aload_n 0) rfl (fun _ => rfl) ?_
    refine dp_s1 hF (i := .getfield 347) rfl (fun _ => rfl) ?_
    refine dp_s1 hF (i := .iload 8) rfl (fun _ => rfl) ?_
    refine dp_s3 hF (i := .iaload) rfl (fun _ => rfl) ?_
    refine dp_s1 hF (i := .i2l) rfl (fun _ => rfl) ?_
    refine dp_s1 hF (i := .iload_n 2) rfl (fun _ => rfl) ?_
    refine dp_s1 hF (i := .i2l) rfl (fun _ => rfl) ?_
    refine dp_s1 hF (i := .iload_n 3) rfl (fun _ => rfl) ?_
    refine dp_s1 hF (i := .i2l) rfl (fun _ => rfl) ?_
    refine dp_si (mj := dp_m_X12_in) (i := .invokestatic 446) rfl rfl (Or.inr rfl) rfl (fun _ => rfl) (fun r3 M2 => ?_)
    refine dp_s2 hF (i := .ifCond .eq 19) (a := (77, [some (.ref 114), some (.int v1), some (.int v2), some (.int v3), some (.int v4), some (.long v5), none, some (.int v7), some (.int y1), none], [], M2)) (b := (61, [some (.ref 114), some (.int v1), some (.int v2), some (.int v3), some (.int v4), some (.long v5), none, some (.int v7), some (.int y1), none], [], M2)) rfl (fun _ => rfl) ?_ ?_
    · refine dp_s1 hF (i := .iconst 0) rfl (fun _ => rfl) ?_
      exact rfl
    refine dp_s1 hF (i := .aload_n 0) rfl (fun _ => rfl) ?_
    refine dp_s1 hF (i := .getfield 350) rfl (fun _ => rfl) ?_
    refine dp_s1 hF (i := .iload 8) rfl (fun _ => rfl) ?_
    refine dp_s3 hF (i := .iaload) rfl (fun _ => rfl) ?_
    refine dp_s1 hF (i := .iload 4) rfl (fun _ => rfl) ?_
    refine dp_s2 hF (i := .if_icmp .gt 7) (a := (77, [some (.ref 114), some (.int v1), some (.int v2), some (.int v3), some (.int v4), some (.long v5), none, some (.int v7), some (.int y1), none], [], M2)) (b := (73, [some (.ref 114), some (.int v1), some (.int v2), some (.int v3), some (.int v4), some (.long v5), none, some (.int v7), some (.int y1), none], [], M2)) rfl (fun _ => rfl) ?_ ?_
    · refine dp_s1 hF (i := .iconst 0) rfl (fun _ => rfl) ?_
      exact rfl
    refine dp_s1 hF (i := .iconst 1) rfl (fun _ => rfl) ?_
    refine dp_s1 hF (i := .goto 4) rfl (fun _ => rfl) ?_
    exact rfl
  refine dp_s1 hF (i := .iconst 0) rfl (fun _ => rfl) ?_
  exact rfl
set_option maxRecDepth 20000 in
theorem D_X12_sumOf_78_eq (xs : Nat → Int32) (xl d : Nat) (v1 : Int32) (v2 : Int32) (v3 : Int32) (v4 : Int32) (v5 : Int64) (v7 : Int32) (v8 : Int32) (vs0 : Int32) (M : dp_M) : D_X12_sumOf_78 xs xl d v1 v2 v3 v4 v5 v7 v8 vs0 M = if vs0 = 0 then (dp_w (v5 + (0 : Int64)) (fun y1 => dp_w (v7 + (1 : Int32)) (fun y2 => D_X12_sumOf_6_a xs xl d v1 v2 v3 v4 y1 y2 v8 vs0 M))) else (if v7 < 0 ∨ 4000 ≤ Int32.toNatClampNeg v7 then none else (if (dp_I M 230 (Int32.toNatClampNeg v7)) < 0 ∨ 16020 ≤ Int32.toNatClampNeg (dp_I M 230 (Int32.toNatClampNeg v7)) then none else (dp_w (v5 + (dp_J M 229 (Int32.toNatClampNeg (dp_I M 230 (Int32.toNatClampNeg v7))))) (fun y3 => dp_w (v7 + (1 : Int32)) (fun y4 => D_X12_sumOf_6_a xs xl d v1 v2 v3 v4 y3 y4 v8 vs0 M))))) := by
  have hF := dp_den_grow (md := true) (xs := xs) (xl := xl) d
  unfold D_X12_sumOf_78
  refine dp_s1 hF (i := .istore 9) rfl (fun _ => rfl) ?_
  refine dp_s1 hF (i := .lload 5) rfl (fun _ => rfl) ?_
  refine dp_s1 hF (i := .iload 9) rfl (fun _ => rfl) ?_
  refine dp_s2 hF (i := .ifCond .eq 18) (a := (102, [some (.ref 114), some (.int v1), some (.int v2), some (.int v3), some (.int v4), some (.long v5), none, some (.int v7), some (.int v8), some (.int vs0)], [.long v5], M)) (b := (87, [some (.ref 114), some (.int v1), some (.int v2), some (.int v3), some (.int v4), some (.long v5), none, some (.int v7), some (.int v8), some (.int vs0)], [.long v5], M)) rfl (fun _ => rfl) ?_ ?_
  · refine dp_s1 hF (i := .lconst 0) rfl (fun _ => rfl) ?_
    refine dp_s1 hF (i := .ladd) rfl (fun _ => rfl) ?_
    refine dp_s1w (v5 + (0 : Int64)) (fun (y1 : Int64) => (106, [some (.ref 114), some (.int v1), some (.int v2), some (.int v3), some (.int v4), some (.long y1), none, some (.int v7), some (.int v8), some (.int vs0)], [], M)) hF (i := .lstore 5) rfl (fun _ => rfl) (fun y1 => ?_)
    refine dp_s1w (v7 + (1 : Int32)) (fun (y2 : Int32) => (109, [some (.ref 114), some (.int v1), some (.int v2), some (.int v3), some (.int v4), some (.long y1), none, some (.int y2), some (.int v8), some (.int vs0)], [], M)) hF (i := .iinc 7 1) rfl (fun _ => rfl) (fun y2 => ?_)
    refine dp_s1 hF (i := .goto (-103)) rfl (fun _ => rfl) ?_
    exact rfl
  refine dp_s1 hF (i := .aload_n 0) rfl (fun _ => rfl) ?_
  refine dp_s1 hF (i := .getfield 368) rfl (fun _ => rfl) ?_
  refine dp_s1 hF (i := .aload_n 0) rfl (fun _ => rfl) ?_
  refine dp_s1 hF (i := .getfield 371) rfl (fun _ => rfl) ?_
  refine dp_s1 hF (i := .iload 7) rfl (fun _ => rfl) ?_
  refine dp_s3 hF (i := .iaload) rfl (fun _ => rfl) ?_
  refine dp_s3 hF (i := .laload) rfl (fun _ => rfl) ?_
  refine dp_s1 hF (i := .goto 4) rfl (fun _ => rfl) ?_
  refine dp_s1 hF (i := .ladd) rfl (fun _ => rfl) ?_
  refine dp_s1w (v5 + (dp_J M 229 (Int32.toNatClampNeg (dp_I M 230 (Int32.toNatClampNeg v7))))) (fun (y3 : Int64) => (106, [some (.ref 114), some (.int v1), some (.int v2), some (.int v3), some (.int v4), some (.long y3), none, some (.int v7), some (.int v8), some (.int vs0)], [], M)) hF (i := .lstore 5) rfl (fun _ => rfl) (fun y3 => ?_)
  refine dp_s1w (v7 + (1 : Int32)) (fun (y4 : Int32) => (109, [some (.ref 114), some (.int v1), some (.int v2), some (.int v3), some (.int v4), some (.long y3), none, some (.int y4), some (.int v8), some (.int vs0)], [], M)) hF (i := .iinc 7 1) rfl (fun _ => rfl) (fun y4 => ?_)
  refine dp_s1 hF (i := .goto (-103)) rfl (fun _ => rfl) ?_
  exact rfl
set_option maxRecDepth 20000 in
theorem D_X12_sumOf_6_a_eq (xs : Nat → Int32) (xl d : Nat) (v1 : Int32) (v2 : Int32) (v3 : Int32) (v4 : Int32) (v5 : Int64) (v7 : Int32) (v8 : Int32) (v9 : Int32) (M : dp_M) : D_X12_sumOf_6_a xs xl d v1 v2 v3 v4 v5 v7 v8 v9 M = if (dp_I M 114 142) ≤ v7 then (some (.inl (some (.long v5)), M)) else (if v7 < 0 ∨ 4000 ≤ Int32.toNatClampNeg v7 then none else (dp_w ((dp_I M 230 (Int32.toNatClampNeg v7)) / (20 : Int32)) (fun y1 => if v7 < 0 ∨ 4000 ≤ Int32.toNatClampNeg v7 then none else (if (dp_I M 230 (Int32.toNatClampNeg v7)) < 0 ∨ 16020 ≤ Int32.toNatClampNeg (dp_I M 230 (Int32.toNatClampNeg v7)) then none else (if (dp_I M 228 (Int32.toNatClampNeg (dp_I M 230 (Int32.toNatClampNeg v7)))) = v1 then (if y1 < 0 ∨ 801 ≤ Int32.toNatClampNeg y1 then none else (dp_bi (dp_den true xs xl d 367 [.long (Int32.toInt64 (dp_I M 222 (Int32.toNatClampNeg y1))), .long (Int32.toInt64 v2), .long (Int32.toInt64 v3)] M) (fun r3 M2 => if r3 = 0 then (D_X12_sumOf_78_a xs xl d v1 v2 v3 v4 v5 v7 y1 v9 (0 : Int32) M2) else (if y1 < 0 ∨ 801 ≤ Int32.toNatClampNeg y1 then none else (if v4 < (dp_I M2 223 (Int32.toNatClampNeg y1)) then (D_X12_sumOf_78_a xs xl d v1 v2 v3 v4 v5 v7 y1 v9 (0 : Int32) M2) else (D_X12_sumOf_78_a xs xl d v1 v2 v3 v4 v5 v7 y1 v9 (1 : Int32) M2)))))) else (D_X12_sumOf_78_a xs xl d v1 v2 v3 v4 v5 v7 y1 v9 (0 : Int32) M)))))) := by
  have hF := dp_den_grow (md := true) (xs := xs) (xl := xl) d
  unfold D_X12_sumOf_6_a
  refine dp_s1 hF (i := .iload 7) rfl (fun _ => rfl) ?_
  refine dp_s1 hF (i := .aload_n 0) rfl (fun _ => rfl) ?_
  refine dp_s1 hF (i := .getfield 992) rfl (fun _ => rfl) ?_
  refine dp_s2 hF (i := .if_icmp .ge 100) (a := (112, [some (.ref 114), some (.int v1), some (.int v2), some (.int v3), some (.int v4), some (.long v5), none, some (.int v7), some (.int v8), some (.int v9)], [], M)) (b := (15, [some (.ref 114), some (.int v1), some (.int v2), some (.int v3), some (.int v4), some (.long v5), none, some (.int v7), some (.int v8), some (.int v9)], [], M)) rfl (fun _ => rfl) ?_ ?_
  · refine dp_s1 hF (i := .lload 5) rfl (fun _ => rfl) ?_
    exact dp_s0 hF (i := .lreturn) rfl (fun _ => rfl)
  refine dp_s1 hF (i := .aload_n 0) rfl (fun _ => rfl) ?_
  refine dp_s1 hF (i := .getfield 371) rfl (fun _ => rfl) ?_
  refine dp_s1 hF (i := .iload 7) rfl (fun _ => rfl) ?_
  refine dp_s3 hF (i := .iaload) rfl (fun _ => rfl) ?_
  refine dp_s1 hF (i := .bipush 20) rfl (fun _ => rfl) ?_
  refine dp_s1 hF (i := .idiv) rfl (fun _ => rfl) ?_
  refine dp_s1w ((dp_I M 230 (Int32.toNatClampNeg v7)) / (20 : Int32)) (fun (y1 : Int32) => (27, [some (.ref 114), some (.int v1), some (.int v2), some (.int v3), some (.int v4), some (.long v5), none, some (.int v7), some (.int y1), some (.int v9)], [], M)) hF (i := .istore 8) rfl (fun _ => rfl) (fun y1 => ?_)
  refine dp_s1 hF (i := .aload_n 0) rfl (fun _ => rfl) ?_
  refine dp_s1 hF (i := .getfield 365) rfl (fun _ => rfl) ?_
  refine dp_s1 hF (i := .aload_n 0) rfl (fun _ => rfl) ?_
  refine dp_s1 hF (i := .getfield 371) rfl (fun _ => rfl) ?_
  refine dp_s1 hF (i := .iload 7) rfl (fun _ => rfl) ?_
  refine dp_s3 hF (i := .iaload) rfl (fun _ => rfl) ?_
  refine dp_s3 hF (i := .iaload) rfl (fun _ => rfl) ?_
  refine dp_s1 hF (i := .iload_n 1) rfl (fun _ => rfl) ?_
  refine dp_s2 hF (i := .if_icmp .ne 37) (a := (43, [some (.ref 114), some (.int v1), some (.int v2), some (.int v3), some (.int v4), some (.long v5), none, some (.int v7), some (.int y1), some (.int v9)], [], M)) (b := (77, [some (.ref 114), some (.int v1), some (.int v2), some (.int v3), some (.int v4), some (.long v5), none, some (.int v7), some (.int y1), some (.int v9)], [], M)) rfl (fun _ => rfl) ?_ ?_
  · refine dp_s1 hF (i := .aload_n 0) rfl (fun _ => rfl) ?_
    refine dp_s1 hF (i := .getfield 347) rfl (fun _ => rfl) ?_
    refine dp_s1 hF (i := .iload 8) rfl (fun _ => rfl) ?_
    refine dp_s3 hF (i := .iaload) rfl (fun _ => rfl) ?_
    refine dp_s1 hF (i := .i2l) rfl (fun _ => rfl) ?_
    refine dp_s1 hF (i := .iload_n 2) rfl (fun _ => rfl) ?_
    refine dp_s1 hF (i := .i2l) rfl (fun _ => rfl) ?_
    refine dp_s1 hF (i := .iload_n 3) rfl (fun _ => rfl) ?_
    refine dp_s1 hF (i := .i2l) rfl (fun _ => rfl) ?_
    refine dp_si (mj := dp_m_X12_in) (i := .invokestatic 446) rfl rfl (Or.inr rfl) rfl (fun _ => rfl) (fun r3 M2 => ?_)
    refine dp_s2 hF (i := .ifCond .eq 19) (a := (77, [some (.ref 114), some (.int v1), some (.int v2), some (.int v3), some (.int v4), some (.long v5), none, some (.int v7), some (.int y1), some (.int v9)], [], M2)) (b := (61, [some (.ref 114), some (.int v1), some (.int v2), some (.int v3), some (.int v4), some (.long v5), none, some (.int v7), some (.int y1), some (.int v9)], [], M2)) rfl (fun _ => rfl) ?_ ?_
    · refine dp_s1 hF (i := .iconst 0) rfl (fun _ => rfl) ?_
      exact rfl
    refine dp_s1 hF (i := .aload_n 0) rfl (fun _ => rfl) ?_
    refine dp_s1 hF (i := .getfield 350) rfl (fun _ => rfl) ?_
    refine dp_s1 hF (i := .iload 8) rfl (fun _ => rfl) ?_
    refine dp_s3 hF (i := .iaload) rfl (fun _ => rfl) ?_
    refine dp_s1 hF (i := .iload 4) rfl (fun _ => rfl) ?_
    refine dp_s2 hF (i := .if_icmp .gt 7) (a := (77, [some (.ref 114), some (.int v1), some (.int v2), some (.int v3), some (.int v4), some (.long v5), none, some (.int v7), some (.int y1), some (.int v9)], [], M2)) (b := (73, [some (.ref 114), some (.int v1), some (.int v2), some (.int v3), some (.int v4), some (.long v5), none, some (.int v7), some (.int y1), some (.int v9)], [], M2)) rfl (fun _ => rfl) ?_ ?_
    · refine dp_s1 hF (i := .iconst 0) rfl (fun _ => rfl) ?_
      exact rfl
    refine dp_s1 hF (i := .iconst 1) rfl (fun _ => rfl) ?_
    refine dp_s1 hF (i := .goto 4) rfl (fun _ => rfl) ?_
    exact rfl
  refine dp_s1 hF (i := .iconst 0) rfl (fun _ => rfl) ?_
  exact rfl
set_option maxRecDepth 20000 in
theorem D_X12_sumOf_78_a_eq (xs : Nat → Int32) (xl d : Nat) (v1 : Int32) (v2 : Int32) (v3 : Int32) (v4 : Int32) (v5 : Int64) (v7 : Int32) (v8 : Int32) (v9 : Int32) (vs0 : Int32) (M : dp_M) : D_X12_sumOf_78_a xs xl d v1 v2 v3 v4 v5 v7 v8 v9 vs0 M = if vs0 = 0 then (dp_w (v5 + (0 : Int64)) (fun y1 => dp_w (v7 + (1 : Int32)) (fun y2 => D_X12_sumOf_6_a xs xl d v1 v2 v3 v4 y1 y2 v8 vs0 M))) else (if v7 < 0 ∨ 4000 ≤ Int32.toNatClampNeg v7 then none else (if (dp_I M 230 (Int32.toNatClampNeg v7)) < 0 ∨ 16020 ≤ Int32.toNatClampNeg (dp_I M 230 (Int32.toNatClampNeg v7)) then none else (dp_w (v5 + (dp_J M 229 (Int32.toNatClampNeg (dp_I M 230 (Int32.toNatClampNeg v7))))) (fun y3 => dp_w (v7 + (1 : Int32)) (fun y4 => D_X12_sumOf_6_a xs xl d v1 v2 v3 v4 y3 y4 v8 vs0 M))))) := by
  have hF := dp_den_grow (md := true) (xs := xs) (xl := xl) d
  unfold D_X12_sumOf_78_a
  refine dp_s1 hF (i := .istore 9) rfl (fun _ => rfl) ?_
  refine dp_s1 hF (i := .lload 5) rfl (fun _ => rfl) ?_
  refine dp_s1 hF (i := .iload 9) rfl (fun _ => rfl) ?_
  refine dp_s2 hF (i := .ifCond .eq 18) (a := (102, [some (.ref 114), some (.int v1), some (.int v2), some (.int v3), some (.int v4), some (.long v5), none, some (.int v7), some (.int v8), some (.int vs0)], [.long v5], M)) (b := (87, [some (.ref 114), some (.int v1), some (.int v2), some (.int v3), some (.int v4), some (.long v5), none, some (.int v7), some (.int v8), some (.int vs0)], [.long v5], M)) rfl (fun _ => rfl) ?_ ?_
  · refine dp_s1 hF (i := .lconst 0) rfl (fun _ => rfl) ?_
    refine dp_s1 hF (i := .ladd) rfl (fun _ => rfl) ?_
    refine dp_s1w (v5 + (0 : Int64)) (fun (y1 : Int64) => (106, [some (.ref 114), some (.int v1), some (.int v2), some (.int v3), some (.int v4), some (.long y1), none, some (.int v7), some (.int v8), some (.int vs0)], [], M)) hF (i := .lstore 5) rfl (fun _ => rfl) (fun y1 => ?_)
    refine dp_s1w (v7 + (1 : Int32)) (fun (y2 : Int32) => (109, [some (.ref 114), some (.int v1), some (.int v2), some (.int v3), some (.int v4), some (.long y1), none, some (.int y2), some (.int v8), some (.int vs0)], [], M)) hF (i := .iinc 7 1) rfl (fun _ => rfl) (fun y2 => ?_)
    refine dp_s1 hF (i := .goto (-103)) rfl (fun _ => rfl) ?_
    exact rfl
  refine dp_s1 hF (i := .aload_n 0) rfl (fun _ => rfl) ?_
  refine dp_s1 hF (i := .getfield 368) rfl (fun _ => rfl) ?_
  refine dp_s1 hF (i := .aload_n 0) rfl (fun _ => rfl) ?_
  refine dp_s1 hF (i := .getfield 371) rfl (fun _ => rfl) ?_
  refine dp_s1 hF (i := .iload 7) rfl (fun _ => rfl) ?_
  refine dp_s3 hF (i := .iaload) rfl (fun _ => rfl) ?_
  refine dp_s3 hF (i := .laload) rfl (fun _ => rfl) ?_
  refine dp_s1 hF (i := .goto 4) rfl (fun _ => rfl) ?_
  refine dp_s1 hF (i := .ladd) rfl (fun _ => rfl) ?_
  refine dp_s1w (v5 + (dp_J M 229 (Int32.toNatClampNeg (dp_I M 230 (Int32.toNatClampNeg v7))))) (fun (y3 : Int64) => (106, [some (.ref 114), some (.int v1), some (.int v2), some (.int v3), some (.int v4), some (.long y3), none, some (.int v7), some (.int v8), some (.int vs0)], [], M)) hF (i := .lstore 5) rfl (fun _ => rfl) (fun y3 => ?_)
  refine dp_s1w (v7 + (1 : Int32)) (fun (y4 : Int32) => (109, [some (.ref 114), some (.int v1), some (.int v2), some (.int v3), some (.int v4), some (.long y3), none, some (.int y4), some (.int v8), some (.int vs0)], [], M)) hF (i := .iinc 7 1) rfl (fun _ => rfl) (fun y4 => ?_)
  refine dp_s1 hF (i := .goto (-103)) rfl (fun _ => rfl) ?_
  exact rfl
noncomputable def D_X12_account_0 (xs : Nat → Int32) (xl d : Nat) (v1 : Int32) (v2 : Int32) (v3 : Int32) (M : dp_M) : Option dp_Res := dp_lim true xs xl (dp_den true xs xl d) dp_m_X12_account (0, [some (.ref 114), some (.int v1), some (.int v2), some (.int v3)], [], M)
noncomputable def D_X12_account_26 (xs : Nat → Int32) (xl d : Nat) (v1 : Int32) (v2 : Int32) (v3 : Int32) (M : dp_M) : Option dp_Res := dp_lim true xs xl (dp_den true xs xl d) dp_m_X12_account (26, [some (.ref 114), some (.int v1), some (.int v2), some (.int v3)], [.ref 114], M)
theorem D_X12_account_0_den (xs : Nat → Int32) (xl d : Nat) (a0 : Int32) (a1 : Int32) (a2 : Int32) (M : dp_M) : dp_den true xs xl (d + 1) 557 [.ref 114, .int a0, .int a1, .int a2] M = D_X12_account_0 xs xl d a0 a1 a2 M := rfl
set_option maxRecDepth 20000 in
theorem D_X12_account_0_eq (xs : Nat → Int32) (xl d : Nat) (v1 : Int32) (v2 : Int32) (v3 : Int32) (M : dp_M) : D_X12_account_0 xs xl d v1 v2 v3 M = dp_bi (dp_den true xs xl d 541 [.int v1] M) (fun r2 M1 => if r2 = 0 then (D_X12_account_26 xs xl d v1 v2 v3 M1) else (dp_bi (dp_den true xs xl d 540 [.int v2] M1) (fun r4 M3 => if r4 = 0 then (D_X12_account_26 xs xl d v1 v2 v3 M3) else (dp_bi (dp_den true xs xl d 540 [.int v3] M3) (fun r6 M5 => if r6 = 0 then (D_X12_account_26 xs xl d v1 v2 v3 M5) else (dp_w (dp_setI M5 114 0 (0 : Int32)) (fun M7 => if (dp_I M7 114 0) ≤ 0 then (dp_bl (dp_den true xs xl d 556 [.ref 114, .int v1, .int (0 : Int32), .int v2, .int v3] M7) (fun r9 M8 => some (.inl (some (.long r9)), M8))) else (some (.inl (some (.long (0 : Int64))), M7))))))))) := by
  have hF := dp_den_grow (md := true) (xs := xs) (xl := xl) d
  unfold D_X12_account_0
  refine dp_s1 hF (i := .aload_n 0) rfl (fun _ => rfl) ?_
  refine dp_s1 hF (i := .iload_n 1) rfl (fun _ => rfl) ?_
  refine dp_si (mj := dp_m_X12_isAccount) (i := .invokestatic 979) rfl rfl (Or.inr rfl) rfl (fun _ => rfl) (fun r2 M1 => ?_)
  refine dp_s2 hF (i := .ifCond .eq 21) (a := (26, [some (.ref 114), some (.int v1), some (.int v2), some (.int v3)], [.ref 114], M1)) (b := (8, [some (.ref 114), some (.int v1), some (.int v2), some (.int v3)], [.ref 114], M1)) rfl (fun _ => rfl) ?_ ?_
  · exact rfl
  refine dp_s1 hF (i := .iload_n 2) rfl (fun _ => rfl) ?_
  refine dp_si (mj := dp_m_X12_isLedgerDay) (i := .invokestatic 969) rfl rfl (Or.inr rfl) rfl (fun _ => rfl) (fun r4 M3 => ?_)
  refine dp_s2 hF (i := .ifCond .eq 14) (a := (26, [some (.ref 114), some (.int v1), some (.int v2), some (.int v3)], [.ref 114], M3)) (b := (15, [some (.ref 114), some (.int v1), some (.int v2), some (.int v3)], [.ref 114], M3)) rfl (fun _ => rfl) ?_ ?_
  · exact rfl
  refine dp_s1 hF (i := .iload_n 3) rfl (fun _ => rfl) ?_
  refine dp_si (mj := dp_m_X12_isLedgerDay) (i := .invokestatic 969) rfl rfl (Or.inr rfl) rfl (fun _ => rfl) (fun r6 M5 => ?_)
  refine dp_s2 hF (i := .ifCond .eq 7) (a := (26, [some (.ref 114), some (.int v1), some (.int v2), some (.int v3)], [.ref 114], M5)) (b := (22, [some (.ref 114), some (.int v1), some (.int v2), some (.int v3)], [.ref 114], M5)) rfl (fun _ => rfl) ?_ ?_
  · exact rfl
  refine dp_s1 hF (i := .iconst 0) rfl (fun _ => rfl) ?_
  refine dp_s1 hF (i := .goto 4) rfl (fun _ => rfl) ?_
  refine dp_s1w (dp_setI M5 114 0 (0 : Int32)) (fun (M7 : dp_M) => (30, [some (.ref 114), some (.int v1), some (.int v2), some (.int v3)], [], M7)) hF (i := .putfield 1) rfl (fun _ => rfl) (fun M7 => ?_)
  refine dp_s1 hF (i := .aload_n 0) rfl (fun _ => rfl) ?_
  refine dp_s1 hF (i := .getfield 1) rfl (fun _ => rfl) ?_
  refine dp_s2 hF (i := .ifCond .le 7) (a := (41, [some (.ref 114), some (.int v1), some (.int v2), some (.int v3)], [], M7)) (b := (37, [some (.ref 114), some (.int v1), some (.int v2), some (.int v3)], [], M7)) rfl (fun _ => rfl) ?_ ?_
  · refine dp_s1 hF (i := .aload_n 0) rfl (fun _ => rfl) ?_
    refine dp_s1 hF (i := .iload_n 1) rfl (fun _ => rfl) ?_
    refine dp_s1 hF (i := .iconst 0) rfl (fun _ => rfl) ?_
    refine dp_s1 hF (i := .iload_n 2) rfl (fun _ => rfl) ?_
    refine dp_s1 hF (i := .iload_n 3) rfl (fun _ => rfl) ?_
    refine dp_sl9 (mj := dp_m_X12_sumOf) (i := .invokevirtual 1010) rfl rfl rfl rfl (fun _ => rfl) (fun r9 M8 => ?_)
    exact dp_s0 hF (i := .lreturn) rfl (fun _ => rfl)
  refine dp_s1 hF (i := .lconst 0) rfl (fun _ => rfl) ?_
  refine dp_s1 hF (i := .goto 11) rfl (fun _ => rfl) ?_
  exact dp_s0 hF (i := .lreturn) rfl (fun _ => rfl)
set_option maxRecDepth 20000 in
theorem D_X12_account_26_eq (xs : Nat → Int32) (xl d : Nat) (v1 : Int32) (v2 : Int32) (v3 : Int32) (M : dp_M) : D_X12_account_26 xs xl d v1 v2 v3 M = dp_w (dp_setI M 114 0 (1 : Int32)) (fun M1 => if (dp_I M1 114 0) ≤ 0 then (dp_bl (dp_den true xs xl d 556 [.ref 114, .int v1, .int (0 : Int32), .int v2, .int v3] M1) (fun r3 M2 => some (.inl (some (.long r3)), M2))) else (some (.inl (some (.long (0 : Int64))), M1))) := by
  have hF := dp_den_grow (md := true) (xs := xs) (xl := xl) d
  unfold D_X12_account_26
  refine dp_s1 hF (i := .iconst 1) rfl (fun _ => rfl) ?_
  refine dp_s1w (dp_setI M 114 0 (1 : Int32)) (fun (M1 : dp_M) => (30, [some (.ref 114), some (.int v1), some (.int v2), some (.int v3)], [], M1)) hF (i := .putfield 1) rfl (fun _ => rfl) (fun M1 => ?_)
  refine dp_s1 hF (i := .aload_n 0) rfl (fun _ => rfl) ?_
  refine dp_s1 hF (i := .getfield 1) rfl (fun _ => rfl) ?_
  refine dp_s2 hF (i := .ifCond .le 7) (a := (41, [some (.ref 114), some (.int v1), some (.int v2), some (.int v3)], [], M1)) (b := (37, [some (.ref 114), some (.int v1), some (.int v2), some (.int v3)], [], M1)) rfl (fun _ => rfl) ?_ ?_
  · refine dp_s1 hF (i := .aload_n 0) rfl (fun _ => rfl) ?_
    refine dp_s1 hF (i := .iload_n 1) rfl (fun _ => rfl) ?_
    refine dp_s1 hF (i := .iconst 0) rfl (fun _ => rfl) ?_
    refine dp_s1 hF (i := .iload_n 2) rfl (fun _ => rfl) ?_
    refine dp_s1 hF (i := .iload_n 3) rfl (fun _ => rfl) ?_
    refine dp_sl9 (mj := dp_m_X12_sumOf) (i := .invokevirtual 1010) rfl rfl rfl rfl (fun _ => rfl) (fun r3 M2 => ?_)
    exact dp_s0 hF (i := .lreturn) rfl (fun _ => rfl)
  refine dp_s1 hF (i := .lconst 0) rfl (fun _ => rfl) ?_
  refine dp_s1 hF (i := .goto 11) rfl (fun _ => rfl) ?_
  exact dp_s0 hF (i := .lreturn) rfl (fun _ => rfl)
noncomputable def D_X12_statement_0 (xs : Nat → Int32) (xl d : Nat) (v1 : Int32) (v2 : Int32) (v3 : Int32) (M : dp_M) : Option dp_Res := dp_lim true xs xl (dp_den true xs xl d) dp_m_X12_statement (0, [some (.ref 114), some (.int v1), some (.int v2), some (.int v3)], [], M)
noncomputable def D_X12_statement_32 (xs : Nat → Int32) (xl d : Nat) (v1 : Int32) (v2 : Int32) (v3 : Int32) (vs0 : Int32) (M : dp_M) : Option dp_Res := dp_lim true xs xl (dp_den true xs xl d) dp_m_X12_statement (32, [some (.ref 114), some (.int v1), some (.int v2), some (.int v3)], [.int vs0, .ref 114], M)
theorem D_X12_statement_0_den (xs : Nat → Int32) (xl d : Nat) (a0 : Int32) (a1 : Int32) (a2 : Int32) (M : dp_M) : dp_den true xs xl (d + 1) 558 [.ref 114, .int a0, .int a1, .int a2] M = D_X12_statement_0 xs xl d a0 a1 a2 M := rfl
set_option maxRecDepth 20000 in
theorem D_X12_statement_0_eq (xs : Nat → Int32) (xl d : Nat) (v1 : Int32) (v2 : Int32) (v3 : Int32) (M : dp_M) : D_X12_statement_0 xs xl d v1 v2 v3 M = dp_bi (dp_den true xs xl d 541 [.int v1] M) (fun r2 M1 => if r2 = 0 then (D_X12_statement_32 xs xl d v1 v2 v3 (1 : Int32) M1) else (dp_bi (dp_den true xs xl d 367 [.long (Int32.toInt64 v2), .long (0 : Int64), .long (3333 : Int64)] M1) (fun r4 M3 => if r4 = 0 then (D_X12_statement_32 xs xl d v1 v2 v3 (1 : Int32) M3) else (dp_bi (dp_den true xs xl d 540 [.int v3] M3) (fun r6 M5 => if r6 = 0 then (D_X12_statement_32 xs xl d v1 v2 v3 (1 : Int32) M5) else (D_X12_statement_32 xs xl d v1 v2 v3 (0 : Int32) M5)))))) := by
  have hF := dp_den_grow (md := true) (xs := xs) (xl := xl) d
  unfold D_X12_statement_0
  refine dp_s1 hF (i := .aload_n 0) rfl (fun _ => rfl) ?_
  refine dp_s1 hF (i := .iload_n 1) rfl (fun _ => rfl) ?_
  refine dp_si (mj := dp_m_X12_isAccount) (i := .invokestatic 979) rfl rfl (Or.inr rfl) rfl (fun _ => rfl) (fun r2 M1 => ?_)
  refine dp_s2 hF (i := .ifCond .eq 26) (a := (31, [some (.ref 114), some (.int v1), some (.int v2), some (.int v3)], [.ref 114], M1)) (b := (8, [some (.ref 114), some (.int v1), some (.int v2), some (.int v3)], [.ref 114], M1)) rfl (fun _ => rfl) ?_ ?_
  · refine dp_s1 hF (i := .iconst 1) rfl (fun _ => rfl) ?_
    exact rfl
  refine dp_s1 hF (i := .iload_n 2) rfl (fun _ => rfl) ?_
  refine dp_s1 hF (i := .i2l) rfl (fun _ => rfl) ?_
  refine dp_s1 hF (i := .lconst 0) rfl (fun _ => rfl) ?_
  refine dp_s1 hF (i := .ldc2_w 1014) rfl (fun _ => rfl) ?_
  refine dp_si (mj := dp_m_X12_in) (i := .invokestatic 446) rfl rfl (Or.inr rfl) rfl (fun _ => rfl) (fun r4 M3 => ?_)
  refine dp_s2 hF (i := .ifCond .eq 14) (a := (31, [some (.ref 114), some (.int v1), some (.int v2), some (.int v3)], [.ref 114], M3)) (b := (20, [some (.ref 114), some (.int v1), some (.int v2), some (.int v3)], [.ref 114], M3)) rfl (fun _ => rfl) ?_ ?_
  · refine dp_s1 hF (i := .iconst 1) rfl (fun _ => rfl) ?_
    exact rfl
  refine dp_s1 hF (i := .iload_n 3) rfl (fun _ => rfl) ?_
  refine dp_si (mj := dp_m_X12_isLedgerDay) (i := .invokestatic 969) rfl rfl (Or.inr rfl) rfl (fun _ => rfl) (fun r6 M5 => ?_)
  refine dp_s2 hF (i := .ifCond .eq 7) (a := (31, [some (.ref 114), some (.int v1), some (.int v2), some (.int v3)], [.ref 114], M5)) (b := (27, [some (.ref 114), some (.int v1), some (.int v2), some (.int v3)], [.ref 114], M5)) rfl (fun _ => rfl) ?_ ?_
  · refine dp_s1 hF (i := .iconst 1) rfl (fun _ => rfl) ?_
    exact rfl
  refine dp_s1 hF (i := .iconst 0) rfl (fun _ => rfl) ?_
  refine dp_s1 hF (i := .goto 4) rfl (fun _ => rfl) ?_
  exact rfl
set_option maxRecDepth 20000 in
theorem D_X12_statement_32_eq (xs : Nat → Int32) (xl d : Nat) (v1 : Int32) (v2 : Int32) (v3 : Int32) (vs0 : Int32) (M : dp_M) : D_X12_statement_32 xs xl d v1 v2 v3 vs0 M = dp_w (dp_setI M 114 0 vs0) (fun M1 => if (dp_I M1 114 0) ≤ 0 then (dp_bl (dp_den true xs xl d 556 [.ref 114, .int v1, .int ((30 : Int32) * v2), .int (((30 : Int32) * v2) + (29 : Int32)), .int v3] M1) (fun r3 M2 => some (.inl (some (.long r3)), M2))) else (some (.inl (some (.long (0 : Int64))), M1))) := by
  have hF := dp_den_grow (md := true) (xs := xs) (xl := xl) d
  unfold D_X12_statement_32
  refine dp_s1w (dp_setI M 114 0 vs0) (fun (M1 : dp_M) => (35, [some (.ref 114), some (.int v1), some (.int v2), some (.int v3)], [], M1)) hF (i := .putfield 1) rfl (fun _ => rfl) (fun M1 => ?_)
  refine dp_s1 hF (i := .aload_n 0) rfl (fun _ => rfl) ?_
  refine dp_s1 hF (i := .getfield 1) rfl (fun _ => rfl) ?_
  refine dp_s2 hF (i := .ifCond .le 7) (a := (46, [some (.ref 114), some (.int v1), some (.int v2), some (.int v3)], [], M1)) (b := (42, [some (.ref 114), some (.int v1), some (.int v2), some (.int v3)], [], M1)) rfl (fun _ => rfl) ?_ ?_
  · refine dp_s1 hF (i := .aload_n 0) rfl (fun _ => rfl) ?_
    refine dp_s1 hF (i := .iload_n 1) rfl (fun _ => rfl) ?_
    refine dp_s1 hF (i := .bipush 30) rfl (fun _ => rfl) ?_
    refine dp_s1 hF (i := .iload_n 2) rfl (fun _ => rfl) ?_
    refine dp_s1 hF (i := .imul) rfl (fun _ => rfl) ?_
    refine dp_s1 hF (i := .bipush 30) rfl (fun _ => rfl) ?_
    refine dp_s1 hF (i := .iload_n 2) rfl (fun _ => rfl) ?_
    refine dp_s1 hF (i := .imul) rfl (fun _ => rfl) ?_
    refine dp_s1 hF (i := .bipush 29) rfl (fun _ => rfl) ?_
    refine dp_s1 hF (i := .iadd) rfl (fun _ => rfl) ?_
    refine dp_s1 hF (i := .iload_n 3) rfl (fun _ => rfl) ?_
    refine dp_sl9 (mj := dp_m_X12_sumOf) (i := .invokevirtual 1010) rfl rfl rfl rfl (fun _ => rfl) (fun r3 M2 => ?_)
    exact dp_s0 hF (i := .lreturn) rfl (fun _ => rfl)
  refine dp_s1 hF (i := .lconst 0) rfl (fun _ => rfl) ?_
  refine dp_s1 hF (i := .goto 20) rfl (fun _ => rfl) ?_
  exact dp_s0 hF (i := .lreturn) rfl (fun _ => rfl)
noncomputable def D_X12_isKind_0 (xs : Nat → Int32) (xl d : Nat) (v0 : Int32) (M : dp_M) : Option dp_Res := dp_lim true xs xl (dp_den true xs xl d) dp_m_X12_isKind (0, [some (.int v0)], [], M)
theorem D_X12_isKind_0_den (xs : Nat → Int32) (xl d : Nat) (a0 : Int32) (M : dp_M) : dp_den true xs xl (d + 1) 559 [.int a0] M = D_X12_isKind_0 xs xl d a0 M := rfl
set_option maxRecDepth 20000 in
theorem D_X12_isKind_0_eq (xs : Nat → Int32) (xl d : Nat) (v0 : Int32) (M : dp_M) : D_X12_isKind_0 xs xl d v0 M = dp_bi (dp_den true xs xl d 367 [.long (Int32.toInt64 v0), .long (0 : Int64), .long (3 : Int64)] M) (fun r2 M1 => if r2 = 0 ∨ r2 = 1 then some (.inl (some (.int r2)), M1) else none) := by
  have hF := dp_den_grow (md := true) (xs := xs) (xl := xl) d
  unfold D_X12_isKind_0
  refine dp_s1 hF (i := .iload_n 0) rfl (fun _ => rfl) ?_
  refine dp_s1 hF (i := .i2l) rfl (fun _ => rfl) ?_
  refine dp_s1 hF (i := .lconst 0) rfl (fun _ => rfl) ?_
  refine dp_s1 hF (i := .ldc2_w 529) rfl (fun _ => rfl) ?_
  refine dp_si (mj := dp_m_X12_in) (i := .invokestatic 446) rfl rfl (Or.inr rfl) rfl (fun _ => rfl) (fun r2 M1 => ?_)
  exact dp_s0 hF (i := .ireturn) rfl (fun _ => rfl)
noncomputable def D_X12_share_0 (xs : Nat → Int32) (xl d : Nat) (v1 : Int32) (v2 : Int32) (v3 : Int32) (M : dp_M) : Option dp_Res := dp_lim true xs xl (dp_den true xs xl d) dp_m_X12_share (0, [some (.ref 114), some (.int v1), some (.int v2), some (.int v3)], [], M)
theorem D_X12_share_0_den (xs : Nat → Int32) (xl d : Nat) (a0 : Int32) (a1 : Int32) (a2 : Int32) (M : dp_M) : dp_den true xs xl (d + 1) 560 [.ref 114, .int a0, .int a1, .int a2] M = D_X12_share_0 xs xl d a0 a1 a2 M := rfl
set_option maxRecDepth 20000 in
theorem D_X12_share_0_eq (xs : Nat → Int32) (xl d : Nat) (v1 : Int32) (v2 : Int32) (v3 : Int32) (M : dp_M) : D_X12_share_0 xs xl d v1 v2 v3 M = dp_w (dp_setI M 114 0 (0 : Int32)) (fun M1 => dp_bi (dp_den true xs xl d 559 [.int v1] M1) (fun r3 M2 => if r3 = 0 then (some (.inl (some (.int (0 : Int32))), M2)) else (dp_bi (dp_den true xs xl d 367 [.long (Int32.toInt64 v2), .long (0 : Int64), .long (3 : Int64)] M2) (fun r5 M4 => if r5 = 0 then (some (.inl (some (.int (0 : Int32))), M4)) else (dp_bi (dp_den true xs xl d 367 [.long (Int32.toInt64 v3), .long (0 : Int64), .long (1000 : Int64)] M4) (fun r7 M6 => if r7 = 0 then (some (.inl (some (.int (0 : Int32))), M6)) else (if (((4 : Int32) * v1) + v2) < 0 ∨ 16 ≤ Int32.toNatClampNeg (((4 : Int32) * v1) + v2) then none else dp_w (dp_setI M6 231 (Int32.toNatClampNeg (((4 : Int32) * v1) + v2)) v3) (fun M8 => some (.inl (some (.int (1 : Int32))), M8))))))))) := by
  have hF := dp_den_grow (md := true) (xs := xs) (xl := xl) d
  unfold D_X12_share_0
  refine dp_s1 hF (i := .aload_n 0) rfl (fun _ => rfl) ?_
  refine dp_s1 hF (i := .iconst 0) rfl (fun _ => rfl) ?_
  refine dp_s1w (dp_setI M 114 0 (0 : Int32)) (fun (M1 : dp_M) => (5, [some (.ref 114), some (.int v1), some (.int v2), some (.int v3)], [], M1)) hF (i := .putfield 1) rfl (fun _ => rfl) (fun M1 => ?_)
  refine dp_s1 hF (i := .iload_n 1) rfl (fun _ => rfl) ?_
  refine dp_si (mj := dp_m_X12_isKind) (i := .invokestatic 1016) rfl rfl (Or.inr rfl) rfl (fun _ => rfl) (fun r3 M2 => ?_)
  refine dp_s2 hF (i := .ifCond .eq 27) (a := (36, [some (.ref 114), some (.int v1), some (.int v2), some (.int v3)], [], M2)) (b := (12, [some (.ref 114), some (.int v1), some (.int v2), some (.int v3)], [], M2)) rfl (fun _ => rfl) ?_ ?_
  · refine dp_s1 hF (i := .iconst 0) rfl (fun _ => rfl) ?_
    exact dp_s0 hF (i := .ireturn) rfl (fun _ => rfl)
  refine dp_s1 hF (i := .iload_n 2) rfl (fun _ => rfl) ?_
  refine dp_s1 hF (i := .i2l) rfl (fun _ => rfl) ?_
  refine dp_s1 hF (i := .lconst 0) rfl (fun _ => rfl) ?_
  refine dp_s1 hF (i := .ldc2_w 529) rfl (fun _ => rfl) ?_
  refine dp_si (mj := dp_m_X12_in) (i := .invokestatic 446) rfl rfl (Or.inr rfl) rfl (fun _ => rfl) (fun r5 M4 => ?_)
  refine dp_s2 hF (i := .ifCond .eq 15) (a := (36, [some (.ref 114), some (.int v1), some (.int v2), some (.int v3)], [], M4)) (b := (24, [some (.ref 114), some (.int v1), some (.int v2), some (.int v3)], [], M4)) rfl (fun _ => rfl) ?_ ?_
  · refine dp_s1 hF (i := .iconst 0) rfl (fun _ => rfl) ?_
    exact dp_s0 hF (i := .ireturn) rfl (fun _ => rfl)
  refine dp_s1 hF (i := .iload_n 3) rfl (fun _ => rfl) ?_
  refine dp_s1 hF (i := .i2l) rfl (fun _ => rfl) ?_
  refine dp_s1 hF (i := .lconst 0) rfl (fun _ => rfl) ?_
  refine dp_s1 hF (i := .ldc2_w 456) rfl (fun _ => rfl) ?_
  refine dp_si (mj := dp_m_X12_in) (i := .invokestatic 446) rfl rfl (Or.inr rfl) rfl (fun _ => rfl) (fun r7 M6 => ?_)
  refine dp_s2 hF (i := .ifCond .ne 5) (a := (36, [some (.ref 114), some (.int v1), some (.int v2), some (.int v3)], [], M6)) (b := (38, [some (.ref 114), some (.int v1), some (.int v2), some (.int v3)], [], M6)) rfl (fun _ => rfl) ?_ ?_
  · refine dp_s1 hF (i := .iconst 0) rfl (fun _ => rfl) ?_
    exact dp_s0 hF (i := .ireturn) rfl (fun _ => rfl)
  refine dp_s1 hF (i := .aload_n 0) rfl (fun _ => rfl) ?_
  refine dp_s1 hF (i := .getfield 374) rfl (fun _ => rfl) ?_
  refine dp_s1 hF (i := .iconst 4) rfl (fun _ => rfl) ?_
  refine dp_s1 hF (i := .iload_n 1) rfl (fun _ => rfl) ?_
  refine dp_s1 hF (i := .imul) rfl (fun _ => rfl) ?_
  refine dp_s1 hF (i := .iload_n 2) rfl (fun _ => rfl) ?_
  refine dp_s1 hF (i := .iadd) rfl (fun _ => rfl) ?_
  refine dp_s1 hF (i := .iload_n 3) rfl (fun _ => rfl) ?_
  refine dp_s3w (dp_setI M6 231 (Int32.toNatClampNeg (((4 : Int32) * v1) + v2)) v3) (fun (M8 : dp_M) => (49, [some (.ref 114), some (.int v1), some (.int v2), some (.int v3)], [], M8)) hF (i := .iastore) rfl (fun _ => rfl) (fun M8 => ?_)
  refine dp_s1 hF (i := .iconst 1) rfl (fun _ => rfl) ?_
  exact dp_s0 hF (i := .ireturn) rfl (fun _ => rfl)
noncomputable def D_X12_cost_0 (xs : Nat → Int32) (xl d : Nat) (v1 : Int32) (v2 : Int32) (M : dp_M) : Option dp_Res := dp_lim true xs xl (dp_den true xs xl d) dp_m_X12_cost (0, [some (.ref 114), some (.int v1), some (.int v2)], [], M)
theorem D_X12_cost_0_den (xs : Nat → Int32) (xl d : Nat) (a0 : Int32) (a1 : Int32) (M : dp_M) : dp_den true xs xl (d + 1) 561 [.ref 114, .int a0, .int a1] M = D_X12_cost_0 xs xl d a0 a1 M := rfl
set_option maxRecDepth 20000 in
theorem D_X12_cost_0_eq (xs : Nat → Int32) (xl d : Nat) (v1 : Int32) (v2 : Int32) (M : dp_M) : D_X12_cost_0 xs xl d v1 v2 M = dp_w (dp_setI M 114 0 (0 : Int32)) (fun M1 => dp_bi (dp_den true xs xl d 559 [.int v1] M1) (fun r3 M2 => if r3 = 0 then (some (.inl (some (.int (0 : Int32))), M2)) else (dp_bi (dp_den true xs xl d 367 [.long (Int32.toInt64 v2), .long (0 : Int64), .long (1000 : Int64)] M2) (fun r5 M4 => if r5 = 0 then (some (.inl (some (.int (0 : Int32))), M4)) else (if v1 < 0 ∨ 4 ≤ Int32.toNatClampNeg v1 then none else dp_w (dp_setI M4 232 (Int32.toNatClampNeg v1) v2) (fun M6 => some (.inl (some (.int (1 : Int32))), M6))))))) := by
  have hF := dp_den_grow (md := true) (xs := xs) (xl := xl) d
  unfold D_X12_cost_0
  refine dp_s1 hF (i := .aload_n 0) rfl (fun _ => rfl) ?_
  refine dp_s1 hF (i := .iconst 0) rfl (fun _ => rfl) ?_
  refine dp_s1w (dp_setI M 114 0 (0 : Int32)) (fun (M1 : dp_M) => (5, [some (.ref 114), some (.int v1), some (.int v2)], [], M1)) hF (i := .putfield 1) rfl (fun _ => rfl) (fun M1 => ?_)
  refine dp_s1 hF (i := .iload_n 1) rfl (fun _ => rfl) ?_
  refine dp_si (mj := dp_m_X12_isKind) (i := .invokestatic 1016) rfl rfl (Or.inr rfl) rfl (fun _ => rfl) (fun r3 M2 => ?_)
  refine dp_s2 hF (i := .ifCond .eq 15) (a := (24, [some (.ref 114), some (.int v1), some (.int v2)], [], M2)) (b := (12, [some (.ref 114), some (.int v1), some (.int v2)], [], M2)) rfl (fun _ => rfl) ?_ ?_
  · refine dp_s1 hF (i := .iconst 0) rfl (fun _ => rfl) ?_
    exact dp_s0 hF (i := .ireturn) rfl (fun _ => rfl)
  refine dp_s1 hF (i := .iload_n 2) rfl (fun _ => rfl) ?_
  refine dp_s1 hF (i := .i2l) rfl (fun _ => rfl) ?_
  refine dp_s1 hF (i := .lconst 0) rfl (fun _ => rfl) ?_
  refine dp_s1 hF (i := .ldc2_w 456) rfl (fun _ => rfl) ?_
  refine dp_si (mj := dp_m_X12_in) (i := .invokestatic 446) rfl rfl (Or.inr rfl) rfl (fun _ => rfl) (fun r5 M4 => ?_)
  refine dp_s2 hF (i := .ifCond .ne 5) (a := (24, [some (.ref 114), some (.int v1), some (.int v2)], [], M4)) (b := (26, [some (.ref 114), some (.int v1), some (.int v2)], [], M4)) rfl (fun _ => rfl) ?_ ?_
  · refine dp_s1 hF (i := .iconst 0) rfl (fun _ => rfl) ?_
    exact dp_s0 hF (i := .ireturn) rfl (fun _ => rfl)
  refine dp_s1 hF (i := .aload_n 0) rfl (fun _ => rfl) ?_
  refine dp_s1 hF (i := .getfield 377) rfl (fun _ => rfl) ?_
  refine dp_s1 hF (i := .iload_n 1) rfl (fun _ => rfl) ?_
  refine dp_s1 hF (i := .iload_n 2) rfl (fun _ => rfl) ?_
  refine dp_s3w (dp_setI M4 232 (Int32.toNatClampNeg v1) v2) (fun (M6 : dp_M) => (33, [some (.ref 114), some (.int v1), some (.int v2)], [], M6)) hF (i := .iastore) rfl (fun _ => rfl) (fun M6 => ?_)
  refine dp_s1 hF (i := .iconst 1) rfl (fun _ => rfl) ?_
  exact dp_s0 hF (i := .ireturn) rfl (fun _ => rfl)
noncomputable def D_X12_shareOf_0 (xs : Nat → Int32) (xl d : Nat) (v1 : Int32) (v2 : Int32) (v3 : Int64) (M : dp_M) : Option dp_Res := dp_lim true xs xl (dp_den true xs xl d) dp_m_X12_shareOf (0, [some (.ref 114), some (.int v1), some (.int v2), some (.long v3), none, none, none, none, none, none, none, none, none, none], [], M)
noncomputable def D_X12_shareOf_6 (xs : Nat → Int32) (xl d : Nat) (v1 : Int32) (v2 : Int32) (v3 : Int64) (v5 : Int32) (v6 : Int32) (M : dp_M) : Option dp_Res := dp_lim true xs xl (dp_den true xs xl d) dp_m_X12_shareOf (6, [some (.ref 114), some (.int v1), some (.int v2), some (.long v3), none, some (.int v5), some (.int v6), none, none, none, none, none, none, none], [], M)
noncomputable def D_X12_shareOf_69 (xs : Nat → Int32) (xl d : Nat) (v1 : Int32) (v2 : Int32) (v3 : Int64) (v5 : Int32) (v6 : Int64) (v8 : Int32) (v9 : Int64) (v11 : Int32) (M : dp_M) : Option dp_Res := dp_lim true xs xl (dp_den true xs xl d) dp_m_X12_shareOf (69, [some (.ref 114), some (.int v1), some (.int v2), some (.long v3), none, some (.int v5), some (.long v6), none, some (.int v8), some (.long v9), none, some (.int v11), none, none], [], M)
noncomputable def D_X12_shareOf_69_a (xs : Nat → Int32) (xl d : Nat) (v1 : Int32) (v2 : Int32) (v3 : Int64) (v5 : Int32) (v6 : Int64) (v8 : Int32) (v9 : Int64) (v11 : Int32) (v12 : Int64) (M : dp_M) : Option dp_Res := dp_lim true xs xl (dp_den true xs xl d) dp_m_X12_shareOf (69, [some (.ref 114), some (.int v1), some (.int v2), some (.long v3), none, some (.int v5), some (.long v6), none, some (.int v8), some (.long v9), none, some (.int v11), some (.long v12), none], [], M)
theorem D_X12_shareOf_0_den (xs : Nat → Int32) (xl d : Nat) (a0 : Int32) (a1 : Int32) (a2 : Int64) (M : dp_M) : dp_den true xs xl (d + 1) 562 [.ref 114, .int a0, .int a1, .long a2] M = D_X12_shareOf_0 xs xl d a0 a1 a2 M := rfl
set_option maxRecDepth 20000 in
theorem D_X12_shareOf_0_eq (xs : Nat → Int32) (xl d : Nat) (v1 : Int32) (v2 : Int32) (v3 : Int64) (M : dp_M) : D_X12_shareOf_0 xs xl d v1 v2 v3 M = dp_w (0 : Int32) (fun y1 => dp_w (0 : Int32) (fun y2 => D_X12_shareOf_6 xs xl d v1 v2 v3 y1 y2 M)) := by
  have hF := dp_den_grow (md := true) (xs := xs) (xl := xl) d
  unfold D_X12_shareOf_0
  refine dp_s1 hF (i := .iconst 0) rfl (fun _ => rfl) ?_
  refine dp_s1w (0 : Int32) (fun (y1 : Int32) => (3, [some (.ref 114), some (.int v1), some (.int v2), some (.long v3), none, some (.int y1), none, none, none, none, none, none, none, none], [], M)) hF (i := .istore 5) rfl (fun _ => rfl) (fun y1 => ?_)
  refine dp_s1 hF (i := .iconst 0) rfl (fun _ => rfl) ?_
  refine dp_s1w (0 : Int32) (fun (y2 : Int32) => (6, [some (.ref 114), some (.int v1), some (.int v2), some (.long v3), none, some (.int y1), some (.int y2), none, none, none, none, none, none, none], [], M)) hF (i := .istore 6) rfl (fun _ => rfl) (fun y2 => ?_)
  exact rfl
set_option maxRecDepth 20000 in
theorem D_X12_shareOf_6_eq (xs : Nat → Int32) (xl d : Nat) (v1 : Int32) (v2 : Int32) (v3 : Int64) (v5 : Int32) (v6 : Int32) (M : dp_M) : D_X12_shareOf_6 xs xl d v1 v2 v3 v5 v6 M = if (4 : Int32) ≤ v6 then (if v5 = 0 then (some (.inl (some (.long (0 : Int64))), M)) else (dp_w (0 : Int32) (fun y1 => if (((4 : Int32) * v1) + v2) < 0 ∨ 16 ≤ Int32.toNatClampNeg (((4 : Int32) * v1) + v2) then none else (if (Int32.toInt64 v5) = 0 then none else (dp_w ((v3 * (Int32.toInt64 (dp_I M 231 (Int32.toNatClampNeg (((4 : Int32) * v1) + v2))))) - (v3 * (Int32.toInt64 (dp_I M 231 (Int32.toNatClampNeg (((4 : Int32) * v1) + v2))))) / (Int32.toInt64 v5) * (Int32.toInt64 v5)) (fun y2 => dp_w (0 : Int32) (fun y3 => D_X12_shareOf_69 xs xl d v1 v2 v3 v5 v3 y1 y2 y3 M))))))) else (if (((4 : Int32) * v1) + v6) < 0 ∨ 16 ≤ Int32.toNatClampNeg (((4 : Int32) * v1) + v6) then none else (dp_w (v5 + (dp_I M 231 (Int32.toNatClampNeg (((4 : Int32) * v1) + v6)))) (fun y4 => dp_w (v6 + (1 : Int32)) (fun y5 => D_X12_shareOf_6 xs xl d v1 v2 v3 y4 y5 M)))) := by
  have hF := dp_den_grow (md := true) (xs := xs) (xl := xl) d
  unfold D_X12_shareOf_6
  refine dp_s1 hF (i := .iload 6) rfl (fun _ => rfl) ?_
  refine dp_s1 hF (i := .iconst 4) rfl (fun _ => rfl) ?_
  refine dp_s2 hF (i := .if_icmp .ge 25) (a := (34, [some (.ref 114), some (.int v1), some (.int v2), some (.long v3), none, some (.int v5), some (.int v6), none, none, none, none, none, none, none], [], M)) (b := (12, [some (.ref 114), some (.int v1), some (.int v2), some (.long v3), none, some (.int v5), some (.int v6), none, none, none, none, none, none, none], [], M)) rfl (fun _ => rfl) ?_ ?_
  · refine dp_s1 hF (i := .iload 5) rfl (fun _ => rfl) ?_
    refine dp_s2 hF (i := .ifCond .ne 5) (a := (39, [some (.ref 114), some (.int v1), some (.int v2), some (.long v3), none, some (.int v5), some (.int v6), none, none, none, none, none, none, none], [], M)) (b := (41, [some (.ref 114), some (.int v1), some (.int v2), some (.long v3), none, some (.int v5), some (.int v6), none, none, none, none, none, none, none], [], M)) rfl (fun _ => rfl) ?_ ?_
    · refine dp_s1 hF (i := .lconst 0) rfl (fun _ => rfl) ?_
      exact dp_s0 hF (i := .lreturn) rfl (fun _ => rfl)
    refine dp_s1 hF (i := .lload_n 3) rfl (fun _ => rfl) ?_
    refine dp_s1 hF (i := .lstore 6) rfl (fun _ => rfl) ?_
    refine dp_s1 hF (i := .iconst 0) rfl (fun _ => rfl) ?_
    refine dp_s1w (0 : Int32) (fun (y1 : Int32) => (47, [some (.ref 114), some (.int v1), some (.int v2), some (.long v3), none, some (.int v5), some (.long v3), none, some (.int y1), none, none, none, none, none], [], M)) hF (i := .istore 8) rfl (fun _ => rfl) (fun y1 => ?_)
    refine dp_s1 hF (i := .lload_n 3) rfl (fun _ => rfl) ?_
    refine dp_s1 hF (i := .aload_n 0) rfl (fun _ => rfl) ?_
    refine dp_s1 hF (i := .getfield 374) rfl (fun _ => rfl) ?_
    refine dp_s1 hF (i := .iconst 4) rfl (fun _ => rfl) ?_
    refine dp_s1 hF (i := .iload_n 1) rfl (fun _ => rfl) ?_
    refine dp_s1 hF (i := .imul) rfl (fun _ => rfl) ?_
    refine dp_s1 hF (i := .iload_n 2) rfl (fun _ => rfl) ?_
    refine dp_s1 hF (i := .iadd) rfl (fun _ => rfl) ?_
    refine dp_s3 hF (i := .iaload) rfl (fun _ => rfl) ?_
    refine dp_s1 hF (i := .i2l) rfl (fun _ => rfl) ?_
    refine dp_s1 hF (i := .lmul) rfl (fun _ => rfl) ?_
    refine dp_s1 hF (i := .iload 5) rfl (fun _ => rfl) ?_
    refine dp_s1 hF (i := .i2l) rfl (fun _ => rfl) ?_
    refine dp_s3 hF (i := .lrem) rfl (fun _ => rfl) ?_
    refine dp_s1w ((v3 * (Int32.toInt64 (dp_I M 231 (Int32.toNatClampNeg (((4 : Int32) * v1) + v2))))) - (v3 * (Int32.toInt64 (dp_I M 231 (Int32.toNatClampNeg (((4 : Int32) * v1) + v2))))) / (Int32.toInt64 v5) * (Int32.toInt64 v5)) (fun (y2 : Int64) => (66, [some (.ref 114), some (.int v1), some (.int v2), some (.long v3), none, some (.int v5), some (.long v3), none, some (.int y1), some (.long y2), none, none, none, none], [], M)) hF (i := .lstore 9) rfl (fun _ => rfl) (fun y2 => ?_)
    refine dp_s1 hF (i := .iconst 0) rfl (fun _ => rfl) ?_
    refine dp_s1w (0 : Int32) (fun (y3 : Int32) => (69, [some (.ref 114), some (.int v1), some (.int v2), some (.long v3), none, some (.int v5), some (.long v3), none, some (.int y1), some (.long y2), none, some (.int y3), none, none], [], M)) hF (i := .istore 11) rfl (fun _ => rfl) (fun y3 => ?_)
    exact rfl
  refine dp_s1 hF (i := .iload 5) rfl (fun _ => rfl) ?_
  refine dp_s1 hF (i := .aload_n 0) rfl (fun _ => rfl) ?_
  refine dp_s1 hF (i := .getfield 374) rfl (fun _ => rfl) ?_
  refine dp_s1 hF (i := .iconst 4) rfl (fun _ => rfl) ?_
  refine dp_s1 hF (i := .iload_n 1) rfl (fun _ => rfl) ?_
  refine dp_s1 hF (i := .imul) rfl (fun _ => rfl) ?_
  refine dp_s1 hF (i := .iload 6) rfl (fun _ => rfl) ?_
  refine dp_s1 hF (i := .iadd) rfl (fun _ => rfl) ?_
  refine dp_s3 hF (i := .iaload) rfl (fun _ => rfl) ?_
  refine dp_s1 hF (i := .iadd) rfl (fun _ => rfl) ?_
  refine dp_s1w (v5 + (dp_I M 231 (Int32.toNatClampNeg (((4 : Int32) * v1) + v6)))) (fun (y4 : Int32) => (28, [some (.ref 114), some (.int v1), some (.int v2), some (.long v3), none, some (.int y4), some (.int v6), none, none, none, none, none, none, none], [], M)) hF (i := .istore 5) rfl (fun _ => rfl) (fun y4 => ?_)
  refine dp_s1w (v6 + (1 : Int32)) (fun (y5 : Int32) => (31, [some (.ref 114), some (.int v1), some (.int v2), some (.long v3), none, some (.int y4), some (.int y5), none, none, none, none, none, none, none], [], M)) hF (i := .iinc 6 1) rfl (fun _ => rfl) (fun y5 => ?_)
  refine dp_s1 hF (i := .goto (-25)) rfl (fun _ => rfl) ?_
  exact rfl
set_option maxRecDepth 20000 in
theorem D_X12_shareOf_69_eq (xs : Nat → Int32) (xl d : Nat) (v1 : Int32) (v2 : Int32) (v3 : Int64) (v5 : Int32) (v6 : Int64) (v8 : Int32) (v9 : Int64) (v11 : Int32) (M : dp_M) : D_X12_shareOf_69 xs xl d v1 v2 v3 v5 v6 v8 v9 v11 M = if (4 : Int32) ≤ v11 then (if (((4 : Int32) * v1) + v2) < 0 ∨ 16 ≤ Int32.toNatClampNeg (((4 : Int32) * v1) + v2) then none else (if (Int32.toInt64 v5) = 0 then none else (if 0 ≤ (lg_cmp (Int32.toInt64 v8) v6) then (some (.inl (some (.long (((v3 * (Int32.toInt64 (dp_I M 231 (Int32.toNatClampNeg (((4 : Int32) * v1) + v2))))) / (Int32.toInt64 v5)) + (0 : Int64)))), M)) else (some (.inl (some (.long (((v3 * (Int32.toInt64 (dp_I M 231 (Int32.toNatClampNeg (((4 : Int32) * v1) + v2))))) / (Int32.toInt64 v5)) + (1 : Int64)))), M))))) else (if (((4 : Int32) * v1) + v11) < 0 ∨ 16 ≤ Int32.toNatClampNeg (((4 : Int32) * v1) + v11) then none else (dp_w (v3 * (Int32.toInt64 (dp_I M 231 (Int32.toNatClampNeg (((4 : Int32) * v1) + v11))))) (fun y1 => if (Int32.toInt64 v5) = 0 then none else (dp_w (v6 - (y1 / (Int32.toInt64 v5))) (fun y2 => if (Int32.toInt64 v5) = 0 then none else (if 0 < (lg_cmp (y1 - y1 / (Int32.toInt64 v5) * (Int32.toInt64 v5)) v9) then (dp_w (v8 + (1 : Int32)) (fun y3 => dp_w (v11 + (1 : Int32)) (fun y4 => D_X12_shareOf_69_a xs xl d v1 v2 v3 v5 y2 y3 v9 y4 y1 M))) else (if (Int32.toInt64 v5) = 0 then none else (if (lg_cmp (y1 - y1 / (Int32.toInt64 v5) * (Int32.toInt64 v5)) v9) = 0 then (if v2 ≤ v11 then (dp_w (v8 + (0 : Int32)) (fun y5 => dp_w (v11 + (1 : Int32)) (fun y6 => D_X12_shareOf_69_a xs xl d v1 v2 v3 v5 y2 y5 v9 y6 y1 M))) else (dp_w (v8 + (1 : Int32)) (fun y7 => dp_w (v11 + (1 : Int32)) (fun y8 => D_X12_shareOf_69_a xs xl d v1 v2 v3 v5 y2 y7 v9 y8 y1 M)))) else (dp_w (v8 + (0 : Int32)) (fun y9 => dp_w (v11 + (1 : Int32)) (fun y10 => D_X12_shareOf_69_a xs xl d v1 v2 v3 v5 y2 y9 v9 y10 y1 M))))))))))) := by
  have hF := dp_den_grow (md := true) (xs := xs) (xl := xl) d
  unfold D_X12_shareOf_69
  refine dp_s1 hF (i := .iload 11) rfl (fun _ => rfl) ?_
  refine dp_s1 hF (i := .iconst 4) rfl (fun _ => rfl) ?_
  refine dp_s2 hF (i := .if_icmp .ge 76) (a := (148, [some (.ref 114), some (.int v1), some (.int v2), some (.long v3), none, some (.int v5), some (.long v6), none, some (.int v8), some (.long v9), none, some (.int v11), none, none], [], M)) (b := (75, [some (.ref 114), some (.int v1), some (.int v2), some (.long v3), none, some (.int v5), some (.long v6), none, some (.int v8), some (.long v9), none, some (.int v11), none, none], [], M)) rfl (fun _ => rfl) ?_ ?_
  · refine dp_s1 hF (i := .lload_n 3) rfl (fun _ => rfl) ?_
    refine dp_s1 hF (i := .aload_n 0) rfl (fun _ => rfl) ?_
    refine dp_s1 hF (i := .getfield 374) rfl (fun _ => rfl) ?_
    refine dp_s1 hF (i := .iconst 4) rfl (fun _ => rfl) ?_
    refine dp_s1 hF (i := .iload_n 1) rfl (fun _ => rfl) ?_
    refine dp_s1 hF (i := .imul) rfl (fun _ => rfl) ?_
    refine dp_s1 hF (i := .iload_n 2) rfl (fun _ => rfl) ?_
    refine dp_s1 hF (i := .iadd) rfl (fun _ => rfl) ?_
    refine dp_s3 hF (i := .iaload) rfl (fun _ => rfl) ?_
    refine dp_s1 hF (i := .i2l) rfl (fun _ => rfl) ?_
    refine dp_s1 hF (i := .lmul) rfl (fun _ => rfl) ?_
    refine dp_s1 hF (i := .iload 5) rfl (fun _ => rfl) ?_
    refine dp_s1 hF (i := .i2l) rfl (fun _ => rfl) ?_
    refine dp_s3 hF (i := .ldiv) rfl (fun _ => rfl) ?_
    refine dp_s1 hF (i := .iload 8) rfl (fun _ => rfl) ?_
    refine dp_s1 hF (i := .i2l) rfl (fun _ => rfl) ?_
    refine dp_s1 hF (i := .lload 6) rfl (fun _ => rfl) ?_
    refine dp_s1 hF (i := .lcmp) rfl (fun _ => rfl) ?_
    refine dp_s2 hF (i := .ifCond .ge 7) (a := (178, [some (.ref 114), some (.int v1), some (.int v2), some (.long v3), none, some (.int v5), some (.long v6), none, some (.int v8), some (.long v9), none, some (.int v11), none, none], [.long ((v3 * (Int32.toInt64 (dp_I M 231 (Int32.toNatClampNeg (((4 : Int32) * v1) + v2))))) / (Int32.toInt64 v5))], M)) (b := (174, [some (.ref 114), some (.int v1), some (.int v2), some (.long v3), none, some (.int v5), some (.long v6), none, some (.int v8), some (.long v9), none, some (.int v11), none, none], [.long ((v3 * (Int32.toInt64 (dp_I M 231 (Int32.toNatClampNeg (((4 : Int32) * v1) + v2))))) / (Int32.toInt64 v5))], M)) rfl (fun _ => rfl) ?_ ?_
    · refine dp_s1 hF (i := .lconst 0) rfl (fun _ => rfl) ?_
      refine dp_s1 hF (i := .ladd) rfl (fun _ => rfl) ?_
      exact dp_s0 hF (i := .lreturn) rfl (fun _ => rfl)
    refine dp_s1 hF (i := .lconst 1) rfl (fun _ => rfl) ?_
    refine dp_s1 hF (i := .goto 4) rfl (fun _ => rfl) ?_
    refine dp_s1 hF (i := .ladd) rfl (fun _ => rfl) ?_
    exact dp_s0 hF (i := .lreturn) rfl (fun _ => rfl)
  refine dp_s1 hF (i := .lload_n 3) rfl (fun _ => rfl) ?_
  refine dp_s1 hF (i := .aload_n 0) rfl (fun _ => rfl) ?_
  refine dp_s1 hF (i := .getfield 374) rfl (fun _ => rfl) ?_
  refine dp_s1 hF (i := .iconst 4) rfl (fun _ => rfl) ?_
  refine dp_s1 hF (i := .iload_n 1) rfl (fun _ => rfl) ?_
  refine dp_s1 hF (i := .imul) rfl (fun _ => rfl) ?_
  refine dp_s1 hF (i := .iload 11) rfl (fun _ => rfl) ?_
  refine dp_s1 hF (i := .iadd) rfl (fun _ => rfl) ?_
  refine dp_s3 hF (i := .iaload) rfl (fun _ => rfl) ?_
  refine dp_s1 hF (i := .i2l) rfl (fun _ => rfl) ?_
  refine dp_s1 hF (i := .lmul) rfl (fun _ => rfl) ?_
  refine dp_s1w (v3 * (Int32.toInt64 (dp_I M 231 (Int32.toNatClampNeg (((4 : Int32) * v1) + v11))))) (fun (y1 : Int64) => (91, [some (.ref 114), some (.int v1), some (.int v2), some (.long v3), none, some (.int v5), some (.long v6), none, some (.int v8), some (.long v9), none, some (.int v11), some (.long y1), none], [], M)) hF (i := .lstore 12) rfl (fun _ => rfl) (fun y1 => ?_)
  refine dp_s1 hF (i := .lload 6) rfl (fun _ => rfl) ?_
  refine dp_s1 hF (i := .lload 12) rfl (fun _ => rfl) ?_
  refine dp_s1 hF (i := .iload 5) rfl (fun _ => rfl) ?_
  refine dp_s1 hF (i := .i2l) rfl (fun _ => rfl) ?_
  refine dp_s3 hF (i := .ldiv) rfl (fun _ => rfl) ?_
  refine dp_s1 hF (i := .lsub) rfl (fun _ => rfl) ?_
  refine dp_s1w (v6 - (y1 / (Int32.toInt64 v5))) (fun (y2 : Int64) => (102, [some (.ref 114), some (.int v1), some (.int v2), some (.long v3), none, some (.int v5), some (.long y2), none, some (.int v8), some (.long v9), none, some (.int v11), some (.long y1), none], [], M)) hF (i := .lstore 6) rfl (fun _ => rfl) (fun y2 => ?_)
  refine dp_s1 hF (i := .iload 8) rfl (fun _ => rfl) ?_
  refine dp_s1 hF (i := .lload 12) rfl (fun _ => rfl) ?_
  refine dp_s1 hF (i := .iload 5) rfl (fun _ => rfl) ?_
  refine dp_s1 hF (i := .i2l) rfl (fun _ => rfl) ?_
  refine dp_s3 hF (i := .lrem) rfl (fun _ => rfl) ?_
  refine dp_s1 hF (i := .lload 9) rfl (fun _ => rfl) ?_
  refine dp_s1 hF (i := .lcmp) rfl (fun _ => rfl) ?_
  refine dp_s2 hF (i := .ifCond .gt 21) (a := (134, [some (.ref 114), some (.int v1), some (.int v2), some (.long v3), none, some (.int v5), some (.long y2), none, some (.int v8), some (.long v9), none, some (.int v11), some (.long y1), none], [.int v8], M)) (b := (116, [some (.ref 114), some (.int v1), some (.int v2), some (.long v3), none, some (.int v5), some (.long y2), none, some (.int v8), some (.long v9), none, some (.int v11), some (.long y1), none], [.int v8], M)) rfl (fun _ => rfl) ?_ ?_
  · refine dp_s1 hF (i := .iconst 1) rfl (fun _ => rfl) ?_
    refine dp_s1 hF (i := .goto 4) rfl (fun _ => rfl) ?_
    refine dp_s1 hF (i := .iadd) rfl (fun _ => rfl) ?_
    refine dp_s1w (v8 + (1 : Int32)) (fun (y3 : Int32) => (142, [some (.ref 114), some (.int v1), some (.int v2), some (.long v3), none, some (.int v5), some (.long y2), none, some (.int y3), some (.long v9), none, some (.int v11), some (.long y1), none], [], M)) hF (i := .istore 8) rfl (fun _ => rfl) (fun y3 => ?_)
    refine dp_s1w (v11 + (1 : Int32)) (fun (y4 : Int32) => (145, [some (.ref 114), some (.int v1), some (.int v2), some (.long v3), none, some (.int v5), some (.long y2), none, some (.int y3), some (.long v9), none, some (.int y4), some (.long y1), none], [], M)) hF (i := .iinc 11 1) rfl (fun _ => rfl) (fun y4 => ?_)
    refine dp_s1 hF (i := .goto (-76)) rfl (fun _ => rfl) ?_
    exact rfl
  refine dp_s1 hF (i := .lload 12) rfl (fun _ => rfl) ?_
  refine dp_s1 hF (i := .iload 5) rfl (fun _ => rfl) ?_
  refine dp_s1 hF (i := .i2l) rfl (fun _ => rfl) ?_
  refine dp_s3 hF (i := .lrem) rfl (fun _ => rfl) ?_
  refine dp_s1 hF (i := .lload 9) rfl (fun _ => rfl) ?_
  refine dp_s1 hF (i := .lcmp) rfl (fun _ => rfl) ?_
  refine dp_s2 hF (i := .ifCond .ne 13) (a := (128, [some (.ref 114), some (.int v1), some (.int v2), some (.long v3), none, some (.int v5), some (.long y2), none, some (.int v8), some (.long v9), none, some (.int v11), some (.long y1), none], [.int v8], M)) (b := (138, [some (.ref 114), some (.int v1), some (.int v2), some (.long v3), none, some (.int v5), some (.long y2), none, some (.int v8), some (.long v9), none, some (.int v11), some (.long y1), none], [.int v8], M)) rfl (fun _ => rfl) ?_ ?_
  · refine dp_s1 hF (i := .iload 11) rfl (fun _ => rfl) ?_
    refine dp_s1 hF (i := .iload_n 2) rfl (fun _ => rfl) ?_
    refine dp_s2 hF (i := .if_icmp .ge 7) (a := (138, [some (.ref 114), some (.int v1), some (.int v2), some (.long v3), none, some (.int v5), some (.long y2), none, some (.int v8), some (.long v9), none, some (.int v11), some (.long y1), none], [.int v8], M)) (b := (134, [some (.ref 114), some (.int v1), some (.int v2), some (.long v3), none, some (.int v5), some (.long y2), none, some (.int v8), some (.long v9), none, some (.int v11), some (.long y1), none], [.int v8], M)) rfl (fun _ => rfl) ?_ ?_
    · refine dp_s1 hF (i := .iconst 0) rfl (fun _ => rfl) ?_
      refine dp_s1 hF (i := .iadd) rfl (fun _ => rfl) ?_
      refine dp_s1w (v8 + (0 : Int32)) (fun (y5 : Int32) => (142, [some (.ref 114), some (.int v1), some (.int v2), some (.long v3), none, some (.int v5), some (.long y2), none, some (.int y5), some (.long v9), none, some (.int v11), some (.long y1), none], [], M)) hF (i := .istore 8) rfl (fun _ => rfl) (fun y5 => ?_)
      refine dp_s1w (v11 + (1 : Int32)) (fun (y6 : Int32) => (145, [some (.ref 114), some (.int v1), some (.int v2), some (.long v3), none, some (.int v5), some (.long y2), none, some (.int y5), some (.long v9), none, some (.int y6), some (.long y1), none], [], M)) hF (i := .iinc 11 1) rfl (fun _ => rfl) (fun y6 => ?_)
      refine dp_s1 hF (i := .goto (-76)) rfl (fun _ => rfl) ?_
      exact rfl
    refine dp_s1 hF (i := .iconst 1) rfl (fun _ => rfl) ?_
    refine dp_s1 hF (i := .goto 4) rfl (fun _ => rfl) ?_
    refine dp_s1 hF (i := .iadd) rfl (fun _ => rfl) ?_
    refine dp_s1w (v8 + (1 : Int32)) (fun (y7 : Int32) => (142, [some (.ref 114), some (.int v1), some (.int v2), some (.long v3), none, some (.int v5), some (.long y2), none, some (.int y7), some (.long v9), none, some (.int v11), some (.long y1), none], [], M)) hF (i := .istore 8) rfl (fun _ => rfl) (fun y7 => ?_)
    refine dp_s1w (v11 + (1 : Int32)) (fun (y8 : Int32) => (145, [some (.ref 114), some (.int v1), some (.int v2), some (.long v3), none, some (.int v5), some (.long y2), none, some (.int y7), some (.long v9), none, some (.int y8), some (.long y1), none], [], M)) hF (i := .iinc 11 1) rfl (fun _ => rfl) (fun y8 => ?_)
    refine dp_s1 hF (i := .goto (-76)) rfl (fun _ => rfl) ?_
    exact rfl
  refine dp_s1 hF (i := .iconst 0) rfl (fun _ => rfl) ?_
  refine dp_s1 hF (i := .iadd) rfl (fun _ => rfl) ?_
  refine dp_s1w (v8 + (0 : Int32)) (fun (y9 : Int32) => (142, [some (.ref 114), some (.int v1), some (.int v2), some (.long v3), none, some (.int v5), some (.long y2), none, some (.int y9), some (.long v9), none, some (.int v11), some (.long y1), none], [], M)) hF (i := .istore 8) rfl (fun _ => rfl) (fun y9 => ?_)
  refine dp_s1w (v11 + (1 : Int32)) (fun (y10 : Int32) => (145, [some (.ref 114), some (.int v1), some (.int v2), some (.long v3), none, some (.int v5), some (.long y2), none, some (.int y9), some (.long v9), none, some (.int y10), some (.long y1), none], [], M)) hF (i := .iinc 11 1) rfl (fun _ => rfl) (fun y10 => ?_)
  refine dp_s1 hF (i := .goto (-76)) rfl (fun _ => rfl) ?_
  exact rfl
set_option maxRecDepth 20000 in
theorem D_X12_shareOf_69_a_eq (xs : Nat → Int32) (xl d : Nat) (v1 : Int32) (v2 : Int32) (v3 : Int64) (v5 : Int32) (v6 : Int64) (v8 : Int32) (v9 : Int64) (v11 : Int32) (v12 : Int64) (M : dp_M) : D_X12_shareOf_69_a xs xl d v1 v2 v3 v5 v6 v8 v9 v11 v12 M = if (4 : Int32) ≤ v11 then (if (((4 : Int32) * v1) + v2) < 0 ∨ 16 ≤ Int32.toNatClampNeg (((4 : Int32) * v1) + v2) then none else (if (Int32.toInt64 v5) = 0 then none else (if 0 ≤ (lg_cmp (Int32.toInt64 v8) v6) then (some (.inl (some (.long (((v3 * (Int32.toInt64 (dp_I M 231 (Int32.toNatClampNeg (((4 : Int32) * v1) + v2))))) / (Int32.toInt64 v5)) + (0 : Int64)))), M)) else (some (.inl (some (.long (((v3 * (Int32.toInt64 (dp_I M 231 (Int32.toNatClampNeg (((4 : Int32) * v1) + v2))))) / (Int32.toInt64 v5)) + (1 : Int64)))), M))))) else (if (((4 : Int32) * v1) + v11) < 0 ∨ 16 ≤ Int32.toNatClampNeg (((4 : Int32) * v1) + v11) then none else (dp_w (v3 * (Int32.toInt64 (dp_I M 231 (Int32.toNatClampNeg (((4 : Int32) * v1) + v11))))) (fun y1 => if (Int32.toInt64 v5) = 0 then none else (dp_w (v6 - (y1 / (Int32.toInt64 v5))) (fun y2 => if (Int32.toInt64 v5) = 0 then none else (if 0 < (lg_cmp (y1 - y1 / (Int32.toInt64 v5) * (Int32.toInt64 v5)) v9) then (dp_w (v8 + (1 : Int32)) (fun y3 => dp_w (v11 + (1 : Int32)) (fun y4 => D_X12_shareOf_69_a xs xl d v1 v2 v3 v5 y2 y3 v9 y4 y1 M))) else (if (Int32.toInt64 v5) = 0 then none else (if (lg_cmp (y1 - y1 / (Int32.toInt64 v5) * (Int32.toInt64 v5)) v9) = 0 then (if v2 ≤ v11 then (dp_w (v8 + (0 : Int32)) (fun y5 => dp_w (v11 + (1 : Int32)) (fun y6 => D_X12_shareOf_69_a xs xl d v1 v2 v3 v5 y2 y5 v9 y6 y1 M))) else (dp_w (v8 + (1 : Int32)) (fun y7 => dp_w (v11 + (1 : Int32)) (fun y8 => D_X12_shareOf_69_a xs xl d v1 v2 v3 v5 y2 y7 v9 y8 y1 M)))) else (dp_w (v8 + (0 : Int32)) (fun y9 => dp_w (v11 + (1 : Int32)) (fun y10 => D_X12_shareOf_69_a xs xl d v1 v2 v3 v5 y2 y9 v9 y10 y1 M))))))))))) := by
  have hF := dp_den_grow (md := true) (xs := xs) (xl := xl) d
  unfold D_X12_shareOf_69_a
  refine dp_s1 hF (i := .iload 11) rfl (fun _ => rfl) ?_
  refine dp_s1 hF (i := .iconst 4) rfl (fun _ => rfl) ?_
  refine dp_s2 hF (i := .if_icmp .ge 76) (a := (148, [some (.ref 114), some (.int v1), some (.int v2), some (.long v3), none, some (.int v5), some (.long v6), none, some (.int v8), some (.long v9), none, some (.int v11), some (.long v12), none], [], M)) (b := (75, [some (.ref 114), some (.int v1), some (.int v2), some (.long v3), none, some (.int v5), some (.long v6), none, some (.int v8), some (.long v9), none, some (.int v11), some (.long v12), none], [], M)) rfl (fun _ => rfl) ?_ ?_
  · refine dp_s1 hF (i := .lload_n 3) rfl (fun _ => rfl) ?_
    refine dp_s1 hF (i := .aload_n 0) rfl (fun _ => rfl) ?_
    refine dp_s1 hF (i := .getfield 374) rfl (fun _ => rfl) ?_
    refine dp_s1 hF (i := .iconst 4) rfl (fun _ => rfl) ?_
    refine dp_s1 hF (i := .iload_n 1) rfl (fun _ => rfl) ?_
    refine dp_s1 hF (i := .imul) rfl (fun _ => rfl) ?_
    refine dp_s1 hF (i := .iload_n 2) rfl (fun _ => rfl) ?_
    refine dp_s1 hF (i := .iadd) rfl (fun _ => rfl) ?_
    refine dp_s3 hF (i := .iaload) rfl (fun _ => rfl) ?_
    refine dp_s1 hF (i := .i2l) rfl (fun _ => rfl) ?_
    refine dp_s1 hF (i := .lmul) rfl (fun _ => rfl) ?_
    refine dp_s1 hF (i := .iload 5) rfl (fun _ => rfl) ?_
    refine dp_s1 hF (i := .i2l) rfl (fun _ => rfl) ?_
    refine dp_s3 hF (i := .ldiv) rfl (fun _ => rfl) ?_
    refine dp_s1 hF (i := .iload 8) rfl (fun _ => rfl) ?_
    refine dp_s1 hF (i := .i2l) rfl (fun _ => rfl) ?_
    refine dp_s1 hF (i := .lload 6) rfl (fun _ => rfl) ?_
    refine dp_s1 hF (i := .lcmp) rfl (fun _ => rfl) ?_
    refine dp_s2 hF (i := .ifCond .ge 7) (a := (178, [some (.ref 114), some (.int v1), some (.int v2), some (.long v3), none, some (.int v5), some (.long v6), none, some (.int v8), some (.long v9), none, some (.int v11), some (.long v12), none], [.long ((v3 * (Int32.toInt64 (dp_I M 231 (Int32.toNatClampNeg (((4 : Int32) * v1) + v2))))) / (Int32.toInt64 v5))], M)) (b := (174, [some (.ref 114), some (.int v1), some (.int v2), some (.long v3), none, some (.int v5), some (.long v6), none, some (.int v8), some (.long v9), none, some (.int v11), some (.long v12), none], [.long ((v3 * (Int32.toInt64 (dp_I M 231 (Int32.toNatClampNeg (((4 : Int32) * v1) + v2))))) / (Int32.toInt64 v5))], M)) rfl (fun _ => rfl) ?_ ?_
    · refine dp_s1 hF (i := .lconst 0) rfl (fun _ => rfl) ?_
      refine dp_s1 hF (i := .ladd) rfl (fun _ => rfl) ?_
      exact dp_s0 hF (i := .lreturn) rfl (fun _ => rfl)
    refine dp_s1 hF (i := .lconst 1) rfl (fun _ => rfl) ?_
    refine dp_s1 hF (i := .goto 4) rfl (fun _ => rfl) ?_
    refine dp_s1 hF (i := .ladd) rfl (fun _ => rfl) ?_
    exact dp_s0 hF (i := .lreturn) rfl (fun _ => rfl)
  refine dp_s1 hF (i := .lload_n 3) rfl (fun _ => rfl) ?_
  refine dp_s1 hF (i := .aload_n 0) rfl (fun _ => rfl) ?_
  refine dp_s1 hF (i := .getfield 374) rfl (fun _ => rfl) ?_
  refine dp_s1 hF (i := .iconst 4) rfl (fun _ => rfl) ?_
  refine dp_s1 hF (i := .iload_n 1) rfl (fun _ => rfl) ?_
  refine dp_s1 hF (i := .imul) rfl (fun _ => rfl) ?_
  refine dp_s1 hF (i := .iload 11) rfl (fun _ => rfl) ?_
  refine dp_s1 hF (i := .iadd) rfl (fun _ => rfl) ?_
  refine dp_s3 hF (i := .iaload) rfl (fun _ => rfl) ?_
  refine dp_s1 hF (i := .i2l) rfl (fun _ => rfl) ?_
  refine dp_s1 hF (i := .lmul) rfl (fun _ => rfl) ?_
  refine dp_s1w (v3 * (Int32.toInt64 (dp_I M 231 (Int32.toNatClampNeg (((4 : Int32) * v1) + v11))))) (fun (y1 : Int64) => (91, [some (.ref 114), some (.int v1), some (.int v2), some (.long v3), none, some (.int v5), some (.long v6), none, some (.int v8), some (.long v9), none, some (.int v11), some (.long y1), none], [], M)) hF (i := .lstore 12) rfl (fun _ => rfl) (fun y1 => ?_)
  refine dp_s1 hF (i := .lload 6) rfl (fun _ => rfl) ?_
  refine dp_s1 hF (i := .lload 12) rfl (fun _ => rfl) ?_
  refine dp_s1 hF (i := .iload 5) rfl (fun _ => rfl) ?_
  refine dp_s1 hF (i := .i2l) rfl (fun _ => rfl) ?_
  refine dp_s3 hF (i := .ldiv) rfl (fun _ => rfl) ?_
  refine dp_s1 hF (i := .lsub) rfl (fun _ => rfl) ?_
  refine dp_s1w (v6 - (y1 / (Int32.toInt64 v5))) (fun (y2 : Int64) => (102, [some (.ref 114), some (.int v1), some (.int v2), some (.long v3), none, some (.int v5), some (.long y2), none, some (.int v8), some (.long v9), none, some (.int v11), some (.long y1), none], [], M)) hF (i := .lstore 6) rfl (fun _ => rfl) (fun y2 => ?_)
  refine dp_s1 hF (i := .iload 8) rfl (fun _ => rfl) ?_
  refine dp_s1 hF (i := .lload 12) rfl (fun _ => rfl) ?_
  refine dp_s1 hF (i := .iload 5) rfl (fun _ => rfl) ?_
  refine dp_s1 hF (i := .i2l) rfl (fun _ => rfl) ?_
  refine dp_s3 hF (i := .lrem) rfl (fun _ => rfl) ?_
  refine dp_s1 hF (i := .lload 9) rfl (fun _ => rfl) ?_
  refine dp_s1 hF (i := .lcmp) rfl (fun _ => rfl) ?_
  refine dp_s2 hF (i := .ifCond .gt 21) (a := (134, [some (.ref 114), some (.int v1), some (.int v2), some (.long v3), none, some (.int v5), some (.long y2), none, some (.int v8), some (.long v9), none, some (.int v11), some (.long y1), none], [.int v8], M)) (b := (116, [some (.ref 114), some (.int v1), some (.int v2), some (.long v3), none, some (.int v5), some (.long y2), none, some (.int v8), some (.long v9), none, some (.int v11), some (.long y1), none], [.int v8], M)) rfl (fun _ => rfl) ?_ ?_
  · refine dp_s1 hF (i := .iconst 1) rfl (fun _ => rfl) ?_
    refine dp_s1 hF (i := .goto 4) rfl (fun _ => rfl) ?_
    refine dp_s1 hF (i := .iadd) rfl (fun _ => rfl) ?_
    refine dp_s1w (v8 + (1 : Int32)) (fun (y3 : Int32) => (142, [some (.ref 114), some (.int v1), some (.int v2), some (.long v3), none, some (.int v5), some (.long y2), none, some (.int y3), some (.long v9), none, some (.int v11), some (.long y1), none], [], M)) hF (i := .istore 8) rfl (fun _ => rfl) (fun y3 => ?_)
    refine dp_s1w (v11 + (1 : Int32)) (fun (y4 : Int32) => (145, [some (.ref 114), some (.int v1), some (.int v2), some (.long v3), none, some (.int v5), some (.long y2), none, some (.int y3), some (.long v9), none, some (.int y4), some (.long y1), none], [], M)) hF (i := .iinc 11 1) rfl (fun _ => rfl) (fun y4 => ?_)
    refine dp_s1 hF (i := .goto (-76)) rfl (fun _ => rfl) ?_
    exact rfl
  refine dp_s1 hF (i := .lload 12) rfl (fun _ => rfl) ?_
  refine dp_s1 hF (i := .iload 5) rfl (fun _ => rfl) ?_
  refine dp_s1 hF (i := .i2l) rfl (fun _ => rfl) ?_
  refine dp_s3 hF (i := .lrem) rfl (fun _ => rfl) ?_
  refine dp_s1 hF (i := .lload 9) rfl (fun _ => rfl) ?_
  refine dp_s1 hF (i := .lcmp) rfl (fun _ => rfl) ?_
  refine dp_s2 hF (i := .ifCond .ne 13) (a := (128, [some (.ref 114), some (.int v1), some (.int v2), some (.long v3), none, some (.int v5), some (.long y2), none, some (.int v8), some (.long v9), none, some (.int v11), some (.long y1), none], [.int v8], M)) (b := (138, [some (.ref 114), some (.int v1), some (.int v2), some (.long v3), none, some (.int v5), some (.long y2), none, some (.int v8), some (.long v9), none, some (.int v11), some (.long y1), none], [.int v8], M)) rfl (fun _ => rfl) ?_ ?_
  · refine dp_s1 hF (i := .iload 11) rfl (fun _ => rfl) ?_
    refine dp_s1 hF (i := .iload_n 2) rfl (fun _ => rfl) ?_
    refine dp_s2 hF (i := .if_icmp .ge 7) (a := (138, [some (.ref 114), some (.int v1), some (.int v2), some (.long v3), none, some (.int v5), some (.long y2), none, some (.int v8), some (.long v9), none, some (.int v11), some (.long y1), none], [.int v8], M)) (b := (134, [some (.ref 114), some (.int v1), some (.int v2), some (.long v3), none, some (.int v5), some (.long y2), none, some (.int v8), some (.long v9), none, some (.int v11), some (.long y1), none], [.int v8], M)) rfl (fun _ => rfl) ?_ ?_
    · refine dp_s1 hF (i := .iconst 0) rfl (fun _ => rfl) ?_
      refine dp_s1 hF (i := .iadd) rfl (fun _ => rfl) ?_
      refine dp_s1w (v8 + (0 : Int32)) (fun (y5 : Int32) => (142, [some (.ref 114), some (.int v1), some (.int v2), some (.long v3), none, some (.int v5), some (.long y2), none, some (.int y5), some (.long v9), none, some (.int v11), some (.long y1), none], [], M)) hF (i := .istore 8) rfl (fun _ => rfl) (fun y5 => ?_)
      refine dp_s1w (v11 + (1 : Int32)) (fun (y6 : Int32) => (145, [some (.ref 114), some (.int v1), some (.int v2), some (.long v3), none, some (.int v5), some (.long y2), none, some (.int y5), some (.long v9), none, some (.int y6), some (.long y1), none], [], M)) hF (i := .iinc 11 1) rfl (fun _ => rfl) (fun y6 => ?_)
      refine dp_s1 hF (i := .goto (-76)) rfl (fun _ => rfl) ?_
      exact rfl
    refine dp_s1 hF (i := .iconst 1) rfl (fun _ => rfl) ?_
    refine dp_s1 hF (i := .goto 4) rfl (fun _ => rfl) ?_
    refine dp_s1 hF (i := .iadd) rfl (fun _ => rfl) ?_
    refine dp_s1w (v8 + (1 : Int32)) (fun (y7 : Int32) => (142, [some (.ref 114), some (.int v1), some (.int v2), some (.long v3), none, some (.int v5), some (.long y2), none, some (.int y7), some (.long v9), none, some (.int v11), some (.long y1), none], [], M)) hF (i := .istore 8) rfl (fun _ => rfl) (fun y7 => ?_)
    refine dp_s1w (v11 + (1 : Int32)) (fun (y8 : Int32) => (145, [some (.ref 114), some (.int v1), some (.int v2), some (.long v3), none, some (.int v5), some (.long y2), none, some (.int y7), some (.long v9), none, some (.int y8), some (.long y1), none], [], M)) hF (i := .iinc 11 1) rfl (fun _ => rfl) (fun y8 => ?_)
    refine dp_s1 hF (i := .goto (-76)) rfl (fun _ => rfl) ?_
    exact rfl
  refine dp_s1 hF (i := .iconst 0) rfl (fun _ => rfl) ?_
  refine dp_s1 hF (i := .iadd) rfl (fun _ => rfl) ?_
  refine dp_s1w (v8 + (0 : Int32)) (fun (y9 : Int32) => (142, [some (.ref 114), some (.int v1), some (.int v2), some (.long v3), none, some (.int v5), some (.long y2), none, some (.int y9), some (.long v9), none, some (.int v11), some (.long y1), none], [], M)) hF (i := .istore 8) rfl (fun _ => rfl) (fun y9 => ?_)
  refine dp_s1w (v11 + (1 : Int32)) (fun (y10 : Int32) => (145, [some (.ref 114), some (.int v1), some (.int v2), some (.long v3), none, some (.int v5), some (.long y2), none, some (.int y9), some (.long v9), none, some (.int y10), some (.long y1), none], [], M)) hF (i := .iinc 11 1) rfl (fun _ => rfl) (fun y10 => ?_)
  refine dp_s1 hF (i := .goto (-76)) rfl (fun _ => rfl) ?_
  exact rfl
noncomputable def D_X12_passed_0 (xs : Nat → Int32) (xl d : Nat) (v1 : Int32) (v2 : Int32) (v3 : Int32) (M : dp_M) : Option dp_Res := dp_lim true xs xl (dp_den true xs xl d) dp_m_X12_passed (0, [some (.ref 114), some (.int v1), some (.int v2), some (.int v3), none, none, none, none, none, none, none], [], M)
noncomputable def D_X12_passed_44 (xs : Nat → Int32) (xl d : Nat) (v1 : Int32) (v2 : Int32) (v3 : Int32) (v4 : Int64) (v6 : Int32) (M : dp_M) : Option dp_Res := dp_lim true xs xl (dp_den true xs xl d) dp_m_X12_passed (44, [some (.ref 114), some (.int v1), some (.int v2), some (.int v3), some (.long v4), none, some (.int v6), none, none, none, none], [], M)
noncomputable def D_X12_passed_99 (xs : Nat → Int32) (xl d : Nat) (v1 : Int32) (v2 : Int32) (v3 : Int32) (v4 : Int64) (v6 : Int32) (vs0 : Int64) (M : dp_M) : Option dp_Res := dp_lim true xs xl (dp_den true xs xl d) dp_m_X12_passed (99, [some (.ref 114), some (.int v1), some (.int v2), some (.int v3), some (.long v4), none, some (.int v6), none, none, none, none], [.long vs0], M)
noncomputable def D_X12_passed_123 (xs : Nat → Int32) (xl d : Nat) (v1 : Int32) (v2 : Int32) (v3 : Int32) (v4 : Int64) (v6 : Int64) (v8 : Int64) (v10 : Int32) (M : dp_M) : Option dp_Res := dp_lim true xs xl (dp_den true xs xl d) dp_m_X12_passed (123, [some (.ref 114), some (.int v1), some (.int v2), some (.int v3), some (.long v4), none, some (.long v6), none, some (.long v8), none, some (.int v10)], [], M)
theorem D_X12_passed_0_den (xs : Nat → Int32) (xl d : Nat) (a0 : Int32) (a1 : Int32) (a2 : Int32) (M : dp_M) : dp_den true xs xl (d + 1) 563 [.ref 114, .int a0, .int a1, .int a2] M = D_X12_passed_0 xs xl d a0 a1 a2 M := rfl
set_option maxRecDepth 20000 in
theorem D_X12_passed_0_eq (xs : Nat → Int32) (xl d : Nat) (v1 : Int32) (v2 : Int32) (v3 : Int32) (M : dp_M) : D_X12_passed_0 xs xl d v1 v2 v3 M = dp_bi (dp_den true xs xl d 559 [.int v1] M) (fun r2 M1 => if r2 = 0 then (dp_bi (dp_den true xs xl d 366 [.ref 114, .int (1 : Int32)] M1) (fun r4 M3 => some (.inl (some (.long (Int32.toInt64 r4))), M3))) else (dp_bi (dp_den true xs xl d 367 [.long (Int32.toInt64 v2), .long (0 : Int64), .long (6 : Int64)] M1) (fun r6 M5 => if r6 = 0 then (dp_bi (dp_den true xs xl d 366 [.ref 114, .int (1 : Int32)] M5) (fun r8 M7 => some (.inl (some (.long (Int32.toInt64 r8))), M7))) else (dp_bi (dp_den true xs xl d 540 [.int v3] M5) (fun r10 M9 => if r10 = 0 then (dp_bi (dp_den true xs xl d 366 [.ref 114, .int (1 : Int32)] M9) (fun r12 M11 => some (.inl (some (.long (Int32.toInt64 r12))), M11))) else (dp_w (dp_setI M9 114 0 (0 : Int32)) (fun M13 => dp_w (0 : Int64) (fun y14 => dp_w (0 : Int32) (fun y15 => D_X12_passed_44 xs xl d v1 v2 v3 y14 y15 M13))))))))) := by
  have hF := dp_den_grow (md := true) (xs := xs) (xl := xl) d
  unfold D_X12_passed_0
  refine dp_s1 hF (i := .iload_n 1) rfl (fun _ => rfl) ?_
  refine dp_si (mj := dp_m_X12_isKind) (i := .invokestatic 1016) rfl rfl (Or.inr rfl) rfl (fun _ => rfl) (fun r2 M1 => ?_)
  refine dp_s2 hF (i := .ifCond .eq 22) (a := (26, [some (.ref 114), some (.int v1), some (.int v2), some (.int v3), none, none, none, none, none, none, none], [], M1)) (b := (7, [some (.ref 114), some (.int v1), some (.int v2), some (.int v3), none, none, none, none, none, none, none], [], M1)) rfl (fun _ => rfl) ?_ ?_
  · refine dp_s1 hF (i := .aload_n 0) rfl (fun _ => rfl) ?_
    refine dp_s1 hF (i := .iconst 1) rfl (fun _ => rfl) ?_
    refine dp_si (mj := dp_m_X12_refuse) (i := .invokevirtual 460) rfl rfl (Or.inl rfl) rfl (fun _ => rfl) (fun r4 M3 => ?_)
    refine dp_s1 hF (i := .i2l) rfl (fun _ => rfl) ?_
    exact dp_s0 hF (i := .lreturn) rfl (fun _ => rfl)
  refine dp_s1 hF (i := .iload_n 2) rfl (fun _ => rfl) ?_
  refine dp_s1 hF (i := .i2l) rfl (fun _ => rfl) ?_
  refine dp_s1 hF (i := .lconst 0) rfl (fun _ => rfl) ?_
  refine dp_s1 hF (i := .ldc2_w 1019) rfl (fun _ => rfl) ?_
  refine dp_si (mj := dp_m_X12_in) (i := .invokestatic 446) rfl rfl (Or.inr rfl) rfl (fun _ => rfl) (fun r6 M5 => ?_)
  refine dp_s2 hF (i := .ifCond .eq 10) (a := (26, [some (.ref 114), some (.int v1), some (.int v2), some (.int v3), none, none, none, none, none, none, none], [], M5)) (b := (19, [some (.ref 114), some (.int v1), some (.int v2), some (.int v3), none, none, none, none, none, none, none], [], M5)) rfl (fun _ => rfl) ?_ ?_
  · refine dp_s1 hF (i := .aload_n 0) rfl (fun _ => rfl) ?_
    refine dp_s1 hF (i := .iconst 1) rfl (fun _ => rfl) ?_
    refine dp_si (mj := dp_m_X12_refuse) (i := .invokevirtual 460) rfl rfl (Or.inl rfl) rfl (fun _ => rfl) (fun r8 M7 => ?_)
    refine dp_s1 hF (i := .i2l) rfl (fun _ => rfl) ?_
    exact dp_s0 hF (i := .lreturn) rfl (fun _ => rfl)
  refine dp_s1 hF (i := .iload_n 3) rfl (fun _ => rfl) ?_
  refine dp_si (mj := dp_m_X12_isLedgerDay) (i := .invokestatic 969) rfl rfl (Or.inr rfl) rfl (fun _ => rfl) (fun r10 M9 => ?_)
  refine dp_s2 hF (i := .ifCond .ne 10) (a := (26, [some (.ref 114), some (.int v1), some (.int v2), some (.int v3), none, none, none, none, none, none, none], [], M9)) (b := (33, [some (.ref 114), some (.int v1), some (.int v2), some (.int v3), none, none, none, none, none, none, none], [], M9)) rfl (fun _ => rfl) ?_ ?_
  · refine dp_s1 hF (i := .aload_n 0) rfl (fun _ => rfl) ?_
    refine dp_s1 hF (i := .iconst 1) rfl (fun _ => rfl) ?_
    refine dp_si (mj := dp_m_X12_refuse) (i := .invokevirtual 460) rfl rfl (Or.inl rfl) rfl (fun _ => rfl) (fun r12 M11 => ?_)
    refine dp_s1 hF (i := .i2l) rfl (fun _ => rfl) ?_
    exact dp_s0 hF (i := .lreturn) rfl (fun _ => rfl)
  refine dp_s1 hF (i := .aload_n 0) rfl (fun _ => rfl) ?_
  refine dp_s1 hF (i := .iconst 0) rfl (fun _ => rfl) ?_
  refine dp_s1w (dp_setI M9 114 0 (0 : Int32)) (fun (M13 : dp_M) => (38, [some (.ref 114), some (.int v1), some (.int v2), some (.int v3), none, none, none, none, none, none, none], [], M13)) hF (i := .putfield 1) rfl (fun _ => rfl) (fun M13 => ?_)
  refine dp_s1 hF (i := .lconst 0) rfl (fun _ => rfl) ?_
  refine dp_s1w (0 : Int64) (fun (y14 : Int64) => (41, [some (.ref 114), some (.int v1), some (.int v2), some (.int v3), some (.long y14), none, none, none, none, none, none], [], M13)) hF (i := .lstore 4) rfl (fun _ => rfl) (fun y14 => ?_)
  refine dp_s1 hF (i := .iconst 0) rfl (fun _ => rfl) ?_
  refine dp_s1w (0 : Int32) (fun (y15 : Int32) => (44, [some (.ref 114), some (.int v1), some (.int v2), some (.int v3), some (.long y14), none, some (.int y15), none, none, none, none], [], M13)) hF (i := .istore 6) rfl (fun _ => rfl) (fun y15 => ?_)
  exact rfl
set_option maxRecDepth 20000 in
theorem D_X12_passed_44_eq (xs : Nat → Int32) (xl d : Nat) (v1 : Int32) (v2 : Int32) (v3 : Int32) (v4 : Int64) (v6 : Int32) (M : dp_M) : D_X12_passed_44 xs xl d v1 v2 v3 v4 v6 M = if (12 : Int32) ≤ v6 then (if (lg_cmp v4 (0 : Int64)) ≤ 0 then (D_X12_passed_99 xs xl d v1 v2 v3 v4 v6 (0 : Int64) M) else (D_X12_passed_99 xs xl d v1 v2 v3 v4 v6 v4 M)) else (dp_bi (dp_den true xs xl d 542 [.int v6] M) (fun r2 M1 => if r2 = v1 then (dp_bl (dp_den true xs xl d 556 [.ref 114, .int v6, .int (0 : Int32), .int (100000 : Int32), .int v3] M1) (fun r4 M3 => dp_w (v4 + r4) (fun y5 => dp_w (v6 + (1 : Int32)) (fun y6 => D_X12_passed_44 xs xl d v1 v2 v3 y5 y6 M3)))) else (dp_w (v4 + (0 : Int64)) (fun y7 => dp_w (v6 + (1 : Int32)) (fun y8 => D_X12_passed_44 xs xl d v1 v2 v3 y7 y8 M1))))) := by
  have hF := dp_den_grow (md := true) (xs := xs) (xl := xl) d
  unfold D_X12_passed_44
  refine dp_s1 hF (i := .iload 6) rfl (fun _ => rfl) ?_
  refine dp_s1 hF (i := .bipush 12) rfl (fun _ => rfl) ?_
  refine dp_s2 hF (i := .if_icmp .ge 38) (a := (86, [some (.ref 114), some (.int v1), some (.int v2), some (.int v3), some (.long v4), none, some (.int v6), none, none, none, none], [], M)) (b := (51, [some (.ref 114), some (.int v1), some (.int v2), some (.int v3), some (.long v4), none, some (.int v6), none, none, none, none], [], M)) rfl (fun _ => rfl) ?_ ?_
  · refine dp_s1 hF (i := .lload 4) rfl (fun _ => rfl) ?_
    refine dp_s1 hF (i := .lconst 0) rfl (fun _ => rfl) ?_
    refine dp_s1 hF (i := .lcmp) rfl (fun _ => rfl) ?_
    refine dp_s2 hF (i := .ifCond .le 8) (a := (98, [some (.ref 114), some (.int v1), some (.int v2), some (.int v3), some (.long v4), none, some (.int v6), none, none, none, none], [], M)) (b := (93, [some (.ref 114), some (.int v1), some (.int v2), some (.int v3), some (.long v4), none, some (.int v6), none, none, none, none], [], M)) rfl (fun _ => rfl) ?_ ?_
    · refine dp_s1 hF (i := .lconst 0) rfl (fun _ => rfl) ?_
      exact rfl
    refine dp_s1 hF (i := .lload 4) rfl (fun _ => rfl) ?_
    refine dp_s1 hF (i := .goto 4) rfl (fun _ => rfl) ?_
    exact rfl
  refine dp_s1 hF (i := .lload 4) rfl (fun _ => rfl) ?_
  refine dp_s1 hF (i := .iload 6) rfl (fun _ => rfl) ?_
  refine dp_si (mj := dp_m_X12_kindOfAccount) (i := .invokestatic 1021) rfl rfl (Or.inl rfl) rfl (fun _ => rfl) (fun r2 M1 => ?_)
  refine dp_s1 hF (i := .iload_n 1) rfl (fun _ => rfl) ?_
  refine dp_s2 hF (i := .if_icmp .ne 17) (a := (62, [some (.ref 114), some (.int v1), some (.int v2), some (.int v3), some (.long v4), none, some (.int v6), none, none, none, none], [.long v4], M1)) (b := (76, [some (.ref 114), some (.int v1), some (.int v2), some (.int v3), some (.long v4), none, some (.int v6), none, none, none, none], [.long v4], M1)) rfl (fun _ => rfl) ?_ ?_
  · refine dp_s1 hF (i := .aload_n 0) rfl (fun _ => rfl) ?_
    refine dp_s1 hF (i := .iload 6) rfl (fun _ => rfl) ?_
    refine dp_s1 hF (i := .iconst 0) rfl (fun _ => rfl) ?_
    refine dp_s1 hF (i := .ldc_w 1024) rfl (fun _ => rfl) ?_
    refine dp_s1 hF (i := .iload_n 3) rfl (fun _ => rfl) ?_
    refine dp_sl9 (mj := dp_m_X12_sumOf) (i := .invokevirtual 1010) rfl rfl rfl rfl (fun _ => rfl) (fun r4 M3 => ?_)
    refine dp_s1 hF (i := .goto 4) rfl (fun _ => rfl) ?_
    refine dp_s1 hF (i := .ladd) rfl (fun _ => rfl) ?_
    refine dp_s1w (v4 + r4) (fun (y5 : Int64) => (80, [some (.ref 114), some (.int v1), some (.int v2), some (.int v3), some (.long y5), none, some (.int v6), none, none, none, none], [], M3)) hF (i := .lstore 4) rfl (fun _ => rfl) (fun y5 => ?_)
    refine dp_s1w (v6 + (1 : Int32)) (fun (y6 : Int32) => (83, [some (.ref 114), some (.int v1), some (.int v2), some (.int v3), some (.long y5), none, some (.int y6), none, none, none, none], [], M3)) hF (i := .iinc 6 1) rfl (fun _ => rfl) (fun y6 => ?_)
    refine dp_s1 hF (i := .goto (-39)) rfl (fun _ => rfl) ?_
    exact rfl
  refine dp_s1 hF (i := .lconst 0) rfl (fun _ => rfl) ?_
  refine dp_s1 hF (i := .ladd) rfl (fun _ => rfl) ?_
  refine dp_s1w (v4 + (0 : Int64)) (fun (y7 : Int64) => (80, [some (.ref 114), some (.int v1), some (.int v2), some (.int v3), some (.long y7), none, some (.int v6), none, none, none, none], [], M1)) hF (i := .lstore 4) rfl (fun _ => rfl) (fun y7 => ?_)
  refine dp_s1w (v6 + (1 : Int32)) (fun (y8 : Int32) => (83, [some (.ref 114), some (.int v1), some (.int v2), some (.int v3), some (.long y7), none, some (.int y8), none, none, none, none], [], M1)) hF (i := .iinc 6 1) rfl (fun _ => rfl) (fun y8 => ?_)
  refine dp_s1 hF (i := .goto (-39)) rfl (fun _ => rfl) ?_
  exact rfl
set_option maxRecDepth 20000 in
theorem D_X12_passed_99_eq (xs : Nat → Int32) (xl d : Nat) (v1 : Int32) (v2 : Int32) (v3 : Int32) (v4 : Int64) (v6 : Int32) (vs0 : Int64) (M : dp_M) : D_X12_passed_99 xs xl d v1 v2 v3 v4 v6 vs0 M = if v1 < 0 ∨ 4 ≤ Int32.toNatClampNeg v1 then none else (dp_w ((vs0 * (Int32.toInt64 (dp_I M 232 (Int32.toNatClampNeg v1)))) / (1000 : Int64)) (fun y1 => dp_w (0 : Int64) (fun y2 => dp_w (0 : Int32) (fun y3 => D_X12_passed_123 xs xl d v1 v2 v3 vs0 y1 y2 y3 M)))) := by
  have hF := dp_den_grow (md := true) (xs := xs) (xl := xl) d
  unfold D_X12_passed_99
  refine dp_s1 hF (i := .lstore 4) rfl (fun _ => rfl) ?_
  refine dp_s1 hF (i := .lload 4) rfl (fun _ => rfl) ?_
  refine dp_s1 hF (i := .aload_n 0) rfl (fun _ => rfl) ?_
  refine dp_s1 hF (i := .getfield 377) rfl (fun _ => rfl) ?_
  refine dp_s1 hF (i := .iload_n 1) rfl (fun _ => rfl) ?_
  refine dp_s3 hF (i := .iaload) rfl (fun _ => rfl) ?_
  refine dp_s1 hF (i := .i2l) rfl (fun _ => rfl) ?_
  refine dp_s1 hF (i := .lmul) rfl (fun _ => rfl) ?_
  refine dp_s1 hF (i := .ldc2_w 456) rfl (fun _ => rfl) ?_
  refine dp_s1 hF (i := .ldiv) rfl (fun _ => rfl) ?_
  refine dp_s1w ((vs0 * (Int32.toInt64 (dp_I M 232 (Int32.toNatClampNeg v1)))) / (1000 : Int64)) (fun (y1 : Int64) => (117, [some (.ref 114), some (.int v1), some (.int v2), some (.int v3), some (.long vs0), none, some (.long y1), none, none, none, none], [], M)) hF (i := .lstore 6) rfl (fun _ => rfl) (fun y1 => ?_)
  refine dp_s1 hF (i := .lconst 0) rfl (fun _ => rfl) ?_
  refine dp_s1w (0 : Int64) (fun (y2 : Int64) => (120, [some (.ref 114), some (.int v1), some (.int v2), some (.int v3), some (.long vs0), none, some (.long y1), none, some (.long y2), none, none], [], M)) hF (i := .lstore 8) rfl (fun _ => rfl) (fun y2 => ?_)
  refine dp_s1 hF (i := .iconst 0) rfl (fun _ => rfl) ?_
  refine dp_s1w (0 : Int32) (fun (y3 : Int32) => (123, [some (.ref 114), some (.int v1), some (.int v2), some (.int v3), some (.long vs0), none, some (.long y1), none, some (.long y2), none, some (.int y3)], [], M)) hF (i := .istore 10) rfl (fun _ => rfl) (fun y3 => ?_)
  exact rfl
set_option maxRecDepth 20000 in
theorem D_X12_passed_123_eq (xs : Nat → Int32) (xl d : Nat) (v1 : Int32) (v2 : Int32) (v3 : Int32) (v4 : Int64) (v6 : Int64) (v8 : Int64) (v10 : Int32) (M : dp_M) : D_X12_passed_123 xs xl d v1 v2 v3 v4 v6 v8 v10 M = if (4 : Int32) ≤ v10 then (if (4 : Int32) ≤ v2 then (if v2 = (4 : Int32) then (some (.inl (some (.long v6)), M)) else (if v2 = (5 : Int32) then (some (.inl (some (.long (v4 - v8))), M)) else (some (.inl (some (.long v4)), M)))) else (dp_bl (dp_den true xs xl d 562 [.ref 114, .int v1, .int v2, .long (v4 - v6)] M) (fun r2 M1 => some (.inl (some (.long r2)), M1)))) else (dp_bl (dp_den true xs xl d 562 [.ref 114, .int v1, .int v10, .long (v4 - v6)] M) (fun r4 M3 => dp_w (v8 + r4) (fun y5 => dp_w (v10 + (1 : Int32)) (fun y6 => D_X12_passed_123 xs xl d v1 v2 v3 v4 v6 y5 y6 M3)))) := by
  have hF := dp_den_grow (md := true) (xs := xs) (xl := xl) d
  unfold D_X12_passed_123
  refine dp_s1 hF (i := .iload 10) rfl (fun _ => rfl) ?_
  refine dp_s1 hF (i := .iconst 4) rfl (fun _ => rfl) ?_
  refine dp_s2 hF (i := .if_icmp .ge 26) (a := (152, [some (.ref 114), some (.int v1), some (.int v2), some (.int v3), some (.long v4), none, some (.long v6), none, some (.long v8), none, some (.int v10)], [], M)) (b := (129, [some (.ref 114), some (.int v1), some (.int v2), some (.int v3), some (.long v4), none, some (.long v6), none, some (.long v8), none, some (.int v10)], [], M)) rfl (fun _ => rfl) ?_ ?_
  · refine dp_s1 hF (i := .iload_n 2) rfl (fun _ => rfl) ?_
    refine dp_s1 hF (i := .iconst 4) rfl (fun _ => rfl) ?_
    refine dp_s2 hF (i := .if_icmp .ge 17) (a := (171, [some (.ref 114), some (.int v1), some (.int v2), some (.int v3), some (.long v4), none, some (.long v6), none, some (.long v8), none, some (.int v10)], [], M)) (b := (157, [some (.ref 114), some (.int v1), some (.int v2), some (.int v3), some (.long v4), none, some (.long v6), none, some (.long v8), none, some (.int v10)], [], M)) rfl (fun _ => rfl) ?_ ?_
    · refine dp_s1 hF (i := .iload_n 2) rfl (fun _ => rfl) ?_
      refine dp_s1 hF (i := .iconst 4) rfl (fun _ => rfl) ?_
      refine dp_s2 hF (i := .if_icmp .ne 8) (a := (176, [some (.ref 114), some (.int v1), some (.int v2), some (.int v3), some (.long v4), none, some (.long v6), none, some (.long v8), none, some (.int v10)], [], M)) (b := (181, [some (.ref 114), some (.int v1), some (.int v2), some (.int v3), some (.long v4), none, some (.long v6), none, some (.long v8), none, some (.int v10)], [], M)) rfl (fun _ => rfl) ?_ ?_
      · refine dp_s1 hF (i := .lload 6) rfl (fun _ => rfl) ?_
        refine dp_s1 hF (i := .goto 18) rfl (fun _ => rfl) ?_
        exact dp_s0 hF (i := .lreturn) rfl (fun _ => rfl)
      refine dp_s1 hF (i := .iload_n 2) rfl (fun _ => rfl) ?_
      refine dp_s1 hF (i := .iconst 5) rfl (fun _ => rfl) ?_
      refine dp_s2 hF (i := .if_icmp .ne 11) (a := (186, [some (.ref 114), some (.int v1), some (.int v2), some (.int v3), some (.long v4), none, some (.long v6), none, some (.long v8), none, some (.int v10)], [], M)) (b := (194, [some (.ref 114), some (.int v1), some (.int v2), some (.int v3), some (.long v4), none, some (.long v6), none, some (.long v8), none, some (.int v10)], [], M)) rfl (fun _ => rfl) ?_ ?_
      · refine dp_s1 hF (i := .lload 4) rfl (fun _ => rfl) ?_
        refine dp_s1 hF (i := .lload 8) rfl (fun _ => rfl) ?_
        refine dp_s1 hF (i := .lsub) rfl (fun _ => rfl) ?_
        refine dp_s1 hF (i := .goto 5) rfl (fun _ => rfl) ?_
        exact dp_s0 hF (i := .lreturn) rfl (fun _ => rfl)
      refine dp_s1 hF (i := .lload 4) rfl (fun _ => rfl) ?_
      exact dp_s0 hF (i := .lreturn) rfl (fun _ => rfl)
    refine dp_s1 hF (i := .aload_n 0) rfl (fun _ => rfl) ?_
    refine dp_s1 hF (i := .iload_n 1) rfl (fun _ => rfl) ?_
    refine dp_s1 hF (i := .iload_n 2) rfl (fun _ => rfl) ?_
    refine dp_s1 hF (i := .lload 4) rfl (fun _ => rfl) ?_
    refine dp_s1 hF (i := .lload 6) rfl (fun _ => rfl) ?_
    refine dp_s1 hF (i := .lsub) rfl (fun _ => rfl) ?_
    refine dp_sl9 (mj := dp_m_X12_shareOf) (i := .invokevirtual 1025) rfl rfl rfl rfl (fun _ => rfl) (fun r2 M1 => ?_)
    refine dp_s1 hF (i := .goto 28) rfl (fun _ => rfl) ?_
    exact dp_s0 hF (i := .lreturn) rfl (fun _ => rfl)
  refine dp_s1 hF (i := .lload 8) rfl (fun _ => rfl) ?_
  refine dp_s1 hF (i := .aload_n 0) rfl (fun _ => rfl) ?_
  refine dp_s1 hF (i := .iload_n 1) rfl (fun _ => rfl) ?_
  refine dp_s1 hF (i := .iload 10) rfl (fun _ => rfl) ?_
  refine dp_s1 hF (i := .lload 4) rfl (fun _ => rfl) ?_
  refine dp_s1 hF (i := .lload 6) rfl (fun _ => rfl) ?_
  refine dp_s1 hF (i := .lsub) rfl (fun _ => rfl) ?_
  refine dp_sl9 (mj := dp_m_X12_shareOf) (i := .invokevirtual 1025) rfl rfl rfl rfl (fun _ => rfl) (fun r4 M3 => ?_)
  refine dp_s1 hF (i := .ladd) rfl (fun _ => rfl) ?_
  refine dp_s1w (v8 + r4) (fun (y5 : Int64) => (146, [some (.ref 114), some (.int v1), some (.int v2), some (.int v3), some (.long v4), none, some (.long v6), none, some (.long y5), none, some (.int v10)], [], M3)) hF (i := .lstore 8) rfl (fun _ => rfl) (fun y5 => ?_)
  refine dp_s1w (v10 + (1 : Int32)) (fun (y6 : Int32) => (149, [some (.ref 114), some (.int v1), some (.int v2), some (.int v3), some (.long v4), none, some (.long v6), none, some (.long y5), none, some (.int y6)], [], M3)) hF (i := .iinc 10 1) rfl (fun _ => rfl) (fun y6 => ?_)
  refine dp_s1 hF (i := .goto (-26)) rfl (fun _ => rfl) ?_
  exact rfl
noncomputable def D_X12_read_0 (xs : Nat → Int32) (xl d : Nat) (v1 : Int32) (v2 : Int32) (M : dp_M) : Option dp_Res := dp_lim true xs xl (dp_den true xs xl d) dp_m_X12_read (0, [some (.ref 114), some (.int v1), some (.int v2), none], [], M)
theorem D_X12_read_0_den (xs : Nat → Int32) (xl d : Nat) (a0 : Int32) (a1 : Int32) (M : dp_M) : dp_den true xs xl (d + 1) 564 [.ref 114, .int a0, .int a1] M = D_X12_read_0 xs xl d a0 a1 M := rfl
set_option maxRecDepth 20000 in
theorem D_X12_read_0_eq (xs : Nat → Int32) (xl d : Nat) (v1 : Int32) (v2 : Int32) (M : dp_M) : D_X12_read_0 xs xl d v1 v2 M = if v1 < 0 then (dp_bi (dp_den true xs xl d 366 [.ref 114, .int (1 : Int32)] M) (fun r2 M1 => some (.inl (some (.long (Int32.toInt64 r2))), M1))) else (if (dp_I M 114 142) ≤ v1 then (dp_bi (dp_den true xs xl d 366 [.ref 114, .int (1 : Int32)] M) (fun r4 M3 => some (.inl (some (.long (Int32.toInt64 r4))), M3))) else (dp_bi (dp_den true xs xl d 367 [.long (Int32.toInt64 v2), .long (0 : Int64), .long (4 : Int64)] M) (fun r6 M5 => if r6 = 0 then (dp_bi (dp_den true xs xl d 366 [.ref 114, .int (1 : Int32)] M5) (fun r8 M7 => some (.inl (some (.long (Int32.toInt64 r8))), M7))) else (dp_w (dp_setI M5 114 0 (0 : Int32)) (fun M9 => if v1 < 0 ∨ 4000 ≤ Int32.toNatClampNeg v1 then none else (dp_w ((dp_I M9 230 (Int32.toNatClampNeg v1)) / (20 : Int32)) (fun y10 => if v2 = (0 : Int32) then (some (.inl (some (.long (Int32.toInt64 y10))), M9)) else if v2 = (1 : Int32) then (if v1 < 0 ∨ 4000 ≤ Int32.toNatClampNeg v1 then none else (if (dp_I M9 230 (Int32.toNatClampNeg v1)) < 0 ∨ 16020 ≤ Int32.toNatClampNeg (dp_I M9 230 (Int32.toNatClampNeg v1)) then none else (some (.inl (some (.long (Int32.toInt64 (dp_I M9 228 (Int32.toNatClampNeg (dp_I M9 230 (Int32.toNatClampNeg v1))))))), M9)))) else if v2 = (2 : Int32) then (if v1 < 0 ∨ 4000 ≤ Int32.toNatClampNeg v1 then none else (if (dp_I M9 230 (Int32.toNatClampNeg v1)) < 0 ∨ 16020 ≤ Int32.toNatClampNeg (dp_I M9 230 (Int32.toNatClampNeg v1)) then none else (some (.inl (some (.long (dp_J M9 229 (Int32.toNatClampNeg (dp_I M9 230 (Int32.toNatClampNeg v1)))))), M9)))) else if v2 = (3 : Int32) then (if y10 < 0 ∨ 801 ≤ Int32.toNatClampNeg y10 then none else (some (.inl (some (.long (Int32.toInt64 (dp_I M9 222 (Int32.toNatClampNeg y10))))), M9))) else (if y10 < 0 ∨ 801 ≤ Int32.toNatClampNeg y10 then none else (some (.inl (some (.long (Int32.toInt64 (dp_I M9 223 (Int32.toNatClampNeg y10))))), M9)))))))))) := by
  have hF := dp_den_grow (md := true) (xs := xs) (xl := xl) d
  unfold D_X12_read_0
  refine dp_s1 hF (i := .iload_n 1) rfl (fun _ => rfl) ?_
  refine dp_s2 hF (i := .ifCond .lt 23) (a := (24, [some (.ref 114), some (.int v1), some (.int v2), none], [], M)) (b := (4, [some (.ref 114), some (.int v1), some (.int v2), none], [], M)) rfl (fun _ => rfl) ?_ ?_
  · refine dp_s1 hF (i := .aload_n 0) rfl (fun _ => rfl) ?_
    refine dp_s1 hF (i := .iconst 1) rfl (fun _ => rfl) ?_
    refine dp_si (mj := dp_m_X12_refuse) (i := .invokevirtual 460) rfl rfl (Or.inl rfl) rfl (fun _ => rfl) (fun r2 M1 => ?_)
    refine dp_s1 hF (i := .i2l) rfl (fun _ => rfl) ?_
    exact dp_s0 hF (i := .lreturn) rfl (fun _ => rfl)
  refine dp_s1 hF (i := .iload_n 1) rfl (fun _ => rfl) ?_
  refine dp_s1 hF (i := .aload_n 0) rfl (fun _ => rfl) ?_
  refine dp_s1 hF (i := .getfield 992) rfl (fun _ => rfl) ?_
  refine dp_s2 hF (i := .if_icmp .ge 15) (a := (24, [some (.ref 114), some (.int v1), some (.int v2), none], [], M)) (b := (12, [some (.ref 114), some (.int v1), some (.int v2), none], [], M)) rfl (fun _ => rfl) ?_ ?_
  · refine dp_s1 hF (i := .aload_n 0) rfl (fun _ => rfl) ?_
    refine dp_s1 hF (i := .iconst 1) rfl (fun _ => rfl) ?_
    refine dp_si (mj := dp_m_X12_refuse) (i := .invokevirtual 460) rfl rfl (Or.inl rfl) rfl (fun _ => rfl) (fun r4 M3 => ?_)
    refine dp_s1 hF (i := .i2l) rfl (fun _ => rfl) ?_
    exact dp_s0 hF (i := .lreturn) rfl (fun _ => rfl)
  refine dp_s1 hF (i := .iload_n 2) rfl (fun _ => rfl) ?_
  refine dp_s1 hF (i := .i2l) rfl (fun _ => rfl) ?_
  refine dp_s1 hF (i := .lconst 0) rfl (fun _ => rfl) ?_
  refine dp_s1 hF (i := .ldc2_w 625) rfl (fun _ => rfl) ?_
  refine dp_si (mj := dp_m_X12_in) (i := .invokestatic 446) rfl rfl (Or.inr rfl) rfl (fun _ => rfl) (fun r6 M5 => ?_)
  refine dp_s2 hF (i := .ifCond .ne 10) (a := (24, [some (.ref 114), some (.int v1), some (.int v2), none], [], M5)) (b := (31, [some (.ref 114), some (.int v1), some (.int v2), none], [], M5)) rfl (fun _ => rfl) ?_ ?_
  · refine dp_s1 hF (i := .aload_n 0) rfl (fun _ => rfl) ?_
    refine dp_s1 hF (i := .iconst 1) rfl (fun _ => rfl) ?_
    refine dp_si (mj := dp_m_X12_refuse) (i := .invokevirtual 460) rfl rfl (Or.inl rfl) rfl (fun _ => rfl) (fun r8 M7 => ?_)
    refine dp_s1 hF (i := .i2l) rfl (fun _ => rfl) ?_
    exact dp_s0 hF (i := .lreturn) rfl (fun _ => rfl)
  refine dp_s1 hF (i := .aload_n 0) rfl (fun _ => rfl) ?_
  refine dp_s1 hF (i := .iconst 0) rfl (fun _ => rfl) ?_
  refine dp_s1w (dp_setI M5 114 0 (0 : Int32)) (fun (M9 : dp_M) => (36, [some (.ref 114), some (.int v1), some (.int v2), none], [], M9)) hF (i := .putfield 1) rfl (fun _ => rfl) (fun M9 => ?_)
  refine dp_s1 hF (i := .aload_n 0) rfl (fun _ => rfl) ?_
  refine dp_s1 hF (i := .getfield 371) rfl (fun _ => rfl) ?_
  refine dp_s1 hF (i := .iload_n 1) rfl (fun _ => rfl) ?_
  refine dp_s3 hF (i := .iaload) rfl (fun _ => rfl) ?_
  refine dp_s1 hF (i := .bipush 20) rfl (fun _ => rfl) ?_
  refine dp_s1 hF (i := .idiv) rfl (fun _ => rfl) ?_
  refine dp_s1w ((dp_I M9 230 (Int32.toNatClampNeg v1)) / (20 : Int32)) (fun (y10 : Int32) => (46, [some (.ref 114), some (.int v1), some (.int v2), some (.int y10)], [], M9)) hF (i := .istore_n 3) rfl (fun _ => rfl) (fun y10 => ?_)
  refine dp_s1 hF (i := .iload_n 2) rfl (fun _ => rfl) ?_
  refine (dp_s (E := fun k => if v2 = (0 : Int32) then k (76, [some (.ref 114), some (.int v1), some (.int v2), some (.int y10)], [], M9) else if v2 = (1 : Int32) then k (79, [some (.ref 114), some (.int v1), some (.int v2), some (.int y10)], [], M9) else if v2 = (2 : Int32) then k (92, [some (.ref 114), some (.int v1), some (.int v2), some (.int y10)], [], M9) else if v2 = (3 : Int32) then k (104, [some (.ref 114), some (.int v1), some (.int v2), some (.int y10)], [], M9) else k (112, [some (.ref 114), some (.int v1), some (.int v2), some (.int y10)], [], M9)) hF (i := .tableswitch 65 0 3 #[29, 32, 45, 57]) rfl (fun _ => rfl)).trans ?_
  refine dp_ifc ?_ ?_
  · refine dp_s1 hF (i := .iload_n 3) rfl (fun _ => rfl) ?_
    refine dp_s1 hF (i := .i2l) rfl (fun _ => rfl) ?_
    exact dp_s0 hF (i := .lreturn) rfl (fun _ => rfl)
  refine dp_ifc ?_ ?_
  · refine dp_s1 hF (i := .aload_n 0) rfl (fun _ => rfl) ?_
    refine dp_s1 hF (i := .getfield 365) rfl (fun _ => rfl) ?_
    refine dp_s1 hF (i := .aload_n 0) rfl (fun _ => rfl) ?_
    refine dp_s1 hF (i := .getfield 371) rfl (fun _ => rfl) ?_
    refine dp_s1 hF (i := .iload_n 1) rfl (fun _ => rfl) ?_
    refine dp_s3 hF (i := .iaload) rfl (fun _ => rfl) ?_
    refine dp_s3 hF (i := .iaload) rfl (fun _ => rfl) ?_
    refine dp_s1 hF (i := .i2l) rfl (fun _ => rfl) ?_
    exact dp_s0 hF (i := .lreturn) rfl (fun _ => rfl)
  refine dp_ifc ?_ ?_
  · refine dp_s1 hF (i := .aload_n 0) rfl (fun _ => rfl) ?_
    refine dp_s1 hF (i := .getfield 368) rfl (fun _ => rfl) ?_
    refine dp_s1 hF (i := .aload_n 0) rfl (fun _ => rfl) ?_
    refine dp_s1 hF (i := .getfield 371) rfl (fun _ => rfl) ?_
    refine dp_s1 hF (i := .iload_n 1) rfl (fun _ => rfl) ?_
    refine dp_s3 hF (i := .iaload) rfl (fun _ => rfl) ?_
    refine dp_s3 hF (i := .laload) rfl (fun _ => rfl) ?_
    exact dp_s0 hF (i := .lreturn) rfl (fun _ => rfl)
  refine dp_ifc ?_ ?_
  · refine dp_s1 hF (i := .aload_n 0) rfl (fun _ => rfl) ?_
    refine dp_s1 hF (i := .getfield 347) rfl (fun _ => rfl) ?_
    refine dp_s1 hF (i := .iload_n 3) rfl (fun _ => rfl) ?_
    refine dp_s3 hF (i := .iaload) rfl (fun _ => rfl) ?_
    refine dp_s1 hF (i := .i2l) rfl (fun _ => rfl) ?_
    exact dp_s0 hF (i := .lreturn) rfl (fun _ => rfl)
  refine dp_s1 hF (i := .aload_n 0) rfl (fun _ => rfl) ?_
  refine dp_s1 hF (i := .getfield 350) rfl (fun _ => rfl) ?_
  refine dp_s1 hF (i := .iload_n 3) rfl (fun _ => rfl) ?_
  refine dp_s3 hF (i := .iaload) rfl (fun _ => rfl) ?_
  refine dp_s1 hF (i := .i2l) rfl (fun _ => rfl) ?_
  exact dp_s0 hF (i := .lreturn) rfl (fun _ => rfl)
noncomputable def D_X12_batchOf_0 (xs : Nat → Int32) (xl d : Nat) (v1 : Int32) (v2 : Int32) (M : dp_M) : Option dp_Res := dp_lim true xs xl (dp_den true xs xl d) dp_m_X12_batchOf (0, [some (.ref 114), some (.int v1), some (.int v2)], [], M)
theorem D_X12_batchOf_0_den (xs : Nat → Int32) (xl d : Nat) (a0 : Int32) (a1 : Int32) (M : dp_M) : dp_den true xs xl (d + 1) 565 [.ref 114, .int a0, .int a1] M = D_X12_batchOf_0 xs xl d a0 a1 M := rfl
set_option maxRecDepth 20000 in
theorem D_X12_batchOf_0_eq (xs : Nat → Int32) (xl d : Nat) (v1 : Int32) (v2 : Int32) (M : dp_M) : D_X12_batchOf_0 xs xl d v1 v2 M = if v1 < 0 then (dp_bi (dp_den true xs xl d 366 [.ref 114, .int (1 : Int32)] M) (fun r2 M1 => some (.inl (some (.int r2)), M1))) else (if (dp_I M 114 141) ≤ v1 then (dp_bi (dp_den true xs xl d 366 [.ref 114, .int (1 : Int32)] M) (fun r4 M3 => some (.inl (some (.int r4)), M3))) else (dp_bi (dp_den true xs xl d 367 [.long (Int32.toInt64 v2), .long (0 : Int64), .long (6 : Int64)] M) (fun r6 M5 => if r6 = 0 then (dp_bi (dp_den true xs xl d 366 [.ref 114, .int (1 : Int32)] M5) (fun r8 M7 => some (.inl (some (.int r8)), M7))) else (dp_w (dp_setI M5 114 0 (0 : Int32)) (fun M9 => if v2 = (0 : Int32) then (if v1 < 0 ∨ 801 ≤ Int32.toNatClampNeg v1 then none else (some (.inl (some (.int (dp_I M9 221 (Int32.toNatClampNeg v1)))), M9))) else if v2 = (1 : Int32) then (if v1 < 0 ∨ 801 ≤ Int32.toNatClampNeg v1 then none else (if (dp_I M9 221 (Int32.toNatClampNeg v1)) = (2 : Int32) then (some (.inl (some (.int (0 : Int32))), M9)) else (if v1 < 0 ∨ 801 ≤ Int32.toNatClampNeg v1 then none else (some (.inl (some (.int (dp_I M9 227 (Int32.toNatClampNeg v1)))), M9))))) else if v2 = (2 : Int32) then (if v1 < 0 ∨ 801 ≤ Int32.toNatClampNeg v1 then none else (some (.inl (some (.int (dp_I M9 224 (Int32.toNatClampNeg v1)))), M9))) else if v2 = (3 : Int32) then (if v1 < 0 ∨ 801 ≤ Int32.toNatClampNeg v1 then none else (some (.inl (some (.int (dp_I M9 225 (Int32.toNatClampNeg v1)))), M9))) else if v2 = (4 : Int32) then (if v1 < 0 ∨ 801 ≤ Int32.toNatClampNeg v1 then none else (if (dp_I M9 226 (Int32.toNatClampNeg v1)) = 0 then (some (.inl (some (.int (0 : Int32))), M9)) else (some (.inl (some (.int (1 : Int32))), M9)))) else if v2 = (5 : Int32) then (if v1 < 0 ∨ 801 ≤ Int32.toNatClampNeg v1 then none else (some (.inl (some (.int (dp_I M9 222 (Int32.toNatClampNeg v1)))), M9))) else (if v1 < 0 ∨ 801 ≤ Int32.toNatClampNeg v1 then none else (some (.inl (some (.int (dp_I M9 223 (Int32.toNatClampNeg v1)))), M9)))))))) := by
  have hF := dp_den_grow (md := true) (xs := xs) (xl := xl) d
  unfold D_X12_batchOf_0
  refine dp_s1 hF (i := .iload_n 1) rfl (fun _ => rfl) ?_
  refine dp_s2 hF (i := .ifCond .lt 23) (a := (24, [some (.ref 114), some (.int v1), some (.int v2)], [], M)) (b := (4, [some (.ref 114), some (.int v1), some (.int v2)], [], M)) rfl (fun _ => rfl) ?_ ?_
  · refine dp_s1 hF (i := .aload_n 0) rfl (fun _ => rfl) ?_
    refine dp_s1 hF (i := .iconst 1) rfl (fun _ => rfl) ?_
    refine dp_si (mj := dp_m_X12_refuse) (i := .invokevirtual 460) rfl rfl (Or.inl rfl) rfl (fun _ => rfl) (fun r2 M1 => ?_)
    exact dp_s0 hF (i := .ireturn) rfl (fun _ => rfl)
  refine dp_s1 hF (i := .iload_n 1) rfl (fun _ => rfl) ?_
  refine dp_s1 hF (i := .aload_n 0) rfl (fun _ => rfl) ?_
  refine dp_s1 hF (i := .getfield 966) rfl (fun _ => rfl) ?_
  refine dp_s2 hF (i := .if_icmp .ge 15) (a := (24, [some (.ref 114), some (.int v1), some (.int v2)], [], M)) (b := (12, [some (.ref 114), some (.int v1), some (.int v2)], [], M)) rfl (fun _ => rfl) ?_ ?_
  · refine dp_s1 hF (i := .aload_n 0) rfl (fun _ => rfl) ?_
    refine dp_s1 hF (i := .iconst 1) rfl (fun _ => rfl) ?_
    refine dp_si (mj := dp_m_X12_refuse) (i := .invokevirtual 460) rfl rfl (Or.inl rfl) rfl (fun _ => rfl) (fun r4 M3 => ?_)
    exact dp_s0 hF (i := .ireturn) rfl (fun _ => rfl)
  refine dp_s1 hF (i := .iload_n 2) rfl (fun _ => rfl) ?_
  refine dp_s1 hF (i := .i2l) rfl (fun _ => rfl) ?_
  refine dp_s1 hF (i := .lconst 0) rfl (fun _ => rfl) ?_
  refine dp_s1 hF (i := .ldc2_w 1019) rfl (fun _ => rfl) ?_
  refine dp_si (mj := dp_m_X12_in) (i := .invokestatic 446) rfl rfl (Or.inr rfl) rfl (fun _ => rfl) (fun r6 M5 => ?_)
  refine dp_s2 hF (i := .ifCond .ne 9) (a := (24, [some (.ref 114), some (.int v1), some (.int v2)], [], M5)) (b := (30, [some (.ref 114), some (.int v1), some (.int v2)], [], M5)) rfl (fun _ => rfl) ?_ ?_
  · refine dp_s1 hF (i := .aload_n 0) rfl (fun _ => rfl) ?_
    refine dp_s1 hF (i := .iconst 1) rfl (fun _ => rfl) ?_
    refine dp_si (mj := dp_m_X12_refuse) (i := .invokevirtual 460) rfl rfl (Or.inl rfl) rfl (fun _ => rfl) (fun r8 M7 => ?_)
    exact dp_s0 hF (i := .ireturn) rfl (fun _ => rfl)
  refine dp_s1 hF (i := .aload_n 0) rfl (fun _ => rfl) ?_
  refine dp_s1 hF (i := .iconst 0) rfl (fun _ => rfl) ?_
  refine dp_s1w (dp_setI M5 114 0 (0 : Int32)) (fun (M9 : dp_M) => (35, [some (.ref 114), some (.int v1), some (.int v2)], [], M9)) hF (i := .putfield 1) rfl (fun _ => rfl) (fun M9 => ?_)
  refine dp_s1 hF (i := .iload_n 2) rfl (fun _ => rfl) ?_
  refine (dp_s (E := fun k => if v2 = (0 : Int32) then k (76, [some (.ref 114), some (.int v1), some (.int v2)], [], M9) else if v2 = (1 : Int32) then k (83, [some (.ref 114), some (.int v1), some (.int v2)], [], M9) else if v2 = (2 : Int32) then k (104, [some (.ref 114), some (.int v1), some (.int v2)], [], M9) else if v2 = (3 : Int32) then k (111, [some (.ref 114), some (.int v1), some (.int v2)], [], M9) else if v2 = (4 : Int32) then k (118, [some (.ref 114), some (.int v1), some (.int v2)], [], M9) else if v2 = (5 : Int32) then k (133, [some (.ref 114), some (.int v1), some (.int v2)], [], M9) else k (140, [some (.ref 114), some (.int v1), some (.int v2)], [], M9)) hF (i := .tableswitch 104 0 5 #[40, 47, 68, 75, 82, 97]) rfl (fun _ => rfl)).trans ?_
  refine dp_ifc ?_ ?_
  · refine dp_s1 hF (i := .aload_n 0) rfl (fun _ => rfl) ?_
    refine dp_s1 hF (i := .getfield 344) rfl (fun _ => rfl) ?_
    refine dp_s1 hF (i := .iload_n 1) rfl (fun _ => rfl) ?_
    refine dp_s3 hF (i := .iaload) rfl (fun _ => rfl) ?_
    exact dp_s0 hF (i := .ireturn) rfl (fun _ => rfl)
  refine dp_ifc ?_ ?_
  · refine dp_s1 hF (i := .aload_n 0) rfl (fun _ => rfl) ?_
    refine dp_s1 hF (i := .getfield 344) rfl (fun _ => rfl) ?_
    refine dp_s1 hF (i := .iload_n 1) rfl (fun _ => rfl) ?_
    refine dp_s3 hF (i := .iaload) rfl (fun _ => rfl) ?_
    refine dp_s1 hF (i := .iconst 2) rfl (fun _ => rfl) ?_
    refine dp_s2 hF (i := .if_icmp .ne 7) (a := (93, [some (.ref 114), some (.int v1), some (.int v2)], [], M9)) (b := (97, [some (.ref 114), some (.int v1), some (.int v2)], [], M9)) rfl (fun _ => rfl) ?_ ?_
    · refine dp_s1 hF (i := .iconst 0) rfl (fun _ => rfl) ?_
      refine dp_s1 hF (i := .goto 9) rfl (fun _ => rfl) ?_
      exact dp_s0 hF (i := .ireturn) rfl (fun _ => rfl)
    refine dp_s1 hF (i := .aload_n 0) rfl (fun _ => rfl) ?_
    refine dp_s1 hF (i := .getfield 362) rfl (fun _ => rfl) ?_
    refine dp_s1 hF (i := .iload_n 1) rfl (fun _ => rfl) ?_
    refine dp_s3 hF (i := .iaload) rfl (fun _ => rfl) ?_
    exact dp_s0 hF (i := .ireturn) rfl (fun _ => rfl)
  refine dp_ifc ?_ ?_
  · refine dp_s1 hF (i := .aload_n 0) rfl (fun _ => rfl) ?_
    refine dp_s1 hF (i := .getfield 353) rfl (fun _ => rfl) ?_
    refine dp_s1 hF (i := .iload_n 1) rfl (fun _ => rfl) ?_
    refine dp_s3 hF (i := .iaload) rfl (fun _ => rfl) ?_
    exact dp_s0 hF (i := .ireturn) rfl (fun _ => rfl)
  refine dp_ifc ?_ ?_
  · refine dp_s1 hF (i := .aload_n 0) rfl (fun _ => rfl) ?_
    refine dp_s1 hF (i := .getfield 356) rfl (fun _ => rfl) ?_
    refine dp_s1 hF (i := .iload_n 1) rfl (fun _ => rfl) ?_
    refine dp_s3 hF (i := .iaload) rfl (fun _ => rfl) ?_
    exact dp_s0 hF (i := .ireturn) rfl (fun _ => rfl)
  refine dp_ifc ?_ ?_
  · refine dp_s1 hF (i := .aload_n 0) rfl (fun _ => rfl) ?_
    refine dp_s1 hF (i := .getfield 359) rfl (fun _ => rfl) ?_
    refine dp_s1 hF (i := .iload_n 1) rfl (fun _ => rfl) ?_
    refine dp_s3 hF (i := .baload) rfl (fun _ => rfl) ?_
    refine dp_s2 hF (i := .ifCond .eq 7) (a := (131, [some (.ref 114), some (.int v1), some (.int v2)], [], M9)) (b := (127, [some (.ref 114), some (.int v1), some (.int v2)], [], M9)) rfl (fun _ => rfl) ?_ ?_
    · refine dp_s1 hF (i := .iconst 0) rfl (fun _ => rfl) ?_
      exact dp_s0 hF (i := .ireturn) rfl (fun _ => rfl)
    refine dp_s1 hF (i := .iconst 1) rfl (fun _ => rfl) ?_
    refine dp_s1 hF (i := .goto 4) rfl (fun _ => rfl) ?_
    exact dp_s0 hF (i := .ireturn) rfl (fun _ => rfl)
  refine dp_ifc ?_ ?_
  · refine dp_s1 hF (i := .aload_n 0) rfl (fun _ => rfl) ?_
    refine dp_s1 hF (i := .getfield 347) rfl (fun _ => rfl) ?_
    refine dp_s1 hF (i := .iload_n 1) rfl (fun _ => rfl) ?_
    refine dp_s3 hF (i := .iaload) rfl (fun _ => rfl) ?_
    exact dp_s0 hF (i := .ireturn) rfl (fun _ => rfl)
  refine dp_s1 hF (i := .aload_n 0) rfl (fun _ => rfl) ?_
  refine dp_s1 hF (i := .getfield 350) rfl (fun _ => rfl) ?_
  refine dp_s1 hF (i := .iload_n 1) rfl (fun _ => rfl) ?_
  refine dp_s3 hF (i := .iaload) rfl (fun _ => rfl) ?_
  exact dp_s0 hF (i := .ireturn) rfl (fun _ => rfl)
noncomputable def D_X12_isDeclaration_0 (xs : Nat → Int32) (xl d : Nat) (v1 : Int32) (M : dp_M) : Option dp_Res := dp_lim true xs xl (dp_den true xs xl d) dp_m_X12_isDeclaration (0, [some (.ref 114), some (.int v1)], [], M)
theorem D_X12_isDeclaration_0_den (xs : Nat → Int32) (xl d : Nat) (a0 : Int32) (M : dp_M) : dp_den true xs xl (d + 1) 566 [.ref 114, .int a0] M = D_X12_isDeclaration_0 xs xl d a0 M := rfl
set_option maxRecDepth 20000 in
theorem D_X12_isDeclaration_0_eq (xs : Nat → Int32) (xl d : Nat) (v1 : Int32) (M : dp_M) : D_X12_isDeclaration_0 xs xl d v1 M = if v1 < 0 then (some (.inl (some (.int (0 : Int32))), M)) else (if (dp_I M 114 160) ≤ v1 then (some (.inl (some (.int (0 : Int32))), M)) else (some (.inl (some (.int (1 : Int32))), M))) := by
  have hF := dp_den_grow (md := true) (xs := xs) (xl := xl) d
  unfold D_X12_isDeclaration_0
  refine dp_s1 hF (i := .iload_n 1) rfl (fun _ => rfl) ?_
  refine dp_s2 hF (i := .ifCond .lt 15) (a := (16, [some (.ref 114), some (.int v1)], [], M)) (b := (4, [some (.ref 114), some (.int v1)], [], M)) rfl (fun _ => rfl) ?_ ?_
  · refine dp_s1 hF (i := .iconst 0) rfl (fun _ => rfl) ?_
    exact dp_s0 hF (i := .ireturn) rfl (fun _ => rfl)
  refine dp_s1 hF (i := .iload_n 1) rfl (fun _ => rfl) ?_
  refine dp_s1 hF (i := .aload_n 0) rfl (fun _ => rfl) ?_
  refine dp_s1 hF (i := .getfield 611) rfl (fun _ => rfl) ?_
  refine dp_s2 hF (i := .if_icmp .ge 7) (a := (16, [some (.ref 114), some (.int v1)], [], M)) (b := (12, [some (.ref 114), some (.int v1)], [], M)) rfl (fun _ => rfl) ?_ ?_
  · refine dp_s1 hF (i := .iconst 0) rfl (fun _ => rfl) ?_
    exact dp_s0 hF (i := .ireturn) rfl (fun _ => rfl)
  refine dp_s1 hF (i := .iconst 1) rfl (fun _ => rfl) ?_
  refine dp_s1 hF (i := .goto 4) rfl (fun _ => rfl) ?_
  exact dp_s0 hF (i := .ireturn) rfl (fun _ => rfl)
noncomputable def D_X12_isState_0 (xs : Nat → Int32) (xl d : Nat) (v1 : Int32) (v2 : Int32) (M : dp_M) : Option dp_Res := dp_lim true xs xl (dp_den true xs xl d) dp_m_X12_isState (0, [some (.ref 114), some (.int v1), some (.int v2)], [], M)
theorem D_X12_isState_0_den (xs : Nat → Int32) (xl d : Nat) (a0 : Int32) (a1 : Int32) (M : dp_M) : dp_den true xs xl (d + 1) 567 [.ref 114, .int a0, .int a1] M = D_X12_isState_0 xs xl d a0 a1 M := rfl
set_option maxRecDepth 20000 in
theorem D_X12_isState_0_eq (xs : Nat → Int32) (xl d : Nat) (v1 : Int32) (v2 : Int32) (M : dp_M) : D_X12_isState_0 xs xl d v1 v2 M = dp_bi (dp_den true xs xl d 566 [.ref 114, .int v1] M) (fun r2 M1 => if r2 = 0 then (some (.inl (some (.int (0 : Int32))), M1)) else (dp_bi (dp_den true xs xl d 566 [.ref 114, .int v1] M1) (fun r4 M3 => if r4 = 0 then (if (0 : Int32) < 0 ∨ 400 ≤ Int32.toNatClampNeg (0 : Int32) then none else (if (dp_I M3 241 (Int32.toNatClampNeg (0 : Int32))) = v2 then (some (.inl (some (.int (1 : Int32))), M3)) else (some (.inl (some (.int (0 : Int32))), M3)))) else (if v1 < 0 ∨ 400 ≤ Int32.toNatClampNeg v1 then none else (if (dp_I M3 241 (Int32.toNatClampNeg v1)) = v2 then (some (.inl (some (.int (1 : Int32))), M3)) else (some (.inl (some (.int (0 : Int32))), M3))))))) := by
  have hF := dp_den_grow (md := true) (xs := xs) (xl := xl) d
  unfold D_X12_isState_0
  refine dp_s1 hF (i := .aload_n 0) rfl (fun _ => rfl) ?_
  refine dp_s1 hF (i := .iload_n 1) rfl (fun _ => rfl) ?_
  refine dp_si (mj := dp_m_X12_isDeclaration) (i := .invokevirtual 1029) rfl rfl (Or.inr rfl) rfl (fun _ => rfl) (fun r2 M1 => ?_)
  refine dp_s2 hF (i := .ifCond .eq 29) (a := (34, [some (.ref 114), some (.int v1), some (.int v2)], [], M1)) (b := (8, [some (.ref 114), some (.int v1), some (.int v2)], [], M1)) rfl (fun _ => rfl) ?_ ?_
  · refine dp_s1 hF (i := .iconst 0) rfl (fun _ => rfl) ?_
    exact dp_s0 hF (i := .ireturn) rfl (fun _ => rfl)
  refine dp_s1 hF (i := .aload_n 0) rfl (fun _ => rfl) ?_
  refine dp_s1 hF (i := .getfield 404) rfl (fun _ => rfl) ?_
  refine dp_s1 hF (i := .aload_n 0) rfl (fun _ => rfl) ?_
  refine dp_s1 hF (i := .iload_n 1) rfl (fun _ => rfl) ?_
  refine dp_si (mj := dp_m_X12_isDeclaration) (i := .invokevirtual 1029) rfl rfl (Or.inr rfl) rfl (fun _ => rfl) (fun r4 M3 => ?_)
  refine dp_s2 hF (i := .ifCond .eq 7) (a := (24, [some (.ref 114), some (.int v1), some (.int v2)], [.ref 241], M3)) (b := (20, [some (.ref 114), some (.int v1), some (.int v2)], [.ref 241], M3)) rfl (fun _ => rfl) ?_ ?_
  · refine dp_s1 hF (i := .iconst 0) rfl (fun _ => rfl) ?_
    refine dp_s3 hF (i := .iaload) rfl (fun _ => rfl) ?_
    refine dp_s1 hF (i := .iload_n 2) rfl (fun _ => rfl) ?_
    refine dp_s2 hF (i := .if_icmp .ne 7) (a := (30, [some (.ref 114), some (.int v1), some (.int v2)], [], M3)) (b := (34, [some (.ref 114), some (.int v1), some (.int v2)], [], M3)) rfl (fun _ => rfl) ?_ ?_
    · refine dp_s1 hF (i := .iconst 1) rfl (fun _ => rfl) ?_
      refine dp_s1 hF (i := .goto 4) rfl (fun _ => rfl) ?_
      exact dp_s0 hF (i := .ireturn) rfl (fun _ => rfl)
    refine dp_s1 hF (i := .iconst 0) rfl (fun _ => rfl) ?_
    exact dp_s0 hF (i := .ireturn) rfl (fun _ => rfl)
  refine dp_s1 hF (i := .iload_n 1) rfl (fun _ => rfl) ?_
  refine dp_s1 hF (i := .goto 4) rfl (fun _ => rfl) ?_
  refine dp_s3 hF (i := .iaload) rfl (fun _ => rfl) ?_
  refine dp_s1 hF (i := .iload_n 2) rfl (fun _ => rfl) ?_
  refine dp_s2 hF (i := .if_icmp .ne 7) (a := (30, [some (.ref 114), some (.int v1), some (.int v2)], [], M3)) (b := (34, [some (.ref 114), some (.int v1), some (.int v2)], [], M3)) rfl (fun _ => rfl) ?_ ?_
  · refine dp_s1 hF (i := .iconst 1) rfl (fun _ => rfl) ?_
    refine dp_s1 hF (i := .goto 4) rfl (fun _ => rfl) ?_
    exact dp_s0 hF (i := .ireturn) rfl (fun _ => rfl)
  refine dp_s1 hF (i := .iconst 0) rfl (fun _ => rfl) ?_
  exact dp_s0 hF (i := .ireturn) rfl (fun _ => rfl)
noncomputable def D_X12_declare_0 (xs : Nat → Int32) (xl d : Nat) (v1 : Int32) (v2 : Int32) (v3 : Int32) (v4 : Int32) (v5 : Int32) (v6 : Int32) (v7 : Int64) (M : dp_M) : Option dp_Res := dp_lim true xs xl (dp_den true xs xl d) dp_m_X12_declare (0, [some (.ref 114), some (.int v1), some (.int v2), some (.int v3), some (.int v4), some (.int v5), some (.int v6), some (.long v7), none, none, none], [], M)
noncomputable def D_X12_declare_79 (xs : Nat → Int32) (xl d : Nat) (v1 : Int32) (v2 : Int32) (v3 : Int32) (v4 : Int32) (v5 : Int32) (v6 : Int32) (v7 : Int64) (v9 : Int32) (v10 : Int32) (M : dp_M) : Option dp_Res := dp_lim true xs xl (dp_den true xs xl d) dp_m_X12_declare (79, [some (.ref 114), some (.int v1), some (.int v2), some (.int v3), some (.int v4), some (.int v5), some (.int v6), some (.long v7), none, some (.int v9), some (.int v10)], [], M)
theorem D_X12_declare_0_den (xs : Nat → Int32) (xl d : Nat) (a0 : Int32) (a1 : Int32) (a2 : Int32) (a3 : Int32) (a4 : Int32) (a5 : Int32) (a6 : Int64) (M : dp_M) : dp_den true xs xl (d + 1) 568 [.ref 114, .int a0, .int a1, .int a2, .int a3, .int a4, .int a5, .long a6] M = D_X12_declare_0 xs xl d a0 a1 a2 a3 a4 a5 a6 M := rfl
set_option maxRecDepth 20000 in
theorem D_X12_declare_0_eq (xs : Nat → Int32) (xl d : Nat) (v1 : Int32) (v2 : Int32) (v3 : Int32) (v4 : Int32) (v5 : Int32) (v6 : Int32) (v7 : Int64) (M : dp_M) : D_X12_declare_0 xs xl d v1 v2 v3 v4 v5 v6 v7 M = if v1 < 0 then (dp_bi (dp_den true xs xl d 366 [.ref 114, .int (1 : Int32)] M) (fun r2 M1 => some (.inl (some (.int r2)), M1))) else (if (dp_I M 114 44) ≤ v1 then (dp_bi (dp_den true xs xl d 366 [.ref 114, .int (1 : Int32)] M) (fun r4 M3 => some (.inl (some (.int r4)), M3))) else (dp_bi (dp_den true xs xl d 516 [.int v2] M) (fun r6 M5 => if r6 = 0 then (dp_bi (dp_den true xs xl d 366 [.ref 114, .int (1 : Int32)] M5) (fun r8 M7 => some (.inl (some (.int r8)), M7))) else (dp_bi (dp_den true xs xl d 367 [.long (Int32.toInt64 v3), .long (0 : Int64), .long (3 : Int64)] M5) (fun r10 M9 => if r10 = 0 then (dp_bi (dp_den true xs xl d 366 [.ref 114, .int (1 : Int32)] M9) (fun r12 M11 => some (.inl (some (.int r12)), M11))) else (dp_bi (dp_den true xs xl d 462 [.int v4] M9) (fun r14 M13 => if r14 = 0 then (dp_bi (dp_den true xs xl d 366 [.ref 114, .int (1 : Int32)] M13) (fun r16 M15 => some (.inl (some (.int r16)), M15))) else (dp_bi (dp_den true xs xl d 444 [.int v5] M13) (fun r18 M17 => if r18 = 0 then (dp_bi (dp_den true xs xl d 366 [.ref 114, .int (1 : Int32)] M17) (fun r20 M19 => some (.inl (some (.int r20)), M19))) else (dp_bi (dp_den true xs xl d 445 [.int v6] M17) (fun r22 M21 => if r22 = 0 then (dp_bi (dp_den true xs xl d 366 [.ref 114, .int (1 : Int32)] M21) (fun r24 M23 => some (.inl (some (.int r24)), M23))) else (dp_bi (dp_den true xs xl d 367 [.long v7, .long (0 : Int64), .long (100000000 : Int64)] M21) (fun r26 M25 => if r26 = 0 then (dp_bi (dp_den true xs xl d 366 [.ref 114, .int (1 : Int32)] M25) (fun r28 M27 => some (.inl (some (.int r28)), M27))) else (dp_w (0 : Int32) (fun y29 => dp_w (0 : Int32) (fun y30 => D_X12_declare_79 xs xl d v1 v2 v3 v4 v5 v6 v7 y29 y30 M25)))))))))))))))) := by
  have hF := dp_den_grow (md := true) (xs := xs) (xl := xl) d
  unfold D_X12_declare_0
  refine dp_s1 hF (i := .iload_n 1) rfl (fun _ => rfl) ?_
  refine dp_s2 hF (i := .ifCond .lt 66) (a := (67, [some (.ref 114), some (.int v1), some (.int v2), some (.int v3), some (.int v4), some (.int v5), some (.int v6), some (.long v7), none, none, none], [], M)) (b := (4, [some (.ref 114), some (.int v1), some (.int v2), some (.int v3), some (.int v4), some (.int v5), some (.int v6), some (.long v7), none, none, none], [], M)) rfl (fun _ => rfl) ?_ ?_
  · refine dp_s1 hF (i := .aload_n 0) rfl (fun _ => rfl) ?_
    refine dp_s1 hF (i := .iconst 1) rfl (fun _ => rfl) ?_
    refine dp_si (mj := dp_m_X12_refuse) (i := .invokevirtual 460) rfl rfl (Or.inl rfl) rfl (fun _ => rfl) (fun r2 M1 => ?_)
    exact dp_s0 hF (i := .ireturn) rfl (fun _ => rfl)
  refine dp_s1 hF (i := .iload_n 1) rfl (fun _ => rfl) ?_
  refine dp_s1 hF (i := .aload_n 0) rfl (fun _ => rfl) ?_
  refine dp_s1 hF (i := .getfield 602) rfl (fun _ => rfl) ?_
  refine dp_s2 hF (i := .if_icmp .ge 58) (a := (67, [some (.ref 114), some (.int v1), some (.int v2), some (.int v3), some (.int v4), some (.int v5), some (.int v6), some (.long v7), none, none, none], [], M)) (b := (12, [some (.ref 114), some (.int v1), some (.int v2), some (.int v3), some (.int v4), some (.int v5), some (.int v6), some (.long v7), none, none, none], [], M)) rfl (fun _ => rfl) ?_ ?_
  · refine dp_s1 hF (i := .aload_n 0) rfl (fun _ => rfl) ?_
    refine dp_s1 hF (i := .iconst 1) rfl (fun _ => rfl) ?_
    refine dp_si (mj := dp_m_X12_refuse) (i := .invokevirtual 460) rfl rfl (Or.inl rfl) rfl (fun _ => rfl) (fun r4 M3 => ?_)
    exact dp_s0 hF (i := .ireturn) rfl (fun _ => rfl)
  refine dp_s1 hF (i := .iload_n 2) rfl (fun _ => rfl) ?_
  refine dp_si (mj := dp_m_X12_isHolder) (i := .invokestatic 914) rfl rfl (Or.inr rfl) rfl (fun _ => rfl) (fun r6 M5 => ?_)
  refine dp_s2 hF (i := .ifCond .eq 51) (a := (67, [some (.ref 114), some (.int v1), some (.int v2), some (.int v3), some (.int v4), some (.int v5), some (.int v6), some (.long v7), none, none, none], [], M5)) (b := (19, [some (.ref 114), some (.int v1), some (.int v2), some (.int v3), some (.int v4), some (.int v5), some (.int v6), some (.long v7), none, none, none], [], M5)) rfl (fun _ => rfl) ?_ ?_
  · refine dp_s1 hF (i := .aload_n 0) rfl (fun _ => rfl) ?_
    refine dp_s1 hF (i := .iconst 1) rfl (fun _ => rfl) ?_
    refine dp_si (mj := dp_m_X12_refuse) (i := .invokevirtual 460) rfl rfl (Or.inl rfl) rfl (fun _ => rfl) (fun r8 M7 => ?_)
    exact dp_s0 hF (i := .ireturn) rfl (fun _ => rfl)
  refine dp_s1 hF (i := .iload_n 3) rfl (fun _ => rfl) ?_
  refine dp_s1 hF (i := .i2l) rfl (fun _ => rfl) ?_
  refine dp_s1 hF (i := .lconst 0) rfl (fun _ => rfl) ?_
  refine dp_s1 hF (i := .ldc2_w 529) rfl (fun _ => rfl) ?_
  refine dp_si (mj := dp_m_X12_in) (i := .invokestatic 446) rfl rfl (Or.inr rfl) rfl (fun _ => rfl) (fun r10 M9 => ?_)
  refine dp_s2 hF (i := .ifCond .eq 39) (a := (67, [some (.ref 114), some (.int v1), some (.int v2), some (.int v3), some (.int v4), some (.int v5), some (.int v6), some (.long v7), none, none, none], [], M9)) (b := (31, [some (.ref 114), some (.int v1), some (.int v2), some (.int v3), some (.int v4), some (.int v5), some (.int v6), some (.long v7), none, none, none], [], M9)) rfl (fun _ => rfl) ?_ ?_
  · refine dp_s1 hF (i := .aload_n 0) rfl (fun _ => rfl) ?_
    refine dp_s1 hF (i := .iconst 1) rfl (fun _ => rfl) ?_
    refine dp_si (mj := dp_m_X12_refuse) (i := .invokevirtual 460) rfl rfl (Or.inl rfl) rfl (fun _ => rfl) (fun r12 M11 => ?_)
    exact dp_s0 hF (i := .ireturn) rfl (fun _ => rfl)
  refine dp_s1 hF (i := .iload 4) rfl (fun _ => rfl) ?_
  refine dp_si (mj := dp_m_X12_isSix) (i := .invokestatic 707) rfl rfl (Or.inr rfl) rfl (fun _ => rfl) (fun r14 M13 => ?_)
  refine dp_s2 hF (i := .ifCond .eq 31) (a := (67, [some (.ref 114), some (.int v1), some (.int v2), some (.int v3), some (.int v4), some (.int v5), some (.int v6), some (.long v7), none, none, none], [], M13)) (b := (39, [some (.ref 114), some (.int v1), some (.int v2), some (.int v3), some (.int v4), some (.int v5), some (.int v6), some (.long v7), none, none, none], [], M13)) rfl (fun _ => rfl) ?_ ?_
  · refine dp_s1 hF (i := .aload_n 0) rfl (fun _ => rfl) ?_
    refine dp_s1 hF (i := .iconst 1) rfl (fun _ => rfl) ?_
    refine dp_si (mj := dp_m_X12_refuse) (i := .invokevirtual 460) rfl rfl (Or.inl rfl) rfl (fun _ => rfl) (fun r16 M15 => ?_)
    exact dp_s0 hF (i := .ireturn) rfl (fun _ => rfl)
  refine dp_s1 hF (i := .iload 5) rfl (fun _ => rfl) ?_
  refine dp_si (mj := dp_m_X12_isLand) (i := .invokestatic 663) rfl rfl (Or.inr rfl) rfl (fun _ => rfl) (fun r18 M17 => ?_)
  refine dp_s2 hF (i := .ifCond .eq 23) (a := (67, [some (.ref 114), some (.int v1), some (.int v2), some (.int v3), some (.int v4), some (.int v5), some (.int v6), some (.long v7), none, none, none], [], M17)) (b := (47, [some (.ref 114), some (.int v1), some (.int v2), some (.int v3), some (.int v4), some (.int v5), some (.int v6), some (.long v7), none, none, none], [], M17)) rfl (fun _ => rfl) ?_ ?_
  · refine dp_s1 hF (i := .aload_n 0) rfl (fun _ => rfl) ?_
    refine dp_s1 hF (i := .iconst 1) rfl (fun _ => rfl) ?_
    refine dp_si (mj := dp_m_X12_refuse) (i := .invokevirtual 460) rfl rfl (Or.inl rfl) rfl (fun _ => rfl) (fun r20 M19 => ?_)
    exact dp_s0 hF (i := .ireturn) rfl (fun _ => rfl)
  refine dp_s1 hF (i := .iload 6) rfl (fun _ => rfl) ?_
  refine dp_si (mj := dp_m_X12_isDay) (i := .invokestatic 672) rfl rfl (Or.inr rfl) rfl (fun _ => rfl) (fun r22 M21 => ?_)
  refine dp_s2 hF (i := .ifCond .eq 15) (a := (67, [some (.ref 114), some (.int v1), some (.int v2), some (.int v3), some (.int v4), some (.int v5), some (.int v6), some (.long v7), none, none, none], [], M21)) (b := (55, [some (.ref 114), some (.int v1), some (.int v2), some (.int v3), some (.int v4), some (.int v5), some (.int v6), some (.long v7), none, none, none], [], M21)) rfl (fun _ => rfl) ?_ ?_
  · refine dp_s1 hF (i := .aload_n 0) rfl (fun _ => rfl) ?_
    refine dp_s1 hF (i := .iconst 1) rfl (fun _ => rfl) ?_
    refine dp_si (mj := dp_m_X12_refuse) (i := .invokevirtual 460) rfl rfl (Or.inl rfl) rfl (fun _ => rfl) (fun r24 M23 => ?_)
    exact dp_s0 hF (i := .ireturn) rfl (fun _ => rfl)
  refine dp_s1 hF (i := .lload 7) rfl (fun _ => rfl) ?_
  refine dp_s1 hF (i := .lconst 0) rfl (fun _ => rfl) ?_
  refine dp_s1 hF (i := .ldc2_w 839) rfl (fun _ => rfl) ?_
  refine dp_si (mj := dp_m_X12_in) (i := .invokestatic 446) rfl rfl (Or.inr rfl) rfl (fun _ => rfl) (fun r26 M25 => ?_)
  refine dp_s2 hF (i := .ifCond .ne 9) (a := (67, [some (.ref 114), some (.int v1), some (.int v2), some (.int v3), some (.int v4), some (.int v5), some (.int v6), some (.long v7), none, none, none], [], M25)) (b := (73, [some (.ref 114), some (.int v1), some (.int v2), some (.int v3), some (.int v4), some (.int v5), some (.int v6), some (.long v7), none, none, none], [], M25)) rfl (fun _ => rfl) ?_ ?_
  · refine dp_s1 hF (i := .aload_n 0) rfl (fun _ => rfl) ?_
    refine dp_s1 hF (i := .iconst 1) rfl (fun _ => rfl) ?_
    refine dp_si (mj := dp_m_X12_refuse) (i := .invokevirtual 460) rfl rfl (Or.inl rfl) rfl (fun _ => rfl) (fun r28 M27 => ?_)
    exact dp_s0 hF (i := .ireturn) rfl (fun _ => rfl)
  refine dp_s1 hF (i := .iconst 0) rfl (fun _ => rfl) ?_
  refine dp_s1w (0 : Int32) (fun (y29 : Int32) => (76, [some (.ref 114), some (.int v1), some (.int v2), some (.int v3), some (.int v4), some (.int v5), some (.int v6), some (.long v7), none, some (.int y29), none], [], M25)) hF (i := .istore 9) rfl (fun _ => rfl) (fun y29 => ?_)
  refine dp_s1 hF (i := .iconst 0) rfl (fun _ => rfl) ?_
  refine dp_s1w (0 : Int32) (fun (y30 : Int32) => (79, [some (.ref 114), some (.int v1), some (.int v2), some (.int v3), some (.int v4), some (.int v5), some (.int v6), some (.long v7), none, some (.int y29), some (.int y30)], [], M25)) hF (i := .istore 10) rfl (fun _ => rfl) (fun y30 => ?_)
  exact rfl
set_option maxRecDepth 20000 in
theorem D_X12_declare_79_eq (xs : Nat → Int32) (xl d : Nat) (v1 : Int32) (v2 : Int32) (v3 : Int32) (v4 : Int32) (v5 : Int32) (v6 : Int32) (v7 : Int64) (v9 : Int32) (v10 : Int32) (M : dp_M) : D_X12_declare_79 xs xl d v1 v2 v3 v4 v5 v6 v7 v9 v10 M = if (dp_I M 114 160) ≤ v10 then (if v9 = 0 then (if (dp_I M 114 160) = (400 : Int32) then (dp_bi (dp_den true xs xl d 366 [.ref 114, .int (2 : Int32)] M) (fun r2 M1 => some (.inl (some (.int r2)), M1))) else (dp_w (dp_setI M 114 0 (0 : Int32)) (fun M3 => dp_w (dp_I M3 114 160) (fun y4 => if y4 < 0 ∨ 400 ≤ Int32.toNatClampNeg y4 then none else dp_w (dp_setI M3 233 (Int32.toNatClampNeg y4) v1) (fun M5 => if y4 < 0 ∨ 400 ≤ Int32.toNatClampNeg y4 then none else dp_w (dp_setI M5 234 (Int32.toNatClampNeg y4) v2) (fun M6 => if y4 < 0 ∨ 400 ≤ Int32.toNatClampNeg y4 then none else dp_w (dp_setI M6 235 (Int32.toNatClampNeg y4) v3) (fun M7 => if y4 < 0 ∨ 400 ≤ Int32.toNatClampNeg y4 then none else dp_w (dp_setI M7 236 (Int32.toNatClampNeg y4) v4) (fun M8 => if y4 < 0 ∨ 400 ≤ Int32.toNatClampNeg y4 then none else dp_w (dp_setI M8 237 (Int32.toNatClampNeg y4) v5) (fun M9 => if y4 < 0 ∨ 400 ≤ Int32.toNatClampNeg y4 then none else dp_w (dp_setI M9 238 (Int32.toNatClampNeg y4) v6) (fun M10 => if y4 < 0 ∨ 400 ≤ Int32.toNatClampNeg y4 then none else dp_w (dp_setJ M10 239 (Int32.toNatClampNeg y4) v7) (fun M11 => if y4 < 0 ∨ 400 ≤ Int32.toNatClampNeg y4 then none else dp_w (dp_setI M11 244 (Int32.toNatClampNeg y4) (-1 : Int32)) (fun M12 => dp_w (dp_setI M12 114 160 ((dp_I M12 114 160) + (1 : Int32))) (fun M13 => some (.inl (some (.int y4)), M13)))))))))))))) else (dp_bi (dp_den true xs xl d 366 [.ref 114, .int (2 : Int32)] M) (fun r15 M14 => some (.inl (some (.int r15)), M14)))) else (if v9 = 0 then (if v10 < 0 ∨ 400 ≤ Int32.toNatClampNeg v10 then none else (if (dp_I M 233 (Int32.toNatClampNeg v10)) = v1 then (if v10 < 0 ∨ 400 ≤ Int32.toNatClampNeg v10 then none else (if (dp_I M 241 (Int32.toNatClampNeg v10)) = (4 : Int32) then (dp_w (0 : Int32) (fun y16 => dp_w (v10 + (1 : Int32)) (fun y17 => D_X12_declare_79 xs xl d v1 v2 v3 v4 v5 v6 v7 y16 y17 M))) else (dp_w (1 : Int32) (fun y18 => dp_w (v10 + (1 : Int32)) (fun y19 => D_X12_declare_79 xs xl d v1 v2 v3 v4 v5 v6 v7 y18 y19 M))))) else (dp_w (0 : Int32) (fun y20 => dp_w (v10 + (1 : Int32)) (fun y21 => D_X12_declare_79 xs xl d v1 v2 v3 v4 v5 v6 v7 y20 y21 M))))) else (dp_w (1 : Int32) (fun y22 => dp_w (v10 + (1 : Int32)) (fun y23 => D_X12_declare_79 xs xl d v1 v2 v3 v4 v5 v6 v7 y22 y23 M)))) := by
  have hF := dp_den_grow (md := true) (xs := xs) (xl := xl) d
  unfold D_X12_declare_79
  refine dp_s1 hF (i := .iload 10) rfl (fun _ => rfl) ?_
  refine dp_s1 hF (i := .aload_n 0) rfl (fun _ => rfl) ?_
  refine dp_s1 hF (i := .getfield 611) rfl (fun _ => rfl) ?_
  refine dp_s2 hF (i := .if_icmp .ge 43) (a := (128, [some (.ref 114), some (.int v1), some (.int v2), some (.int v3), some (.int v4), some (.int v5), some (.int v6), some (.long v7), none, some (.int v9), some (.int v10)], [], M)) (b := (88, [some (.ref 114), some (.int v1), some (.int v2), some (.int v3), some (.int v4), some (.int v5), some (.int v6), some (.long v7), none, some (.int v9), some (.int v10)], [], M)) rfl (fun _ => rfl) ?_ ?_
  · refine dp_s1 hF (i := .iload 9) rfl (fun _ => rfl) ?_
    refine dp_s2 hF (i := .ifCond .ne 13) (a := (133, [some (.ref 114), some (.int v1), some (.int v2), some (.int v3), some (.int v4), some (.int v5), some (.int v6), some (.long v7), none, some (.int v9), some (.int v10)], [], M)) (b := (143, [some (.ref 114), some (.int v1), some (.int v2), some (.int v3), some (.int v4), some (.int v5), some (.int v6), some (.long v7), none, some (.int v9), some (.int v10)], [], M)) rfl (fun _ => rfl) ?_ ?_
    · refine dp_s1 hF (i := .aload_n 0) rfl (fun _ => rfl) ?_
      refine dp_s1 hF (i := .getfield 611) rfl (fun _ => rfl) ?_
      refine dp_s1 hF (i := .sipush 400) rfl (fun _ => rfl) ?_
      refine dp_s2 hF (i := .if_icmp .ne 9) (a := (143, [some (.ref 114), some (.int v1), some (.int v2), some (.int v3), some (.int v4), some (.int v5), some (.int v6), some (.long v7), none, some (.int v9), some (.int v10)], [], M)) (b := (149, [some (.ref 114), some (.int v1), some (.int v2), some (.int v3), some (.int v4), some (.int v5), some (.int v6), some (.long v7), none, some (.int v9), some (.int v10)], [], M)) rfl (fun _ => rfl) ?_ ?_
      · refine dp_s1 hF (i := .aload_n 0) rfl (fun _ => rfl) ?_
        refine dp_s1 hF (i := .iconst 2) rfl (fun _ => rfl) ?_
        refine dp_si (mj := dp_m_X12_refuse) (i := .invokevirtual 460) rfl rfl (Or.inl rfl) rfl (fun _ => rfl) (fun r2 M1 => ?_)
        exact dp_s0 hF (i := .ireturn) rfl (fun _ => rfl)
      refine dp_s1 hF (i := .aload_n 0) rfl (fun _ => rfl) ?_
      refine dp_s1 hF (i := .iconst 0) rfl (fun _ => rfl) ?_
      refine dp_s1w (dp_setI M 114 0 (0 : Int32)) (fun (M3 : dp_M) => (154, [some (.ref 114), some (.int v1), some (.int v2), some (.int v3), some (.int v4), some (.int v5), some (.int v6), some (.long v7), none, some (.int v9), some (.int v10)], [], M3)) hF (i := .putfield 1) rfl (fun _ => rfl) (fun M3 => ?_)
      refine dp_s1 hF (i := .aload_n 0) rfl (fun _ => rfl) ?_
      refine dp_s1 hF (i := .getfield 611) rfl (fun _ => rfl) ?_
      refine dp_s1w (dp_I M3 114 160) (fun (y4 : Int32) => (160, [some (.ref 114), some (.int v1), some (.int v2), some (.int v3), some (.int v4), some (.int v5), some (.int v6), some (.long v7), none, some (.int v9), some (.int y4)], [], M3)) hF (i := .istore 10) rfl (fun _ => rfl) (fun y4 => ?_)
      refine dp_s1 hF (i := .aload_n 0) rfl (fun _ => rfl) ?_
      refine dp_s1 hF (i := .getfield 380) rfl (fun _ => rfl) ?_
      refine dp_s1 hF (i := .iload 10) rfl (fun _ => rfl) ?_
      refine dp_s1 hF (i := .iload_n 1) rfl (fun _ => rfl) ?_
      refine dp_s3w (dp_setI M3 233 (Int32.toNatClampNeg y4) v1) (fun (M5 : dp_M) => (168, [some (.ref 114), some (.int v1), some (.int v2), some (.int v3), some (.int v4), some (.int v5), some (.int v6), some (.long v7), none, some (.int v9), some (.int y4)], [], M5)) hF (i := .iastore) rfl (fun _ => rfl) (fun M5 => ?_)
      refine dp_s1 hF (i := .aload_n 0) rfl (fun _ => rfl) ?_
      refine dp_s1 hF (i := .getfield 383) rfl (fun _ => rfl) ?_
      refine dp_s1 hF (i := .iload 10) rfl (fun _ => rfl) ?_
      refine dp_s1 hF (i := .iload_n 2) rfl (fun _ => rfl) ?_
      refine dp_s3w (dp_setI M5 234 (Int32.toNatClampNeg y4) v2) (fun (M6 : dp_M) => (176, [some (.ref 114), some (.int v1), some (.int v2), some (.int v3), some (.int v4), some (.int v5), some (.int v6), some (.long v7), none, some (.int v9), some (.int y4)], [], M6)) hF (i := .iastore) rfl (fun _ => rfl) (fun M6 => ?_)
      refine dp_s1 hF (i := .aload_n 0) rfl (fun _ => rfl) ?_
      refine dp_s1 hF (i := .getfield 386) rfl (fun _ => rfl) ?_
      refine dp_s1 hF (i := .iload 10) rfl (fun _ => rfl) ?_
      refine dp_s1 hF (i := .iload_n 3) rfl (fun _ => rfl) ?_
      refine dp_s3w (dp_setI M6 235 (Int32.toNatClampNeg y4) v3) (fun (M7 : dp_M) => (184, [some (.ref 114), some (.int v1), some (.int v2), some (.int v3), some (.int v4), some (.int v5), some (.int v6), some (.long v7), none, some (.int v9), some (.int y4)], [], M7)) hF (i := .iastore) rfl (fun _ => rfl) (fun M7 => ?_)
      refine dp_s1 hF (i := .aload_n 0) rfl (fun _ => rfl) ?_
      refine dp_s1 hF (i := .getfield 389) rfl (fun _ => rfl) ?_
      refine dp_s1 hF (i := .iload 10) rfl (fun _ => rfl) ?_
      refine dp_s1 hF (i := .iload 4) rfl (fun _ => rfl) ?_
      refine dp_s3w (dp_setI M7 236 (Int32.toNatClampNeg y4) v4) (fun (M8 : dp_M) => (193, [some (.ref 114), some (.int v1), some (.int v2), some (.int v3), some (.int v4), some (.int v5), some (.int v6), some (.long v7), none, some (.int v9), some (.int y4)], [], M8)) hF (i := .iastore) rfl (fun _ => rfl) (fun M8 => ?_)
      refine dp_s1 hF (i := .aload_n 0) rfl (fun _ => rfl) ?_
      refine dp_s1 hF (i := .getfield 392) rfl (fun _ => rfl) ?_
      refine dp_s1 hF (i := .iload 10) rfl (fun _ => rfl) ?_
      refine dp_s1 hF (i := .iload 5) rfl (fun _ => rfl) ?_
      refine dp_s3w (dp_setI M8 237 (Int32.toNatClampNeg y4) v5) (fun (M9 : dp_M) => (202, [some (.ref 114), some (.int v1), some (.int v2), some (.int v3), some (.int v4), some (.int v5), some (.int v6), some (.long v7), none, some (.int v9), some (.int y4)], [], M9)) hF (i := .iastore) rfl (fun _ => rfl) (fun M9 => ?_)
      refine dp_s1 hF (i := .aload_n 0) rfl (fun _ => rfl) ?_
      refine dp_s1 hF (i := .getfield 395) rfl (fun _ => rfl) ?_
      refine dp_s1 hF (i := .iload 10) rfl (fun _ => rfl) ?_
      refine dp_s1 hF (i := .iload 6) rfl (fun _ => rfl) ?_
      refine dp_s3w (dp_setI M9 238 (Int32.toNatClampNeg y4) v6) (fun (M10 : dp_M) => (211, [some (.ref 114), some (.int v1), some (.int v2), some (.int v3), some (.int v4), some (.int v5), some (.int v6), some (.long v7), none, some (.int v9), some (.int y4)], [], M10)) hF (i := .iastore) rfl (fun _ => rfl) (fun M10 => ?_)
      refine dp_s1 hF (i := .aload_n 0) rfl (fun _ => rfl) ?_
      refine dp_s1 hF (i := .getfield 398) rfl (fun _ => rfl) ?_
      refine dp_s1 hF (i := .iload 10) rfl (fun _ => rfl) ?_
      refine dp_s1 hF (i := .lload 7) rfl (fun _ => rfl) ?_
      refine dp_s3w (dp_setJ M10 239 (Int32.toNatClampNeg y4) v7) (fun (M11 : dp_M) => (220, [some (.ref 114), some (.int v1), some (.int v2), some (.int v3), some (.int v4), some (.int v5), some (.int v6), some (.long v7), none, some (.int v9), some (.int y4)], [], M11)) hF (i := .lastore) rfl (fun _ => rfl) (fun M11 => ?_)
      refine dp_s1 hF (i := .aload_n 0) rfl (fun _ => rfl) ?_
      refine dp_s1 hF (i := .getfield 413) rfl (fun _ => rfl) ?_
      refine dp_s1 hF (i := .iload 10) rfl (fun _ => rfl) ?_
      refine dp_s1 hF (i := .iconst (-1)) rfl (fun _ => rfl) ?_
      refine dp_s3w (dp_setI M11 244 (Int32.toNatClampNeg y4) (-1 : Int32)) (fun (M12 : dp_M) => (228, [some (.ref 114), some (.int v1), some (.int v2), some (.int v3), some (.int v4), some (.int v5), some (.int v6), some (.long v7), none, some (.int v9), some (.int y4)], [], M12)) hF (i := .iastore) rfl (fun _ => rfl) (fun M12 => ?_)
      refine dp_s1 hF (i := .aload_n 0) rfl (fun _ => rfl) ?_
      refine dp_s1 hF (i := .dup) rfl (fun _ => rfl) ?_
      refine dp_s1 hF (i := .getfield 611) rfl (fun _ => rfl) ?_
      refine dp_s1 hF (i := .iconst 1) rfl (fun _ => rfl) ?_
      refine dp_s1 hF (i := .iadd) rfl (fun _ => rfl) ?_
      refine dp_s1w (dp_setI M12 114 160 ((dp_I M12 114 160) + (1 : Int32))) (fun (M13 : dp_M) => (238, [some (.ref 114), some (.int v1), some (.int v2), some (.int v3), some (.int v4), some (.int v5), some (.int v6), some (.long v7), none, some (.int v9), some (.int y4)], [], M13)) hF (i := .putfield 611) rfl (fun _ => rfl) (fun M13 => ?_)
      refine dp_s1 hF (i := .iload 10) rfl (fun _ => rfl) ?_
      exact dp_s0 hF (i := .ireturn) rfl (fun _ => rfl)
    refine dp_s1 hF (i := .aload_n 0) rfl (fun _ => rfl) ?_
    refine dp_s1 hF (i := .iconst 2) rfl (fun _ => rfl) ?_
    refine dp_si (mj := dp_m_X12_refuse) (i := .invokevirtual 460) rfl rfl (Or.inl rfl) rfl (fun _ => rfl) (fun r15 M14 => ?_)
    exact dp_s0 hF (i := .ireturn) rfl (fun _ => rfl)
  refine dp_s1 hF (i := .iload 9) rfl (fun _ => rfl) ?_
  refine dp_s2 hF (i := .ifCond .ne 25) (a := (93, [some (.ref 114), some (.int v1), some (.int v2), some (.int v3), some (.int v4), some (.int v5), some (.int v6), some (.long v7), none, some (.int v9), some (.int v10)], [], M)) (b := (115, [some (.ref 114), some (.int v1), some (.int v2), some (.int v3), some (.int v4), some (.int v5), some (.int v6), some (.long v7), none, some (.int v9), some (.int v10)], [], M)) rfl (fun _ => rfl) ?_ ?_
  · refine dp_s1 hF (i := .aload_n 0) rfl (fun _ => rfl) ?_
    refine dp_s1 hF (i := .getfield 380) rfl (fun _ => rfl) ?_
    refine dp_s1 hF (i := .iload 10) rfl (fun _ => rfl) ?_
    refine dp_s3 hF (i := .iaload) rfl (fun _ => rfl) ?_
    refine dp_s1 hF (i := .iload_n 1) rfl (fun _ => rfl) ?_
    refine dp_s2 hF (i := .if_icmp .ne 18) (a := (104, [some (.ref 114), some (.int v1), some (.int v2), some (.int v3), some (.int v4), some (.int v5), some (.int v6), some (.long v7), none, some (.int v9), some (.int v10)], [], M)) (b := (119, [some (.ref 114), some (.int v1), some (.int v2), some (.int v3), some (.int v4), some (.int v5), some (.int v6), some (.long v7), none, some (.int v9), some (.int v10)], [], M)) rfl (fun _ => rfl) ?_ ?_
    · refine dp_s1 hF (i := .aload_n 0) rfl (fun _ => rfl) ?_
      refine dp_s1 hF (i := .getfield 404) rfl (fun _ => rfl) ?_
      refine dp_s1 hF (i := .iload 10) rfl (fun _ => rfl) ?_
      refine dp_s3 hF (i := .iaload) rfl (fun _ => rfl) ?_
      refine dp_s1 hF (i := .iconst 4) rfl (fun _ => rfl) ?_
      refine dp_s2 hF (i := .if_icmp .eq 7) (a := (119, [some (.ref 114), some (.int v1), some (.int v2), some (.int v3), some (.int v4), some (.int v5), some (.int v6), some (.long v7), none, some (.int v9), some (.int v10)], [], M)) (b := (115, [some (.ref 114), some (.int v1), some (.int v2), some (.int v3), some (.int v4), some (.int v5), some (.int v6), some (.long v7), none, some (.int v9), some (.int v10)], [], M)) rfl (fun _ => rfl) ?_ ?_
      · refine dp_s1 hF (i := .iconst 0) rfl (fun _ => rfl) ?_
        refine dp_s1w (0 : Int32) (fun (y16 : Int32) => (122, [some (.ref 114), some (.int v1), some (.int v2), some (.int v3), some (.int v4), some (.int v5), some (.int v6), some (.long v7), none, some (.int y16), some (.int v10)], [], M)) hF (i := .istore 9) rfl (fun _ => rfl) (fun y16 => ?_)
        refine dp_s1w (v10 + (1 : Int32)) (fun (y17 : Int32) => (125, [some (.ref 114), some (.int v1), some (.int v2), some (.int v3), some (.int v4), some (.int v5), some (.int v6), some (.long v7), none, some (.int y16), some (.int y17)], [], M)) hF (i := .iinc 10 1) rfl (fun _ => rfl) (fun y17 => ?_)
        refine dp_s1 hF (i := .goto (-46)) rfl (fun _ => rfl) ?_
        exact rfl
      refine dp_s1 hF (i := .iconst 1) rfl (fun _ => rfl) ?_
      refine dp_s1 hF (i := .goto 4) rfl (fun _ => rfl) ?_
      refine dp_s1w (1 : Int32) (fun (y18 : Int32) => (122, [some (.ref 114), some (.int v1), some (.int v2), some (.int v3), some (.int v4), some (.int v5), some (.int v6), some (.long v7), none, some (.int y18), some (.int v10)], [], M)) hF (i := .istore 9) rfl (fun _ => rfl) (fun y18 => ?_)
      refine dp_s1w (v10 + (1 : Int32)) (fun (y19 : Int32) => (125, [some (.ref 114), some (.int v1), some (.int v2), some (.int v3), some (.int v4), some (.int v5), some (.int v6), some (.long v7), none, some (.int y18), some (.int y19)], [], M)) hF (i := .iinc 10 1) rfl (fun _ => rfl) (fun y19 => ?_)
      refine dp_s1 hF (i := .goto (-46)) rfl (fun _ => rfl) ?_
      exact rfl
    refine dp_s1 hF (i := .iconst 0) rfl (fun _ => rfl) ?_
    refine dp_s1w (0 : Int32) (fun (y20 : Int32) => (122, [some (.ref 114), some (.int v1), some (.int v2), some (.int v3), some (.int v4), some (.int v5), some (.int v6), some (.long v7), none, some (.int y20), some (.int v10)], [], M)) hF (i := .istore 9) rfl (fun _ => rfl) (fun y20 => ?_)
    refine dp_s1w (v10 + (1 : Int32)) (fun (y21 : Int32) => (125, [some (.ref 114), some (.int v1), some (.int v2), some (.int v3), some (.int v4), some (.int v5), some (.int v6), some (.long v7), none, some (.int y20), some (.int y21)], [], M)) hF (i := .iinc 10 1) rfl (fun _ => rfl) (fun y21 => ?_)
    refine dp_s1 hF (i := .goto (-46)) rfl (fun _ => rfl) ?_
    exact rfl
  refine dp_s1 hF (i := .iconst 1) rfl (fun _ => rfl) ?_
  refine dp_s1 hF (i := .goto 4) rfl (fun _ => rfl) ?_
  refine dp_s1w (1 : Int32) (fun (y22 : Int32) => (122, [some (.ref 114), some (.int v1), some (.int v2), some (.int v3), some (.int v4), some (.int v5), some (.int v6), some (.long v7), none, some (.int y22), some (.int v10)], [], M)) hF (i := .istore 9) rfl (fun _ => rfl) (fun y22 => ?_)
  refine dp_s1w (v10 + (1 : Int32)) (fun (y23 : Int32) => (125, [some (.ref 114), some (.int v1), some (.int v2), some (.int v3), some (.int v4), some (.int v5), some (.int v6), some (.long v7), none, some (.int y22), some (.int y23)], [], M)) hF (i := .iinc 10 1) rfl (fun _ => rfl) (fun y23 => ?_)
  refine dp_s1 hF (i := .goto (-46)) rfl (fun _ => rfl) ?_
  exact rfl
noncomputable def D_X12_amount_0 (xs : Nat → Int32) (xl d : Nat) (v1 : Int32) (v2 : Int32) (v3 : Int64) (M : dp_M) : Option dp_Res := dp_lim true xs xl (dp_den true xs xl d) dp_m_X12_amount (0, [some (.ref 114), some (.int v1), some (.int v2), some (.long v3), none], [], M)
theorem D_X12_amount_0_den (xs : Nat → Int32) (xl d : Nat) (a0 : Int32) (a1 : Int32) (a2 : Int64) (M : dp_M) : dp_den true xs xl (d + 1) 569 [.ref 114, .int a0, .int a1, .long a2] M = D_X12_amount_0 xs xl d a0 a1 a2 M := rfl
set_option maxRecDepth 20000 in
theorem D_X12_amount_0_eq (xs : Nat → Int32) (xl d : Nat) (v1 : Int32) (v2 : Int32) (v3 : Int64) (M : dp_M) : D_X12_amount_0 xs xl d v1 v2 v3 M = dp_w (dp_setI M 114 0 (0 : Int32)) (fun M1 => dp_bi (dp_den true xs xl d 567 [.ref 114, .int v1, .int (0 : Int32)] M1) (fun r3 M2 => if r3 = 0 then (some (.inl (some (.int (0 : Int32))), M2)) else (dp_bi (dp_den true xs xl d 367 [.long (Int32.toInt64 v2), .long (0 : Int64), .long (7 : Int64)] M2) (fun r5 M4 => if r5 = 0 then (some (.inl (some (.int (0 : Int32))), M4)) else (if (lg_cmp v3 (-1 : Int64)) = 0 then (if (((8 : Int32) * v1) + v2) < 0 ∨ 3200 ≤ Int32.toNatClampNeg (((8 : Int32) * v1) + v2) then none else dp_w (dp_setJ M4 240 (Int32.toNatClampNeg (((8 : Int32) * v1) + v2)) v3) (fun M6 => some (.inl (some (.int (1 : Int32))), M6))) else (dp_bi (dp_den true xs xl d 493 [.long v3] M4) (fun r8 M7 => if r8 = 0 then (some (.inl (some (.int (0 : Int32))), M7)) else (if (((8 : Int32) * v1) + v2) < 0 ∨ 3200 ≤ Int32.toNatClampNeg (((8 : Int32) * v1) + v2) then none else dp_w (dp_setJ M7 240 (Int32.toNatClampNeg (((8 : Int32) * v1) + v2)) v3) (fun M9 => some (.inl (some (.int (1 : Int32))), M9)))))))))) := by
  have hF := dp_den_grow (md := true) (xs := xs) (xl := xl) d
  unfold D_X12_amount_0
  refine dp_s1 hF (i := .aload_n 0) rfl (fun _ => rfl) ?_
  refine dp_s1 hF (i := .iconst 0) rfl (fun _ => rfl) ?_
  refine dp_s1w (dp_setI M 114 0 (0 : Int32)) (fun (M1 : dp_M) => (5, [some (.ref 114), some (.int v1), some (.int v2), some (.long v3), none], [], M1)) hF (i := .putfield 1) rfl (fun _ => rfl) (fun M1 => ?_)
  refine dp_s1 hF (i := .aload_n 0) rfl (fun _ => rfl) ?_
  refine dp_s1 hF (i := .iload_n 1) rfl (fun _ => rfl) ?_
  refine dp_s1 hF (i := .iconst 0) rfl (fun _ => rfl) ?_
  refine dp_si (mj := dp_m_X12_isState) (i := .invokevirtual 1032) rfl rfl (Or.inr rfl) rfl (fun _ => rfl) (fun r3 M2 => ?_)
  refine dp_s2 hF (i := .ifCond .eq 30) (a := (41, [some (.ref 114), some (.int v1), some (.int v2), some (.long v3), none], [], M2)) (b := (14, [some (.ref 114), some (.int v1), some (.int v2), some (.long v3), none], [], M2)) rfl (fun _ => rfl) ?_ ?_
  · refine dp_s1 hF (i := .iconst 0) rfl (fun _ => rfl) ?_
    exact dp_s0 hF (i := .ireturn) rfl (fun _ => rfl)
  refine dp_s1 hF (i := .iload_n 2) rfl (fun _ => rfl) ?_
  refine dp_s1 hF (i := .i2l) rfl (fun _ => rfl) ?_
  refine dp_s1 hF (i := .lconst 0) rfl (fun _ => rfl) ?_
  refine dp_s1 hF (i := .ldc2_w 477) rfl (fun _ => rfl) ?_
  refine dp_si (mj := dp_m_X12_in) (i := .invokestatic 446) rfl rfl (Or.inr rfl) rfl (fun _ => rfl) (fun r5 M4 => ?_)
  refine dp_s2 hF (i := .ifCond .eq 18) (a := (41, [some (.ref 114), some (.int v1), some (.int v2), some (.long v3), none], [], M4)) (b := (26, [some (.ref 114), some (.int v1), some (.int v2), some (.long v3), none], [], M4)) rfl (fun _ => rfl) ?_ ?_
  · refine dp_s1 hF (i := .iconst 0) rfl (fun _ => rfl) ?_
    exact dp_s0 hF (i := .ireturn) rfl (fun _ => rfl)
  refine dp_s1 hF (i := .lload_n 3) rfl (fun _ => rfl) ?_
  refine dp_s1 hF (i := .ldc2_w 435) rfl (fun _ => rfl) ?_
  refine dp_s1 hF (i := .lcmp) rfl (fun _ => rfl) ?_
  refine dp_s2 hF (i := .ifCond .eq 12) (a := (43, [some (.ref 114), some (.int v1), some (.int v2), some (.long v3), none], [], M4)) (b := (34, [some (.ref 114), some (.int v1), some (.int v2), some (.long v3), none], [], M4)) rfl (fun _ => rfl) ?_ ?_
  · refine dp_s1 hF (i := .aload_n 0) rfl (fun _ => rfl) ?_
    refine dp_s1 hF (i := .getfield 401) rfl (fun _ => rfl) ?_
    refine dp_s1 hF (i := .bipush 8) rfl (fun _ => rfl) ?_
    refine dp_s1 hF (i := .iload_n 1) rfl (fun _ => rfl) ?_
    refine dp_s1 hF (i := .imul) rfl (fun _ => rfl) ?_
    refine dp_s1 hF (i := .iload_n 2) rfl (fun _ => rfl) ?_
    refine dp_s1 hF (i := .iadd) rfl (fun _ => rfl) ?_
    refine dp_s1 hF (i := .lload_n 3) rfl (fun _ => rfl) ?_
    refine dp_s3w (dp_setJ M4 240 (Int32.toNatClampNeg (((8 : Int32) * v1) + v2)) v3) (fun (M6 : dp_M) => (55, [some (.ref 114), some (.int v1), some (.int v2), some (.long v3), none], [], M6)) hF (i := .lastore) rfl (fun _ => rfl) (fun M6 => ?_)
    refine dp_s1 hF (i := .iconst 1) rfl (fun _ => rfl) ?_
    exact dp_s0 hF (i := .ireturn) rfl (fun _ => rfl)
  refine dp_s1 hF (i := .lload_n 3) rfl (fun _ => rfl) ?_
  refine dp_si (mj := dp_m_X12_isAmount) (i := .invokestatic 841) rfl rfl (Or.inr rfl) rfl (fun _ => rfl) (fun r8 M7 => ?_)
  refine dp_s2 hF (i := .ifCond .ne 5) (a := (41, [some (.ref 114), some (.int v1), some (.int v2), some (.long v3), none], [], M7)) (b := (43, [some (.ref 114), some (.int v1), some (.int v2), some (.long v3), none], [], M7)) rfl (fun _ => rfl) ?_ ?_
  · refine dp_s1 hF (i := .iconst 0) rfl (fun _ => rfl) ?_
    exact dp_s0 hF (i := .ireturn) rfl (fun _ => rfl)
  refine dp_s1 hF (i := .aload_n 0) rfl (fun _ => rfl) ?_
  refine dp_s1 hF (i := .getfield 401) rfl (fun _ => rfl) ?_
  refine dp_s1 hF (i := .bipush 8) rfl (fun _ => rfl) ?_
  refine dp_s1 hF (i := .iload_n 1) rfl (fun _ => rfl) ?_
  refine dp_s1 hF (i := .imul) rfl (fun _ => rfl) ?_
  refine dp_s1 hF (i := .iload_n 2) rfl (fun _ => rfl) ?_
  refine dp_s1 hF (i := .iadd) rfl (fun _ => rfl) ?_
  refine dp_s1 hF (i := .lload_n 3) rfl (fun _ => rfl) ?_
  refine dp_s3w (dp_setJ M7 240 (Int32.toNatClampNeg (((8 : Int32) * v1) + v2)) v3) (fun (M9 : dp_M) => (55, [some (.ref 114), some (.int v1), some (.int v2), some (.long v3), none], [], M9)) hF (i := .lastore) rfl (fun _ => rfl) (fun M9 => ?_)
  refine dp_s1 hF (i := .iconst 1) rfl (fun _ => rfl) ?_
  exact dp_s0 hF (i := .ireturn) rfl (fun _ => rfl)
noncomputable def D_X12_askFor_0 (xs : Nat → Int32) (xl d : Nat) (v1 : Int32) (M : dp_M) : Option dp_Res := dp_lim true xs xl (dp_den true xs xl d) dp_m_X12_askFor (0, [some (.ref 114), some (.int v1), none, none], [], M)
noncomputable def D_X12_askFor_4 (xs : Nat → Int32) (xl d : Nat) (v1 : Int32) (v2 : Int32) (v3 : Int32) (M : dp_M) : Option dp_Res := dp_lim true xs xl (dp_den true xs xl d) dp_m_X12_askFor (4, [some (.ref 114), some (.int v1), some (.int v2), some (.int v3)], [], M)
theorem D_X12_askFor_0_den (xs : Nat → Int32) (xl d : Nat) (a0 : Int32) (M : dp_M) : dp_den true xs xl (d + 1) 570 [.ref 114, .int a0] M = D_X12_askFor_0 xs xl d a0 M := rfl
set_option maxRecDepth 20000 in
theorem D_X12_askFor_0_eq (xs : Nat → Int32) (xl d : Nat) (v1 : Int32) (M : dp_M) : D_X12_askFor_0 xs xl d v1 M = dp_w (-1 : Int32) (fun y1 => dp_w (0 : Int32) (fun y2 => D_X12_askFor_4 xs xl d v1 y1 y2 M)) := by
  have hF := dp_den_grow (md := true) (xs := xs) (xl := xl) d
  unfold D_X12_askFor_0
  refine dp_s1 hF (i := .iconst (-1)) rfl (fun _ => rfl) ?_
  refine dp_s1w (-1 : Int32) (fun (y1 : Int32) => (2, [some (.ref 114), some (.int v1), some (.int y1), none], [], M)) hF (i := .istore_n 2) rfl (fun _ => rfl) (fun y1 => ?_)
  refine dp_s1 hF (i := .iconst 0) rfl (fun _ => rfl) ?_
  refine dp_s1w (0 : Int32) (fun (y2 : Int32) => (4, [some (.ref 114), some (.int v1), some (.int y1), some (.int y2)], [], M)) hF (i := .istore_n 3) rfl (fun _ => rfl) (fun y2 => ?_)
  exact rfl
set_option maxRecDepth 20000 in
theorem D_X12_askFor_4_eq (xs : Nat → Int32) (xl d : Nat) (v1 : Int32) (v2 : Int32) (v3 : Int32) (M : dp_M) : D_X12_askFor_4 xs xl d v1 v2 v3 M = if (dp_I M 114 111) ≤ v3 then (some (.inl (some (.int v2)), M)) else (if v3 < 0 ∨ 400 ≤ Int32.toNatClampNeg v3 then none else (if (dp_I M 196 (Int32.toNatClampNeg v3)) = v1 then (dp_w (v3 + (1 : Int32)) (fun y1 => D_X12_askFor_4 xs xl d v1 v3 y1 M)) else (dp_w (v3 + (1 : Int32)) (fun y2 => D_X12_askFor_4 xs xl d v1 v2 y2 M)))) := by
  have hF := dp_den_grow (md := true) (xs := xs) (xl := xl) d
  unfold D_X12_askFor_4
  refine dp_s1 hF (i := .iload_n 3) rfl (fun _ => rfl) ?_
  refine dp_s1 hF (i := .aload_n 0) rfl (fun _ => rfl) ?_
  refine dp_s1 hF (i := .getfield 888) rfl (fun _ => rfl) ?_
  refine dp_s2 hF (i := .if_icmp .ge 25) (a := (34, [some (.ref 114), some (.int v1), some (.int v2), some (.int v3)], [], M)) (b := (12, [some (.ref 114), some (.int v1), some (.int v2), some (.int v3)], [], M)) rfl (fun _ => rfl) ?_ ?_
  · refine dp_s1 hF (i := .iload_n 2) rfl (fun _ => rfl) ?_
    exact dp_s0 hF (i := .ireturn) rfl (fun _ => rfl)
  refine dp_s1 hF (i := .aload_n 0) rfl (fun _ => rfl) ?_
  refine dp_s1 hF (i := .getfield 260) rfl (fun _ => rfl) ?_
  refine dp_s1 hF (i := .iload_n 3) rfl (fun _ => rfl) ?_
  refine dp_s3 hF (i := .iaload) rfl (fun _ => rfl) ?_
  refine dp_s1 hF (i := .iload_n 1) rfl (fun _ => rfl) ?_
  refine dp_s2 hF (i := .if_icmp .ne 7) (a := (22, [some (.ref 114), some (.int v1), some (.int v2), some (.int v3)], [], M)) (b := (26, [some (.ref 114), some (.int v1), some (.int v2), some (.int v3)], [], M)) rfl (fun _ => rfl) ?_ ?_
  · refine dp_s1 hF (i := .iload_n 3) rfl (fun _ => rfl) ?_
    refine dp_s1 hF (i := .goto 4) rfl (fun _ => rfl) ?_
    refine dp_s1 hF (i := .istore_n 2) rfl (fun _ => rfl) ?_
    refine dp_s1w (v3 + (1 : Int32)) (fun (y1 : Int32) => (31, [some (.ref 114), some (.int v1), some (.int v3), some (.int y1)], [], M)) hF (i := .iinc 3 1) rfl (fun _ => rfl) (fun y1 => ?_)
    refine dp_s1 hF (i := .goto (-27)) rfl (fun _ => rfl) ?_
    exact rfl
  refine dp_s1 hF (i := .iload_n 2) rfl (fun _ => rfl) ?_
  refine dp_s1 hF (i := .istore_n 2) rfl (fun _ => rfl) ?_
  refine dp_s1w (v3 + (1 : Int32)) (fun (y2 : Int32) => (31, [some (.ref 114), some (.int v1), some (.int v2), some (.int y2)], [], M)) hF (i := .iinc 3 1) rfl (fun _ => rfl) (fun y2 => ?_)
  refine dp_s1 hF (i := .goto (-27)) rfl (fun _ => rfl) ?_
  exact rfl
noncomputable def D_X12_isAsked_0 (xs : Nat → Int32) (xl d : Nat) (v0 : Int64) (M : dp_M) : Option dp_Res := dp_lim true xs xl (dp_den true xs xl d) dp_m_X12_isAsked (0, [some (.long v0), none], [], M)
theorem D_X12_isAsked_0_den (xs : Nat → Int32) (xl d : Nat) (a0 : Int64) (M : dp_M) : dp_den true xs xl (d + 1) 571 [.long a0] M = D_X12_isAsked_0 xs xl d a0 M := rfl
set_option maxRecDepth 20000 in
theorem D_X12_isAsked_0_eq (xs : Nat → Int32) (xl d : Nat) (v0 : Int64) (M : dp_M) : D_X12_isAsked_0 xs xl d v0 M = dp_bi (dp_den true xs xl d 367 [.long v0, .long (1 : Int64), .long (1000000 : Int64)] M) (fun r2 M1 => if r2 = 0 ∨ r2 = 1 then some (.inl (some (.int r2)), M1) else none) := by
  have hF := dp_den_grow (md := true) (xs := xs) (xl := xl) d
  unfold D_X12_isAsked_0
  refine dp_s1 hF (i := .lload_n 0) rfl (fun _ => rfl) ?_
  refine dp_s1 hF (i := .lconst 1) rfl (fun _ => rfl) ?_
  refine dp_s1 hF (i := .ldc2_w 834) rfl (fun _ => rfl) ?_
  refine dp_si (mj := dp_m_X12_in) (i := .invokestatic 446) rfl rfl (Or.inr rfl) rfl (fun _ => rfl) (fun r2 M1 => ?_)
  exact dp_s0 hF (i := .ireturn) rfl (fun _ => rfl)
noncomputable def D_X12_ask_0 (xs : Nat → Int32) (xl d : Nat) (v1 : Int32) (v2 : Int32) (v3 : Int64) (M : dp_M) : Option dp_Res := dp_lim true xs xl (dp_den true xs xl d) dp_m_X12_ask (0, [some (.ref 114), some (.int v1), some (.int v2), some (.long v3), none], [], M)
theorem D_X12_ask_0_den (xs : Nat → Int32) (xl d : Nat) (a0 : Int32) (a1 : Int32) (a2 : Int64) (M : dp_M) : dp_den true xs xl (d + 1) 572 [.ref 114, .int a0, .int a1, .long a2] M = D_X12_ask_0 xs xl d a0 a1 a2 M := rfl
set_option maxRecDepth 20000 in
theorem D_X12_ask_0_eq (xs : Nat → Int32) (xl d : Nat) (v1 : Int32) (v2 : Int32) (v3 : Int64) (M : dp_M) : D_X12_ask_0 xs xl d v1 v2 v3 M = dp_bi (dp_den true xs xl d 567 [.ref 114, .int v1, .int (0 : Int32)] M) (fun r2 M1 => if r2 = 0 then (dp_bi (dp_den true xs xl d 366 [.ref 114, .int (1 : Int32)] M1) (fun r4 M3 => some (.inl (some (.int r4)), M3))) else (dp_bi (dp_den true xs xl d 571 [.long v3] M1) (fun r6 M5 => if r6 = 0 then (dp_bi (dp_den true xs xl d 366 [.ref 114, .int (1 : Int32)] M5) (fun r8 M7 => some (.inl (some (.int r8)), M7))) else (dp_bi (dp_den true xs xl d 505 [.ref 114, .int v2] M5) (fun r10 M9 => if r10 = 0 then (dp_bi (dp_den true xs xl d 366 [.ref 114, .int (2 : Int32)] M9) (fun r12 M11 => some (.inl (some (.int r12)), M11))) else (dp_bi (dp_den true xs xl d 570 [.ref 114, .int v1] M9) (fun r14 M13 => if r14 < 0 then (dp_w (dp_setI M13 114 0 (0 : Int32)) (fun M15 => if v1 < 0 ∨ 400 ≤ Int32.toNatClampNeg v1 then none else (if v2 < 0 ∨ 16 ≤ Int32.toNatClampNeg v2 then none else (if v2 < 0 ∨ 16 ≤ Int32.toNatClampNeg v2 then none else (dp_bi (dp_den true xs xl d 367 [.long (Int32.toInt64 (dp_I M15 238 (Int32.toNatClampNeg v1))), .long (Int32.toInt64 (dp_I M15 192 (Int32.toNatClampNeg v2))), .long (Int32.toInt64 (dp_I M15 193 (Int32.toNatClampNeg v2)))] M15) (fun r17 M16 => if r17 = 0 then (some (.inl (some (.int (0 : Int32))), M16)) else (if (dp_I M16 114 111) < 0 ∨ 400 ≤ Int32.toNatClampNeg (dp_I M16 114 111) then none else dp_w (dp_setI M16 196 (Int32.toNatClampNeg (dp_I M16 114 111)) v1) (fun M18 => if (dp_I M18 114 111) < 0 ∨ 400 ≤ Int32.toNatClampNeg (dp_I M18 114 111) then none else dp_w (dp_setI M18 197 (Int32.toNatClampNeg (dp_I M18 114 111)) v2) (fun M19 => if (dp_I M19 114 111) < 0 ∨ 400 ≤ Int32.toNatClampNeg (dp_I M19 114 111) then none else dp_w (dp_setJ M19 198 (Int32.toNatClampNeg (dp_I M19 114 111)) v3) (fun M20 => dp_w (dp_setI M20 114 111 ((dp_I M20 114 111) + (1 : Int32))) (fun M21 => some (.inl (some (.int (1 : Int32))), M21)))))))))))) else (dp_bi (dp_den true xs xl d 366 [.ref 114, .int (3 : Int32)] M13) (fun r23 M22 => some (.inl (some (.int r23)), M22)))))))))) := by
  have hF := dp_den_grow (md := true) (xs := xs) (xl := xl) d
  unfold D_X12_ask_0
  refine dp_s1 hF (i := .aload_n 0) rfl (fun _ => rfl) ?_
  refine dp_s1 hF (i := .iload_n 1) rfl (fun _ => rfl) ?_
  refine dp_s1 hF (i := .iconst 0) rfl (fun _ => rfl) ?_
  refine dp_si (mj := dp_m_X12_isState) (i := .invokevirtual 1032) rfl rfl (Or.inr rfl) rfl (fun _ => rfl) (fun r2 M1 => ?_)
  refine dp_s2 hF (i := .ifCond .eq 10) (a := (16, [some (.ref 114), some (.int v1), some (.int v2), some (.long v3), none], [], M1)) (b := (9, [some (.ref 114), some (.int v1), some (.int v2), some (.long v3), none], [], M1)) rfl (fun _ => rfl) ?_ ?_
  · refine dp_s1 hF (i := .aload_n 0) rfl (fun _ => rfl) ?_
    refine dp_s1 hF (i := .iconst 1) rfl (fun _ => rfl) ?_
    refine dp_si (mj := dp_m_X12_refuse) (i := .invokevirtual 460) rfl rfl (Or.inl rfl) rfl (fun _ => rfl) (fun r4 M3 => ?_)
    exact dp_s0 hF (i := .ireturn) rfl (fun _ => rfl)
  refine dp_s1 hF (i := .lload_n 3) rfl (fun _ => rfl) ?_
  refine dp_si (mj := dp_m_X12_isAsked) (i := .invokestatic 1035) rfl rfl (Or.inr rfl) rfl (fun _ => rfl) (fun r6 M5 => ?_)
  refine dp_s2 hF (i := .ifCond .ne 9) (a := (16, [some (.ref 114), some (.int v1), some (.int v2), some (.long v3), none], [], M5)) (b := (22, [some (.ref 114), some (.int v1), some (.int v2), some (.long v3), none], [], M5)) rfl (fun _ => rfl) ?_ ?_
  · refine dp_s1 hF (i := .aload_n 0) rfl (fun _ => rfl) ?_
    refine dp_s1 hF (i := .iconst 1) rfl (fun _ => rfl) ?_
    refine dp_si (mj := dp_m_X12_refuse) (i := .invokevirtual 460) rfl rfl (Or.inl rfl) rfl (fun _ => rfl) (fun r8 M7 => ?_)
    exact dp_s0 hF (i := .ireturn) rfl (fun _ => rfl)
  refine dp_s1 hF (i := .aload_n 0) rfl (fun _ => rfl) ?_
  refine dp_s1 hF (i := .iload_n 2) rfl (fun _ => rfl) ?_
  refine dp_si (mj := dp_m_X12_isOrder) (i := .invokevirtual 905) rfl rfl (Or.inr rfl) rfl (fun _ => rfl) (fun r10 M9 => ?_)
  refine dp_s2 hF (i := .ifCond .ne 9) (a := (30, [some (.ref 114), some (.int v1), some (.int v2), some (.long v3), none], [], M9)) (b := (36, [some (.ref 114), some (.int v1), some (.int v2), some (.long v3), none], [], M9)) rfl (fun _ => rfl) ?_ ?_
  · refine dp_s1 hF (i := .aload_n 0) rfl (fun _ => rfl) ?_
    refine dp_s1 hF (i := .iconst 2) rfl (fun _ => rfl) ?_
    refine dp_si (mj := dp_m_X12_refuse) (i := .invokevirtual 460) rfl rfl (Or.inl rfl) rfl (fun _ => rfl) (fun r12 M11 => ?_)
    exact dp_s0 hF (i := .ireturn) rfl (fun _ => rfl)
  refine dp_s1 hF (i := .aload_n 0) rfl (fun _ => rfl) ?_
  refine dp_s1 hF (i := .iload_n 1) rfl (fun _ => rfl) ?_
  refine dp_si (mj := dp_m_X12_askFor) (i := .invokevirtual 1038) rfl rfl (Or.inl rfl) rfl (fun _ => rfl) (fun r14 M13 => ?_)
  refine dp_s2 hF (i := .ifCond .lt 9) (a := (50, [some (.ref 114), some (.int v1), some (.int v2), some (.long v3), none], [], M13)) (b := (44, [some (.ref 114), some (.int v1), some (.int v2), some (.long v3), none], [], M13)) rfl (fun _ => rfl) ?_ ?_
  · refine dp_s1 hF (i := .aload_n 0) rfl (fun _ => rfl) ?_
    refine dp_s1 hF (i := .iconst 0) rfl (fun _ => rfl) ?_
    refine dp_s1w (dp_setI M13 114 0 (0 : Int32)) (fun (M15 : dp_M) => (55, [some (.ref 114), some (.int v1), some (.int v2), some (.long v3), none], [], M15)) hF (i := .putfield 1) rfl (fun _ => rfl) (fun M15 => ?_)
    refine dp_s1 hF (i := .aload_n 0) rfl (fun _ => rfl) ?_
    refine dp_s1 hF (i := .getfield 395) rfl (fun _ => rfl) ?_
    refine dp_s1 hF (i := .iload_n 1) rfl (fun _ => rfl) ?_
    refine dp_s3 hF (i := .iaload) rfl (fun _ => rfl) ?_
    refine dp_s1 hF (i := .i2l) rfl (fun _ => rfl) ?_
    refine dp_s1 hF (i := .aload_n 0) rfl (fun _ => rfl) ?_
    refine dp_s1 hF (i := .getfield 248) rfl (fun _ => rfl) ?_
    refine dp_s1 hF (i := .iload_n 2) rfl (fun _ => rfl) ?_
    refine dp_s3 hF (i := .iaload) rfl (fun _ => rfl) ?_
    refine dp_s1 hF (i := .i2l) rfl (fun _ => rfl) ?_
    refine dp_s1 hF (i := .aload_n 0) rfl (fun _ => rfl) ?_
    refine dp_s1 hF (i := .getfield 251) rfl (fun _ => rfl) ?_
    refine dp_s1 hF (i := .iload_n 2) rfl (fun _ => rfl) ?_
    refine dp_s3 hF (i := .iaload) rfl (fun _ => rfl) ?_
    refine dp_s1 hF (i := .i2l) rfl (fun _ => rfl) ?_
    refine dp_si (mj := dp_m_X12_in) (i := .invokestatic 446) rfl rfl (Or.inr rfl) rfl (fun _ => rfl) (fun r17 M16 => ?_)
    refine dp_s2 hF (i := .ifCond .ne 5) (a := (82, [some (.ref 114), some (.int v1), some (.int v2), some (.long v3), none], [], M16)) (b := (84, [some (.ref 114), some (.int v1), some (.int v2), some (.long v3), none], [], M16)) rfl (fun _ => rfl) ?_ ?_
    · refine dp_s1 hF (i := .iconst 0) rfl (fun _ => rfl) ?_
      exact dp_s0 hF (i := .ireturn) rfl (fun _ => rfl)
    refine dp_s1 hF (i := .aload_n 0) rfl (fun _ => rfl) ?_
    refine dp_s1 hF (i := .getfield 260) rfl (fun _ => rfl) ?_
    refine dp_s1 hF (i := .aload_n 0) rfl (fun _ => rfl) ?_
    refine dp_s1 hF (i := .getfield 888) rfl (fun _ => rfl) ?_
    refine dp_s1 hF (i := .iload_n 1) rfl (fun _ => rfl) ?_
    refine dp_s3w (dp_setI M16 196 (Int32.toNatClampNeg (dp_I M16 114 111)) v1) (fun (M18 : dp_M) => (94, [some (.ref 114), some (.int v1), some (.int v2), some (.long v3), none], [], M18)) hF (i := .iastore) rfl (fun _ => rfl) (fun M18 => ?_)
    refine dp_s1 hF (i := .aload_n 0) rfl (fun _ => rfl) ?_
    refine dp_s1 hF (i := .getfield 263) rfl (fun _ => rfl) ?_
    refine dp_s1 hF (i := .aload_n 0) rfl (fun _ => rfl) ?_
    refine dp_s1 hF (i := .getfield 888) rfl (fun _ => rfl) ?_
    refine dp_s1 hF (i := .iload_n 2) rfl (fun _ => rfl) ?_
    refine dp_s3w (dp_setI M18 197 (Int32.toNatClampNeg (dp_I M18 114 111)) v2) (fun (M19 : dp_M) => (104, [some (.ref 114), some (.int v1), some (.int v2), some (.long v3), none], [], M19)) hF (i := .iastore) rfl (fun _ => rfl) (fun M19 => ?_)
    refine dp_s1 hF (i := .aload_n 0) rfl (fun _ => rfl) ?_
    refine dp_s1 hF (i := .getfield 266) rfl (fun _ => rfl) ?_
    refine dp_s1 hF (i := .aload_n 0) rfl (fun _ => rfl) ?_
    refine dp_s1 hF (i := .getfield 888) rfl (fun _ => rfl) ?_
    refine dp_s1 hF (i := .lload_n 3) rfl (fun _ => rfl) ?_
    refine dp_s3w (dp_setJ M19 198 (Int32.toNatClampNeg (dp_I M19 114 111)) v3) (fun (M20 : dp_M) => (114, [some (.ref 114), some (.int v1), some (.int v2), some (.long v3), none], [], M20)) hF (i := .lastore) rfl (fun _ => rfl) (fun M20 => ?_)
    refine dp_s1 hF (i := .aload_n 0) rfl (fun _ => rfl) ?_
    refine dp_s1 hF (i := .dup) rfl (fun _ => rfl) ?_
    refine dp_s1 hF (i := .getfield 888) rfl (fun _ => rfl) ?_
    refine dp_s1 hF (i := .iconst 1) rfl (fun _ => rfl) ?_
    refine dp_s1 hF (i := .iadd) rfl (fun _ => rfl) ?_
    refine dp_s1w (dp_setI M20 114 111 ((dp_I M20 114 111) + (1 : Int32))) (fun (M21 : dp_M) => (124, [some (.ref 114), some (.int v1), some (.int v2), some (.long v3), none], [], M21)) hF (i := .putfield 888) rfl (fun _ => rfl) (fun M21 => ?_)
    refine dp_s1 hF (i := .iconst 1) rfl (fun _ => rfl) ?_
    exact dp_s0 hF (i := .ireturn) rfl (fun _ => rfl)
  refine dp_s1 hF (i := .aload_n 0) rfl (fun _ => rfl) ?_
  refine dp_s1 hF (i := .iconst 3) rfl (fun _ => rfl) ?_
  refine dp_si (mj := dp_m_X12_refuse) (i := .invokevirtual 460) rfl rfl (Or.inl rfl) rfl (fun _ => rfl) (fun r23 M22 => ?_)
  exact dp_s0 hF (i := .ireturn) rfl (fun _ => rfl)
noncomputable def D_X12_again_0 (xs : Nat → Int32) (xl d : Nat) (v1 : Int32) (v2 : Int64) (M : dp_M) : Option dp_Res := dp_lim true xs xl (dp_den true xs xl d) dp_m_X12_again (0, [some (.ref 114), some (.int v1), some (.long v2), none, none, none, none, none], [], M)
noncomputable def D_X12_again_39 (xs : Nat → Int32) (xl d : Nat) (v1 : Int32) (v2 : Int64) (vs0 : Int32) (M : dp_M) : Option dp_Res := dp_lim true xs xl (dp_den true xs xl d) dp_m_X12_again (39, [some (.ref 114), some (.int v1), some (.long v2), none, none, none, none, none], [.int vs0], M)
noncomputable def D_X12_again_89 (xs : Nat → Int32) (xl d : Nat) (v1 : Int32) (v2 : Int64) (v4 : Int32) (v5 : Int32) (v6 : Int32) (M : dp_M) : Option dp_Res := dp_lim true xs xl (dp_den true xs xl d) dp_m_X12_again (89, [some (.ref 114), some (.int v1), some (.long v2), none, some (.int v4), some (.int v5), some (.int v6), none], [], M)
noncomputable def D_X12_again_145 (xs : Nat → Int32) (xl d : Nat) (v1 : Int32) (v2 : Int64) (v4 : Int32) (v5 : Int32) (v6 : Int32) (v7 : Int32) (M : dp_M) : Option dp_Res := dp_lim true xs xl (dp_den true xs xl d) dp_m_X12_again (145, [some (.ref 114), some (.int v1), some (.long v2), none, some (.int v4), some (.int v5), some (.int v6), some (.int v7)], [], M)
theorem D_X12_again_0_den (xs : Nat → Int32) (xl d : Nat) (a0 : Int32) (a1 : Int64) (M : dp_M) : dp_den true xs xl (d + 1) 573 [.ref 114, .int a0, .long a1] M = D_X12_again_0 xs xl d a0 a1 M := rfl
set_option maxRecDepth 20000 in
theorem D_X12_again_0_eq (xs : Nat → Int32) (xl d : Nat) (v1 : Int32) (v2 : Int64) (M : dp_M) : D_X12_again_0 xs xl d v1 v2 M = dp_bi (dp_den true xs xl d 566 [.ref 114, .int v1] M) (fun r2 M1 => if r2 = 0 then (D_X12_again_39 xs xl d v1 v2 (-1 : Int32) M1) else (dp_bi (dp_den true xs xl d 566 [.ref 114, .int v1] M1) (fun r4 M3 => if r4 = 0 then (if (0 : Int32) < 0 ∨ 400 ≤ Int32.toNatClampNeg (0 : Int32) then none else (if (dp_I M3 241 (Int32.toNatClampNeg (0 : Int32))) = (4 : Int32) then (D_X12_again_39 xs xl d v1 v2 (-1 : Int32) M3) else (dp_bi (dp_den true xs xl d 570 [.ref 114, .int v1] M3) (fun r6 M5 => D_X12_again_39 xs xl d v1 v2 r6 M5)))) else (if v1 < 0 ∨ 400 ≤ Int32.toNatClampNeg v1 then none else (if (dp_I M3 241 (Int32.toNatClampNeg v1)) = (4 : Int32) then (D_X12_again_39 xs xl d v1 v2 (-1 : Int32) M3) else (dp_bi (dp_den true xs xl d 570 [.ref 114, .int v1] M3) (fun r8 M7 => D_X12_again_39 xs xl d v1 v2 r8 M7))))))) := by
  have hF := dp_den_grow (md := true) (xs := xs) (xl := xl) d
  unfold D_X12_again_0
  refine dp_s1 hF (i := .aload_n 0) rfl (fun _ => rfl) ?_
  refine dp_s1 hF (i := .iload_n 1) rfl (fun _ => rfl) ?_
  refine dp_si (mj := dp_m_X12_isDeclaration) (i := .invokevirtual 1029) rfl rfl (Or.inr rfl) rfl (fun _ => rfl) (fun r2 M1 => ?_)
  refine dp_s2 hF (i := .ifCond .eq 33) (a := (38, [some (.ref 114), some (.int v1), some (.long v2), none, none, none, none, none], [], M1)) (b := (8, [some (.ref 114), some (.int v1), some (.long v2), none, none, none, none, none], [], M1)) rfl (fun _ => rfl) ?_ ?_
  · refine dp_s1 hF (i := .iconst (-1)) rfl (fun _ => rfl) ?_
    exact rfl
  refine dp_s1 hF (i := .aload_n 0) rfl (fun _ => rfl) ?_
  refine dp_s1 hF (i := .getfield 404) rfl (fun _ => rfl) ?_
  refine dp_s1 hF (i := .aload_n 0) rfl (fun _ => rfl) ?_
  refine dp_s1 hF (i := .iload_n 1) rfl (fun _ => rfl) ?_
  refine dp_si (mj := dp_m_X12_isDeclaration) (i := .invokevirtual 1029) rfl rfl (Or.inr rfl) rfl (fun _ => rfl) (fun r4 M3 => ?_)
  refine dp_s2 hF (i := .ifCond .eq 7) (a := (24, [some (.ref 114), some (.int v1), some (.long v2), none, none, none, none, none], [.ref 241], M3)) (b := (20, [some (.ref 114), some (.int v1), some (.long v2), none, none, none, none, none], [.ref 241], M3)) rfl (fun _ => rfl) ?_ ?_
  · refine dp_s1 hF (i := .iconst 0) rfl (fun _ => rfl) ?_
    refine dp_s3 hF (i := .iaload) rfl (fun _ => rfl) ?_
    refine dp_s1 hF (i := .iconst 4) rfl (fun _ => rfl) ?_
    refine dp_s2 hF (i := .if_icmp .eq 11) (a := (38, [some (.ref 114), some (.int v1), some (.long v2), none, none, none, none, none], [], M3)) (b := (30, [some (.ref 114), some (.int v1), some (.long v2), none, none, none, none, none], [], M3)) rfl (fun _ => rfl) ?_ ?_
    · refine dp_s1 hF (i := .iconst (-1)) rfl (fun _ => rfl) ?_
      exact rfl
    refine dp_s1 hF (i := .aload_n 0) rfl (fun _ => rfl) ?_
    refine dp_s1 hF (i := .iload_n 1) rfl (fun _ => rfl) ?_
    refine dp_si (mj := dp_m_X12_askFor) (i := .invokevirtual 1038) rfl rfl (Or.inl rfl) rfl (fun _ => rfl) (fun r6 M5 => ?_)
    refine dp_s1 hF (i := .goto 4) rfl (fun _ => rfl) ?_
    exact rfl
  refine dp_s1 hF (i := .iload_n 1) rfl (fun _ => rfl) ?_
  refine dp_s1 hF (i := .goto 4) rfl (fun _ => rfl) ?_
  refine dp_s3 hF (i := .iaload) rfl (fun _ => rfl) ?_
  refine dp_s1 hF (i := .iconst 4) rfl (fun _ => rfl) ?_
  refine dp_s2 hF (i := .if_icmp .eq 11) (a := (38, [some (.ref 114), some (.int v1), some (.long v2), none, none, none, none, none], [], M3)) (b := (30, [some (.ref 114), some (.int v1), some (.long v2), none, none, none, none, none], [], M3)) rfl (fun _ => rfl) ?_ ?_
  · refine dp_s1 hF (i := .iconst (-1)) rfl (fun _ => rfl) ?_
    exact rfl
  refine dp_s1 hF (i := .aload_n 0) rfl (fun _ => rfl) ?_
  refine dp_s1 hF (i := .iload_n 1) rfl (fun _ => rfl) ?_
  refine dp_si (mj := dp_m_X12_askFor) (i := .invokevirtual 1038) rfl rfl (Or.inl rfl) rfl (fun _ => rfl) (fun r8 M7 => ?_)
  refine dp_s1 hF (i := .goto 4) rfl (fun _ => rfl) ?_
  exact rfl
set_option maxRecDepth 20000 in
theorem D_X12_again_39_eq (xs : Nat → Int32) (xl d : Nat) (v1 : Int32) (v2 : Int64) (vs0 : Int32) (M : dp_M) : D_X12_again_39 xs xl d v1 v2 vs0 M = if vs0 < 0 then (dp_bi (dp_den true xs xl d 366 [.ref 114, .int (1 : Int32)] M) (fun r2 M1 => some (.inl (some (.int r2)), M1))) else (dp_bi (dp_den true xs xl d 571 [.long v2] M) (fun r4 M3 => if r4 = 0 then (dp_bi (dp_den true xs xl d 366 [.ref 114, .int (1 : Int32)] M3) (fun r6 M5 => some (.inl (some (.int r6)), M5))) else (dp_w (dp_setI M3 114 0 (0 : Int32)) (fun M7 => if vs0 < 0 ∨ 400 ≤ Int32.toNatClampNeg vs0 then none else (dp_w (dp_I M7 197 (Int32.toNatClampNeg vs0)) (fun y8 => if y8 < 0 ∨ 16 ≤ Int32.toNatClampNeg y8 then none else (dp_bv (dp_den true xs xl d 508 [.ref 114, .int y8, .int (dp_I M7 194 (Int32.toNatClampNeg y8))] M7) (fun M9 => dp_w (0 : Int32) (fun y10 => D_X12_again_89 xs xl d v1 v2 vs0 y8 y10 M9))))))))) := by
  have hF := dp_den_grow (md := true) (xs := xs) (xl := xl) d
  unfold D_X12_again_39
  refine dp_s1 hF (i := .istore 4) rfl (fun _ => rfl) ?_
  refine dp_s1 hF (i := .iload 4) rfl (fun _ => rfl) ?_
  refine dp_s2 hF (i := .ifCond .lt 10) (a := (53, [some (.ref 114), some (.int v1), some (.long v2), none, some (.int vs0), none, none, none], [], M)) (b := (46, [some (.ref 114), some (.int v1), some (.long v2), none, some (.int vs0), none, none, none], [], M)) rfl (fun _ => rfl) ?_ ?_
  · refine dp_s1 hF (i := .aload_n 0) rfl (fun _ => rfl) ?_
    refine dp_s1 hF (i := .iconst 1) rfl (fun _ => rfl) ?_
    refine dp_si (mj := dp_m_X12_refuse) (i := .invokevirtual 460) rfl rfl (Or.inl rfl) rfl (fun _ => rfl) (fun r2 M1 => ?_)
    exact dp_s0 hF (i := .ireturn) rfl (fun _ => rfl)
  refine dp_s1 hF (i := .lload_n 2) rfl (fun _ => rfl) ?_
  refine dp_si (mj := dp_m_X12_isAsked) (i := .invokestatic 1035) rfl rfl (Or.inr rfl) rfl (fun _ => rfl) (fun r4 M3 => ?_)
  refine dp_s2 hF (i := .ifCond .ne 9) (a := (53, [some (.ref 114), some (.int v1), some (.long v2), none, some (.int vs0), none, none, none], [], M3)) (b := (59, [some (.ref 114), some (.int v1), some (.long v2), none, some (.int vs0), none, none, none], [], M3)) rfl (fun _ => rfl) ?_ ?_
  · refine dp_s1 hF (i := .aload_n 0) rfl (fun _ => rfl) ?_
    refine dp_s1 hF (i := .iconst 1) rfl (fun _ => rfl) ?_
    refine dp_si (mj := dp_m_X12_refuse) (i := .invokevirtual 460) rfl rfl (Or.inl rfl) rfl (fun _ => rfl) (fun r6 M5 => ?_)
    exact dp_s0 hF (i := .ireturn) rfl (fun _ => rfl)
  refine dp_s1 hF (i := .aload_n 0) rfl (fun _ => rfl) ?_
  refine dp_s1 hF (i := .iconst 0) rfl (fun _ => rfl) ?_
  refine dp_s1w (dp_setI M3 114 0 (0 : Int32)) (fun (M7 : dp_M) => (64, [some (.ref 114), some (.int v1), some (.long v2), none, some (.int vs0), none, none, none], [], M7)) hF (i := .putfield 1) rfl (fun _ => rfl) (fun M7 => ?_)
  refine dp_s1 hF (i := .aload_n 0) rfl (fun _ => rfl) ?_
  refine dp_s1 hF (i := .getfield 263) rfl (fun _ => rfl) ?_
  refine dp_s1 hF (i := .iload 4) rfl (fun _ => rfl) ?_
  refine dp_s3 hF (i := .iaload) rfl (fun _ => rfl) ?_
  refine dp_s1w (dp_I M7 197 (Int32.toNatClampNeg vs0)) (fun (y8 : Int32) => (73, [some (.ref 114), some (.int v1), some (.long v2), none, some (.int vs0), some (.int y8), none, none], [], M7)) hF (i := .istore 5) rfl (fun _ => rfl) (fun y8 => ?_)
  refine dp_s1 hF (i := .aload_n 0) rfl (fun _ => rfl) ?_
  refine dp_s1 hF (i := .iload 5) rfl (fun _ => rfl) ?_
  refine dp_s1 hF (i := .aload_n 0) rfl (fun _ => rfl) ?_
  refine dp_s1 hF (i := .getfield 254) rfl (fun _ => rfl) ?_
  refine dp_s1 hF (i := .iload 5) rfl (fun _ => rfl) ?_
  refine dp_s3 hF (i := .iaload) rfl (fun _ => rfl) ?_
  refine dp_sv (mj := dp_m_X12_course) (i := .invokevirtual 908) rfl rfl rfl rfl (fun _ => rfl) (fun M9 => ?_)
  refine dp_s1 hF (i := .iconst 0) rfl (fun _ => rfl) ?_
  refine dp_s1w (0 : Int32) (fun (y10 : Int32) => (89, [some (.ref 114), some (.int v1), some (.long v2), none, some (.int vs0), some (.int y8), some (.int y10), none], [], M9)) hF (i := .istore 6) rfl (fun _ => rfl) (fun y10 => ?_)
  exact rfl
set_option maxRecDepth 20000 in
theorem D_X12_again_89_eq (xs : Nat → Int32) (xl d : Nat) (v1 : Int32) (v2 : Int64) (v4 : Int32) (v5 : Int32) (v6 : Int32) (M : dp_M) : D_X12_again_89 xs xl d v1 v2 v4 v5 v6 M = if (dp_I M 114 111) ≤ v6 then (if v4 < 0 ∨ 400 ≤ Int32.toNatClampNeg v4 then none else dp_w (dp_setJ M 198 (Int32.toNatClampNeg v4) v2) (fun M1 => if v5 < 0 ∨ 16 ≤ Int32.toNatClampNeg v5 then none else (dp_bv (dp_den true xs xl d 508 [.ref 114, .int v5, .int (dp_I M1 194 (Int32.toNatClampNeg v5))] M1) (fun M2 => dp_w (0 : Int32) (fun y3 => dp_w (0 : Int32) (fun y4 => D_X12_again_145 xs xl d v1 v2 v4 v5 y3 y4 M2)))))) else (if v6 < 0 ∨ 400 ≤ Int32.toNatClampNeg v6 then none else (if v6 < 0 ∨ 400 ≤ Int32.toNatClampNeg v6 then none else dp_w (dp_setJ M 201 (Int32.toNatClampNeg v6) (dp_J M 200 (Int32.toNatClampNeg v6))) (fun M5 => dp_w (v6 + (1 : Int32)) (fun y6 => D_X12_again_89 xs xl d v1 v2 v4 v5 y6 M5)))) := by
  have hF := dp_den_grow (md := true) (xs := xs) (xl := xl) d
  unfold D_X12_again_89
  refine dp_s1 hF (i := .iload 6) rfl (fun _ => rfl) ?_
  refine dp_s1 hF (i := .aload_n 0) rfl (fun _ => rfl) ?_
  refine dp_s1 hF (i := .getfield 888) rfl (fun _ => rfl) ?_
  refine dp_s2 hF (i := .if_icmp .ge 23) (a := (118, [some (.ref 114), some (.int v1), some (.long v2), none, some (.int v4), some (.int v5), some (.int v6), none], [], M)) (b := (98, [some (.ref 114), some (.int v1), some (.long v2), none, some (.int v4), some (.int v5), some (.int v6), none], [], M)) rfl (fun _ => rfl) ?_ ?_
  · refine dp_s1 hF (i := .aload_n 0) rfl (fun _ => rfl) ?_
    refine dp_s1 hF (i := .getfield 266) rfl (fun _ => rfl) ?_
    refine dp_s1 hF (i := .iload 4) rfl (fun _ => rfl) ?_
    refine dp_s1 hF (i := .lload_n 2) rfl (fun _ => rfl) ?_
    refine dp_s3w (dp_setJ M 198 (Int32.toNatClampNeg v4) v2) (fun (M1 : dp_M) => (126, [some (.ref 114), some (.int v1), some (.long v2), none, some (.int v4), some (.int v5), some (.int v6), none], [], M1)) hF (i := .lastore) rfl (fun _ => rfl) (fun M1 => ?_)
    refine dp_s1 hF (i := .aload_n 0) rfl (fun _ => rfl) ?_
    refine dp_s1 hF (i := .iload 5) rfl (fun _ => rfl) ?_
    refine dp_s1 hF (i := .aload_n 0) rfl (fun _ => rfl) ?_
    refine dp_s1 hF (i := .getfield 254) rfl (fun _ => rfl) ?_
    refine dp_s1 hF (i := .iload 5) rfl (fun _ => rfl) ?_
    refine dp_s3 hF (i := .iaload) rfl (fun _ => rfl) ?_
    refine dp_sv (mj := dp_m_X12_course) (i := .invokevirtual 908) rfl rfl rfl rfl (fun _ => rfl) (fun M2 => ?_)
    refine dp_s1 hF (i := .iconst 0) rfl (fun _ => rfl) ?_
    refine dp_s1w (0 : Int32) (fun (y3 : Int32) => (142, [some (.ref 114), some (.int v1), some (.long v2), none, some (.int v4), some (.int v5), some (.int y3), none], [], M2)) hF (i := .istore 6) rfl (fun _ => rfl) (fun y3 => ?_)
    refine dp_s1 hF (i := .iconst 0) rfl (fun _ => rfl) ?_
    refine dp_s1w (0 : Int32) (fun (y4 : Int32) => (145, [some (.ref 114), some (.int v1), some (.long v2), none, some (.int v4), some (.int v5), some (.int y3), some (.int y4)], [], M2)) hF (i := .istore 7) rfl (fun _ => rfl) (fun y4 => ?_)
    exact rfl
  refine dp_s1 hF (i := .aload_n 0) rfl (fun _ => rfl) ?_
  refine dp_s1 hF (i := .getfield 275) rfl (fun _ => rfl) ?_
  refine dp_s1 hF (i := .iload 6) rfl (fun _ => rfl) ?_
  refine dp_s1 hF (i := .aload_n 0) rfl (fun _ => rfl) ?_
  refine dp_s1 hF (i := .getfield 272) rfl (fun _ => rfl) ?_
  refine dp_s1 hF (i := .iload 6) rfl (fun _ => rfl) ?_
  refine dp_s3 hF (i := .laload) rfl (fun _ => rfl) ?_
  refine dp_s3w (dp_setJ M 201 (Int32.toNatClampNeg v6) (dp_J M 200 (Int32.toNatClampNeg v6))) (fun (M5 : dp_M) => (112, [some (.ref 114), some (.int v1), some (.long v2), none, some (.int v4), some (.int v5), some (.int v6), none], [], M5)) hF (i := .lastore) rfl (fun _ => rfl) (fun M5 => ?_)
  refine dp_s1w (v6 + (1 : Int32)) (fun (y6 : Int32) => (115, [some (.ref 114), some (.int v1), some (.long v2), none, some (.int v4), some (.int v5), some (.int y6), none], [], M5)) hF (i := .iinc 6 1) rfl (fun _ => rfl) (fun y6 => ?_)
  refine dp_s1 hF (i := .goto (-26)) rfl (fun _ => rfl) ?_
  exact rfl
set_option maxRecDepth 20000 in
theorem D_X12_again_145_eq (xs : Nat → Int32) (xl d : Nat) (v1 : Int32) (v2 : Int64) (v4 : Int32) (v5 : Int32) (v6 : Int32) (v7 : Int32) (M : dp_M) : D_X12_again_145 xs xl d v1 v2 v4 v5 v6 v7 M = if (dp_I M 114 111) ≤ v7 then (some (.inl (some (.int v6)), M)) else (if v7 < 0 ∨ 400 ≤ Int32.toNatClampNeg v7 then none else (if (dp_I M 197 (Int32.toNatClampNeg v7)) = v5 then (if v7 < 0 ∨ 400 ≤ Int32.toNatClampNeg v7 then none else (if v7 < 0 ∨ 400 ≤ Int32.toNatClampNeg v7 then none else (if (lg_cmp (dp_J M 201 (Int32.toNatClampNeg v7)) (dp_J M 200 (Int32.toNatClampNeg v7))) = 0 then (dp_w (v6 + (0 : Int32)) (fun y1 => dp_w (v7 + (1 : Int32)) (fun y2 => D_X12_again_145 xs xl d v1 v2 v4 v5 y1 y2 M))) else (dp_w (v6 + (1 : Int32)) (fun y3 => dp_w (v7 + (1 : Int32)) (fun y4 => D_X12_again_145 xs xl d v1 v2 v4 v5 y3 y4 M)))))) else (dp_w (v6 + (0 : Int32)) (fun y5 => dp_w (v7 + (1 : Int32)) (fun y6 => D_X12_again_145 xs xl d v1 v2 v4 v5 y5 y6 M))))) := by
  have hF := dp_den_grow (md := true) (xs := xs) (xl := xl) d
  unfold D_X12_again_145
  refine dp_s1 hF (i := .iload 7) rfl (fun _ => rfl) ?_
  refine dp_s1 hF (i := .aload_n 0) rfl (fun _ => rfl) ?_
  refine dp_s1 hF (i := .getfield 888) rfl (fun _ => rfl) ?_
  refine dp_s2 hF (i := .if_icmp .ge 49) (a := (200, [some (.ref 114), some (.int v1), some (.long v2), none, some (.int v4), some (.int v5), some (.int v6), some (.int v7)], [], M)) (b := (154, [some (.ref 114), some (.int v1), some (.long v2), none, some (.int v4), some (.int v5), some (.int v6), some (.int v7)], [], M)) rfl (fun _ => rfl) ?_ ?_
  · refine dp_s1 hF (i := .iload 6) rfl (fun _ => rfl) ?_
    exact dp_s0 hF (i := .ireturn) rfl (fun _ => rfl)
  refine dp_s1 hF (i := .iload 6) rfl (fun _ => rfl) ?_
  refine dp_s1 hF (i := .aload_n 0) rfl (fun _ => rfl) ?_
  refine dp_s1 hF (i := .getfield 263) rfl (fun _ => rfl) ?_
  refine dp_s1 hF (i := .iload 7) rfl (fun _ => rfl) ?_
  refine dp_s3 hF (i := .iaload) rfl (fun _ => rfl) ?_
  refine dp_s1 hF (i := .iload 5) rfl (fun _ => rfl) ?_
  refine dp_s2 hF (i := .if_icmp .ne 25) (a := (168, [some (.ref 114), some (.int v1), some (.long v2), none, some (.int v4), some (.int v5), some (.int v6), some (.int v7)], [.int v6], M)) (b := (190, [some (.ref 114), some (.int v1), some (.long v2), none, some (.int v4), some (.int v5), some (.int v6), some (.int v7)], [.int v6], M)) rfl (fun _ => rfl) ?_ ?_
  · refine dp_s1 hF (i := .aload_n 0) rfl (fun _ => rfl) ?_
    refine dp_s1 hF (i := .getfield 275) rfl (fun _ => rfl) ?_
    refine dp_s1 hF (i := .iload 7) rfl (fun _ => rfl) ?_
    refine dp_s3 hF (i := .laload) rfl (fun _ => rfl) ?_
    refine dp_s1 hF (i := .aload_n 0) rfl (fun _ => rfl) ?_
    refine dp_s1 hF (i := .getfield 272) rfl (fun _ => rfl) ?_
    refine dp_s1 hF (i := .iload 7) rfl (fun _ => rfl) ?_
    refine dp_s3 hF (i := .laload) rfl (fun _ => rfl) ?_
    refine dp_s1 hF (i := .lcmp) rfl (fun _ => rfl) ?_
    refine dp_s2 hF (i := .ifCond .eq 7) (a := (190, [some (.ref 114), some (.int v1), some (.long v2), none, some (.int v4), some (.int v5), some (.int v6), some (.int v7)], [.int v6], M)) (b := (186, [some (.ref 114), some (.int v1), some (.long v2), none, some (.int v4), some (.int v5), some (.int v6), some (.int v7)], [.int v6], M)) rfl (fun _ => rfl) ?_ ?_
    · refine dp_s1 hF (i := .iconst 0) rfl (fun _ => rfl) ?_
      refine dp_s1 hF (i := .iadd) rfl (fun _ => rfl) ?_
      refine dp_s1w (v6 + (0 : Int32)) (fun (y1 : Int32) => (194, [some (.ref 114), some (.int v1), some (.long v2), none, some (.int v4), some (.int v5), some (.int y1), some (.int v7)], [], M)) hF (i := .istore 6) rfl (fun _ => rfl) (fun y1 => ?_)
      refine dp_s1w (v7 + (1 : Int32)) (fun (y2 : Int32) => (197, [some (.ref 114), some (.int v1), some (.long v2), none, some (.int v4), some (.int v5), some (.int y1), some (.int y2)], [], M)) hF (i := .iinc 7 1) rfl (fun _ => rfl) (fun y2 => ?_)
      refine dp_s1 hF (i := .goto (-52)) rfl (fun _ => rfl) ?_
      exact rfl
    refine dp_s1 hF (i := .iconst 1) rfl (fun _ => rfl) ?_
    refine dp_s1 hF (i := .goto 4) rfl (fun _ => rfl) ?_
    refine dp_s1 hF (i := .iadd) rfl (fun _ => rfl) ?_
    refine dp_s1w (v6 + (1 : Int32)) (fun (y3 : Int32) => (194, [some (.ref 114), some (.int v1), some (.long v2), none, some (.int v4), some (.int v5), some (.int y3), some (.int v7)], [], M)) hF (i := .istore 6) rfl (fun _ => rfl) (fun y3 => ?_)
    refine dp_s1w (v7 + (1 : Int32)) (fun (y4 : Int32) => (197, [some (.ref 114), some (.int v1), some (.long v2), none, some (.int v4), some (.int v5), some (.int y3), some (.int y4)], [], M)) hF (i := .iinc 7 1) rfl (fun _ => rfl) (fun y4 => ?_)
    refine dp_s1 hF (i := .goto (-52)) rfl (fun _ => rfl) ?_
    exact rfl
  refine dp_s1 hF (i := .iconst 0) rfl (fun _ => rfl) ?_
  refine dp_s1 hF (i := .iadd) rfl (fun _ => rfl) ?_
  refine dp_s1w (v6 + (0 : Int32)) (fun (y5 : Int32) => (194, [some (.ref 114), some (.int v1), some (.long v2), none, some (.int v4), some (.int v5), some (.int y5), some (.int v7)], [], M)) hF (i := .istore 6) rfl (fun _ => rfl) (fun y5 => ?_)
  refine dp_s1w (v7 + (1 : Int32)) (fun (y6 : Int32) => (197, [some (.ref 114), some (.int v1), some (.long v2), none, some (.int v4), some (.int v5), some (.int y5), some (.int y6)], [], M)) hF (i := .iinc 7 1) rfl (fun _ => rfl) (fun y6 => ?_)
  refine dp_s1 hF (i := .goto (-52)) rfl (fun _ => rfl) ?_
  exact rfl
noncomputable def D_X12_partOfSum_0 (xs : Nat → Int32) (xl d : Nat) (v0 : Int64) (v2 : Int32) (v3 : Int64) (v5 : Int64) (M : dp_M) : Option dp_Res := dp_lim true xs xl (dp_den true xs xl d) dp_m_X12_partOfSum (0, [some (.long v0), none, some (.int v2), some (.long v3), none, some (.long v5), none, none, none], [], M)
noncomputable def D_X12_partOfSum_17 (xs : Nat → Int32) (xl d : Nat) (v0 : Int64) (v2 : Int32) (v3 : Int64) (v5 : Int64) (vs0 : Int64) (M : dp_M) : Option dp_Res := dp_lim true xs xl (dp_den true xs xl d) dp_m_X12_partOfSum (17, [some (.long v0), none, some (.int v2), some (.long v3), none, some (.long v5), none, none, none], [.long vs0], M)
theorem D_X12_partOfSum_0_den (xs : Nat → Int32) (xl d : Nat) (a0 : Int64) (a1 : Int32) (a2 : Int64) (a3 : Int64) (M : dp_M) : dp_den true xs xl (d + 1) 574 [.long a0, .int a1, .long a2, .long a3] M = D_X12_partOfSum_0 xs xl d a0 a1 a2 a3 M := rfl
set_option maxRecDepth 20000 in
theorem D_X12_partOfSum_0_eq (xs : Nat → Int32) (xl d : Nat) (v0 : Int64) (v2 : Int32) (v3 : Int64) (v5 : Int64) (M : dp_M) : D_X12_partOfSum_0 xs xl d v0 v2 v3 v5 M = if (lg_cmp v5 (0 : Int64)) = 0 then (D_X12_partOfSum_17 xs xl d v0 v2 v3 v5 (0 : Int64) M) else (if v5 = 0 then none else (D_X12_partOfSum_17 xs xl d v0 v2 v3 v5 ((v0 * v3) / v5) M)) := by
  have hF := dp_den_grow (md := true) (xs := xs) (xl := xl) d
  unfold D_X12_partOfSum_0
  refine dp_s1 hF (i := .lload 5) rfl (fun _ => rfl) ?_
  refine dp_s1 hF (i := .lconst 0) rfl (fun _ => rfl) ?_
  refine dp_s1 hF (i := .lcmp) rfl (fun _ => rfl) ?_
  refine dp_s2 hF (i := .ifCond .ne 7) (a := (7, [some (.long v0), none, some (.int v2), some (.long v3), none, some (.long v5), none, none, none], [], M)) (b := (11, [some (.long v0), none, some (.int v2), some (.long v3), none, some (.long v5), none, none, none], [], M)) rfl (fun _ => rfl) ?_ ?_
  · refine dp_s1 hF (i := .lconst 0) rfl (fun _ => rfl) ?_
    refine dp_s1 hF (i := .goto 9) rfl (fun _ => rfl) ?_
    exact rfl
  refine dp_s1 hF (i := .lload_n 0) rfl (fun _ => rfl) ?_
  refine dp_s1 hF (i := .lload_n 3) rfl (fun _ => rfl) ?_
  refine dp_s1 hF (i := .lmul) rfl (fun _ => rfl) ?_
  refine dp_s1 hF (i := .lload 5) rfl (fun _ => rfl) ?_
  refine dp_s3 hF (i := .ldiv) rfl (fun _ => rfl) ?_
  exact rfl
set_option maxRecDepth 20000 in
theorem D_X12_partOfSum_17_eq (xs : Nat → Int32) (xl d : Nat) (v0 : Int64) (v2 : Int32) (v3 : Int64) (v5 : Int64) (vs0 : Int64) (M : dp_M) : D_X12_partOfSum_17 xs xl d v0 v2 v3 v5 vs0 M = if v2 = 0 then (some (.inl (some (.long v0)), M)) else (if v2 = (1 : Int32) then (some (.inl (some (.long vs0)), M)) else (some (.inl (some (.long (v0 - vs0))), M))) := by
  have hF := dp_den_grow (md := true) (xs := xs) (xl := xl) d
  unfold D_X12_partOfSum_17
  refine dp_s1 hF (i := .lstore 7) rfl (fun _ => rfl) ?_
  refine dp_s1 hF (i := .iload_n 2) rfl (fun _ => rfl) ?_
  refine dp_s2 hF (i := .ifCond .ne 7) (a := (23, [some (.long v0), none, some (.int v2), some (.long v3), none, some (.long v5), none, some (.long vs0), none], [], M)) (b := (27, [some (.long v0), none, some (.int v2), some (.long v3), none, some (.long v5), none, some (.long vs0), none], [], M)) rfl (fun _ => rfl) ?_ ?_
  · refine dp_s1 hF (i := .lload_n 0) rfl (fun _ => rfl) ?_
    refine dp_s1 hF (i := .goto 17) rfl (fun _ => rfl) ?_
    exact dp_s0 hF (i := .lreturn) rfl (fun _ => rfl)
  refine dp_s1 hF (i := .iload_n 2) rfl (fun _ => rfl) ?_
  refine dp_s1 hF (i := .iconst 1) rfl (fun _ => rfl) ?_
  refine dp_s2 hF (i := .if_icmp .ne 8) (a := (32, [some (.long v0), none, some (.int v2), some (.long v3), none, some (.long v5), none, some (.long vs0), none], [], M)) (b := (37, [some (.long v0), none, some (.int v2), some (.long v3), none, some (.long v5), none, some (.long vs0), none], [], M)) rfl (fun _ => rfl) ?_ ?_
  · refine dp_s1 hF (i := .lload 7) rfl (fun _ => rfl) ?_
    refine dp_s1 hF (i := .goto 7) rfl (fun _ => rfl) ?_
    exact dp_s0 hF (i := .lreturn) rfl (fun _ => rfl)
  refine dp_s1 hF (i := .lload_n 0) rfl (fun _ => rfl) ?_
  refine dp_s1 hF (i := .lload 7) rfl (fun _ => rfl) ?_
  refine dp_s1 hF (i := .lsub) rfl (fun _ => rfl) ?_
  exact dp_s0 hF (i := .lreturn) rfl (fun _ => rfl)
noncomputable def D_X12_reckonsDuty_0 (xs : Nat → Int32) (xl d : Nat) (v1 : Int32) (v2 : Int32) (M : dp_M) : Option dp_Res := dp_lim true xs xl (dp_den true xs xl d) dp_m_X12_reckonsDuty (0, [some (.ref 114), some (.int v1), some (.int v2), none, none, none, none, none, none, none, none, none, none, none, none, none], [], M)
noncomputable def D_X12_reckonsDuty_20 (xs : Nat → Int32) (xl d : Nat) (v1 : Int32) (v2 : Int32) (v3 : Int32) (vs0 : Int64) (M : dp_M) : Option dp_Res := dp_lim true xs xl (dp_den true xs xl d) dp_m_X12_reckonsDuty (20, [some (.ref 114), some (.int v1), some (.int v2), some (.int v3), none, none, none, none, none, none, none, none, none, none, none, none], [.long vs0], M)
noncomputable def D_X12_reckonsDuty_61 (xs : Nat → Int32) (xl d : Nat) (v1 : Int32) (v2 : Int32) (v3 : Int32) (v4 : Int64) (vs0 : Int64) (M : dp_M) : Option dp_Res := dp_lim true xs xl (dp_den true xs xl d) dp_m_X12_reckonsDuty (61, [some (.ref 114), some (.int v1), some (.int v2), some (.int v3), some (.long v4), none, none, none, none, none, none, none, none, none, none, none], [.long vs0], M)
noncomputable def D_X12_reckonsDuty_92 (xs : Nat → Int32) (xl d : Nat) (v1 : Int32) (v2 : Int32) (v3 : Int32) (v4 : Int64) (v6 : Int64) (v8 : Int64) (v10 : Int32) (M : dp_M) : Option dp_Res := dp_lim true xs xl (dp_den true xs xl d) dp_m_X12_reckonsDuty (92, [some (.ref 114), some (.int v1), some (.int v2), some (.int v3), some (.long v4), none, some (.long v6), none, some (.long v8), none, some (.int v10), none, none, none, none, none], [], M)
noncomputable def D_X12_reckonsDuty_172 (xs : Nat → Int32) (xl d : Nat) (v1 : Int32) (v2 : Int32) (v3 : Int32) (v4 : Int64) (v6 : Int64) (v8 : Int64) (v10 : Int32) (v11 : Int32) (vs0 : Int32) (M : dp_M) : Option dp_Res := dp_lim true xs xl (dp_den true xs xl d) dp_m_X12_reckonsDuty (172, [some (.ref 114), some (.int v1), some (.int v2), some (.int v3), some (.long v4), none, some (.long v6), none, some (.long v8), none, some (.int v10), some (.int v11), none, none, none, none], [.int vs0], M)
noncomputable def D_X12_reckonsDuty_92_a (xs : Nat → Int32) (xl d : Nat) (v1 : Int32) (v2 : Int32) (v3 : Int32) (v4 : Int64) (v6 : Int64) (v8 : Int64) (v10 : Int32) (v11 : Int32) (v12 : Int32) (M : dp_M) : Option dp_Res := dp_lim true xs xl (dp_den true xs xl d) dp_m_X12_reckonsDuty (92, [some (.ref 114), some (.int v1), some (.int v2), some (.int v3), some (.long v4), none, some (.long v6), none, some (.long v8), none, some (.int v10), some (.int v11), some (.int v12), none, none, none], [], M)
noncomputable def D_X12_reckonsDuty_221 (xs : Nat → Int32) (xl d : Nat) (v1 : Int32) (v2 : Int32) (v3 : Int32) (v4 : Int64) (v6 : Int64) (v8 : Int64) (v10 : Int32) (v11 : Int32) (v12 : Int32) (v13 : Int32) (M : dp_M) : Option dp_Res := dp_lim true xs xl (dp_den true xs xl d) dp_m_X12_reckonsDuty (221, [some (.ref 114), some (.int v1), some (.int v2), some (.int v3), some (.long v4), none, some (.long v6), none, some (.long v8), none, some (.int v10), some (.int v11), some (.int v12), some (.int v13), none, none], [], M)
noncomputable def D_X12_reckonsDuty_172_a (xs : Nat → Int32) (xl d : Nat) (v1 : Int32) (v2 : Int32) (v3 : Int32) (v4 : Int64) (v6 : Int64) (v8 : Int64) (v10 : Int32) (v11 : Int32) (v12 : Int32) (vs0 : Int32) (M : dp_M) : Option dp_Res := dp_lim true xs xl (dp_den true xs xl d) dp_m_X12_reckonsDuty (172, [some (.ref 114), some (.int v1), some (.int v2), some (.int v3), some (.long v4), none, some (.long v6), none, some (.long v8), none, some (.int v10), some (.int v11), some (.int v12), none, none, none], [.int vs0], M)
noncomputable def D_X12_reckonsDuty_92_b (xs : Nat → Int32) (xl d : Nat) (v1 : Int32) (v2 : Int32) (v3 : Int32) (v4 : Int64) (v6 : Int64) (v8 : Int64) (v10 : Int32) (v11 : Int32) (v12 : Int32) (v13 : Int64) (M : dp_M) : Option dp_Res := dp_lim true xs xl (dp_den true xs xl d) dp_m_X12_reckonsDuty (92, [some (.ref 114), some (.int v1), some (.int v2), some (.int v3), some (.long v4), none, some (.long v6), none, some (.long v8), none, some (.int v10), some (.int v11), some (.int v12), some (.long v13), none, none], [], M)
noncomputable def D_X12_reckonsDuty_221_a (xs : Nat → Int32) (xl d : Nat) (v1 : Int32) (v2 : Int32) (v3 : Int32) (v4 : Int64) (v6 : Int64) (v8 : Int64) (v10 : Int32) (v11 : Int32) (v12 : Int32) (v13 : Int32) (v14 : Int64) (M : dp_M) : Option dp_Res := dp_lim true xs xl (dp_den true xs xl d) dp_m_X12_reckonsDuty (221, [some (.ref 114), some (.int v1), some (.int v2), some (.int v3), some (.long v4), none, some (.long v6), none, some (.long v8), none, some (.int v10), some (.int v11), some (.int v12), some (.int v13), some (.long v14), none], [], M)
noncomputable def D_X12_reckonsDuty_172_b (xs : Nat → Int32) (xl d : Nat) (v1 : Int32) (v2 : Int32) (v3 : Int32) (v4 : Int64) (v6 : Int64) (v8 : Int64) (v10 : Int32) (v11 : Int32) (v12 : Int32) (v13 : Int64) (vs0 : Int32) (M : dp_M) : Option dp_Res := dp_lim true xs xl (dp_den true xs xl d) dp_m_X12_reckonsDuty (172, [some (.ref 114), some (.int v1), some (.int v2), some (.int v3), some (.long v4), none, some (.long v6), none, some (.long v8), none, some (.int v10), some (.int v11), some (.int v12), some (.long v13), none, none], [.int vs0], M)
theorem D_X12_reckonsDuty_0_den (xs : Nat → Int32) (xl d : Nat) (a0 : Int32) (a1 : Int32) (M : dp_M) : dp_den true xs xl (d + 1) 575 [.ref 114, .int a0, .int a1] M = D_X12_reckonsDuty_0 xs xl d a0 a1 M := rfl
set_option maxRecDepth 20000 in
theorem D_X12_reckonsDuty_0_eq (xs : Nat → Int32) (xl d : Nat) (v1 : Int32) (v2 : Int32) (M : dp_M) : D_X12_reckonsDuty_0 xs xl d v1 v2 M = dp_bi (dp_den true xs xl d 570 [.ref 114, .int v1] M) (fun r2 M1 => if 0 ≤ r2 then (if r2 < 0 ∨ 400 ≤ Int32.toNatClampNeg r2 then none else (D_X12_reckonsDuty_20 xs xl d v1 v2 r2 (dp_J M1 198 (Int32.toNatClampNeg r2)) M1)) else (D_X12_reckonsDuty_20 xs xl d v1 v2 r2 (0 : Int64) M1)) := by
  have hF := dp_den_grow (md := true) (xs := xs) (xl := xl) d
  unfold D_X12_reckonsDuty_0
  refine dp_s1 hF (i := .aload_n 0) rfl (fun _ => rfl) ?_
  refine dp_s1 hF (i := .iload_n 1) rfl (fun _ => rfl) ?_
  refine dp_si (mj := dp_m_X12_askFor) (i := .invokevirtual 1038) rfl rfl (Or.inl rfl) rfl (fun _ => rfl) (fun r2 M1 => ?_)
  refine dp_s1 hF (i := .istore_n 3) rfl (fun _ => rfl) ?_
  refine dp_s1 hF (i := .iload_n 3) rfl (fun _ => rfl) ?_
  refine dp_s2 hF (i := .ifCond .ge 7) (a := (14, [some (.ref 114), some (.int v1), some (.int v2), some (.int r2), none, none, none, none, none, none, none, none, none, none, none, none], [], M1)) (b := (10, [some (.ref 114), some (.int v1), some (.int v2), some (.int r2), none, none, none, none, none, none, none, none, none, none, none, none], [], M1)) rfl (fun _ => rfl) ?_ ?_
  · refine dp_s1 hF (i := .aload_n 0) rfl (fun _ => rfl) ?_
    refine dp_s1 hF (i := .getfield 266) rfl (fun _ => rfl) ?_
    refine dp_s1 hF (i := .iload_n 3) rfl (fun _ => rfl) ?_
    refine dp_s3 hF (i := .laload) rfl (fun _ => rfl) ?_
    exact rfl
  refine dp_s1 hF (i := .lconst 0) rfl (fun _ => rfl) ?_
  refine dp_s1 hF (i := .goto 9) rfl (fun _ => rfl) ?_
  exact rfl
set_option maxRecDepth 20000 in
theorem D_X12_reckonsDuty_20_eq (xs : Nat → Int32) (xl d : Nat) (v1 : Int32) (v2 : Int32) (v3 : Int32) (vs0 : Int64) (M : dp_M) : D_X12_reckonsDuty_20 xs xl d v1 v2 v3 vs0 M = if v3 < 0 then (if 0 ≤ v3 then (if v3 < 0 ∨ 400 ≤ Int32.toNatClampNeg v3 then none else (D_X12_reckonsDuty_61 xs xl d v1 v2 v3 vs0 (dp_J M 200 (Int32.toNatClampNeg v3)) M)) else (D_X12_reckonsDuty_61 xs xl d v1 v2 v3 vs0 (0 : Int64) M)) else (if v3 < 0 ∨ 400 ≤ Int32.toNatClampNeg v3 then none else (if v3 < 0 ∨ 400 ≤ Int32.toNatClampNeg v3 then none else (if (dp_I M 197 (Int32.toNatClampNeg v3)) < 0 ∨ 16 ≤ Int32.toNatClampNeg (dp_I M 197 (Int32.toNatClampNeg v3)) then none else (dp_bv (dp_den true xs xl d 508 [.ref 114, .int (dp_I M 197 (Int32.toNatClampNeg v3)), .int (dp_I M 194 (Int32.toNatClampNeg (dp_I M 197 (Int32.toNatClampNeg v3))))] M) (fun M1 => if 0 ≤ v3 then (if v3 < 0 ∨ 400 ≤ Int32.toNatClampNeg v3 then none else (D_X12_reckonsDuty_61 xs xl d v1 v2 v3 vs0 (dp_J M1 200 (Int32.toNatClampNeg v3)) M1)) else (D_X12_reckonsDuty_61 xs xl d v1 v2 v3 vs0 (0 : Int64) M1)))))) := by
  have hF := dp_den_grow (md := true) (xs := xs) (xl := xl) d
  unfold D_X12_reckonsDuty_20
  refine dp_s1 hF (i := .lstore 4) rfl (fun _ => rfl) ?_
  refine dp_s1 hF (i := .iload_n 3) rfl (fun _ => rfl) ?_
  refine dp_s2 hF (i := .ifCond .lt 24) (a := (47, [some (.ref 114), some (.int v1), some (.int v2), some (.int v3), some (.long vs0), none, none, none, none, none, none, none, none, none, none, none], [], M)) (b := (26, [some (.ref 114), some (.int v1), some (.int v2), some (.int v3), some (.long vs0), none, none, none, none, none, none, none, none, none, none, none], [], M)) rfl (fun _ => rfl) ?_ ?_
  · refine dp_s1 hF (i := .iload_n 3) rfl (fun _ => rfl) ?_
    refine dp_s2 hF (i := .ifCond .ge 7) (a := (55, [some (.ref 114), some (.int v1), some (.int v2), some (.int v3), some (.long vs0), none, none, none, none, none, none, none, none, none, none, none], [], M)) (b := (51, [some (.ref 114), some (.int v1), some (.int v2), some (.int v3), some (.long vs0), none, none, none, none, none, none, none, none, none, none, none], [], M)) rfl (fun _ => rfl) ?_ ?_
    · refine dp_s1 hF (i := .aload_n 0) rfl (fun _ => rfl) ?_
      refine dp_s1 hF (i := .getfield 272) rfl (fun _ => rfl) ?_
      refine dp_s1 hF (i := .iload_n 3) rfl (fun _ => rfl) ?_
      refine dp_s3 hF (i := .laload) rfl (fun _ => rfl) ?_
      exact rfl
    refine dp_s1 hF (i := .lconst 0) rfl (fun _ => rfl) ?_
    refine dp_s1 hF (i := .goto 9) rfl (fun _ => rfl) ?_
    exact rfl
  refine dp_s1 hF (i := .aload_n 0) rfl (fun _ => rfl) ?_
  refine dp_s1 hF (i := .aload_n 0) rfl (fun _ => rfl) ?_
  refine dp_s1 hF (i := .getfield 263) rfl (fun _ => rfl) ?_
  refine dp_s1 hF (i := .iload_n 3) rfl (fun _ => rfl) ?_
  refine dp_s3 hF (i := .iaload) rfl (fun _ => rfl) ?_
  refine dp_s1 hF (i := .aload_n 0) rfl (fun _ => rfl) ?_
  refine dp_s1 hF (i := .getfield 254) rfl (fun _ => rfl) ?_
  refine dp_s1 hF (i := .aload_n 0) rfl (fun _ => rfl) ?_
  refine dp_s1 hF (i := .getfield 263) rfl (fun _ => rfl) ?_
  refine dp_s1 hF (i := .iload_n 3) rfl (fun _ => rfl) ?_
  refine dp_s3 hF (i := .iaload) rfl (fun _ => rfl) ?_
  refine dp_s3 hF (i := .iaload) rfl (fun _ => rfl) ?_
  refine dp_sv (mj := dp_m_X12_course) (i := .invokevirtual 908) rfl rfl rfl rfl (fun _ => rfl) (fun M1 => ?_)
  refine dp_s1 hF (i := .iload_n 3) rfl (fun _ => rfl) ?_
  refine dp_s2 hF (i := .ifCond .ge 7) (a := (55, [some (.ref 114), some (.int v1), some (.int v2), some (.int v3), some (.long vs0), none, none, none, none, none, none, none, none, none, none, none], [], M1)) (b := (51, [some (.ref 114), some (.int v1), some (.int v2), some (.int v3), some (.long vs0), none, none, none, none, none, none, none, none, none, none, none], [], M1)) rfl (fun _ => rfl) ?_ ?_
  · refine dp_s1 hF (i := .aload_n 0) rfl (fun _ => rfl) ?_
    refine dp_s1 hF (i := .getfield 272) rfl (fun _ => rfl) ?_
    refine dp_s1 hF (i := .iload_n 3) rfl (fun _ => rfl) ?_
    refine dp_s3 hF (i := .laload) rfl (fun _ => rfl) ?_
    exact rfl
  refine dp_s1 hF (i := .lconst 0) rfl (fun _ => rfl) ?_
  refine dp_s1 hF (i := .goto 9) rfl (fun _ => rfl) ?_
  exact rfl
set_option maxRecDepth 20000 in
theorem D_X12_reckonsDuty_61_eq (xs : Nat → Int32) (xl d : Nat) (v1 : Int32) (v2 : Int32) (v3 : Int32) (v4 : Int64) (vs0 : Int64) (M : dp_M) : D_X12_reckonsDuty_61 xs xl d v1 v2 v3 v4 vs0 M = if v1 < 0 ∨ 400 ≤ Int32.toNatClampNeg v1 then none else (if v1 < 0 ∨ 400 ≤ Int32.toNatClampNeg v1 then none else (if v1 < 0 ∨ 400 ≤ Int32.toNatClampNeg v1 then none else (dp_bv (dp_den true xs xl d 461 [.ref 114, .int (dp_I M 236 (Int32.toNatClampNeg v1)), .int (dp_I M 237 (Int32.toNatClampNeg v1)), .int (dp_I M 238 (Int32.toNatClampNeg v1)), .int v2] M) (fun M1 => dp_w (0 : Int64) (fun y2 => dp_w (0 : Int32) (fun y3 => D_X12_reckonsDuty_92 xs xl d v1 v2 v3 v4 vs0 y2 y3 M1)))))) := by
  have hF := dp_den_grow (md := true) (xs := xs) (xl := xl) d
  unfold D_X12_reckonsDuty_61
  refine dp_s1 hF (i := .lstore 6) rfl (fun _ => rfl) ?_
  refine dp_s1 hF (i := .aload_n 0) rfl (fun _ => rfl) ?_
  refine dp_s1 hF (i := .aload_n 0) rfl (fun _ => rfl) ?_
  refine dp_s1 hF (i := .getfield 389) rfl (fun _ => rfl) ?_
  refine dp_s1 hF (i := .iload_n 1) rfl (fun _ => rfl) ?_
  refine dp_s3 hF (i := .iaload) rfl (fun _ => rfl) ?_
  refine dp_s1 hF (i := .aload_n 0) rfl (fun _ => rfl) ?_
  refine dp_s1 hF (i := .getfield 392) rfl (fun _ => rfl) ?_
  refine dp_s1 hF (i := .iload_n 1) rfl (fun _ => rfl) ?_
  refine dp_s3 hF (i := .iaload) rfl (fun _ => rfl) ?_
  refine dp_s1 hF (i := .aload_n 0) rfl (fun _ => rfl) ?_
  refine dp_s1 hF (i := .getfield 395) rfl (fun _ => rfl) ?_
  refine dp_s1 hF (i := .iload_n 1) rfl (fun _ => rfl) ?_
  refine dp_s3 hF (i := .iaload) rfl (fun _ => rfl) ?_
  refine dp_s1 hF (i := .iload_n 2) rfl (fun _ => rfl) ?_
  refine dp_sv (mj := dp_m_X12_finds) (i := .invokevirtual 710) rfl rfl rfl rfl (fun _ => rfl) (fun M1 => ?_)
  refine dp_s1 hF (i := .lconst 0) rfl (fun _ => rfl) ?_
  refine dp_s1w (0 : Int64) (fun (y2 : Int64) => (89, [some (.ref 114), some (.int v1), some (.int v2), some (.int v3), some (.long v4), none, some (.long vs0), none, some (.long y2), none, none, none, none, none, none, none], [], M1)) hF (i := .lstore 8) rfl (fun _ => rfl) (fun y2 => ?_)
  refine dp_s1 hF (i := .iconst 0) rfl (fun _ => rfl) ?_
  refine dp_s1w (0 : Int32) (fun (y3 : Int32) => (92, [some (.ref 114), some (.int v1), some (.int v2), some (.int v3), some (.long v4), none, some (.long vs0), none, some (.long y2), none, some (.int y3), none, none, none, none, none], [], M1)) hF (i := .istore 10) rfl (fun _ => rfl) (fun y3 => ?_)
  exact rfl
set_option maxRecDepth 20000 in
theorem D_X12_reckonsDuty_92_eq (xs : Nat → Int32) (xl d : Nat) (v1 : Int32) (v2 : Int32) (v3 : Int32) (v4 : Int64) (v6 : Int64) (v8 : Int64) (v10 : Int32) (M : dp_M) : D_X12_reckonsDuty_92 xs xl d v1 v2 v3 v4 v6 v8 v10 M = if (dp_I M 114 70) ≤ v10 then (if (lg_cmp v8 (1000000000 : Int64)) ≤ 0 then (some (.inl (some (.long v8)), M)) else (some (.inl (some (.long (-1 : Int64))), M))) else (if v10 < 0 ∨ 300 ≤ Int32.toNatClampNeg v10 then none else (dp_w (dp_I M 167 (Int32.toNatClampNeg v10)) (fun y1 => if y1 < 0 ∨ 301 ≤ Int32.toNatClampNeg y1 then none else (if (dp_I M 159 (Int32.toNatClampNeg y1)) ≤ (1 : Int32) then (if y1 < 0 ∨ 301 ≤ Int32.toNatClampNeg y1 then none else (if (dp_I M 159 (Int32.toNatClampNeg y1)) = (1 : Int32) then (if (lg_cmp v6 (0 : Int64)) ≤ 0 then (D_X12_reckonsDuty_172 xs xl d v1 v2 v3 v4 v6 v8 v10 y1 (3 : Int32) M) else (D_X12_reckonsDuty_172 xs xl d v1 v2 v3 v4 v6 v8 v10 y1 (1 : Int32) M)) else (if 0 ≤ v3 then (if 0 ≤ (lg_cmp v6 v4) then (D_X12_reckonsDuty_172 xs xl d v1 v2 v3 v4 v6 v8 v10 y1 (3 : Int32) M) else (D_X12_reckonsDuty_172 xs xl d v1 v2 v3 v4 v6 v8 v10 y1 (2 : Int32) M)) else (D_X12_reckonsDuty_172 xs xl d v1 v2 v3 v4 v6 v8 v10 y1 (0 : Int32) M)))) else (D_X12_reckonsDuty_172 xs xl d v1 v2 v3 v4 v6 v8 v10 y1 (0 : Int32) M))))) := by
  have hF := dp_den_grow (md := true) (xs := xs) (xl := xl) d
  unfold D_X12_reckonsDuty_92
  refine dp_s1 hF (i := .iload 10) rfl (fun _ => rfl) ?_
  refine dp_s1 hF (i := .aload_n 0) rfl (fun _ => rfl) ?_
  refine dp_s1 hF (i := .getfield 701) rfl (fun _ => rfl) ?_
  refine dp_s2 hF (i := .if_icmp .ge 221) (a := (319, [some (.ref 114), some (.int v1), some (.int v2), some (.int v3), some (.long v4), none, some (.long v6), none, some (.long v8), none, some (.int v10), none, none, none, none, none], [], M)) (b := (101, [some (.ref 114), some (.int v1), some (.int v2), some (.int v3), some (.long v4), none, some (.long v6), none, some (.long v8), none, some (.int v10), none, none, none, none, none], [], M)) rfl (fun _ => rfl) ?_ ?_
  · refine dp_s1 hF (i := .lload 8) rfl (fun _ => rfl) ?_
    refine dp_s1 hF (i := .ldc2_w 900) rfl (fun _ => rfl) ?_
    refine dp_s1 hF (i := .lcmp) rfl (fun _ => rfl) ?_
    refine dp_s2 hF (i := .ifCond .le 9) (a := (334, [some (.ref 114), some (.int v1), some (.int v2), some (.int v3), some (.long v4), none, some (.long v6), none, some (.long v8), none, some (.int v10), none, none, none, none, none], [], M)) (b := (328, [some (.ref 114), some (.int v1), some (.int v2), some (.int v3), some (.long v4), none, some (.long v6), none, some (.long v8), none, some (.int v10), none, none, none, none, none], [], M)) rfl (fun _ => rfl) ?_ ?_
    · refine dp_s1 hF (i := .lload 8) rfl (fun _ => rfl) ?_
      exact dp_s0 hF (i := .lreturn) rfl (fun _ => rfl)
    refine dp_s1 hF (i := .ldc2_w 435) rfl (fun _ => rfl) ?_
    refine dp_s1 hF (i := .goto 5) rfl (fun _ => rfl) ?_
    exact dp_s0 hF (i := .lreturn) rfl (fun _ => rfl)
  refine dp_s1 hF (i := .aload_n 0) rfl (fun _ => rfl) ?_
  refine dp_s1 hF (i := .getfield 172) rfl (fun _ => rfl) ?_
  refine dp_s1 hF (i := .iload 10) rfl (fun _ => rfl) ?_
  refine dp_s3 hF (i := .iaload) rfl (fun _ => rfl) ?_
  refine dp_s1w (dp_I M 167 (Int32.toNatClampNeg v10)) (fun (y1 : Int32) => (110, [some (.ref 114), some (.int v1), some (.int v2), some (.int v3), some (.long v4), none, some (.long v6), none, some (.long v8), none, some (.int v10), some (.int y1), none, none, none, none], [], M)) hF (i := .istore 11) rfl (fun _ => rfl) (fun y1 => ?_)
  refine dp_s1 hF (i := .aload_n 0) rfl (fun _ => rfl) ?_
  refine dp_s1 hF (i := .getfield 148) rfl (fun _ => rfl) ?_
  refine dp_s1 hF (i := .iload 11) rfl (fun _ => rfl) ?_
  refine dp_s3 hF (i := .iaload) rfl (fun _ => rfl) ?_
  refine dp_s1 hF (i := .iconst 1) rfl (fun _ => rfl) ?_
  refine dp_s2 hF (i := .if_icmp .le 7) (a := (125, [some (.ref 114), some (.int v1), some (.int v2), some (.int v3), some (.long v4), none, some (.long v6), none, some (.long v8), none, some (.int v10), some (.int y1), none, none, none, none], [], M)) (b := (121, [some (.ref 114), some (.int v1), some (.int v2), some (.int v3), some (.long v4), none, some (.long v6), none, some (.long v8), none, some (.int v10), some (.int y1), none, none, none, none], [], M)) rfl (fun _ => rfl) ?_ ?_
  · refine dp_s1 hF (i := .aload_n 0) rfl (fun _ => rfl) ?_
    refine dp_s1 hF (i := .getfield 148) rfl (fun _ => rfl) ?_
    refine dp_s1 hF (i := .iload 11) rfl (fun _ => rfl) ?_
    refine dp_s3 hF (i := .iaload) rfl (fun _ => rfl) ?_
    refine dp_s1 hF (i := .iconst 1) rfl (fun _ => rfl) ?_
    refine dp_s2 hF (i := .if_icmp .ne 18) (a := (136, [some (.ref 114), some (.int v1), some (.int v2), some (.int v3), some (.long v4), none, some (.long v6), none, some (.long v8), none, some (.int v10), some (.int y1), none, none, none, none], [], M)) (b := (151, [some (.ref 114), some (.int v1), some (.int v2), some (.int v3), some (.long v4), none, some (.long v6), none, some (.long v8), none, some (.int v10), some (.int y1), none, none, none, none], [], M)) rfl (fun _ => rfl) ?_ ?_
    · refine dp_s1 hF (i := .lload 6) rfl (fun _ => rfl) ?_
      refine dp_s1 hF (i := .lconst 0) rfl (fun _ => rfl) ?_
      refine dp_s1 hF (i := .lcmp) rfl (fun _ => rfl) ?_
      refine dp_s2 hF (i := .ifCond .le 7) (a := (147, [some (.ref 114), some (.int v1), some (.int v2), some (.int v3), some (.long v4), none, some (.long v6), none, some (.long v8), none, some (.int v10), some (.int y1), none, none, none, none], [], M)) (b := (143, [some (.ref 114), some (.int v1), some (.int v2), some (.int v3), some (.long v4), none, some (.long v6), none, some (.long v8), none, some (.int v10), some (.int y1), none, none, none, none], [], M)) rfl (fun _ => rfl) ?_ ?_
      · refine dp_s1 hF (i := .iconst 3) rfl (fun _ => rfl) ?_
        refine dp_s1 hF (i := .goto 24) rfl (fun _ => rfl) ?_
        exact rfl
      refine dp_s1 hF (i := .iconst 1) rfl (fun _ => rfl) ?_
      refine dp_s1 hF (i := .goto 28) rfl (fun _ => rfl) ?_
      exact rfl
    refine dp_s1 hF (i := .iload_n 3) rfl (fun _ => rfl) ?_
    refine dp_s2 hF (i := .ifCond .ge 7) (a := (159, [some (.ref 114), some (.int v1), some (.int v2), some (.int v3), some (.long v4), none, some (.long v6), none, some (.long v8), none, some (.int v10), some (.int y1), none, none, none, none], [], M)) (b := (155, [some (.ref 114), some (.int v1), some (.int v2), some (.int v3), some (.long v4), none, some (.long v6), none, some (.long v8), none, some (.int v10), some (.int y1), none, none, none, none], [], M)) rfl (fun _ => rfl) ?_ ?_
    · refine dp_s1 hF (i := .lload 6) rfl (fun _ => rfl) ?_
      refine dp_s1 hF (i := .lload 4) rfl (fun _ => rfl) ?_
      refine dp_s1 hF (i := .lcmp) rfl (fun _ => rfl) ?_
      refine dp_s2 hF (i := .ifCond .ge 7) (a := (171, [some (.ref 114), some (.int v1), some (.int v2), some (.int v3), some (.long v4), none, some (.long v6), none, some (.long v8), none, some (.int v10), some (.int y1), none, none, none, none], [], M)) (b := (167, [some (.ref 114), some (.int v1), some (.int v2), some (.int v3), some (.long v4), none, some (.long v6), none, some (.long v8), none, some (.int v10), some (.int y1), none, none, none, none], [], M)) rfl (fun _ => rfl) ?_ ?_
      · refine dp_s1 hF (i := .iconst 3) rfl (fun _ => rfl) ?_
        exact rfl
      refine dp_s1 hF (i := .iconst 2) rfl (fun _ => rfl) ?_
      refine dp_s1 hF (i := .goto 4) rfl (fun _ => rfl) ?_
      exact rfl
    refine dp_s1 hF (i := .iconst 0) rfl (fun _ => rfl) ?_
    refine dp_s1 hF (i := .goto 16) rfl (fun _ => rfl) ?_
    exact rfl
  refine dp_s1 hF (i := .iconst 0) rfl (fun _ => rfl) ?_
  refine dp_s1 hF (i := .goto 50) rfl (fun _ => rfl) ?_
  exact rfl
set_option maxRecDepth 20000 in
theorem D_X12_reckonsDuty_172_eq (xs : Nat → Int32) (xl d : Nat) (v1 : Int32) (v2 : Int32) (v3 : Int32) (v4 : Int64) (v6 : Int64) (v8 : Int64) (v10 : Int32) (v11 : Int32) (vs0 : Int32) (M : dp_M) : D_X12_reckonsDuty_172 xs xl d v1 v2 v3 v4 v6 v8 v10 v11 vs0 M = if v11 < 0 ∨ 301 ≤ Int32.toNatClampNeg v11 then none else (if (dp_I M 172 (Int32.toNatClampNeg v11)) = 0 then (dp_w (v10 + (1 : Int32)) (fun y1 => D_X12_reckonsDuty_92_a xs xl d v1 v2 v3 v4 v6 v8 y1 v11 vs0 M)) else (if vs0 = (3 : Int32) then (dp_w (v10 + (1 : Int32)) (fun y2 => D_X12_reckonsDuty_92_a xs xl d v1 v2 v3 v4 v6 v8 y2 v11 vs0 M)) else (dp_bv (dp_den true xs xl d 489 [.ref 114, .int v11] M) (fun M3 => if v1 < 0 ∨ 400 ≤ Int32.toNatClampNeg v1 then none else (dp_bl (dp_den true xs xl d 574 [.long (dp_J M3 239 (Int32.toNatClampNeg v1)), .int vs0, .long v6, .long v4] M3) (fun r5 M4 => dp_w (dp_setJ M4 114 100 r5) (fun M6 => dp_w (0 : Int32) (fun y7 => D_X12_reckonsDuty_221 xs xl d v1 v2 v3 v4 v6 v8 v10 v11 vs0 y7 M6)))))))) := by
  have hF := dp_den_grow (md := true) (xs := xs) (xl := xl) d
  unfold D_X12_reckonsDuty_172
  refine dp_s1 hF (i := .istore 12) rfl (fun _ => rfl) ?_
  refine dp_s1 hF (i := .aload_n 0) rfl (fun _ => rfl) ?_
  refine dp_s1 hF (i := .getfield 188) rfl (fun _ => rfl) ?_
  refine dp_s1 hF (i := .iload 11) rfl (fun _ => rfl) ?_
  refine dp_s3 hF (i := .iaload) rfl (fun _ => rfl) ?_
  refine dp_s2 hF (i := .ifCond .eq 132) (a := (313, [some (.ref 114), some (.int v1), some (.int v2), some (.int v3), some (.long v4), none, some (.long v6), none, some (.long v8), none, some (.int v10), some (.int v11), some (.int vs0), none, none, none], [], M)) (b := (184, [some (.ref 114), some (.int v1), some (.int v2), some (.int v3), some (.long v4), none, some (.long v6), none, some (.long v8), none, some (.int v10), some (.int v11), some (.int vs0), none, none, none], [], M)) rfl (fun _ => rfl) ?_ ?_
  · refine dp_s1w (v10 + (1 : Int32)) (fun (y1 : Int32) => (316, [some (.ref 114), some (.int v1), some (.int v2), some (.int v3), some (.long v4), none, some (.long v6), none, some (.long v8), none, some (.int y1), some (.int v11), some (.int vs0), none, none, none], [], M)) hF (i := .iinc 10 1) rfl (fun _ => rfl) (fun y1 => ?_)
    refine dp_s1 hF (i := .goto (-224)) rfl (fun _ => rfl) ?_
    exact rfl
  refine dp_s1 hF (i := .iload 12) rfl (fun _ => rfl) ?_
  refine dp_s1 hF (i := .iconst 3) rfl (fun _ => rfl) ?_
  refine dp_s2 hF (i := .if_icmp .ne 6) (a := (190, [some (.ref 114), some (.int v1), some (.int v2), some (.int v3), some (.long v4), none, some (.long v6), none, some (.long v8), none, some (.int v10), some (.int v11), some (.int vs0), none, none, none], [], M)) (b := (193, [some (.ref 114), some (.int v1), some (.int v2), some (.int v3), some (.long v4), none, some (.long v6), none, some (.long v8), none, some (.int v10), some (.int v11), some (.int vs0), none, none, none], [], M)) rfl (fun _ => rfl) ?_ ?_
  · refine dp_s1 hF (i := .goto 123) rfl (fun _ => rfl) ?_
    refine dp_s1w (v10 + (1 : Int32)) (fun (y2 : Int32) => (316, [some (.ref 114), some (.int v1), some (.int v2), some (.int v3), some (.long v4), none, some (.long v6), none, some (.long v8), none, some (.int y2), some (.int v11), some (.int vs0), none, none, none], [], M)) hF (i := .iinc 10 1) rfl (fun _ => rfl) (fun y2 => ?_)
    refine dp_s1 hF (i := .goto (-224)) rfl (fun _ => rfl) ?_
    exact rfl
  refine dp_s1 hF (i := .aload_n 0) rfl (fun _ => rfl) ?_
  refine dp_s1 hF (i := .iload 11) rfl (fun _ => rfl) ?_
  refine dp_sv (mj := dp_m_X12_readsRate) (i := .invokevirtual 825) rfl rfl rfl rfl (fun _ => rfl) (fun M3 => ?_)
  refine dp_s1 hF (i := .aload_n 0) rfl (fun _ => rfl) ?_
  refine dp_s1 hF (i := .aload_n 0) rfl (fun _ => rfl) ?_
  refine dp_s1 hF (i := .getfield 398) rfl (fun _ => rfl) ?_
  refine dp_s1 hF (i := .iload_n 1) rfl (fun _ => rfl) ?_
  refine dp_s3 hF (i := .laload) rfl (fun _ => rfl) ?_
  refine dp_s1 hF (i := .iload 12) rfl (fun _ => rfl) ?_
  refine dp_s1 hF (i := .lload 6) rfl (fun _ => rfl) ?_
  refine dp_s1 hF (i := .lload 4) rfl (fun _ => rfl) ?_
  refine dp_sl9 (mj := dp_m_X12_partOfSum) (i := .invokestatic 1041) rfl rfl rfl rfl (fun _ => rfl) (fun r5 M4 => ?_)
  refine dp_s1w (dp_setJ M4 114 100 r5) (fun (M6 : dp_M) => (218, [some (.ref 114), some (.int v1), some (.int v2), some (.int v3), some (.long v4), none, some (.long v6), none, some (.long v8), none, some (.int v10), some (.int v11), some (.int vs0), none, none, none], [], M6)) hF (i := .putfield 828) rfl (fun _ => rfl) (fun M6 => ?_)
  refine dp_s1 hF (i := .iconst 0) rfl (fun _ => rfl) ?_
  refine dp_s1w (0 : Int32) (fun (y7 : Int32) => (221, [some (.ref 114), some (.int v1), some (.int v2), some (.int v3), some (.long v4), none, some (.long v6), none, some (.long v8), none, some (.int v10), some (.int v11), some (.int vs0), some (.int y7), none, none], [], M6)) hF (i := .istore 13) rfl (fun _ => rfl) (fun y7 => ?_)
  exact rfl
set_option maxRecDepth 20000 in
theorem D_X12_reckonsDuty_92_a_eq (xs : Nat → Int32) (xl d : Nat) (v1 : Int32) (v2 : Int32) (v3 : Int32) (v4 : Int64) (v6 : Int64) (v8 : Int64) (v10 : Int32) (v11 : Int32) (v12 : Int32) (M : dp_M) : D_X12_reckonsDuty_92_a xs xl d v1 v2 v3 v4 v6 v8 v10 v11 v12 M = if (dp_I M 114 70) ≤ v10 then (if (lg_cmp v8 (1000000000 : Int64)) ≤ 0 then (some (.inl (some (.long v8)), M)) else (some (.inl (some (.long (-1 : Int64))), M))) else (if v10 < 0 ∨ 300 ≤ Int32.toNatClampNeg v10 then none else (dp_w (dp_I M 167 (Int32.toNatClampNeg v10)) (fun y1 => if y1 < 0 ∨ 301 ≤ Int32.toNatClampNeg y1 then none else (if (dp_I M 159 (Int32.toNatClampNeg y1)) ≤ (1 : Int32) then (if y1 < 0 ∨ 301 ≤ Int32.toNatClampNeg y1 then none else (if (dp_I M 159 (Int32.toNatClampNeg y1)) = (1 : Int32) then (if (lg_cmp v6 (0 : Int64)) ≤ 0 then (D_X12_reckonsDuty_172_a xs xl d v1 v2 v3 v4 v6 v8 v10 y1 v12 (3 : Int32) M) else (D_X12_reckonsDuty_172_a xs xl d v1 v2 v3 v4 v6 v8 v10 y1 v12 (1 : Int32) M)) else (if 0 ≤ v3 then (if 0 ≤ (lg_cmp v6 v4) then (D_X12_reckonsDuty_172_a xs xl d v1 v2 v3 v4 v6 v8 v10 y1 v12 (3 : Int32) M) else (D_X12_reckonsDuty_172_a xs xl d v1 v2 v3 v4 v6 v8 v10 y1 v12 (2 : Int32) M)) else (D_X12_reckonsDuty_172_a xs xl d v1 v2 v3 v4 v6 v8 v10 y1 v12 (0 : Int32) M)))) else (D_X12_reckonsDuty_172_a xs xl d v1 v2 v3 v4 v6 v8 v10 y1 v12 (0 : Int32) M))))) := by
  have hF := dp_den_grow (md := true) (xs := xs) (xl := xl) d
  unfold D_X12_reckonsDuty_92_a
  refine dp_s1 hF (i := .iload 10) rfl (fun _ => rfl) ?_
  refine dp_s1 hF (i := .aload_n 0) rfl (fun _ => rfl) ?_
  refine dp_s1 hF (i := .getfield 701) rfl (fun _ => rfl) ?_
  refine dp_s2 hF (i := .if_icmp .ge 221) (a := (319, [some (.ref 114), some (.int v1), some (.int v2), some (.int v3), some (.long v4), none, some (.long v6), none, some (.long v8), none, some (.int v10), some (.int v11), some (.int v12), none, none, none], [], M)) (b := (101, [some (.ref 114), some (.int v1), some (.int v2), some (.int v3), some (.long v4), none, some (.long v6), none, some (.long v8), none, some (.int v10), some (.int v11), some (.int v12), none, none, none], [], M)) rfl (fun _ => rfl) ?_ ?_
  · refine dp_s1 hF (i := .lload 8) rfl (fun _ => rfl) ?_
    refine dp_s1 hF (i := .ldc2_w 900) rfl (fun _ => rfl) ?_
    refine dp_s1 hF (i := .lcmp) rfl (fun _ => rfl) ?_
    refine dp_s2 hF (i := .ifCond .le 9) (a := (334, [some (.ref 114), some (.int v1), some (.int v2), some (.int v3), some (.long v4), none, some (.long v6), none, some (.long v8), none, some (.int v10), some (.int v11), some (.int v12), none, none, none], [], M)) (b := (328, [some (.ref 114), some (.int v1), some (.int v2), some (.int v3), some (.long v4), none, some (.long v6), none, some (.long v8), none, some (.int v10), some (.int v11), some (.int v12), none, none, none], [], M)) rfl (fun _ => rfl) ?_ ?_
    · refine dp_s1 hF (i := .lload 8) rfl (fun _ => rfl) ?_
      exact dp_s0 hF (i := .lreturn) rfl (fun _ => rfl)
    refine dp_s1 hF (i := .ldc2_w 435) rfl (fun _ => rfl) ?_
    refine dp_s1 hF (i := .goto 5) rfl (fun _ => rfl) ?_
    exact dp_s0 hF (i := .lreturn) rfl (fun _ => rfl)
  refine dp_s1 hF (i := .aload_n 0) rfl (fun _ => rfl) ?_
  refine dp_s1 hF (i := .getfield 172) rfl (fun _ => rfl) ?_
  refine dp_s1 hF (i := .iload 10) rfl (fun _ => rfl) ?_
  refine dp_s3 hF (i := .iaload) rfl (fun _ => rfl) ?_
  refine dp_s1w (dp_I M 167 (Int32.toNatClampNeg v10)) (fun (y1 : Int32) => (110, [some (.ref 114), some (.int v1), some (.int v2), some (.int v3), some (.long v4), none, some (.long v6), none, some (.long v8), none, some (.int v10), some (.int y1), some (.int v12), none, none, none], [], M)) hF (i := .istore 11) rfl (fun _ => rfl) (fun y1 => ?_)
  refine dp_s1 hF (i := .aload_n 0) rfl (fun _ => rfl) ?_
  refine dp_s1 hF (i := .getfield 148) rfl (fun _ => rfl) ?_
  refine dp_s1 hF (i := .iload 11) rfl (fun _ => rfl) ?_
  refine dp_s3 hF (i := .iaload) rfl (fun _ => rfl) ?_
  refine dp_s1 hF (i := .iconst 1) rfl (fun _ => rfl) ?_
  refine dp_s2 hF (i := .if_icmp .le 7) (a := (125, [some (.ref 114), some (.int v1), some (.int v2), some (.int v3), some (.long v4), none, some (.long v6), none, some (.long v8), none, some (.int v10), some (.int y1), some (.int v12), none, none, none], [], M)) (b := (121, [some (.ref 114), some (.int v1), some (.int v2), some (.int v3), some (.long v4), none, some (.long v6), none, some (.long v8), none, some (.int v10), some (.int y1), some (.int v12), none, none, none], [], M)) rfl (fun _ => rfl) ?_ ?_
  · refine dp_s1 hF (i := .aload_n 0) rfl (fun _ => rfl) ?_
    refine dp_s1 hF (i := .getfield 148) rfl (fun _ => rfl) ?_
    refine dp_s1 hF (i := .iload 11) rfl (fun _ => rfl) ?_
    refine dp_s3 hF (i := .iaload) rfl (fun _ => rfl) ?_
    refine dp_s1 hF (i := .iconst 1) rfl (fun _ => rfl) ?_
    refine dp_s2 hF (i := .if_icmp .ne 18) (a := (136, [some (.ref 114), some (.int v1), some (.int v2), some (.int v3), some (.long v4), none, some (.long v6), none, some (.long v8), none, some (.int v10), some (.int y1), some (.int v12), none, none, none], [], M)) (b := (151, [some (.ref 114), some (.int v1), some (.int v2), some (.int v3), some (.long v4), none, some (.long v6), none, some (.long v8), none, some (.int v10), some (.int y1), some (.int v12), none, none, none], [], M)) rfl (fun _ => rfl) ?_ ?_
    · refine dp_s1 hF (i := .lload 6) rfl (fun _ => rfl) ?_
      refine dp_s1 hF (i := .lconst 0) rfl (fun _ => rfl) ?_
      refine dp_s1 hF (i := .lcmp) rfl (fun _ => rfl) ?_
      refine dp_s2 hF (i := .ifCond .le 7) (a := (147, [some (.ref 114), some (.int v1), some (.int v2), some (.int v3), some (.long v4), none, some (.long v6), none, some (.long v8), none, some (.int v10), some (.int y1), some (.int v12), none, none, none], [], M)) (b := (143, [some (.ref 114), some (.int v1), some (.int v2), some (.int v3), some (.long v4), none, some (.long v6), none, some (.long v8), none, some (.int v10), some (.int y1), some (.int v12), none, none, none], [], M)) rfl (fun _ => rfl) ?_ ?_
      · refine dp_s1 hF (i := .iconst 3) rfl (fun _ => rfl) ?_
        refine dp_s1 hF (i := .goto 24) rfl (fun _ => rfl) ?_
        exact rfl
      refine dp_s1 hF (i := .iconst 1) rfl (fun _ => rfl) ?_
      refine dp_s1 hF (i := .goto 28) rfl (fun _ => rfl) ?_
      exact rfl
    refine dp_s1 hF (i := .iload_n 3) rfl (fun _ => rfl) ?_
    refine dp_s2 hF (i := .ifCond .ge 7) (a := (159, [some (.ref 114), some (.int v1), some (.int v2), some (.int v3), some (.long v4), none, some (.long v6), none, some (.long v8), none, some (.int v10), some (.int y1), some (.int v12), none, none, none], [], M)) (b := (155, [some (.ref 114), some (.int v1), some (.int v2), some (.int v3), some (.long v4), none, some (.long v6), none, some (.long v8), none, some (.int v10), some (.int y1), some (.int v12), none, none, none], [], M)) rfl (fun _ => rfl) ?_ ?_
    · refine dp_s1 hF (i := .lload 6) rfl (fun _ => rfl) ?_
      refine dp_s1 hF (i := .lload 4) rfl (fun _ => rfl) ?_
      refine dp_s1 hF (i := .lcmp) rfl (fun _ => rfl) ?_
      refine dp_s2 hF (i := .ifCond .ge 7) (a := (171, [some (.ref 114), some (.int v1), some (.int v2), some (.int v3), some (.long v4), none, some (.long v6), none, some (.long v8), none, some (.int v10), some (.int y1), some (.int v12), none, none, none], [], M)) (b := (167, [some (.ref 114), some (.int v1), some (.int v2), some (.int v3), some (.long v4), none, some (.long v6), none, some (.long v8), none, some (.int v10), some (.int y1), some (.int v12), none, none, none], [], M)) rfl (fun _ => rfl) ?_ ?_
      · refine dp_s1 hF (i := .iconst 3) rfl (fun _ => rfl) ?_
        exact rfl
      refine dp_s1 hF (i := .iconst 2) rfl (fun _ => rfl) ?_
      refine dp_s1 hF (i := .goto 4) rfl (fun _ => rfl) ?_
      exact rfl
    refine dp_s1 hF (i := .iconst 0) rfl (fun _ => rfl) ?_
    refine dp_s1 hF (i := .goto 16) rfl (fun _ => rfl) ?_
    exact rfl
  refine dp_s1 hF (i := .iconst 0) rfl (fun _ => rfl) ?_
  refine dp_s1 hF (i := .goto 50) rfl (fun _ => rfl) ?_
  exact rfl
set_option maxRecDepth 20000 in
theorem D_X12_reckonsDuty_221_eq (xs : Nat → Int32) (xl d : Nat) (v1 : Int32) (v2 : Int32) (v3 : Int32) (v4 : Int64) (v6 : Int64) (v8 : Int64) (v10 : Int32) (v11 : Int32) (v12 : Int32) (v13 : Int32) (M : dp_M) : D_X12_reckonsDuty_221 xs xl d v1 v2 v3 v4 v6 v8 v10 v11 v12 v13 M = if (8 : Int32) ≤ v13 then (dp_bl (dp_den true xs xl d 492 [.ref 114] M) (fun r2 M1 => if 0 ≤ (lg_cmp r2 (0 : Int64)) then (dp_w (v8 + ((r2 + (500000 : Int64)) / (1000000 : Int64))) (fun y3 => dp_w (v10 + (1 : Int32)) (fun y4 => D_X12_reckonsDuty_92_b xs xl d v1 v2 v3 v4 v6 y3 y4 v11 v12 r2 M1))) else (some (.inl (some (.long (-1 : Int64))), M1)))) else (if (((8 : Int32) * v1) + v13) < 0 ∨ 3200 ≤ Int32.toNatClampNeg (((8 : Int32) * v1) + v13) then none else (dp_w (dp_J M 240 (Int32.toNatClampNeg (((8 : Int32) * v1) + v13))) (fun y5 => if (lg_cmp y5 (-1 : Int64)) = 0 then (if v13 < 0 ∨ 8 ≤ Int32.toNatClampNeg v13 then none else dp_w (dp_setJ M 188 (Int32.toNatClampNeg v13) (-1 : Int64)) (fun M6 => dp_w (v13 + (1 : Int32)) (fun y7 => D_X12_reckonsDuty_221_a xs xl d v1 v2 v3 v4 v6 v8 v10 v11 v12 y7 y5 M6))) else (dp_bl (dp_den true xs xl d 574 [.long y5, .int v12, .long v6, .long v4] M) (fun r9 M8 => if v13 < 0 ∨ 8 ≤ Int32.toNatClampNeg v13 then none else dp_w (dp_setJ M8 188 (Int32.toNatClampNeg v13) r9) (fun M10 => dp_w (v13 + (1 : Int32)) (fun y11 => D_X12_reckonsDuty_221_a xs xl d v1 v2 v3 v4 v6 v8 v10 v11 v12 y11 y5 M10))))))) := by
  have hF := dp_den_grow (md := true) (xs := xs) (xl := xl) d
  unfold D_X12_reckonsDuty_221
  refine dp_s1 hF (i := .iload 13) rfl (fun _ => rfl) ?_
  refine dp_s1 hF (i := .bipush 8) rfl (fun _ => rfl) ?_
  refine dp_s2 hF (i := .if_icmp .ge 56) (a := (281, [some (.ref 114), some (.int v1), some (.int v2), some (.int v3), some (.long v4), none, some (.long v6), none, some (.long v8), none, some (.int v10), some (.int v11), some (.int v12), some (.int v13), none, none], [], M)) (b := (228, [some (.ref 114), some (.int v1), some (.int v2), some (.int v3), some (.long v4), none, some (.long v6), none, some (.long v8), none, some (.int v10), some (.int v11), some (.int v12), some (.int v13), none, none], [], M)) rfl (fun _ => rfl) ?_ ?_
  · refine dp_s1 hF (i := .aload_n 0) rfl (fun _ => rfl) ?_
    refine dp_sl9 (mj := dp_m_X12_reckons) (i := .invokevirtual 844) rfl rfl rfl rfl (fun _ => rfl) (fun r2 M1 => ?_)
    refine dp_s1 hF (i := .lstore 13) rfl (fun _ => rfl) ?_
    refine dp_s1 hF (i := .lload 13) rfl (fun _ => rfl) ?_
    refine dp_s1 hF (i := .lconst 0) rfl (fun _ => rfl) ?_
    refine dp_s1 hF (i := .lcmp) rfl (fun _ => rfl) ?_
    refine dp_s2 hF (i := .ifCond .ge 7) (a := (298, [some (.ref 114), some (.int v1), some (.int v2), some (.int v3), some (.long v4), none, some (.long v6), none, some (.long v8), none, some (.int v10), some (.int v11), some (.int v12), some (.long r2), none, none], [], M1)) (b := (294, [some (.ref 114), some (.int v1), some (.int v2), some (.int v3), some (.long v4), none, some (.long v6), none, some (.long v8), none, some (.int v10), some (.int v11), some (.int v12), some (.long r2), none, none], [], M1)) rfl (fun _ => rfl) ?_ ?_
    · refine dp_s1 hF (i := .lload 8) rfl (fun _ => rfl) ?_
      refine dp_s1 hF (i := .lload 13) rfl (fun _ => rfl) ?_
      refine dp_s1 hF (i := .ldc2_w 1045) rfl (fun _ => rfl) ?_
      refine dp_s1 hF (i := .ladd) rfl (fun _ => rfl) ?_
      refine dp_s1 hF (i := .ldc2_w 834) rfl (fun _ => rfl) ?_
      refine dp_s1 hF (i := .ldiv) rfl (fun _ => rfl) ?_
      refine dp_s1 hF (i := .ladd) rfl (fun _ => rfl) ?_
      refine dp_s1w (v8 + ((r2 + (500000 : Int64)) / (1000000 : Int64))) (fun (y3 : Int64) => (313, [some (.ref 114), some (.int v1), some (.int v2), some (.int v3), some (.long v4), none, some (.long v6), none, some (.long y3), none, some (.int v10), some (.int v11), some (.int v12), some (.long r2), none, none], [], M1)) hF (i := .lstore 8) rfl (fun _ => rfl) (fun y3 => ?_)
      refine dp_s1w (v10 + (1 : Int32)) (fun (y4 : Int32) => (316, [some (.ref 114), some (.int v1), some (.int v2), some (.int v3), some (.long v4), none, some (.long v6), none, some (.long y3), none, some (.int y4), some (.int v11), some (.int v12), some (.long r2), none, none], [], M1)) hF (i := .iinc 10 1) rfl (fun _ => rfl) (fun y4 => ?_)
      refine dp_s1 hF (i := .goto (-224)) rfl (fun _ => rfl) ?_
      exact rfl
    refine dp_s1 hF (i := .ldc2_w 435) rfl (fun _ => rfl) ?_
    exact dp_s0 hF (i := .lreturn) rfl (fun _ => rfl)
  refine dp_s1 hF (i := .aload_n 0) rfl (fun _ => rfl) ?_
  refine dp_s1 hF (i := .getfield 401) rfl (fun _ => rfl) ?_
  refine dp_s1 hF (i := .bipush 8) rfl (fun _ => rfl) ?_
  refine dp_s1 hF (i := .iload_n 1) rfl (fun _ => rfl) ?_
  refine dp_s1 hF (i := .imul) rfl (fun _ => rfl) ?_
  refine dp_s1 hF (i := .iload 13) rfl (fun _ => rfl) ?_
  refine dp_s1 hF (i := .iadd) rfl (fun _ => rfl) ?_
  refine dp_s3 hF (i := .laload) rfl (fun _ => rfl) ?_
  refine dp_s1w (dp_J M 240 (Int32.toNatClampNeg (((8 : Int32) * v1) + v13))) (fun (y5 : Int64) => (242, [some (.ref 114), some (.int v1), some (.int v2), some (.int v3), some (.long v4), none, some (.long v6), none, some (.long v8), none, some (.int v10), some (.int v11), some (.int v12), some (.int v13), some (.long y5), none], [], M)) hF (i := .lstore 14) rfl (fun _ => rfl) (fun y5 => ?_)
  refine dp_s1 hF (i := .aload_n 0) rfl (fun _ => rfl) ?_
  refine dp_s1 hF (i := .getfield 236) rfl (fun _ => rfl) ?_
  refine dp_s1 hF (i := .iload 13) rfl (fun _ => rfl) ?_
  refine dp_s1 hF (i := .lload 14) rfl (fun _ => rfl) ?_
  refine dp_s1 hF (i := .ldc2_w 435) rfl (fun _ => rfl) ?_
  refine dp_s1 hF (i := .lcmp) rfl (fun _ => rfl) ?_
  refine dp_s2 hF (i := .ifCond .ne 9) (a := (257, [some (.ref 114), some (.int v1), some (.int v2), some (.int v3), some (.long v4), none, some (.long v6), none, some (.long v8), none, some (.int v10), some (.int v11), some (.int v12), some (.int v13), some (.long y5), none], [.int v13, .ref 188], M)) (b := (263, [some (.ref 114), some (.int v1), some (.int v2), some (.int v3), some (.long v4), none, some (.long v6), none, some (.long v8), none, some (.int v10), some (.int v11), some (.int v12), some (.int v13), some (.long y5), none], [.int v13, .ref 188], M)) rfl (fun _ => rfl) ?_ ?_
  · refine dp_s1 hF (i := .ldc2_w 435) rfl (fun _ => rfl) ?_
    refine dp_s1 hF (i := .goto 14) rfl (fun _ => rfl) ?_
    refine dp_s3w (dp_setJ M 188 (Int32.toNatClampNeg v13) (-1 : Int64)) (fun (M6 : dp_M) => (275, [some (.ref 114), some (.int v1), some (.int v2), some (.int v3), some (.long v4), none, some (.long v6), none, some (.long v8), none, some (.int v10), some (.int v11), some (.int v12), some (.int v13), some (.long y5), none], [], M6)) hF (i := .lastore) rfl (fun _ => rfl) (fun M6 => ?_)
    refine dp_s1w (v13 + (1 : Int32)) (fun (y7 : Int32) => (278, [some (.ref 114), some (.int v1), some (.int v2), some (.int v3), some (.long v4), none, some (.long v6), none, some (.long v8), none, some (.int v10), some (.int v11), some (.int v12), some (.int y7), some (.long y5), none], [], M6)) hF (i := .iinc 13 1) rfl (fun _ => rfl) (fun y7 => ?_)
    refine dp_s1 hF (i := .goto (-57)) rfl (fun _ => rfl) ?_
    exact rfl
  refine dp_s1 hF (i := .lload 14) rfl (fun _ => rfl) ?_
  refine dp_s1 hF (i := .iload 12) rfl (fun _ => rfl) ?_
  refine dp_s1 hF (i := .lload 6) rfl (fun _ => rfl) ?_
  refine dp_s1 hF (i := .lload 4) rfl (fun _ => rfl) ?_
  refine dp_sl9 (mj := dp_m_X12_partOfSum) (i := .invokestatic 1041) rfl rfl rfl rfl (fun _ => rfl) (fun r9 M8 => ?_)
  refine dp_s3w (dp_setJ M8 188 (Int32.toNatClampNeg v13) r9) (fun (M10 : dp_M) => (275, [some (.ref 114), some (.int v1), some (.int v2), some (.int v3), some (.long v4), none, some (.long v6), none, some (.long v8), none, some (.int v10), some (.int v11), some (.int v12), some (.int v13), some (.long y5), none], [], M10)) hF (i := .lastore) rfl (fun _ => rfl) (fun M10 => ?_)
  refine dp_s1w (v13 + (1 : Int32)) (fun (y11 : Int32) => (278, [some (.ref 114), some (.int v1), some (.int v2), some (.int v3), some (.long v4), none, some (.long v6), none, some (.long v8), none, some (.int v10), some (.int v11), some (.int v12), some (.int y11), some (.long y5), none], [], M10)) hF (i := .iinc 13 1) rfl (fun _ => rfl) (fun y11 => ?_)
  refine dp_s1 hF (i := .goto (-57)) rfl (fun _ => rfl) ?_
  exact rfl
set_option maxRecDepth 20000 in
theorem D_X12_reckonsDuty_172_a_eq (xs : Nat → Int32) (xl d : Nat) (v1 : Int32) (v2 : Int32) (v3 : Int32) (v4 : Int64) (v6 : Int64) (v8 : Int64) (v10 : Int32) (v11 : Int32) (v12 : Int32) (vs0 : Int32) (M : dp_M) : D_X12_reckonsDuty_172_a xs xl d v1 v2 v3 v4 v6 v8 v10 v11 v12 vs0 M = if v11 < 0 ∨ 301 ≤ Int32.toNatClampNeg v11 then none else (if (dp_I M 172 (Int32.toNatClampNeg v11)) = 0 then (dp_w (v10 + (1 : Int32)) (fun y1 => D_X12_reckonsDuty_92_a xs xl d v1 v2 v3 v4 v6 v8 y1 v11 vs0 M)) else (if vs0 = (3 : Int32) then (dp_w (v10 + (1 : Int32)) (fun y2 => D_X12_reckonsDuty_92_a xs xl d v1 v2 v3 v4 v6 v8 y2 v11 vs0 M)) else (dp_bv (dp_den true xs xl d 489 [.ref 114, .int v11] M) (fun M3 => if v1 < 0 ∨ 400 ≤ Int32.toNatClampNeg v1 then none else (dp_bl (dp_den true xs xl d 574 [.long (dp_J M3 239 (Int32.toNatClampNeg v1)), .int vs0, .long v6, .long v4] M3) (fun r5 M4 => dp_w (dp_setJ M4 114 100 r5) (fun M6 => dp_w (0 : Int32) (fun y7 => D_X12_reckonsDuty_221 xs xl d v1 v2 v3 v4 v6 v8 v10 v11 vs0 y7 M6)))))))) := by
  have hF := dp_den_grow (md := true) (xs := xs) (xl := xl) d
  unfold D_X12_reckonsDuty_172_a
  refine dp_s1 hF (i := .istore 12) rfl (fun _ => rfl) ?_
  refine dp_s1 hF (i := .aload_n 0) rfl (fun _ => rfl) ?_
  refine dp_s1 hF (i := .getfield 188) rfl (fun _ => rfl) ?_
  refine dp_s1 hF (i := .iload 11) rfl (fun _ => rfl) ?_
  refine dp_s3 hF (i := .iaload) rfl (fun _ => rfl) ?_
  refine dp_s2 hF (i := .ifCond .eq 132) (a := (313, [some (.ref 114), some (.int v1), some (.int v2), some (.int v3), some (.long v4), none, some (.long v6), none, some (.long v8), none, some (.int v10), some (.int v11), some (.int vs0), none, none, none], [], M)) (b := (184, [some (.ref 114), some (.int v1), some (.int v2), some (.int v3), some (.long v4), none, some (.long v6), none, some (.long v8), none, some (.int v10), some (.int v11), some (.int vs0), none, none, none], [], M)) rfl (fun _ => rfl) ?_ ?_
  · refine dp_s1w (v10 + (1 : Int32)) (fun (y1 : Int32) => (316, [some (.ref 114), some (.int v1), some (.int v2), some (.int v3), some (.long v4), none, some (.long v6), none, some (.long v8), none, some (.int y1), some (.int v11), some (.int vs0), none, none, none], [], M)) hF (i := .iinc 10 1) rfl (fun _ => rfl) (fun y1 => ?_)
    refine dp_s1 hF (i := .goto (-224)) rfl (fun _ => rfl) ?_
    exact rfl
  refine dp_s1 hF (i := .iload 12) rfl (fun _ => rfl) ?_
  refine dp_s1 hF (i := .iconst 3) rfl (fun _ => rfl) ?_
  refine dp_s2 hF (i := .if_icmp .ne 6) (a := (190, [some (.ref 114), some (.int v1), some (.int v2), some (.int v3), some (.long v4), none, some (.long v6), none, some (.long v8), none, some (.int v10), some (.int v11), some (.int vs0), none, none, none], [], M)) (b := (193, [some (.ref 114), some (.int v1), some (.int v2), some (.int v3), some (.long v4), none, some (.long v6), none, some (.long v8), none, some (.int v10), some (.int v11), some (.int vs0), none, none, none], [], M)) rfl (fun _ => rfl) ?_ ?_
  · refine dp_s1 hF (i := .goto 123) rfl (fun _ => rfl) ?_
    refine dp_s1w (v10 + (1 : Int32)) (fun (y2 : Int32) => (316, [some (.ref 114), some (.int v1), some (.int v2), some (.int v3), some (.long v4), none, some (.long v6), none, some (.long v8), none, some (.int y2), some (.int v11), some (.int vs0), none, none, none], [], M)) hF (i := .iinc 10 1) rfl (fun _ => rfl) (fun y2 => ?_)
    refine dp_s1 hF (i := .goto (-224)) rfl (fun _ => rfl) ?_
    exact rfl
  refine dp_s1 hF (i := .aload_n 0) rfl (fun _ => rfl) ?_
  refine dp_s1 hF (i := .iload 11) rfl (fun _ => rfl) ?_
  refine dp_sv (mj := dp_m_X12_readsRate) (i := .invokevirtual 825) rfl rfl rfl rfl (fun _ => rfl) (fun M3 => ?_)
  refine dp_s1 hF (i := .aload_n 0) rfl (fun _ => rfl) ?_
  refine dp_s1 hF (i := .aload_n 0) rfl (fun _ => rfl) ?_
  refine dp_s1 hF (i := .getfield 398) rfl (fun _ => rfl) ?_
  refine dp_s1 hF (i := .iload_n 1) rfl (fun _ => rfl) ?_
  refine dp_s3 hF (i := .laload) rfl (fun _ => rfl) ?_
  refine dp_s1 hF (i := .iload 12) rfl (fun _ => rfl) ?_
  refine dp_s1 hF (i := .lload 6) rfl (fun _ => rfl) ?_
  refine dp_s1 hF (i := .lload 4) rfl (fun _ => rfl) ?_
  refine dp_sl9 (mj := dp_m_X12_partOfSum) (i := .invokestatic 1041) rfl rfl rfl rfl (fun _ => rfl) (fun r5 M4 => ?_)
  refine dp_s1w (dp_setJ M4 114 100 r5) (fun (M6 : dp_M) => (218, [some (.ref 114), some (.int v1), some (.int v2), some (.int v3), some (.long v4), none, some (.long v6), none, some (.long v8), none, some (.int v10), some (.int v11), some (.int vs0), none, none, none], [], M6)) hF (i := .putfield 828) rfl (fun _ => rfl) (fun M6 => ?_)
  refine dp_s1 hF (i := .iconst 0) rfl (fun _ => rfl) ?_
  refine dp_s1w (0 : Int32) (fun (y7 : Int32) => (221, [some (.ref 114), some (.int v1), some (.int v2), some (.int v3), some (.long v4), none, some (.long v6), none, some (.long v8), none, some (.int v10), some (.int v11), some (.int vs0), some (.int y7), none, none], [], M6)) hF (i := .istore 13) rfl (fun _ => rfl) (fun y7 => ?_)
  exact rfl
set_option maxRecDepth 20000 in
theorem D_X12_reckonsDuty_92_b_eq (xs : Nat → Int32) (xl d : Nat) (v1 : Int32) (v2 : Int32) (v3 : Int32) (v4 : Int64) (v6 : Int64) (v8 : Int64) (v10 : Int32) (v11 : Int32) (v12 : Int32) (v13 : Int64) (M : dp_M) : D_X12_reckonsDuty_92_b xs xl d v1 v2 v3 v4 v6 v8 v10 v11 v12 v13 M = if (dp_I M 114 70) ≤ v10 then (if (lg_cmp v8 (1000000000 : Int64)) ≤ 0 then (some (.inl (some (.long v8)), M)) else (some (.inl (some (.long (-1 : Int64))), M))) else (if v10 < 0 ∨ 300 ≤ Int32.toNatClampNeg v10 then none else (dp_w (dp_I M 167 (Int32.toNatClampNeg v10)) (fun y1 => if y1 < 0 ∨ 301 ≤ Int32.toNatClampNeg y1 then none else (if (dp_I M 159 (Int32.toNatClampNeg y1)) ≤ (1 : Int32) then (if y1 < 0 ∨ 301 ≤ Int32.toNatClampNeg y1 then none else (if (dp_I M 159 (Int32.toNatClampNeg y1)) = (1 : Int32) then (if (lg_cmp v6 (0 : Int64)) ≤ 0 then (D_X12_reckonsDuty_172_b xs xl d v1 v2 v3 v4 v6 v8 v10 y1 v12 v13 (3 : Int32) M) else (D_X12_reckonsDuty_172_b xs xl d v1 v2 v3 v4 v6 v8 v10 y1 v12 v13 (1 : Int32) M)) else (if 0 ≤ v3 then (if 0 ≤ (lg_cmp v6 v4) then (D_X12_reckonsDuty_172_b xs xl d v1 v2 v3 v4 v6 v8 v10 y1 v12 v13 (3 : Int32) M) else (D_X12_reckonsDuty_172_b xs xl d v1 v2 v3 v4 v6 v8 v10 y1 v12 v13 (2 : Int32) M)) else (D_X12_reckonsDuty_172_b xs xl d v1 v2 v3 v4 v6 v8 v10 y1 v12 v13 (0 : Int32) M)))) else (D_X12_reckonsDuty_172_b xs xl d v1 v2 v3 v4 v6 v8 v10 y1 v12 v13 (0 : Int32) M))))) := by
  have hF := dp_den_grow (md := true) (xs := xs) (xl := xl) d
  unfold D_X12_reckonsDuty_92_b
  refine dp_s1 hF (i := .iload 10) rfl (fun _ => rfl) ?_
  refine dp_s1 hF (i := .aload_n 0) rfl (fun _ => rfl) ?_
  refine dp_s1 hF (i := .getfield 701) rfl (fun _ => rfl) ?_
  refine dp_s2 hF (i := .if_icmp .ge 221) (a := (319, [some (.ref 114), some (.int v1), some (.int v2), some (.int v3), some (.long v4), none, some (.long v6), none, some (.long v8), none, some (.int v10), some (.int v11), some (.int v12), some (.long v13), none, none], [], M)) (b := (101, [some (.ref 114), some (.int v1), some (.int v2), some (.int v3), some (.long v4), none, some (.long v6), none, some (.long v8), none, some (.int v10), some (.int v11), some (.int v12), some (.long v13), none, none], [], M)) rfl (fun _ => rfl) ?_ ?_
  · refine dp_s1 hF (i := .lload 8) rfl (fun _ => rfl) ?_
    refine dp_s1 hF (i := .ldc2_w 900) rfl (fun _ => rfl) ?_
    refine dp_s1 hF (i := .lcmp) rfl (fun _ => rfl) ?_
    refine dp_s2 hF (i := .ifCond .le 9) (a := (334, [some (.ref 114), some (.int v1), some (.int v2), some (.int v3), some (.long v4), none, some (.long v6), none, some (.long v8), none, some (.int v10), some (.int v11), some (.int v12), some (.long v13), none, none], [], M)) (b := (328, [some (.ref 114), some (.int v1), some (.int v2), some (.int v3), some (.long v4), none, some (.long v6), none, some (.long v8), none, some (.int v10), some (.int v11), some (.int v12), some (.long v13), none, none], [], M)) rfl (fun _ => rfl) ?_ ?_
    · refine dp_s1 hF (i := .lload 8) rfl (fun _ => rfl) ?_
      exact dp_s0 hF (i := .lreturn) rfl (fun _ => rfl)
    refine dp_s1 hF (i := .ldc2_w 435) rfl (fun _ => rfl) ?_
    refine dp_s1 hF (i := .goto 5) rfl (fun _ => rfl) ?_
    exact dp_s0 hF (i := .lreturn) rfl (fun _ => rfl)
  refine dp_s1 hF (i := .aload_n 0) rfl (fun _ => rfl) ?_
  refine dp_s1 hF (i := .getfield 172) rfl (fun _ => rfl) ?_
  refine dp_s1 hF (i := .iload 10) rfl (fun _ => rfl) ?_
  refine dp_s3 hF (i := .iaload) rfl (fun _ => rfl) ?_
  refine dp_s1w (dp_I M 167 (Int32.toNatClampNeg v10)) (fun (y1 : Int32) => (110, [some (.ref 114), some (.int v1), some (.int v2), some (.int v3), some (.long v4), none, some (.long v6), none, some (.long v8), none, some (.int v10), some (.int y1), some (.int v12), some (.long v13), none, none], [], M)) hF (i := .istore 11) rfl (fun _ => rfl) (fun y1 => ?_)
  refine dp_s1 hF (i := .aload_n 0) rfl (fun _ => rfl) ?_
  refine dp_s1 hF (i := .getfield 148) rfl (fun _ => rfl) ?_
  refine dp_s1 hF (i := .iload 11) rfl (fun _ => rfl) ?_
  refine dp_s3 hF (i := .iaload) rfl (fun _ => rfl) ?_
  refine dp_s1 hF (i := .iconst 1) rfl (fun _ => rfl) ?_
  refine dp_s2 hF (i := .if_icmp .le 7) (a := (125, [some (.ref 114), some (.int v1), some (.int v2), some (.int v3), some (.long v4), none, some (.long v6), none, some (.long v8), none, some (.int v10), some (.int y1), some (.int v12), some (.long v13), none, none], [], M)) (b := (121, [some (.ref 114), some (.int v1), some (.int v2), some (.int v3), some (.long v4), none, some (.long v6), none, some (.long v8), none, some (.int v10), some (.int y1), some (.int v12), some (.long v13), none, none], [], M)) rfl (fun _ => rfl) ?_ ?_
  · refine dp_s1 hF (i := .aload_n 0) rfl (fun _ => rfl) ?_
    refine dp_s1 hF (i := .getfield 148) rfl (fun _ => rfl) ?_
    refine dp_s1 hF (i := .iload 11) rfl (fun _ => rfl) ?_
    refine dp_s3 hF (i := .iaload) rfl (fun _ => rfl) ?_
    refine dp_s1 hF (i := .iconst 1) rfl (fun _ => rfl) ?_
    refine dp_s2 hF (i := .if_icmp .ne 18) (a := (136, [some (.ref 114), some (.int v1), some (.int v2), some (.int v3), some (.long v4), none, some (.long v6), none, some (.long v8), none, some (.int v10), some (.int y1), some (.int v12), some (.long v13), none, none], [], M)) (b := (151, [some (.ref 114), some (.int v1), some (.int v2), some (.int v3), some (.long v4), none, some (.long v6), none, some (.long v8), none, some (.int v10), some (.int y1), some (.int v12), some (.long v13), none, none], [], M)) rfl (fun _ => rfl) ?_ ?_
    · refine dp_s1 hF (i := .lload 6) rfl (fun _ => rfl) ?_
      refine dp_s1 hF (i := .lconst 0) rfl (fun _ => rfl) ?_
      refine dp_s1 hF (i := .lcmp) rfl (fun _ => rfl) ?_
      refine dp_s2 hF (i := .ifCond .le 7) (a := (147, [some (.ref 114), some (.int v1), some (.int v2), some (.int v3), some (.long v4), none, some (.long v6), none, some (.long v8), none, some (.int v10), some (.int y1), some (.int v12), some (.long v13), none, none], [], M)) (b := (143, [some (.ref 114), some (.int v1), some (.int v2), some (.int v3), some (.long v4), none, some (.long v6), none, some (.long v8), none, some (.int v10), some (.int y1), some (.int v12), some (.long v13), none, none], [], M)) rfl (fun _ => rfl) ?_ ?_
      · refine dp_s1 hF (i := .iconst 3) rfl (fun _ => rfl) ?_
        refine dp_s1 hF (i := .goto 24) rfl (fun _ => rfl) ?_
        exact rfl
      refine dp_s1 hF (i := .iconst 1) rfl (fun _ => rfl) ?_
      refine dp_s1 hF (i := .goto 28) rfl (fun _ => rfl) ?_
      exact rfl
    refine dp_s1 hF (i := .iload_n 3) rfl (fun _ => rfl) ?_
    refine dp_s2 hF (i := .ifCond .ge 7) (a := (159, [some (.ref 114), some (.int v1), some (.int v2), some (.int v3), some (.long v4), none, some (.long v6), none, some (.long v8), none, some (.int v10), some (.int y1), some (.int v12), some (.long v13), none, none], [], M)) (b := (155, [some (.ref 114), some (.int v1), some (.int v2), some (.int v3), some (.long v4), none, some (.long v6), none, some (.long v8), none, some (.int v10), some (.int y1), some (.int v12), some (.long v13), none, none], [], M)) rfl (fun _ => rfl) ?_ ?_
    · refine dp_s1 hF (i := .lload 6) rfl (fun _ => rfl) ?_
      refine dp_s1 hF (i := .lload 4) rfl (fun _ => rfl) ?_
      refine dp_s1 hF (i := .lcmp) rfl (fun _ => rfl) ?_
      refine dp_s2 hF (i := .ifCond .ge 7) (a := (171, [some (.ref 114), some (.int v1), some (.int v2), some (.int v3), some (.long v4), none, some (.long v6), none, some (.long v8), none, some (.int v10), some (.int y1), some (.int v12), some (.long v13), none, none], [], M)) (b := (167, [some (.ref 114), some (.int v1), some (.int v2), some (.int v3), some (.long v4), none, some (.long v6), none, some (.long v8), none, some (.int v10), some (.int y1), some (.int v12), some (.long v13), none, none], [], M)) rfl (fun _ => rfl) ?_ ?_
      · refine dp_s1 hF (i := .iconst 3) rfl (fun _ => rfl) ?_
        exact rfl
      refine dp_s1 hF (i := .iconst 2) rfl (fun _ => rfl) ?_
      refine dp_s1 hF (i := .goto 4) rfl (fun _ => rfl) ?_
      exact rfl
    refine dp_s1 hF (i := .iconst 0) rfl (fun _ => rfl) ?_
    refine dp_s1 hF (i := .goto 16) rfl (fun _ => rfl) ?_
    exact rfl
  refine dp_s1 hF (i := .iconst 0) rfl (fun _ => rfl) ?_
  refine dp_s1 hF (i := .goto 50) rfl (fun _ => rfl) ?_
  exact rfl
set_option maxRecDepth 20000 in
theorem D_X12_reckonsDuty_221_a_eq (xs : Nat → Int32) (xl d : Nat) (v1 : Int32) (v2 : Int32) (v3 : Int32) (v4 : Int64) (v6 : Int64) (v8 : Int64) (v10 : Int32) (v11 : Int32) (v12 : Int32) (v13 : Int32) (v14 : Int64) (M : dp_M) : D_X12_reckonsDuty_221_a xs xl d v1 v2 v3 v4 v6 v8 v10 v11 v12 v13 v14 M = if (8 : Int32) ≤ v13 then (dp_bl (dp_den true xs xl d 492 [.ref 114] M) (fun r2 M1 => if 0 ≤ (lg_cmp r2 (0 : Int64)) then (dp_w (v8 + ((r2 + (500000 : Int64)) / (1000000 : Int64))) (fun y3 => dp_w (v10 + (1 : Int32)) (fun y4 => D_X12_reckonsDuty_92_b xs xl d v1 v2 v3 v4 v6 y3 y4 v11 v12 r2 M1))) else (some (.inl (some (.long (-1 : Int64))), M1)))) else (if (((8 : Int32) * v1) + v13) < 0 ∨ 3200 ≤ Int32.toNatClampNeg (((8 : Int32) * v1) + v13) then none else (dp_w (dp_J M 240 (Int32.toNatClampNeg (((8 : Int32) * v1) + v13))) (fun y5 => if (lg_cmp y5 (-1 : Int64)) = 0 then (if v13 < 0 ∨ 8 ≤ Int32.toNatClampNeg v13 then none else dp_w (dp_setJ M 188 (Int32.toNatClampNeg v13) (-1 : Int64)) (fun M6 => dp_w (v13 + (1 : Int32)) (fun y7 => D_X12_reckonsDuty_221_a xs xl d v1 v2 v3 v4 v6 v8 v10 v11 v12 y7 y5 M6))) else (dp_bl (dp_den true xs xl d 574 [.long y5, .int v12, .long v6, .long v4] M) (fun r9 M8 => if v13 < 0 ∨ 8 ≤ Int32.toNatClampNeg v13 then none else dp_w (dp_setJ M8 188 (Int32.toNatClampNeg v13) r9) (fun M10 => dp_w (v13 + (1 : Int32)) (fun y11 => D_X12_reckonsDuty_221_a xs xl d v1 v2 v3 v4 v6 v8 v10 v11 v12 y11 y5 M10))))))) := by
  have hF := dp_den_grow (md := true) (xs := xs) (xl := xl) d
  unfold D_X12_reckonsDuty_221_a
  refine dp_s1 hF (i := .iload 13) rfl (fun _ => rfl) ?_
  refine dp_s1 hF (i := .bipush 8) rfl (fun _ => rfl) ?_
  refine dp_s2 hF (i := .if_icmp .ge 56) (a := (281, [some (.ref 114), some (.int v1), some (.int v2), some (.int v3), some (.long v4), none, some (.long v6), none, some (.long v8), none, some (.int v10), some (.int v11), some (.int v12), some (.int v13), some (.long v14), none], [], M)) (b := (228, [some (.ref 114), some (.int v1), some (.int v2), some (.int v3), some (.long v4), none, some (.long v6), none, some (.long v8), none, some (.int v10), some (.int v11), some (.int v12), some (.int v13), some (.long v14), none], [], M)) rfl (fun _ => rfl) ?_ ?_
  · refine dp_s1 hF (i := .aload_n 0) rfl (fun _ => rfl) ?_
    refine dp_sl9 (mj := dp_m_X12_reckons) (i := .invokevirtual 844) rfl rfl rfl rfl (fun _ => rfl) (fun r2 M1 => ?_)
    refine dp_s1 hF (i := .lstore 13) rfl (fun _ => rfl) ?_
    refine dp_s1 hF (i := .lload 13) rfl (fun _ => rfl) ?_
    refine dp_s1 hF (i := .lconst 0) rfl (fun _ => rfl) ?_
    refine dp_s1 hF (i := .lcmp) rfl (fun _ => rfl) ?_
    refine dp_s2 hF (i := .ifCond .ge 7) (a := (298, [some (.ref 114), some (.int v1), some (.int v2), some (.int v3), some (.long v4), none, some (.long v6), none, some (.long v8), none, some (.int v10), some (.int v11), some (.int v12), some (.long r2), none, none], [], M1)) (b := (294, [some (.ref 114), some (.int v1), some (.int v2), some (.int v3), some (.long v4), none, some (.long v6), none, some (.long v8), none, some (.int v10), some (.int v11), some (.int v12), some (.long r2), none, none], [], M1)) rfl (fun _ => rfl) ?_ ?_
    · refine dp_s1 hF (i := .lload 8) rfl (fun _ => rfl) ?_
      refine dp_s1 hF (i := .lload 13) rfl (fun _ => rfl) ?_
      refine dp_s1 hF (i := .ldc2_w 1045) rfl (fun _ => rfl) ?_
      refine dp_s1 hF (i := .ladd) rfl (fun _ => rfl) ?_
      refine dp_s1 hF (i := .ldc2_w 834) rfl (fun _ => rfl) ?_
      refine dp_s1 hF (i := .ldiv) rfl (fun _ => rfl) ?_
      refine dp_s1 hF (i := .ladd) rfl (fun _ => rfl) ?_
      refine dp_s1w (v8 + ((r2 + (500000 : Int64)) / (1000000 : Int64))) (fun (y3 : Int64) => (313, [some (.ref 114), some (.int v1), some (.int v2), some (.int v3), some (.long v4), none, some (.long v6), none, some (.long y3), none, some (.int v10), some (.int v11), some (.int v12), some (.long r2), none, none], [], M1)) hF (i := .lstore 8) rfl (fun _ => rfl) (fun y3 => ?_)
      refine dp_s1w (v10 + (1 : Int32)) (fun (y4 : Int32) => (316, [some (.ref 114), some (.int v1), some (.int v2), some (.int v3), some (.long v4), none, some (.long v6), none, some (.long y3), none, some (.int y4), some (.int v11), some (.int v12), some (.long r2), none, none], [], M1)) hF (i := .iinc 10 1) rfl (fun _ => rfl) (fun y4 => ?_)
      refine dp_s1 hF (i := .goto (-224)) rfl (fun _ => rfl) ?_
      exact rfl
    refine dp_s1 hF (i := .ldc2_w 435) rfl (fun _ => rfl) ?_
    exact dp_s0 hF (i := .lreturn) rfl (fun _ => rfl)
  refine dp_s1 hF (i := .aload_n 0) rfl (fun _ => rfl) ?_
  refine dp_s1 hF (i := .getfield 401) rfl (fun _ => rfl) ?_
  refine dp_s1 hF (i := .bipush 8) rfl (fun _ => rfl) ?_
  refine dp_s1 hF (i := .iload_n 1) rfl (fun _ => rfl) ?_
  refine dp_s1 hF (i := .imul) rfl (fun _ => rfl) ?_
  refine dp_s1 hF (i := .iload 13) rfl (fun _ => rfl) ?_
  refine dp_s1 hF (i := .iadd) rfl (fun _ => rfl) ?_
  refine dp_s3 hF (i := .laload) rfl (fun _ => rfl) ?_
  refine dp_s1w (dp_J M 240 (Int32.toNatClampNeg (((8 : Int32) * v1) + v13))) (fun (y5 : Int64) => (242, [some (.ref 114), some (.int v1), some (.int v2), some (.int v3), some (.long v4), none, some (.long v6), none, some (.long v8), none, some (.int v10), some (.int v11), some (.int v12), some (.int v13), some (.long y5), none], [], M)) hF (i := .lstore 14) rfl (fun _ => rfl) (fun y5 => ?_)
  refine dp_s1 hF (i := .aload_n 0) rfl (fun _ => rfl) ?_
  refine dp_s1 hF (i := .getfield 236) rfl (fun _ => rfl) ?_
  refine dp_s1 hF (i := .iload 13) rfl (fun _ => rfl) ?_
  refine dp_s1 hF (i := .lload 14) rfl (fun _ => rfl) ?_
  refine dp_s1 hF (i := .ldc2_w 435) rfl (fun _ => rfl) ?_
  refine dp_s1 hF (i := .lcmp) rfl (fun _ => rfl) ?_
  refine dp_s2 hF (i := .ifCond .ne 9) (a := (257, [some (.ref 114), some (.int v1), some (.int v2), some (.int v3), some (.long v4), none, some (.long v6), none, some (.long v8), none, some (.int v10), some (.int v11), some (.int v12), some (.int v13), some (.long y5), none], [.int v13, .ref 188], M)) (b := (263, [some (.ref 114), some (.int v1), some (.int v2), some (.int v3), some (.long v4), none, some (.long v6), none, some (.long v8), none, some (.int v10), some (.int v11), some (.int v12), some (.int v13), some (.long y5), none], [.int v13, .ref 188], M)) rfl (fun _ => rfl) ?_ ?_
  · refine dp_s1 hF (i := .ldc2_w 435) rfl (fun _ => rfl) ?_
    refine dp_s1 hF (i := .goto 14) rfl (fun _ => rfl) ?_
    refine dp_s3w (dp_setJ M 188 (Int32.toNatClampNeg v13) (-1 : Int64)) (fun (M6 : dp_M) => (275, [some (.ref 114), some (.int v1), some (.int v2), some (.int v3), some (.long v4), none, some (.long v6), none, some (.long v8), none, some (.int v10), some (.int v11), some (.int v12), some (.int v13), some (.long y5), none], [], M6)) hF (i := .lastore) rfl (fun _ => rfl) (fun M6 => ?_)
    refine dp_s1w (v13 + (1 : Int32)) (fun (y7 : Int32) => (278, [some (.ref 114), some (.int v1), some (.int v2), some (.int v3), some (.long v4), none, some (.long v6), none, some (.long v8), none, some (.int v10), some (.int v11), some (.int v12), some (.int y7), some (.long y5), none], [], M6)) hF (i := .iinc 13 1) rfl (fun _ => rfl) (fun y7 => ?_)
    refine dp_s1 hF (i := .goto (-57)) rfl (fun _ => rfl) ?_
    exact rfl
  refine dp_s1 hF (i := .lload 14) rfl (fun _ => rfl) ?_
  refine dp_s1 hF (i := .iload 12) rfl (fun _ => rfl) ?_
  refine dp_s1 hF (i := .lload 6) rfl (fun _ => rfl) ?_
  refine dp_s1 hF (i := .lload 4) rfl (fun _ => rfl) ?_
  refine dp_sl9 (mj := dp_m_X12_partOfSum) (i := .invokestatic 1041) rfl rfl rfl rfl (fun _ => rfl) (fun r9 M8 => ?_)
  refine dp_s3w (dp_setJ M8 188 (Int32.toNatClampNeg v13) r9) (fun (M10 : dp_M) => (275, [some (.ref 114), some (.int v1), some (.int v2), some (.int v3), some (.long v4), none, some (.long v6), none, some (.long v8), none, some (.int v10), some (.int v11), some (.int v12), some (.int v13), some (.long y5), none], [], M10)) hF (i := .lastore) rfl (fun _ => rfl) (fun M10 => ?_)
  refine dp_s1w (v13 + (1 : Int32)) (fun (y11 : Int32) => (278, [some (.ref 114), some (.int v1), some (.int v2), some (.int v3), some (.long v4), none, some (.long v6), none, some (.long v8), none, some (.int v10), some (.int v11), some (.int v12), some (.int y11), some (.long y5), none], [], M10)) hF (i := .iinc 13 1) rfl (fun _ => rfl) (fun y11 => ?_)
  refine dp_s1 hF (i := .goto (-57)) rfl (fun _ => rfl) ?_
  exact rfl
set_option maxRecDepth 20000 in
theorem D_X12_reckonsDuty_172_b_eq (xs : Nat → Int32) (xl d : Nat) (v1 : Int32) (v2 : Int32) (v3 : Int32) (v4 : Int64) (v6 : Int64) (v8 : Int64) (v10 : Int32) (v11 : Int32) (v12 : Int32) (v13 : Int64) (vs0 : Int32) (M : dp_M) : D_X12_reckonsDuty_172_b xs xl d v1 v2 v3 v4 v6 v8 v10 v11 v12 v13 vs0 M = if v11 < 0 ∨ 301 ≤ Int32.toNatClampNeg v11 then none else (if (dp_I M 172 (Int32.toNatClampNeg v11)) = 0 then (dp_w (v10 + (1 : Int32)) (fun y1 => D_X12_reckonsDuty_92_b xs xl d v1 v2 v3 v4 v6 v8 y1 v11 vs0 v13 M)) else (if vs0 = (3 : Int32) then (dp_w (v10 + (1 : Int32)) (fun y2 => D_X12_reckonsDuty_92_b xs xl d v1 v2 v3 v4 v6 v8 y2 v11 vs0 v13 M)) else (dp_bv (dp_den true xs xl d 489 [.ref 114, .int v11] M) (fun M3 => if v1 < 0 ∨ 400 ≤ Int32.toNatClampNeg v1 then none else (dp_bl (dp_den true xs xl d 574 [.long (dp_J M3 239 (Int32.toNatClampNeg v1)), .int vs0, .long v6, .long v4] M3) (fun r5 M4 => dp_w (dp_setJ M4 114 100 r5) (fun M6 => dp_w (0 : Int32) (fun y7 => D_X12_reckonsDuty_221 xs xl d v1 v2 v3 v4 v6 v8 v10 v11 vs0 y7 M6)))))))) := by
  have hF := dp_den_grow (md := true) (xs := xs) (xl := xl) d
  unfold D_X12_reckonsDuty_172_b
  refine dp_s1 hF (i := .istore 12) rfl (fun _ => rfl) ?_
  refine dp_s1 hF (i := .aload_n 0) rfl (fun _ => rfl) ?_
  refine dp_s1 hF (i := .getfield 188) rfl (fun _ => rfl) ?_
  refine dp_s1 hF (i := .iload 11) rfl (fun _ => rfl) ?_
  refine dp_s3 hF (i := .iaload) rfl (fun _ => rfl) ?_
  refine dp_s2 hF (i := .ifCond .eq 132) (a := (313, [some (.ref 114), some (.int v1), some (.int v2), some (.int v3), some (.long v4), none, some (.long v6), none, some (.long v8), none, some (.int v10), some (.int v11), some (.int vs0), some (.long v13), none, none], [], M)) (b := (184, [some (.ref 114), some (.int v1), some (.int v2), some (.int v3), some (.long v4), none, some (.long v6), none, some (.long v8), none, some (.int v10), some (.int v11), some (.int vs0), some (.long v13), none, none], [], M)) rfl (fun _ => rfl) ?_ ?_
  · refine dp_s1w (v10 + (1 : Int32)) (fun (y1 : Int32) => (316, [some (.ref 114), some (.int v1), some (.int v2), some (.int v3), some (.long v4), none, some (.long v6), none, some (.long v8), none, some (.int y1), some (.int v11), some (.int vs0), some (.long v13), none, none], [], M)) hF (i := .iinc 10 1) rfl (fun _ => rfl) (fun y1 => ?_)
    refine dp_s1 hF (i := .goto (-224)) rfl (fun _ => rfl) ?_
    exact rfl
  refine dp_s1 hF (i := .iload 12) rfl (fun _ => rfl) ?_
  refine dp_s1 hF (i := .iconst 3) rfl (fun _ => rfl) ?_
  refine dp_s2 hF (i := .if_icmp .ne 6) (a := (190, [some (.ref 114), some (.int v1), some (.int v2), some (.int v3), some (.long v4), none, some (.long v6), none, some (.long v8), none, some (.int v10), some (.int v11), some (.int vs0), some (.long v13), none, none], [], M)) (b := (193, [some (.ref 114), some (.int v1), some (.int v2), some (.int v3), some (.long v4), none, some (.long v6), none, some (.long v8), none, some (.int v10), some (.int v11), some (.int vs0), some (.long v13), none, none], [], M)) rfl (fun _ => rfl) ?_ ?_
  · refine dp_s1 hF (i := .goto 123) rfl (fun _ => rfl) ?_
    refine dp_s1w (v10 + (1 : Int32)) (fun (y2 : Int32) => (316, [some (.ref 114), some (.int v1), some (.int v2), some (.int v3), some (.long v4), none, some (.long v6), none, some (.long v8), none, some (.int y2), some (.int v11), some (.int vs0), some (.long v13), none, none], [], M)) hF (i := .iinc 10 1) rfl (fun _ => rfl) (fun y2 => ?_)
    refine dp_s1 hF (i := .goto (-224)) rfl (fun _ => rfl) ?_
    exact rfl
  refine dp_s1 hF (i := .aload_n 0) rfl (fun _ => rfl) ?_
  refine dp_s1 hF (i := .iload 11) rfl (fun _ => rfl) ?_
  refine dp_sv (mj := dp_m_X12_readsRate) (i := .invokevirtual 825) rfl rfl rfl rfl (fun _ => rfl) (fun M3 => ?_)
  refine dp_s1 hF (i := .aload_n 0) rfl (fun _ => rfl) ?_
  refine dp_s1 hF (i := .aload_n 0) rfl (fun _ => rfl) ?_
  refine dp_s1 hF (i := .getfield 398) rfl (fun _ => rfl) ?_
  refine dp_s1 hF (i := .iload_n 1) rfl (fun _ => rfl) ?_
  refine dp_s3 hF (i := .laload) rfl (fun _ => rfl) ?_
  refine dp_s1 hF (i := .iload 12) rfl (fun _ => rfl) ?_
  refine dp_s1 hF (i := .lload 6) rfl (fun _ => rfl) ?_
  refine dp_s1 hF (i := .lload 4) rfl (fun _ => rfl) ?_
  refine dp_sl9 (mj := dp_m_X12_partOfSum) (i := .invokestatic 1041) rfl rfl rfl rfl (fun _ => rfl) (fun r5 M4 => ?_)
  refine dp_s1w (dp_setJ M4 114 100 r5) (fun (M6 : dp_M) => (218, [some (.ref 114), some (.int v1), some (.int v2), some (.int v3), some (.long v4), none, some (.long v6), none, some (.long v8), none, some (.int v10), some (.int v11), some (.int vs0), some (.long v13), none, none], [], M6)) hF (i := .putfield 828) rfl (fun _ => rfl) (fun M6 => ?_)
  refine dp_s1 hF (i := .iconst 0) rfl (fun _ => rfl) ?_
  refine dp_s1w (0 : Int32) (fun (y7 : Int32) => (221, [some (.ref 114), some (.int v1), some (.int v2), some (.int v3), some (.long v4), none, some (.long v6), none, some (.long v8), none, some (.int v10), some (.int v11), some (.int vs0), some (.int y7), none, none], [], M6)) hF (i := .istore 13) rfl (fun _ => rfl) (fun y7 => ?_)
  exact rfl
noncomputable def D_X12_duty_0 (xs : Nat → Int32) (xl d : Nat) (v1 : Int32) (v2 : Int32) (M : dp_M) : Option dp_Res := dp_lim true xs xl (dp_den true xs xl d) dp_m_X12_duty (0, [some (.ref 114), some (.int v1), some (.int v2), none, none], [], M)
theorem D_X12_duty_0_den (xs : Nat → Int32) (xl d : Nat) (a0 : Int32) (a1 : Int32) (M : dp_M) : dp_den true xs xl (d + 1) 576 [.ref 114, .int a0, .int a1] M = D_X12_duty_0 xs xl d a0 a1 M := rfl
set_option maxRecDepth 20000 in
theorem D_X12_duty_0_eq (xs : Nat → Int32) (xl d : Nat) (v1 : Int32) (v2 : Int32) (M : dp_M) : D_X12_duty_0 xs xl d v1 v2 M = dp_bi (dp_den true xs xl d 566 [.ref 114, .int v1] M) (fun r2 M1 => if r2 = 0 then (dp_bi (dp_den true xs xl d 366 [.ref 114, .int (1 : Int32)] M1) (fun r4 M3 => some (.inl (some (.long (Int32.toInt64 r4))), M3))) else (dp_bi (dp_den true xs xl d 445 [.int v2] M1) (fun r6 M5 => if r6 = 0 then (dp_bi (dp_den true xs xl d 366 [.ref 114, .int (1 : Int32)] M5) (fun r8 M7 => some (.inl (some (.long (Int32.toInt64 r8))), M7))) else (dp_bl (dp_den true xs xl d 575 [.ref 114, .int v1, .int v2] M5) (fun r10 M9 => if 0 ≤ (lg_cmp r10 (0 : Int64)) then (dp_w (dp_setI M9 114 0 (0 : Int32)) (fun M11 => if 0 ≤ (lg_cmp r10 (0 : Int64)) then (some (.inl (some (.long r10)), M11)) else (some (.inl (some (.long (0 : Int64))), M11)))) else (dp_w (dp_setI M9 114 0 (2 : Int32)) (fun M12 => if 0 ≤ (lg_cmp r10 (0 : Int64)) then (some (.inl (some (.long r10)), M12)) else (some (.inl (some (.long (0 : Int64))), M12))))))))) := by
  have hF := dp_den_grow (md := true) (xs := xs) (xl := xl) d
  unfold D_X12_duty_0
  refine dp_s1 hF (i := .aload_n 0) rfl (fun _ => rfl) ?_
  refine dp_s1 hF (i := .iload_n 1) rfl (fun _ => rfl) ?_
  refine dp_si (mj := dp_m_X12_isDeclaration) (i := .invokevirtual 1029) rfl rfl (Or.inr rfl) rfl (fun _ => rfl) (fun r2 M1 => ?_)
  refine dp_s2 hF (i := .ifCond .eq 10) (a := (15, [some (.ref 114), some (.int v1), some (.int v2), none, none], [], M1)) (b := (8, [some (.ref 114), some (.int v1), some (.int v2), none, none], [], M1)) rfl (fun _ => rfl) ?_ ?_
  · refine dp_s1 hF (i := .aload_n 0) rfl (fun _ => rfl) ?_
    refine dp_s1 hF (i := .iconst 1) rfl (fun _ => rfl) ?_
    refine dp_si (mj := dp_m_X12_refuse) (i := .invokevirtual 460) rfl rfl (Or.inl rfl) rfl (fun _ => rfl) (fun r4 M3 => ?_)
    refine dp_s1 hF (i := .i2l) rfl (fun _ => rfl) ?_
    exact dp_s0 hF (i := .lreturn) rfl (fun _ => rfl)
  refine dp_s1 hF (i := .iload_n 2) rfl (fun _ => rfl) ?_
  refine dp_si (mj := dp_m_X12_isDay) (i := .invokestatic 672) rfl rfl (Or.inr rfl) rfl (fun _ => rfl) (fun r6 M5 => ?_)
  refine dp_s2 hF (i := .ifCond .ne 10) (a := (15, [some (.ref 114), some (.int v1), some (.int v2), none, none], [], M5)) (b := (22, [some (.ref 114), some (.int v1), some (.int v2), none, none], [], M5)) rfl (fun _ => rfl) ?_ ?_
  · refine dp_s1 hF (i := .aload_n 0) rfl (fun _ => rfl) ?_
    refine dp_s1 hF (i := .iconst 1) rfl (fun _ => rfl) ?_
    refine dp_si (mj := dp_m_X12_refuse) (i := .invokevirtual 460) rfl rfl (Or.inl rfl) rfl (fun _ => rfl) (fun r8 M7 => ?_)
    refine dp_s1 hF (i := .i2l) rfl (fun _ => rfl) ?_
    exact dp_s0 hF (i := .lreturn) rfl (fun _ => rfl)
  refine dp_s1 hF (i := .aload_n 0) rfl (fun _ => rfl) ?_
  refine dp_s1 hF (i := .iload_n 1) rfl (fun _ => rfl) ?_
  refine dp_s1 hF (i := .iload_n 2) rfl (fun _ => rfl) ?_
  refine dp_sl9 (mj := dp_m_X12_reckonsDuty) (i := .invokevirtual 1047) rfl rfl rfl rfl (fun _ => rfl) (fun r10 M9 => ?_)
  refine dp_s1 hF (i := .lstore_n 3) rfl (fun _ => rfl) ?_
  refine dp_s1 hF (i := .aload_n 0) rfl (fun _ => rfl) ?_
  refine dp_s1 hF (i := .lload_n 3) rfl (fun _ => rfl) ?_
  refine dp_s1 hF (i := .lconst 0) rfl (fun _ => rfl) ?_
  refine dp_s1 hF (i := .lcmp) rfl (fun _ => rfl) ?_
  refine dp_s2 hF (i := .ifCond .ge 7) (a := (40, [some (.ref 114), some (.int v1), some (.int v2), some (.long r10), none], [.ref 114], M9)) (b := (36, [some (.ref 114), some (.int v1), some (.int v2), some (.long r10), none], [.ref 114], M9)) rfl (fun _ => rfl) ?_ ?_
  · refine dp_s1 hF (i := .iconst 0) rfl (fun _ => rfl) ?_
    refine dp_s1w (dp_setI M9 114 0 (0 : Int32)) (fun (M11 : dp_M) => (44, [some (.ref 114), some (.int v1), some (.int v2), some (.long r10), none], [], M11)) hF (i := .putfield 1) rfl (fun _ => rfl) (fun M11 => ?_)
    refine dp_s1 hF (i := .lload_n 3) rfl (fun _ => rfl) ?_
    refine dp_s1 hF (i := .lconst 0) rfl (fun _ => rfl) ?_
    refine dp_s1 hF (i := .lcmp) rfl (fun _ => rfl) ?_
    refine dp_s2 hF (i := .ifCond .ge 7) (a := (54, [some (.ref 114), some (.int v1), some (.int v2), some (.long r10), none], [], M11)) (b := (50, [some (.ref 114), some (.int v1), some (.int v2), some (.long r10), none], [], M11)) rfl (fun _ => rfl) ?_ ?_
    · refine dp_s1 hF (i := .lload_n 3) rfl (fun _ => rfl) ?_
      exact dp_s0 hF (i := .lreturn) rfl (fun _ => rfl)
    refine dp_s1 hF (i := .lconst 0) rfl (fun _ => rfl) ?_
    refine dp_s1 hF (i := .goto 4) rfl (fun _ => rfl) ?_
    exact dp_s0 hF (i := .lreturn) rfl (fun _ => rfl)
  refine dp_s1 hF (i := .iconst 2) rfl (fun _ => rfl) ?_
  refine dp_s1 hF (i := .goto 4) rfl (fun _ => rfl) ?_
  refine dp_s1w (dp_setI M9 114 0 (2 : Int32)) (fun (M12 : dp_M) => (44, [some (.ref 114), some (.int v1), some (.int v2), some (.long r10), none], [], M12)) hF (i := .putfield 1) rfl (fun _ => rfl) (fun M12 => ?_)
  refine dp_s1 hF (i := .lload_n 3) rfl (fun _ => rfl) ?_
  refine dp_s1 hF (i := .lconst 0) rfl (fun _ => rfl) ?_
  refine dp_s1 hF (i := .lcmp) rfl (fun _ => rfl) ?_
  refine dp_s2 hF (i := .ifCond .ge 7) (a := (54, [some (.ref 114), some (.int v1), some (.int v2), some (.long r10), none], [], M12)) (b := (50, [some (.ref 114), some (.int v1), some (.int v2), some (.long r10), none], [], M12)) rfl (fun _ => rfl) ?_ ?_
  · refine dp_s1 hF (i := .lload_n 3) rfl (fun _ => rfl) ?_
    exact dp_s0 hF (i := .lreturn) rfl (fun _ => rfl)
  refine dp_s1 hF (i := .lconst 0) rfl (fun _ => rfl) ?_
  refine dp_s1 hF (i := .goto 4) rfl (fun _ => rfl) ?_
  exact dp_s0 hF (i := .lreturn) rfl (fun _ => rfl)
noncomputable def D_X12_assess_0 (xs : Nat → Int32) (xl d : Nat) (v1 : Int32) (v2 : Int32) (M : dp_M) : Option dp_Res := dp_lim true xs xl (dp_den true xs xl d) dp_m_X12_assess (0, [some (.ref 114), some (.int v1), some (.int v2), none, none, none, none], [], M)
noncomputable def D_X12_assess_75 (xs : Nat → Int32) (xl d : Nat) (v1 : Int32) (v2 : Int32) (v3 : Int64) (vs0 : Int64) (M : dp_M) : Option dp_Res := dp_lim true xs xl (dp_den true xs xl d) dp_m_X12_assess (75, [some (.ref 114), some (.int v1), some (.int v2), some (.long v3), none, none, none], [.long vs0], M)
theorem D_X12_assess_0_den (xs : Nat → Int32) (xl d : Nat) (a0 : Int32) (a1 : Int32) (M : dp_M) : dp_den true xs xl (d + 1) 577 [.ref 114, .int a0, .int a1] M = D_X12_assess_0 xs xl d a0 a1 M := rfl
set_option maxRecDepth 20000 in
theorem D_X12_assess_0_eq (xs : Nat → Int32) (xl d : Nat) (v1 : Int32) (v2 : Int32) (M : dp_M) : D_X12_assess_0 xs xl d v1 v2 M = dp_bi (dp_den true xs xl d 567 [.ref 114, .int v1, .int (0 : Int32)] M) (fun r2 M1 => if r2 = 0 then (dp_bi (dp_den true xs xl d 366 [.ref 114, .int (1 : Int32)] M1) (fun r4 M3 => some (.inl (some (.long (Int32.toInt64 r4))), M3))) else (dp_bi (dp_den true xs xl d 445 [.int v2] M1) (fun r6 M5 => if r6 = 0 then (dp_bi (dp_den true xs xl d 366 [.ref 114, .int (1 : Int32)] M5) (fun r8 M7 => some (.inl (some (.long (Int32.toInt64 r8))), M7))) else (dp_bl (dp_den true xs xl d 575 [.ref 114, .int v1, .int v2] M5) (fun r10 M9 => if 0 ≤ (lg_cmp r10 (0 : Int64)) then (dp_w (dp_setI M9 114 0 (0 : Int32)) (fun M11 => if (lg_cmp r10 (0 : Int64)) = 0 then (D_X12_assess_75 xs xl d v1 v2 r10 (0 : Int64) M11) else (if v1 < 0 ∨ 400 ≤ Int32.toNatClampNeg v1 then none else (if v1 < 0 ∨ 400 ≤ Int32.toNatClampNeg v1 then none else (dp_bl (dp_den true xs xl d 529 [.ref 114, .int (dp_I M11 235 (Int32.toNatClampNeg v1)), .int (dp_I M11 234 (Int32.toNatClampNeg v1)), .long r10] M11) (fun r13 M12 => D_X12_assess_75 xs xl d v1 v2 r10 r13 M12)))))) else (dp_bi (dp_den true xs xl d 366 [.ref 114, .int (2 : Int32)] M9) (fun r15 M14 => some (.inl (some (.long (Int32.toInt64 r15))), M14)))))))) := by
  have hF := dp_den_grow (md := true) (xs := xs) (xl := xl) d
  unfold D_X12_assess_0
  refine dp_s1 hF (i := .aload_n 0) rfl (fun _ => rfl) ?_
  refine dp_s1 hF (i := .iload_n 1) rfl (fun _ => rfl) ?_
  refine dp_s1 hF (i := .iconst 0) rfl (fun _ => rfl) ?_
  refine dp_si (mj := dp_m_X12_isState) (i := .invokevirtual 1032) rfl rfl (Or.inr rfl) rfl (fun _ => rfl) (fun r2 M1 => ?_)
  refine dp_s2 hF (i := .ifCond .eq 10) (a := (16, [some (.ref 114), some (.int v1), some (.int v2), none, none, none, none], [], M1)) (b := (9, [some (.ref 114), some (.int v1), some (.int v2), none, none, none, none], [], M1)) rfl (fun _ => rfl) ?_ ?_
  · refine dp_s1 hF (i := .aload_n 0) rfl (fun _ => rfl) ?_
    refine dp_s1 hF (i := .iconst 1) rfl (fun _ => rfl) ?_
    refine dp_si (mj := dp_m_X12_refuse) (i := .invokevirtual 460) rfl rfl (Or.inl rfl) rfl (fun _ => rfl) (fun r4 M3 => ?_)
    refine dp_s1 hF (i := .i2l) rfl (fun _ => rfl) ?_
    exact dp_s0 hF (i := .lreturn) rfl (fun _ => rfl)
  refine dp_s1 hF (i := .iload_n 2) rfl (fun _ => rfl) ?_
  refine dp_si (mj := dp_m_X12_isDay) (i := .invokestatic 672) rfl rfl (Or.inr rfl) rfl (fun _ => rfl) (fun r6 M5 => ?_)
  refine dp_s2 hF (i := .ifCond .ne 10) (a := (16, [some (.ref 114), some (.int v1), some (.int v2), none, none, none, none], [], M5)) (b := (23, [some (.ref 114), some (.int v1), some (.int v2), none, none, none, none], [], M5)) rfl (fun _ => rfl) ?_ ?_
  · refine dp_s1 hF (i := .aload_n 0) rfl (fun _ => rfl) ?_
    refine dp_s1 hF (i := .iconst 1) rfl (fun _ => rfl) ?_
    refine dp_si (mj := dp_m_X12_refuse) (i := .invokevirtual 460) rfl rfl (Or.inl rfl) rfl (fun _ => rfl) (fun r8 M7 => ?_)
    refine dp_s1 hF (i := .i2l) rfl (fun _ => rfl) ?_
    exact dp_s0 hF (i := .lreturn) rfl (fun _ => rfl)
  refine dp_s1 hF (i := .aload_n 0) rfl (fun _ => rfl) ?_
  refine dp_s1 hF (i := .iload_n 1) rfl (fun _ => rfl) ?_
  refine dp_s1 hF (i := .iload_n 2) rfl (fun _ => rfl) ?_
  refine dp_sl9 (mj := dp_m_X12_reckonsDuty) (i := .invokevirtual 1047) rfl rfl rfl rfl (fun _ => rfl) (fun r10 M9 => ?_)
  refine dp_s1 hF (i := .lstore_n 3) rfl (fun _ => rfl) ?_
  refine dp_s1 hF (i := .lload_n 3) rfl (fun _ => rfl) ?_
  refine dp_s1 hF (i := .lconst 0) rfl (fun _ => rfl) ?_
  refine dp_s1 hF (i := .lcmp) rfl (fun _ => rfl) ?_
  refine dp_s2 hF (i := .ifCond .ge 10) (a := (43, [some (.ref 114), some (.int v1), some (.int v2), some (.long r10), none, none, none], [], M9)) (b := (36, [some (.ref 114), some (.int v1), some (.int v2), some (.long r10), none, none, none], [], M9)) rfl (fun _ => rfl) ?_ ?_
  · refine dp_s1 hF (i := .aload_n 0) rfl (fun _ => rfl) ?_
    refine dp_s1 hF (i := .iconst 0) rfl (fun _ => rfl) ?_
    refine dp_s1w (dp_setI M9 114 0 (0 : Int32)) (fun (M11 : dp_M) => (48, [some (.ref 114), some (.int v1), some (.int v2), some (.long r10), none, none, none], [], M11)) hF (i := .putfield 1) rfl (fun _ => rfl) (fun M11 => ?_)
    refine dp_s1 hF (i := .lload_n 3) rfl (fun _ => rfl) ?_
    refine dp_s1 hF (i := .lconst 0) rfl (fun _ => rfl) ?_
    refine dp_s1 hF (i := .lcmp) rfl (fun _ => rfl) ?_
    refine dp_s2 hF (i := .ifCond .ne 7) (a := (54, [some (.ref 114), some (.int v1), some (.int v2), some (.long r10), none, none, none], [], M11)) (b := (58, [some (.ref 114), some (.int v1), some (.int v2), some (.long r10), none, none, none], [], M11)) rfl (fun _ => rfl) ?_ ?_
    · refine dp_s1 hF (i := .lconst 0) rfl (fun _ => rfl) ?_
      refine dp_s1 hF (i := .goto 20) rfl (fun _ => rfl) ?_
      exact rfl
    refine dp_s1 hF (i := .aload_n 0) rfl (fun _ => rfl) ?_
    refine dp_s1 hF (i := .aload_n 0) rfl (fun _ => rfl) ?_
    refine dp_s1 hF (i := .getfield 386) rfl (fun _ => rfl) ?_
    refine dp_s1 hF (i := .iload_n 1) rfl (fun _ => rfl) ?_
    refine dp_s3 hF (i := .iaload) rfl (fun _ => rfl) ?_
    refine dp_s1 hF (i := .aload_n 0) rfl (fun _ => rfl) ?_
    refine dp_s1 hF (i := .getfield 383) rfl (fun _ => rfl) ?_
    refine dp_s1 hF (i := .iload_n 1) rfl (fun _ => rfl) ?_
    refine dp_s3 hF (i := .iaload) rfl (fun _ => rfl) ?_
    refine dp_s1 hF (i := .lload_n 3) rfl (fun _ => rfl) ?_
    refine dp_sl9 (mj := dp_m_X12_reservesAt) (i := .invokevirtual 1050) rfl rfl rfl rfl (fun _ => rfl) (fun r13 M12 => ?_)
    exact rfl
  refine dp_s1 hF (i := .aload_n 0) rfl (fun _ => rfl) ?_
  refine dp_s1 hF (i := .iconst 2) rfl (fun _ => rfl) ?_
  refine dp_si (mj := dp_m_X12_refuse) (i := .invokevirtual 460) rfl rfl (Or.inl rfl) rfl (fun _ => rfl) (fun r15 M14 => ?_)
  refine dp_s1 hF (i := .i2l) rfl (fun _ => rfl) ?_
  exact dp_s0 hF (i := .lreturn) rfl (fun _ => rfl)
set_option maxRecDepth 20000 in
theorem D_X12_assess_75_eq (xs : Nat → Int32) (xl d : Nat) (v1 : Int32) (v2 : Int32) (v3 : Int64) (vs0 : Int64) (M : dp_M) : D_X12_assess_75 xs xl d v1 v2 v3 vs0 M = if 0 ≤ (lg_cmp vs0 (0 : Int64)) then (if v1 < 0 ∨ 400 ≤ Int32.toNatClampNeg v1 then none else dp_w (dp_setI M 243 (Int32.toNatClampNeg v1) (Int64.toInt32 vs0)) (fun M1 => if v1 < 0 ∨ 400 ≤ Int32.toNatClampNeg v1 then none else dp_w (dp_setJ M1 242 (Int32.toNatClampNeg v1) v3) (fun M2 => if v1 < 0 ∨ 400 ≤ Int32.toNatClampNeg v1 then none else dp_w (dp_setI M2 241 (Int32.toNatClampNeg v1) (1 : Int32)) (fun M3 => some (.inl (some (.long v3)), M3))))) else (some (.inl (some (.long vs0)), M)) := by
  have hF := dp_den_grow (md := true) (xs := xs) (xl := xl) d
  unfold D_X12_assess_75
  refine dp_s1 hF (i := .lstore 5) rfl (fun _ => rfl) ?_
  refine dp_s1 hF (i := .lload 5) rfl (fun _ => rfl) ?_
  refine dp_s1 hF (i := .lconst 0) rfl (fun _ => rfl) ?_
  refine dp_s1 hF (i := .lcmp) rfl (fun _ => rfl) ?_
  refine dp_s2 hF (i := .ifCond .ge 6) (a := (87, [some (.ref 114), some (.int v1), some (.int v2), some (.long v3), none, some (.long vs0), none], [], M)) (b := (84, [some (.ref 114), some (.int v1), some (.int v2), some (.long v3), none, some (.long vs0), none], [], M)) rfl (fun _ => rfl) ?_ ?_
  · refine dp_s1 hF (i := .aload_n 0) rfl (fun _ => rfl) ?_
    refine dp_s1 hF (i := .getfield 410) rfl (fun _ => rfl) ?_
    refine dp_s1 hF (i := .iload_n 1) rfl (fun _ => rfl) ?_
    refine dp_s1 hF (i := .lload 5) rfl (fun _ => rfl) ?_
    refine dp_s1 hF (i := .l2i) rfl (fun _ => rfl) ?_
    refine dp_s3w (dp_setI M 243 (Int32.toNatClampNeg v1) (Int64.toInt32 vs0)) (fun (M1 : dp_M) => (96, [some (.ref 114), some (.int v1), some (.int v2), some (.long v3), none, some (.long vs0), none], [], M1)) hF (i := .iastore) rfl (fun _ => rfl) (fun M1 => ?_)
    refine dp_s1 hF (i := .aload_n 0) rfl (fun _ => rfl) ?_
    refine dp_s1 hF (i := .getfield 407) rfl (fun _ => rfl) ?_
    refine dp_s1 hF (i := .iload_n 1) rfl (fun _ => rfl) ?_
    refine dp_s1 hF (i := .lload_n 3) rfl (fun _ => rfl) ?_
    refine dp_s3w (dp_setJ M1 242 (Int32.toNatClampNeg v1) v3) (fun (M2 : dp_M) => (103, [some (.ref 114), some (.int v1), some (.int v2), some (.long v3), none, some (.long vs0), none], [], M2)) hF (i := .lastore) rfl (fun _ => rfl) (fun M2 => ?_)
    refine dp_s1 hF (i := .aload_n 0) rfl (fun _ => rfl) ?_
    refine dp_s1 hF (i := .getfield 404) rfl (fun _ => rfl) ?_
    refine dp_s1 hF (i := .iload_n 1) rfl (fun _ => rfl) ?_
    refine dp_s1 hF (i := .iconst 1) rfl (fun _ => rfl) ?_
    refine dp_s3w (dp_setI M2 241 (Int32.toNatClampNeg v1) (1 : Int32)) (fun (M3 : dp_M) => (110, [some (.ref 114), some (.int v1), some (.int v2), some (.long v3), none, some (.long vs0), none], [], M3)) hF (i := .iastore) rfl (fun _ => rfl) (fun M3 => ?_)
    refine dp_s1 hF (i := .lload_n 3) rfl (fun _ => rfl) ?_
    exact dp_s0 hF (i := .lreturn) rfl (fun _ => rfl)
  refine dp_s1 hF (i := .lload 5) rfl (fun _ => rfl) ?_
  exact dp_s0 hF (i := .lreturn) rfl (fun _ => rfl)
noncomputable def D_X12_beginsFor_0 (xs : Nat → Int32) (xl d : Nat) (v1 : Int32) (v2 : Int32) (M : dp_M) : Option dp_Res := dp_lim true xs xl (dp_den true xs xl d) dp_m_X12_beginsFor (0, [some (.ref 114), some (.int v1), some (.int v2), none], [], M)
noncomputable def D_X12_beginsFor_15 (xs : Nat → Int32) (xl d : Nat) (v1 : Int32) (v2 : Int32) (vs0 : Int32) (M : dp_M) : Option dp_Res := dp_lim true xs xl (dp_den true xs xl d) dp_m_X12_beginsFor (15, [some (.ref 114), some (.int v1), some (.int v2), none], [.int vs0], M)
theorem D_X12_beginsFor_0_den (xs : Nat → Int32) (xl d : Nat) (a0 : Int32) (a1 : Int32) (M : dp_M) : dp_den true xs xl (d + 1) 578 [.ref 114, .int a0, .int a1] M = D_X12_beginsFor_0 xs xl d a0 a1 M := rfl
set_option maxRecDepth 20000 in
theorem D_X12_beginsFor_0_eq (xs : Nat → Int32) (xl d : Nat) (v1 : Int32) (v2 : Int32) (M : dp_M) : D_X12_beginsFor_0 xs xl d v1 v2 M = if (800 : Int32) ≤ (dp_I M 114 141) then (D_X12_beginsFor_15 xs xl d v1 v2 (0 : Int32) M) else (D_X12_beginsFor_15 xs xl d v1 v2 (1 : Int32) M) := by
  have hF := dp_den_grow (md := true) (xs := xs) (xl := xl) d
  unfold D_X12_beginsFor_0
  refine dp_s1 hF (i := .aload_n 0) rfl (fun _ => rfl) ?_
  refine dp_s1 hF (i := .getfield 966) rfl (fun _ => rfl) ?_
  refine dp_s1 hF (i := .sipush 800) rfl (fun _ => rfl) ?_
  refine dp_s2 hF (i := .if_icmp .ge 7) (a := (14, [some (.ref 114), some (.int v1), some (.int v2), none], [], M)) (b := (10, [some (.ref 114), some (.int v1), some (.int v2), none], [], M)) rfl (fun _ => rfl) ?_ ?_
  · refine dp_s1 hF (i := .iconst 0) rfl (fun _ => rfl) ?_
    exact rfl
  refine dp_s1 hF (i := .iconst 1) rfl (fun _ => rfl) ?_
  refine dp_s1 hF (i := .goto 4) rfl (fun _ => rfl) ?_
  exact rfl
set_option maxRecDepth 20000 in
theorem D_X12_beginsFor_15_eq (xs : Nat → Int32) (xl d : Nat) (v1 : Int32) (v2 : Int32) (vs0 : Int32) (M : dp_M) : D_X12_beginsFor_15 xs xl d v1 v2 vs0 M = if vs0 = 0 then (if vs0 = 0 ∨ vs0 = 1 then some (.inl (some (.int vs0)), M) else none) else (if v1 < 0 ∨ 400 ≤ Int32.toNatClampNeg v1 then none else (dp_bv (dp_den true xs xl d 544 [.ref 114, .int (dp_I M 114 141), .int (dp_I M 238 (Int32.toNatClampNeg v1)), .int v2] M) (fun M1 => if vs0 = 0 ∨ vs0 = 1 then some (.inl (some (.int vs0)), M1) else none))) := by
  have hF := dp_den_grow (md := true) (xs := xs) (xl := xl) d
  unfold D_X12_beginsFor_15
  refine dp_s1 hF (i := .istore_n 3) rfl (fun _ => rfl) ?_
  refine dp_s1 hF (i := .iload_n 3) rfl (fun _ => rfl) ?_
  refine dp_s2 hF (i := .ifCond .eq 18) (a := (35, [some (.ref 114), some (.int v1), some (.int v2), some (.int vs0)], [], M)) (b := (20, [some (.ref 114), some (.int v1), some (.int v2), some (.int vs0)], [], M)) rfl (fun _ => rfl) ?_ ?_
  · refine dp_s1 hF (i := .iload_n 3) rfl (fun _ => rfl) ?_
    exact dp_s0 hF (i := .ireturn) rfl (fun _ => rfl)
  refine dp_s1 hF (i := .aload_n 0) rfl (fun _ => rfl) ?_
  refine dp_s1 hF (i := .aload_n 0) rfl (fun _ => rfl) ?_
  refine dp_s1 hF (i := .getfield 966) rfl (fun _ => rfl) ?_
  refine dp_s1 hF (i := .aload_n 0) rfl (fun _ => rfl) ?_
  refine dp_s1 hF (i := .getfield 395) rfl (fun _ => rfl) ?_
  refine dp_s1 hF (i := .iload_n 1) rfl (fun _ => rfl) ?_
  refine dp_s3 hF (i := .iaload) rfl (fun _ => rfl) ?_
  refine dp_s1 hF (i := .iload_n 2) rfl (fun _ => rfl) ?_
  refine dp_sv (mj := dp_m_X12_beginsBatch) (i := .invokevirtual 972) rfl rfl rfl rfl (fun _ => rfl) (fun M1 => ?_)
  refine dp_s1 hF (i := .iload_n 3) rfl (fun _ => rfl) ?_
  exact dp_s0 hF (i := .ireturn) rfl (fun _ => rfl)
noncomputable def D_X12_postsFor_0 (xs : Nat → Int32) (xl d : Nat) (v1 : Int32) (M : dp_M) : Option dp_Res := dp_lim true xs xl (dp_den true xs xl d) dp_m_X12_postsFor (0, [some (.ref 114), some (.int v1)], [], M)
theorem D_X12_postsFor_0_den (xs : Nat → Int32) (xl d : Nat) (a0 : Int32) (M : dp_M) : dp_den true xs xl (d + 1) 579 [.ref 114, .int a0] M = D_X12_postsFor_0 xs xl d a0 M := rfl
set_option maxRecDepth 20000 in
theorem D_X12_postsFor_0_eq (xs : Nat → Int32) (xl d : Nat) (v1 : Int32) (M : dp_M) : D_X12_postsFor_0 xs xl d v1 M = dp_bi (dp_den true xs xl d 550 [.ref 114, .int (dp_I M 114 141)] M) (fun r2 M1 => if r2 ≤ 0 then (dp_bv (dp_den true xs xl d 551 [.ref 114, .int (dp_I M1 114 141)] M1) (fun M3 => if v1 < 0 ∨ 400 ≤ Int32.toNatClampNeg v1 then none else dp_w (dp_setI M3 244 (Int32.toNatClampNeg v1) (dp_I M3 114 141)) (fun M4 => dp_w (dp_setI M4 114 141 ((dp_I M4 114 141) + (1 : Int32))) (fun M5 => some (.inl (some (.int (1 : Int32))), M5))))) else (some (.inl (some (.int (0 : Int32))), M1))) := by
  have hF := dp_den_grow (md := true) (xs := xs) (xl := xl) d
  unfold D_X12_postsFor_0
  refine dp_s1 hF (i := .aload_n 0) rfl (fun _ => rfl) ?_
  refine dp_s1 hF (i := .aload_n 0) rfl (fun _ => rfl) ?_
  refine dp_s1 hF (i := .getfield 966) rfl (fun _ => rfl) ?_
  refine dp_si (mj := dp_m_X12_wrongWith) (i := .invokevirtual 995) rfl rfl (Or.inl rfl) rfl (fun _ => rfl) (fun r2 M1 => ?_)
  refine dp_s2 hF (i := .ifCond .le 5) (a := (13, [some (.ref 114), some (.int v1)], [], M1)) (b := (11, [some (.ref 114), some (.int v1)], [], M1)) rfl (fun _ => rfl) ?_ ?_
  · refine dp_s1 hF (i := .aload_n 0) rfl (fun _ => rfl) ?_
    refine dp_s1 hF (i := .aload_n 0) rfl (fun _ => rfl) ?_
    refine dp_s1 hF (i := .getfield 966) rfl (fun _ => rfl) ?_
    refine dp_sv (mj := dp_m_X12_posts) (i := .invokevirtual 1007) rfl rfl rfl rfl (fun _ => rfl) (fun M3 => ?_)
    refine dp_s1 hF (i := .aload_n 0) rfl (fun _ => rfl) ?_
    refine dp_s1 hF (i := .getfield 413) rfl (fun _ => rfl) ?_
    refine dp_s1 hF (i := .iload_n 1) rfl (fun _ => rfl) ?_
    refine dp_s1 hF (i := .aload_n 0) rfl (fun _ => rfl) ?_
    refine dp_s1 hF (i := .getfield 966) rfl (fun _ => rfl) ?_
    refine dp_s3w (dp_setI M3 244 (Int32.toNatClampNeg v1) (dp_I M3 114 141)) (fun (M4 : dp_M) => (31, [some (.ref 114), some (.int v1)], [], M4)) hF (i := .iastore) rfl (fun _ => rfl) (fun M4 => ?_)
    refine dp_s1 hF (i := .aload_n 0) rfl (fun _ => rfl) ?_
    refine dp_s1 hF (i := .dup) rfl (fun _ => rfl) ?_
    refine dp_s1 hF (i := .getfield 966) rfl (fun _ => rfl) ?_
    refine dp_s1 hF (i := .iconst 1) rfl (fun _ => rfl) ?_
    refine dp_s1 hF (i := .iadd) rfl (fun _ => rfl) ?_
    refine dp_s1w (dp_setI M4 114 141 ((dp_I M4 114 141) + (1 : Int32))) (fun (M5 : dp_M) => (41, [some (.ref 114), some (.int v1)], [], M5)) hF (i := .putfield 966) rfl (fun _ => rfl) (fun M5 => ?_)
    refine dp_s1 hF (i := .iconst 1) rfl (fun _ => rfl) ?_
    exact dp_s0 hF (i := .ireturn) rfl (fun _ => rfl)
  refine dp_s1 hF (i := .iconst 0) rfl (fun _ => rfl) ?_
  exact dp_s0 hF (i := .ireturn) rfl (fun _ => rfl)
noncomputable def D_X12_pay_0 (xs : Nat → Int32) (xl d : Nat) (v1 : Int32) (v2 : Int32) (M : dp_M) : Option dp_Res := dp_lim true xs xl (dp_den true xs xl d) dp_m_X12_pay (0, [some (.ref 114), some (.int v1), some (.int v2)], [], M)
theorem D_X12_pay_0_den (xs : Nat → Int32) (xl d : Nat) (a0 : Int32) (a1 : Int32) (M : dp_M) : dp_den true xs xl (d + 1) 580 [.ref 114, .int a0, .int a1] M = D_X12_pay_0 xs xl d a0 a1 M := rfl
set_option maxRecDepth 20000 in
theorem D_X12_pay_0_eq (xs : Nat → Int32) (xl d : Nat) (v1 : Int32) (v2 : Int32) (M : dp_M) : D_X12_pay_0 xs xl d v1 v2 M = dp_bi (dp_den true xs xl d 567 [.ref 114, .int v1, .int (1 : Int32)] M) (fun r2 M1 => if r2 = 0 then (dp_bi (dp_den true xs xl d 366 [.ref 114, .int (1 : Int32)] M1) (fun r4 M3 => some (.inl (some (.int r4)), M3))) else (dp_bi (dp_den true xs xl d 540 [.int v2] M1) (fun r6 M5 => if r6 = 0 then (dp_bi (dp_den true xs xl d 366 [.ref 114, .int (1 : Int32)] M5) (fun r8 M7 => some (.inl (some (.int r8)), M7))) else (if v1 < 0 ∨ 400 ≤ Int32.toNatClampNeg v1 then none else (if (lg_cmp (dp_J M5 242 (Int32.toNatClampNeg v1)) (0 : Int64)) ≤ 0 then (dp_w (dp_setI M5 114 0 (0 : Int32)) (fun M9 => if v1 < 0 ∨ 400 ≤ Int32.toNatClampNeg v1 then none else dp_w (dp_setI M9 241 (Int32.toNatClampNeg v1) (2 : Int32)) (fun M10 => if v1 < 0 ∨ 400 ≤ Int32.toNatClampNeg v1 then none else (some (.inl (some (.int (dp_I M10 244 (Int32.toNatClampNeg v1)))), M10))))) else (dp_bi (dp_den true xs xl d 578 [.ref 114, .int v1, .int v2] M5) (fun r12 M11 => if r12 = 0 then (dp_bi (dp_den true xs xl d 366 [.ref 114, .int (2 : Int32)] M11) (fun r14 M13 => some (.inl (some (.int r14)), M13))) else (if v1 < 0 ∨ 400 ≤ Int32.toNatClampNeg v1 then none else (if v1 < 0 ∨ 400 ≤ Int32.toNatClampNeg v1 then none else (dp_bv (dp_den true xs xl d 545 [.ref 114, .int (dp_I M11 114 141), .int (dp_I M11 234 (Int32.toNatClampNeg v1)), .long (-(dp_J M11 242 (Int32.toNatClampNeg v1)))] M11) (fun M15 => if v1 < 0 ∨ 400 ≤ Int32.toNatClampNeg v1 then none else (dp_bv (dp_den true xs xl d 545 [.ref 114, .int (dp_I M15 114 141), .int (8 : Int32), .long (dp_J M15 242 (Int32.toNatClampNeg v1))] M15) (fun M16 => dp_bi (dp_den true xs xl d 579 [.ref 114, .int v1] M16) (fun r18 M17 => if r18 = 0 then (dp_bi (dp_den true xs xl d 366 [.ref 114, .int (2 : Int32)] M17) (fun r20 M19 => some (.inl (some (.int r20)), M19))) else (if v1 < 0 ∨ 400 ≤ Int32.toNatClampNeg v1 then none else (dp_bv (dp_den true xs xl d 530 [.ref 114, .int (dp_I M17 243 (Int32.toNatClampNeg v1)), .int (2 : Int32)] M17) (fun M21 => dp_w (dp_setI M21 114 0 (0 : Int32)) (fun M22 => if v1 < 0 ∨ 400 ≤ Int32.toNatClampNeg v1 then none else dp_w (dp_setI M22 241 (Int32.toNatClampNeg v1) (2 : Int32)) (fun M23 => if v1 < 0 ∨ 400 ≤ Int32.toNatClampNeg v1 then none else (some (.inl (some (.int (dp_I M23 244 (Int32.toNatClampNeg v1)))), M23))))))))))))))))))))) := by
  have hF := dp_den_grow (md := true) (xs := xs) (xl := xl) d
  unfold D_X12_pay_0
  refine dp_s1 hF (i := .aload_n 0) rfl (fun _ => rfl) ?_
  refine dp_s1 hF (i := .iload_n 1) rfl (fun _ => rfl) ?_
  refine dp_s1 hF (i := .iconst 1) rfl (fun _ => rfl) ?_
  refine dp_si (mj := dp_m_X12_isState) (i := .invokevirtual 1032) rfl rfl (Or.inr rfl) rfl (fun _ => rfl) (fun r2 M1 => ?_)
  refine dp_s2 hF (i := .ifCond .eq 10) (a := (16, [some (.ref 114), some (.int v1), some (.int v2)], [], M1)) (b := (9, [some (.ref 114), some (.int v1), some (.int v2)], [], M1)) rfl (fun _ => rfl) ?_ ?_
  · refine dp_s1 hF (i := .aload_n 0) rfl (fun _ => rfl) ?_
    refine dp_s1 hF (i := .iconst 1) rfl (fun _ => rfl) ?_
    refine dp_si (mj := dp_m_X12_refuse) (i := .invokevirtual 460) rfl rfl (Or.inl rfl) rfl (fun _ => rfl) (fun r4 M3 => ?_)
    exact dp_s0 hF (i := .ireturn) rfl (fun _ => rfl)
  refine dp_s1 hF (i := .iload_n 2) rfl (fun _ => rfl) ?_
  refine dp_si (mj := dp_m_X12_isLedgerDay) (i := .invokestatic 969) rfl rfl (Or.inr rfl) rfl (fun _ => rfl) (fun r6 M5 => ?_)
  refine dp_s2 hF (i := .ifCond .ne 9) (a := (16, [some (.ref 114), some (.int v1), some (.int v2)], [], M5)) (b := (22, [some (.ref 114), some (.int v1), some (.int v2)], [], M5)) rfl (fun _ => rfl) ?_ ?_
  · refine dp_s1 hF (i := .aload_n 0) rfl (fun _ => rfl) ?_
    refine dp_s1 hF (i := .iconst 1) rfl (fun _ => rfl) ?_
    refine dp_si (mj := dp_m_X12_refuse) (i := .invokevirtual 460) rfl rfl (Or.inl rfl) rfl (fun _ => rfl) (fun r8 M7 => ?_)
    exact dp_s0 hF (i := .ireturn) rfl (fun _ => rfl)
  refine dp_s1 hF (i := .aload_n 0) rfl (fun _ => rfl) ?_
  refine dp_s1 hF (i := .getfield 407) rfl (fun _ => rfl) ?_
  refine dp_s1 hF (i := .iload_n 1) rfl (fun _ => rfl) ?_
  refine dp_s3 hF (i := .laload) rfl (fun _ => rfl) ?_
  refine dp_s1 hF (i := .lconst 0) rfl (fun _ => rfl) ?_
  refine dp_s1 hF (i := .lcmp) rfl (fun _ => rfl) ?_
  refine dp_s2 hF (i := .ifCond .le 80) (a := (110, [some (.ref 114), some (.int v1), some (.int v2)], [], M5)) (b := (33, [some (.ref 114), some (.int v1), some (.int v2)], [], M5)) rfl (fun _ => rfl) ?_ ?_
  · refine dp_s1 hF (i := .aload_n 0) rfl (fun _ => rfl) ?_
    refine dp_s1 hF (i := .iconst 0) rfl (fun _ => rfl) ?_
    refine dp_s1w (dp_setI M5 114 0 (0 : Int32)) (fun (M9 : dp_M) => (115, [some (.ref 114), some (.int v1), some (.int v2)], [], M9)) hF (i := .putfield 1) rfl (fun _ => rfl) (fun M9 => ?_)
    refine dp_s1 hF (i := .aload_n 0) rfl (fun _ => rfl) ?_
    refine dp_s1 hF (i := .getfield 404) rfl (fun _ => rfl) ?_
    refine dp_s1 hF (i := .iload_n 1) rfl (fun _ => rfl) ?_
    refine dp_s1 hF (i := .iconst 2) rfl (fun _ => rfl) ?_
    refine dp_s3w (dp_setI M9 241 (Int32.toNatClampNeg v1) (2 : Int32)) (fun (M10 : dp_M) => (122, [some (.ref 114), some (.int v1), some (.int v2)], [], M10)) hF (i := .iastore) rfl (fun _ => rfl) (fun M10 => ?_)
    refine dp_s1 hF (i := .aload_n 0) rfl (fun _ => rfl) ?_
    refine dp_s1 hF (i := .getfield 413) rfl (fun _ => rfl) ?_
    refine dp_s1 hF (i := .iload_n 1) rfl (fun _ => rfl) ?_
    refine dp_s3 hF (i := .iaload) rfl (fun _ => rfl) ?_
    exact dp_s0 hF (i := .ireturn) rfl (fun _ => rfl)
  refine dp_s1 hF (i := .aload_n 0) rfl (fun _ => rfl) ?_
  refine dp_s1 hF (i := .iload_n 1) rfl (fun _ => rfl) ?_
  refine dp_s1 hF (i := .iload_n 2) rfl (fun _ => rfl) ?_
  refine dp_si (mj := dp_m_X12_beginsFor) (i := .invokevirtual 1053) rfl rfl (Or.inr rfl) rfl (fun _ => rfl) (fun r12 M11 => ?_)
  refine dp_s2 hF (i := .ifCond .ne 9) (a := (42, [some (.ref 114), some (.int v1), some (.int v2)], [], M11)) (b := (48, [some (.ref 114), some (.int v1), some (.int v2)], [], M11)) rfl (fun _ => rfl) ?_ ?_
  · refine dp_s1 hF (i := .aload_n 0) rfl (fun _ => rfl) ?_
    refine dp_s1 hF (i := .iconst 2) rfl (fun _ => rfl) ?_
    refine dp_si (mj := dp_m_X12_refuse) (i := .invokevirtual 460) rfl rfl (Or.inl rfl) rfl (fun _ => rfl) (fun r14 M13 => ?_)
    exact dp_s0 hF (i := .ireturn) rfl (fun _ => rfl)
  refine dp_s1 hF (i := .aload_n 0) rfl (fun _ => rfl) ?_
  refine dp_s1 hF (i := .aload_n 0) rfl (fun _ => rfl) ?_
  refine dp_s1 hF (i := .getfield 966) rfl (fun _ => rfl) ?_
  refine dp_s1 hF (i := .aload_n 0) rfl (fun _ => rfl) ?_
  refine dp_s1 hF (i := .getfield 383) rfl (fun _ => rfl) ?_
  refine dp_s1 hF (i := .iload_n 1) rfl (fun _ => rfl) ?_
  refine dp_s3 hF (i := .iaload) rfl (fun _ => rfl) ?_
  refine dp_s1 hF (i := .aload_n 0) rfl (fun _ => rfl) ?_
  refine dp_s1 hF (i := .getfield 407) rfl (fun _ => rfl) ?_
  refine dp_s1 hF (i := .iload_n 1) rfl (fun _ => rfl) ?_
  refine dp_s3 hF (i := .laload) rfl (fun _ => rfl) ?_
  refine dp_s1 hF (i := .lneg) rfl (fun _ => rfl) ?_
  refine dp_sv (mj := dp_m_X12_enters) (i := .invokevirtual 984) rfl rfl rfl rfl (fun _ => rfl) (fun M15 => ?_)
  refine dp_s1 hF (i := .aload_n 0) rfl (fun _ => rfl) ?_
  refine dp_s1 hF (i := .aload_n 0) rfl (fun _ => rfl) ?_
  refine dp_s1 hF (i := .getfield 966) rfl (fun _ => rfl) ?_
  refine dp_s1 hF (i := .bipush 8) rfl (fun _ => rfl) ?_
  refine dp_s1 hF (i := .aload_n 0) rfl (fun _ => rfl) ?_
  refine dp_s1 hF (i := .getfield 407) rfl (fun _ => rfl) ?_
  refine dp_s1 hF (i := .iload_n 1) rfl (fun _ => rfl) ?_
  refine dp_s3 hF (i := .laload) rfl (fun _ => rfl) ?_
  refine dp_sv (mj := dp_m_X12_enters) (i := .invokevirtual 984) rfl rfl rfl rfl (fun _ => rfl) (fun M16 => ?_)
  refine dp_s1 hF (i := .aload_n 0) rfl (fun _ => rfl) ?_
  refine dp_s1 hF (i := .iload_n 1) rfl (fun _ => rfl) ?_
  refine dp_si (mj := dp_m_X12_postsFor) (i := .invokevirtual 1056) rfl rfl (Or.inr rfl) rfl (fun _ => rfl) (fun r18 M17 => ?_)
  refine dp_s2 hF (i := .ifCond .ne 9) (a := (93, [some (.ref 114), some (.int v1), some (.int v2)], [], M17)) (b := (99, [some (.ref 114), some (.int v1), some (.int v2)], [], M17)) rfl (fun _ => rfl) ?_ ?_
  · refine dp_s1 hF (i := .aload_n 0) rfl (fun _ => rfl) ?_
    refine dp_s1 hF (i := .iconst 2) rfl (fun _ => rfl) ?_
    refine dp_si (mj := dp_m_X12_refuse) (i := .invokevirtual 460) rfl rfl (Or.inl rfl) rfl (fun _ => rfl) (fun r20 M19 => ?_)
    exact dp_s0 hF (i := .ireturn) rfl (fun _ => rfl)
  refine dp_s1 hF (i := .aload_n 0) rfl (fun _ => rfl) ?_
  refine dp_s1 hF (i := .aload_n 0) rfl (fun _ => rfl) ?_
  refine dp_s1 hF (i := .getfield 410) rfl (fun _ => rfl) ?_
  refine dp_s1 hF (i := .iload_n 1) rfl (fun _ => rfl) ?_
  refine dp_s3 hF (i := .iaload) rfl (fun _ => rfl) ?_
  refine dp_s1 hF (i := .iconst 2) rfl (fun _ => rfl) ?_
  refine dp_sv (mj := dp_m_X12_endsAs) (i := .invokevirtual 961) rfl rfl rfl rfl (fun _ => rfl) (fun M21 => ?_)
  refine dp_s1 hF (i := .aload_n 0) rfl (fun _ => rfl) ?_
  refine dp_s1 hF (i := .iconst 0) rfl (fun _ => rfl) ?_
  refine dp_s1w (dp_setI M21 114 0 (0 : Int32)) (fun (M22 : dp_M) => (115, [some (.ref 114), some (.int v1), some (.int v2)], [], M22)) hF (i := .putfield 1) rfl (fun _ => rfl) (fun M22 => ?_)
  refine dp_s1 hF (i := .aload_n 0) rfl (fun _ => rfl) ?_
  refine dp_s1 hF (i := .getfield 404) rfl (fun _ => rfl) ?_
  refine dp_s1 hF (i := .iload_n 1) rfl (fun _ => rfl) ?_
  refine dp_s1 hF (i := .iconst 2) rfl (fun _ => rfl) ?_
  refine dp_s3w (dp_setI M22 241 (Int32.toNatClampNeg v1) (2 : Int32)) (fun (M23 : dp_M) => (122, [some (.ref 114), some (.int v1), some (.int v2)], [], M23)) hF (i := .iastore) rfl (fun _ => rfl) (fun M23 => ?_)
  refine dp_s1 hF (i := .aload_n 0) rfl (fun _ => rfl) ?_
  refine dp_s1 hF (i := .getfield 413) rfl (fun _ => rfl) ?_
  refine dp_s1 hF (i := .iload_n 1) rfl (fun _ => rfl) ?_
  refine dp_s3 hF (i := .iaload) rfl (fun _ => rfl) ?_
  exact dp_s0 hF (i := .ireturn) rfl (fun _ => rfl)
noncomputable def D_X12_claim_0 (xs : Nat → Int32) (xl d : Nat) (v1 : Int32) (v2 : Int32) (M : dp_M) : Option dp_Res := dp_lim true xs xl (dp_den true xs xl d) dp_m_X12_claim (0, [some (.ref 114), some (.int v1), some (.int v2), none, none], [], M)
noncomputable def D_X12_claim_26 (xs : Nat → Int32) (xl d : Nat) (v1 : Int32) (v2 : Int32) (vs0 : Int32) (M : dp_M) : Option dp_Res := dp_lim true xs xl (dp_den true xs xl d) dp_m_X12_claim (26, [some (.ref 114), some (.int v1), some (.int v2), none, none], [.int vs0, .ref 242], M)
theorem D_X12_claim_0_den (xs : Nat → Int32) (xl d : Nat) (a0 : Int32) (a1 : Int32) (M : dp_M) : dp_den true xs xl (d + 1) 581 [.ref 114, .int a0, .int a1] M = D_X12_claim_0 xs xl d a0 a1 M := rfl
set_option maxRecDepth 20000 in
theorem D_X12_claim_0_eq (xs : Nat → Int32) (xl d : Nat) (v1 : Int32) (v2 : Int32) (M : dp_M) : D_X12_claim_0 xs xl d v1 v2 M = dp_bi (dp_den true xs xl d 567 [.ref 114, .int v1, .int (1 : Int32)] M) (fun r2 M1 => if r2 = 0 then (dp_bi (dp_den true xs xl d 366 [.ref 114, .int (1 : Int32)] M1) (fun r4 M3 => some (.inl (some (.long (Int32.toInt64 r4))), M3))) else (dp_bi (dp_den true xs xl d 566 [.ref 114, .int v1] M1) (fun r6 M5 => if r6 = 0 then (D_X12_claim_26 xs xl d v1 v2 (0 : Int32) M5) else (D_X12_claim_26 xs xl d v1 v2 v1 M5)))) := by
  have hF := dp_den_grow (md := true) (xs := xs) (xl := xl) d
  unfold D_X12_claim_0
  refine dp_s1 hF (i := .aload_n 0) rfl (fun _ => rfl) ?_
  refine dp_s1 hF (i := .iload_n 1) rfl (fun _ => rfl) ?_
  refine dp_s1 hF (i := .iconst 1) rfl (fun _ => rfl) ?_
  refine dp_si (mj := dp_m_X12_isState) (i := .invokevirtual 1032) rfl rfl (Or.inr rfl) rfl (fun _ => rfl) (fun r2 M1 => ?_)
  refine dp_s2 hF (i := .ifCond .eq 33) (a := (39, [some (.ref 114), some (.int v1), some (.int v2), none, none], [], M1)) (b := (9, [some (.ref 114), some (.int v1), some (.int v2), none, none], [], M1)) rfl (fun _ => rfl) ?_ ?_
  · refine dp_s1 hF (i := .aload_n 0) rfl (fun _ => rfl) ?_
    refine dp_s1 hF (i := .iconst 1) rfl (fun _ => rfl) ?_
    refine dp_si (mj := dp_m_X12_refuse) (i := .invokevirtual 460) rfl rfl (Or.inl rfl) rfl (fun _ => rfl) (fun r4 M3 => ?_)
    refine dp_s1 hF (i := .i2l) rfl (fun _ => rfl) ?_
    exact dp_s0 hF (i := .lreturn) rfl (fun _ => rfl)
  refine dp_s1 hF (i := .aload_n 0) rfl (fun _ => rfl) ?_
  refine dp_s1 hF (i := .getfield 407) rfl (fun _ => rfl) ?_
  refine dp_s1 hF (i := .aload_n 0) rfl (fun _ => rfl) ?_
  refine dp_s1 hF (i := .iload_n 1) rfl (fun _ => rfl) ?_
  refine dp_si (mj := dp_m_X12_isDeclaration) (i := .invokevirtual 1029) rfl rfl (Or.inr rfl) rfl (fun _ => rfl) (fun r6 M5 => ?_)
  refine dp_s2 hF (i := .ifCond .eq 7) (a := (25, [some (.ref 114), some (.int v1), some (.int v2), none, none], [.ref 242], M5)) (b := (21, [some (.ref 114), some (.int v1), some (.int v2), none, none], [.ref 242], M5)) rfl (fun _ => rfl) ?_ ?_
  · refine dp_s1 hF (i := .iconst 0) rfl (fun _ => rfl) ?_
    exact rfl
  refine dp_s1 hF (i := .iload_n 1) rfl (fun _ => rfl) ?_
  refine dp_s1 hF (i := .goto 4) rfl (fun _ => rfl) ?_
  exact rfl
set_option maxRecDepth 20000 in
theorem D_X12_claim_26_eq (xs : Nat → Int32) (xl d : Nat) (v1 : Int32) (v2 : Int32) (vs0 : Int32) (M : dp_M) : D_X12_claim_26 xs xl d v1 v2 vs0 M = if vs0 < 0 ∨ 400 ≤ Int32.toNatClampNeg vs0 then none else (if (lg_cmp (dp_J M 242 (Int32.toNatClampNeg vs0)) (0 : Int64)) = 0 then (dp_bi (dp_den true xs xl d 366 [.ref 114, .int (1 : Int32)] M) (fun r2 M1 => some (.inl (some (.long (Int32.toInt64 r2))), M1))) else (dp_bi (dp_den true xs xl d 540 [.int v2] M) (fun r4 M3 => if r4 = 0 then (dp_bi (dp_den true xs xl d 366 [.ref 114, .int (1 : Int32)] M3) (fun r6 M5 => some (.inl (some (.long (Int32.toInt64 r6))), M5))) else (dp_bi (dp_den true xs xl d 578 [.ref 114, .int v1, .int v2] M3) (fun r8 M7 => if r8 = 0 then (dp_bi (dp_den true xs xl d 366 [.ref 114, .int (2 : Int32)] M7) (fun r10 M9 => some (.inl (some (.long (Int32.toInt64 r10))), M9))) else (if v1 < 0 ∨ 400 ≤ Int32.toNatClampNeg v1 then none else (dp_bl (dp_den true xs xl d 532 [.ref 114, .int (dp_I M7 243 (Int32.toNatClampNeg v1))] M7) (fun r12 M11 => dp_bv (dp_den true xs xl d 545 [.ref 114, .int (dp_I M11 114 141), .int (9 : Int32), .long (-r12)] M11) (fun M13 => if v1 < 0 ∨ 400 ≤ Int32.toNatClampNeg v1 then none else (if v1 < 0 ∨ 400 ≤ Int32.toNatClampNeg v1 then none else (dp_bv (dp_den true xs xl d 545 [.ref 114, .int (dp_I M13 114 141), .int (dp_I M13 234 (Int32.toNatClampNeg v1)), .long (r12 - (dp_J M13 242 (Int32.toNatClampNeg v1)))] M13) (fun M14 => if v1 < 0 ∨ 400 ≤ Int32.toNatClampNeg v1 then none else (dp_bv (dp_den true xs xl d 545 [.ref 114, .int (dp_I M14 114 141), .int (8 : Int32), .long (dp_J M14 242 (Int32.toNatClampNeg v1))] M14) (fun M15 => dp_bi (dp_den true xs xl d 579 [.ref 114, .int v1] M15) (fun r17 M16 => if r17 = 0 then (dp_bi (dp_den true xs xl d 366 [.ref 114, .int (2 : Int32)] M16) (fun r19 M18 => some (.inl (some (.long (Int32.toInt64 r19))), M18))) else (dp_w (dp_setI M16 114 0 (0 : Int32)) (fun M20 => if v1 < 0 ∨ 400 ≤ Int32.toNatClampNeg v1 then none else (dp_bv (dp_den true xs xl d 533 [.ref 114, .int (dp_I M20 243 (Int32.toNatClampNeg v1))] M20) (fun M21 => if v1 < 0 ∨ 400 ≤ Int32.toNatClampNeg v1 then none else dp_w (dp_setI M21 241 (Int32.toNatClampNeg v1) (3 : Int32)) (fun M22 => some (.inl (some (.long r12)), M22))))))))))))))))))))) := by
  have hF := dp_den_grow (md := true) (xs := xs) (xl := xl) d
  unfold D_X12_claim_26
  refine dp_s3 hF (i := .laload) rfl (fun _ => rfl) ?_
  refine dp_s1 hF (i := .lconst 0) rfl (fun _ => rfl) ?_
  refine dp_s1 hF (i := .lcmp) rfl (fun _ => rfl) ?_
  refine dp_s2 hF (i := .ifCond .eq 10) (a := (39, [some (.ref 114), some (.int v1), some (.int v2), none, none], [], M)) (b := (32, [some (.ref 114), some (.int v1), some (.int v2), none, none], [], M)) rfl (fun _ => rfl) ?_ ?_
  · refine dp_s1 hF (i := .aload_n 0) rfl (fun _ => rfl) ?_
    refine dp_s1 hF (i := .iconst 1) rfl (fun _ => rfl) ?_
    refine dp_si (mj := dp_m_X12_refuse) (i := .invokevirtual 460) rfl rfl (Or.inl rfl) rfl (fun _ => rfl) (fun r2 M1 => ?_)
    refine dp_s1 hF (i := .i2l) rfl (fun _ => rfl) ?_
    exact dp_s0 hF (i := .lreturn) rfl (fun _ => rfl)
  refine dp_s1 hF (i := .iload_n 2) rfl (fun _ => rfl) ?_
  refine dp_si (mj := dp_m_X12_isLedgerDay) (i := .invokestatic 969) rfl rfl (Or.inr rfl) rfl (fun _ => rfl) (fun r4 M3 => ?_)
  refine dp_s2 hF (i := .ifCond .ne 10) (a := (39, [some (.ref 114), some (.int v1), some (.int v2), none, none], [], M3)) (b := (46, [some (.ref 114), some (.int v1), some (.int v2), none, none], [], M3)) rfl (fun _ => rfl) ?_ ?_
  · refine dp_s1 hF (i := .aload_n 0) rfl (fun _ => rfl) ?_
    refine dp_s1 hF (i := .iconst 1) rfl (fun _ => rfl) ?_
    refine dp_si (mj := dp_m_X12_refuse) (i := .invokevirtual 460) rfl rfl (Or.inl rfl) rfl (fun _ => rfl) (fun r6 M5 => ?_)
    refine dp_s1 hF (i := .i2l) rfl (fun _ => rfl) ?_
    exact dp_s0 hF (i := .lreturn) rfl (fun _ => rfl)
  refine dp_s1 hF (i := .aload_n 0) rfl (fun _ => rfl) ?_
  refine dp_s1 hF (i := .iload_n 1) rfl (fun _ => rfl) ?_
  refine dp_s1 hF (i := .iload_n 2) rfl (fun _ => rfl) ?_
  refine dp_si (mj := dp_m_X12_beginsFor) (i := .invokevirtual 1053) rfl rfl (Or.inr rfl) rfl (fun _ => rfl) (fun r8 M7 => ?_)
  refine dp_s2 hF (i := .ifCond .ne 10) (a := (55, [some (.ref 114), some (.int v1), some (.int v2), none, none], [], M7)) (b := (62, [some (.ref 114), some (.int v1), some (.int v2), none, none], [], M7)) rfl (fun _ => rfl) ?_ ?_
  · refine dp_s1 hF (i := .aload_n 0) rfl (fun _ => rfl) ?_
    refine dp_s1 hF (i := .iconst 2) rfl (fun _ => rfl) ?_
    refine dp_si (mj := dp_m_X12_refuse) (i := .invokevirtual 460) rfl rfl (Or.inl rfl) rfl (fun _ => rfl) (fun r10 M9 => ?_)
    refine dp_s1 hF (i := .i2l) rfl (fun _ => rfl) ?_
    exact dp_s0 hF (i := .lreturn) rfl (fun _ => rfl)
  refine dp_s1 hF (i := .aload_n 0) rfl (fun _ => rfl) ?_
  refine dp_s1 hF (i := .aload_n 0) rfl (fun _ => rfl) ?_
  refine dp_s1 hF (i := .getfield 410) rfl (fun _ => rfl) ?_
  refine dp_s1 hF (i := .iload_n 1) rfl (fun _ => rfl) ?_
  refine dp_s3 hF (i := .iaload) rfl (fun _ => rfl) ?_
  refine dp_sl9 (mj := dp_m_X12_wouldTake) (i := .invokevirtual 1059) rfl rfl rfl rfl (fun _ => rfl) (fun r12 M11 => ?_)
  refine dp_s1 hF (i := .lstore_n 3) rfl (fun _ => rfl) ?_
  refine dp_s1 hF (i := .aload_n 0) rfl (fun _ => rfl) ?_
  refine dp_s1 hF (i := .aload_n 0) rfl (fun _ => rfl) ?_
  refine dp_s1 hF (i := .getfield 966) rfl (fun _ => rfl) ?_
  refine dp_s1 hF (i := .bipush 9) rfl (fun _ => rfl) ?_
  refine dp_s1 hF (i := .lload_n 3) rfl (fun _ => rfl) ?_
  refine dp_s1 hF (i := .lneg) rfl (fun _ => rfl) ?_
  refine dp_sv (mj := dp_m_X12_enters) (i := .invokevirtual 984) rfl rfl rfl rfl (fun _ => rfl) (fun M13 => ?_)
  refine dp_s1 hF (i := .aload_n 0) rfl (fun _ => rfl) ?_
  refine dp_s1 hF (i := .aload_n 0) rfl (fun _ => rfl) ?_
  refine dp_s1 hF (i := .getfield 966) rfl (fun _ => rfl) ?_
  refine dp_s1 hF (i := .aload_n 0) rfl (fun _ => rfl) ?_
  refine dp_s1 hF (i := .getfield 383) rfl (fun _ => rfl) ?_
  refine dp_s1 hF (i := .iload_n 1) rfl (fun _ => rfl) ?_
  refine dp_s3 hF (i := .iaload) rfl (fun _ => rfl) ?_
  refine dp_s1 hF (i := .lload_n 3) rfl (fun _ => rfl) ?_
  refine dp_s1 hF (i := .aload_n 0) rfl (fun _ => rfl) ?_
  refine dp_s1 hF (i := .getfield 407) rfl (fun _ => rfl) ?_
  refine dp_s1 hF (i := .iload_n 1) rfl (fun _ => rfl) ?_
  refine dp_s3 hF (i := .laload) rfl (fun _ => rfl) ?_
  refine dp_s1 hF (i := .lsub) rfl (fun _ => rfl) ?_
  refine dp_sv (mj := dp_m_X12_enters) (i := .invokevirtual 984) rfl rfl rfl rfl (fun _ => rfl) (fun M14 => ?_)
  refine dp_s1 hF (i := .aload_n 0) rfl (fun _ => rfl) ?_
  refine dp_s1 hF (i := .aload_n 0) rfl (fun _ => rfl) ?_
  refine dp_s1 hF (i := .getfield 966) rfl (fun _ => rfl) ?_
  refine dp_s1 hF (i := .bipush 8) rfl (fun _ => rfl) ?_
  refine dp_s1 hF (i := .aload_n 0) rfl (fun _ => rfl) ?_
  refine dp_s1 hF (i := .getfield 407) rfl (fun _ => rfl) ?_
  refine dp_s1 hF (i := .iload_n 1) rfl (fun _ => rfl) ?_
  refine dp_s3 hF (i := .laload) rfl (fun _ => rfl) ?_
  refine dp_sv (mj := dp_m_X12_enters) (i := .invokevirtual 984) rfl rfl rfl rfl (fun _ => rfl) (fun M15 => ?_)
  refine dp_s1 hF (i := .aload_n 0) rfl (fun _ => rfl) ?_
  refine dp_s1 hF (i := .iload_n 1) rfl (fun _ => rfl) ?_
  refine dp_si (mj := dp_m_X12_postsFor) (i := .invokevirtual 1056) rfl rfl (Or.inr rfl) rfl (fun _ => rfl) (fun r17 M16 => ?_)
  refine dp_s2 hF (i := .ifCond .ne 10) (a := (131, [some (.ref 114), some (.int v1), some (.int v2), some (.long r12), none], [], M16)) (b := (138, [some (.ref 114), some (.int v1), some (.int v2), some (.long r12), none], [], M16)) rfl (fun _ => rfl) ?_ ?_
  · refine dp_s1 hF (i := .aload_n 0) rfl (fun _ => rfl) ?_
    refine dp_s1 hF (i := .iconst 2) rfl (fun _ => rfl) ?_
    refine dp_si (mj := dp_m_X12_refuse) (i := .invokevirtual 460) rfl rfl (Or.inl rfl) rfl (fun _ => rfl) (fun r19 M18 => ?_)
    refine dp_s1 hF (i := .i2l) rfl (fun _ => rfl) ?_
    exact dp_s0 hF (i := .lreturn) rfl (fun _ => rfl)
  refine dp_s1 hF (i := .aload_n 0) rfl (fun _ => rfl) ?_
  refine dp_s1 hF (i := .iconst 0) rfl (fun _ => rfl) ?_
  refine dp_s1w (dp_setI M16 114 0 (0 : Int32)) (fun (M20 : dp_M) => (143, [some (.ref 114), some (.int v1), some (.int v2), some (.long r12), none], [], M20)) hF (i := .putfield 1) rfl (fun _ => rfl) (fun M20 => ?_)
  refine dp_s1 hF (i := .aload_n 0) rfl (fun _ => rfl) ?_
  refine dp_s1 hF (i := .aload_n 0) rfl (fun _ => rfl) ?_
  refine dp_s1 hF (i := .getfield 410) rfl (fun _ => rfl) ?_
  refine dp_s1 hF (i := .iload_n 1) rfl (fun _ => rfl) ?_
  refine dp_s3 hF (i := .iaload) rfl (fun _ => rfl) ?_
  refine dp_sv (mj := dp_m_X12_claimsAll) (i := .invokevirtual 1062) rfl rfl rfl rfl (fun _ => rfl) (fun M21 => ?_)
  refine dp_s1 hF (i := .aload_n 0) rfl (fun _ => rfl) ?_
  refine dp_s1 hF (i := .getfield 404) rfl (fun _ => rfl) ?_
  refine dp_s1 hF (i := .iload_n 1) rfl (fun _ => rfl) ?_
  refine dp_s1 hF (i := .iconst 3) rfl (fun _ => rfl) ?_
  refine dp_s3w (dp_setI M21 241 (Int32.toNatClampNeg v1) (3 : Int32)) (fun (M22 : dp_M) => (160, [some (.ref 114), some (.int v1), some (.int v2), some (.long r12), none], [], M22)) hF (i := .iastore) rfl (fun _ => rfl) (fun M22 => ?_)
  refine dp_s1 hF (i := .lload_n 3) rfl (fun _ => rfl) ?_
  exact dp_s0 hF (i := .lreturn) rfl (fun _ => rfl)
noncomputable def D_X12_correct_0 (xs : Nat → Int32) (xl d : Nat) (v1 : Int32) (v2 : Int32) (M : dp_M) : Option dp_Res := dp_lim true xs xl (dp_den true xs xl d) dp_m_X12_correct (0, [some (.ref 114), some (.int v1), some (.int v2), none, none, none, none], [], M)
noncomputable def D_X12_correct_18 (xs : Nat → Int32) (xl d : Nat) (v1 : Int32) (v2 : Int32) (M : dp_M) : Option dp_Res := dp_lim true xs xl (dp_den true xs xl d) dp_m_X12_correct (18, [some (.ref 114), some (.int v1), some (.int v2), none, none, none, none], [], M)
theorem D_X12_correct_0_den (xs : Nat → Int32) (xl d : Nat) (a0 : Int32) (a1 : Int32) (M : dp_M) : dp_den true xs xl (d + 1) 582 [.ref 114, .int a0, .int a1] M = D_X12_correct_0 xs xl d a0 a1 M := rfl
set_option maxRecDepth 20000 in
theorem D_X12_correct_0_eq (xs : Nat → Int32) (xl d : Nat) (v1 : Int32) (v2 : Int32) (M : dp_M) : D_X12_correct_0 xs xl d v1 v2 M = dp_bi (dp_den true xs xl d 567 [.ref 114, .int v1, .int (2 : Int32)] M) (fun r2 M1 => if r2 = 0 then (dp_bi (dp_den true xs xl d 567 [.ref 114, .int v1, .int (3 : Int32)] M1) (fun r4 M3 => if r4 = 0 then (dp_bi (dp_den true xs xl d 366 [.ref 114, .int (1 : Int32)] M3) (fun r6 M5 => some (.inl (some (.long (Int32.toInt64 r6))), M5))) else (D_X12_correct_18 xs xl d v1 v2 M3))) else (D_X12_correct_18 xs xl d v1 v2 M1)) := by
  have hF := dp_den_grow (md := true) (xs := xs) (xl := xl) d
  unfold D_X12_correct_0
  refine dp_s1 hF (i := .aload_n 0) rfl (fun _ => rfl) ?_
  refine dp_s1 hF (i := .iload_n 1) rfl (fun _ => rfl) ?_
  refine dp_s1 hF (i := .iconst 2) rfl (fun _ => rfl) ?_
  refine dp_si (mj := dp_m_X12_isState) (i := .invokevirtual 1032) rfl rfl (Or.inr rfl) rfl (fun _ => rfl) (fun r2 M1 => ?_)
  refine dp_s2 hF (i := .ifCond .ne 12) (a := (9, [some (.ref 114), some (.int v1), some (.int v2), none, none, none, none], [], M1)) (b := (18, [some (.ref 114), some (.int v1), some (.int v2), none, none, none, none], [], M1)) rfl (fun _ => rfl) ?_ ?_
  · refine dp_s1 hF (i := .aload_n 0) rfl (fun _ => rfl) ?_
    refine dp_s1 hF (i := .iload_n 1) rfl (fun _ => rfl) ?_
    refine dp_s1 hF (i := .iconst 3) rfl (fun _ => rfl) ?_
    refine dp_si (mj := dp_m_X12_isState) (i := .invokevirtual 1032) rfl rfl (Or.inr rfl) rfl (fun _ => rfl) (fun r4 M3 => ?_)
    refine dp_s2 hF (i := .ifCond .eq 10) (a := (25, [some (.ref 114), some (.int v1), some (.int v2), none, none, none, none], [], M3)) (b := (18, [some (.ref 114), some (.int v1), some (.int v2), none, none, none, none], [], M3)) rfl (fun _ => rfl) ?_ ?_
    · refine dp_s1 hF (i := .aload_n 0) rfl (fun _ => rfl) ?_
      refine dp_s1 hF (i := .iconst 1) rfl (fun _ => rfl) ?_
      refine dp_si (mj := dp_m_X12_refuse) (i := .invokevirtual 460) rfl rfl (Or.inl rfl) rfl (fun _ => rfl) (fun r6 M5 => ?_)
      refine dp_s1 hF (i := .i2l) rfl (fun _ => rfl) ?_
      exact dp_s0 hF (i := .lreturn) rfl (fun _ => rfl)
    exact rfl
  exact rfl
set_option maxRecDepth 20000 in
theorem D_X12_correct_18_eq (xs : Nat → Int32) (xl d : Nat) (v1 : Int32) (v2 : Int32) (M : dp_M) : D_X12_correct_18 xs xl d v1 v2 M = dp_bi (dp_den true xs xl d 445 [.int v2] M) (fun r2 M1 => if r2 = 0 then (dp_bi (dp_den true xs xl d 366 [.ref 114, .int (1 : Int32)] M1) (fun r4 M3 => some (.inl (some (.long (Int32.toInt64 r4))), M3))) else (dp_bl (dp_den true xs xl d 575 [.ref 114, .int v1, .int v2] M1) (fun r6 M5 => if 0 ≤ (lg_cmp r6 (0 : Int64)) then (if v1 < 0 ∨ 400 ≤ Int32.toNatClampNeg v1 then none else (dp_w (r6 - (dp_J M5 242 (Int32.toNatClampNeg v1))) (fun y7 => if (lg_cmp y7 (0 : Int64)) = 0 then (dp_w (dp_setI M5 114 0 (0 : Int32)) (fun M8 => some (.inl (some (.long y7)), M8))) else (dp_bi (dp_den true xs xl d 578 [.ref 114, .int v1, .int v2] M5) (fun r10 M9 => if r10 = 0 then (dp_bi (dp_den true xs xl d 366 [.ref 114, .int (3 : Int32)] M9) (fun r12 M11 => some (.inl (some (.long (Int32.toInt64 r12))), M11))) else (if v1 < 0 ∨ 400 ≤ Int32.toNatClampNeg v1 then none else (dp_bv (dp_den true xs xl d 545 [.ref 114, .int (dp_I M9 114 141), .int (dp_I M9 234 (Int32.toNatClampNeg v1)), .long (-y7)] M9) (fun M13 => dp_bv (dp_den true xs xl d 545 [.ref 114, .int (dp_I M13 114 141), .int (8 : Int32), .long y7] M13) (fun M14 => dp_bi (dp_den true xs xl d 579 [.ref 114, .int v1] M14) (fun r16 M15 => if r16 = 0 then (dp_bi (dp_den true xs xl d 366 [.ref 114, .int (3 : Int32)] M15) (fun r18 M17 => some (.inl (some (.long (Int32.toInt64 r18))), M17))) else (if v1 < 0 ∨ 400 ≤ Int32.toNatClampNeg v1 then none else dp_w (dp_setJ M15 242 (Int32.toNatClampNeg v1) r6) (fun M19 => dp_w (dp_setI M19 114 0 (0 : Int32)) (fun M20 => some (.inl (some (.long y7)), M20)))))))))))))) else (dp_bi (dp_den true xs xl d 366 [.ref 114, .int (2 : Int32)] M5) (fun r22 M21 => some (.inl (some (.long (Int32.toInt64 r22))), M21)))))) := by
  have hF := dp_den_grow (md := true) (xs := xs) (xl := xl) d
  unfold D_X12_correct_18
  refine dp_s1 hF (i := .iload_n 2) rfl (fun _ => rfl) ?_
  refine dp_si (mj := dp_m_X12_isDay) (i := .invokestatic 672) rfl rfl (Or.inr rfl) rfl (fun _ => rfl) (fun r2 M1 => ?_)
  refine dp_s2 hF (i := .ifCond .ne 10) (a := (25, [some (.ref 114), some (.int v1), some (.int v2), none, none, none, none], [], M1)) (b := (32, [some (.ref 114), some (.int v1), some (.int v2), none, none, none, none], [], M1)) rfl (fun _ => rfl) ?_ ?_
  · refine dp_s1 hF (i := .aload_n 0) rfl (fun _ => rfl) ?_
    refine dp_s1 hF (i := .iconst 1) rfl (fun _ => rfl) ?_
    refine dp_si (mj := dp_m_X12_refuse) (i := .invokevirtual 460) rfl rfl (Or.inl rfl) rfl (fun _ => rfl) (fun r4 M3 => ?_)
    refine dp_s1 hF (i := .i2l) rfl (fun _ => rfl) ?_
    exact dp_s0 hF (i := .lreturn) rfl (fun _ => rfl)
  refine dp_s1 hF (i := .aload_n 0) rfl (fun _ => rfl) ?_
  refine dp_s1 hF (i := .iload_n 1) rfl (fun _ => rfl) ?_
  refine dp_s1 hF (i := .iload_n 2) rfl (fun _ => rfl) ?_
  refine dp_sl9 (mj := dp_m_X12_reckonsDuty) (i := .invokevirtual 1047) rfl rfl rfl rfl (fun _ => rfl) (fun r6 M5 => ?_)
  refine dp_s1 hF (i := .lstore_n 3) rfl (fun _ => rfl) ?_
  refine dp_s1 hF (i := .lload_n 3) rfl (fun _ => rfl) ?_
  refine dp_s1 hF (i := .lconst 0) rfl (fun _ => rfl) ?_
  refine dp_s1 hF (i := .lcmp) rfl (fun _ => rfl) ?_
  refine dp_s2 hF (i := .ifCond .ge 10) (a := (52, [some (.ref 114), some (.int v1), some (.int v2), some (.long r6), none, none, none], [], M5)) (b := (45, [some (.ref 114), some (.int v1), some (.int v2), some (.long r6), none, none, none], [], M5)) rfl (fun _ => rfl) ?_ ?_
  · refine dp_s1 hF (i := .lload_n 3) rfl (fun _ => rfl) ?_
    refine dp_s1 hF (i := .aload_n 0) rfl (fun _ => rfl) ?_
    refine dp_s1 hF (i := .getfield 407) rfl (fun _ => rfl) ?_
    refine dp_s1 hF (i := .iload_n 1) rfl (fun _ => rfl) ?_
    refine dp_s3 hF (i := .laload) rfl (fun _ => rfl) ?_
    refine dp_s1 hF (i := .lsub) rfl (fun _ => rfl) ?_
    refine dp_s1w (r6 - (dp_J M5 242 (Int32.toNatClampNeg v1))) (fun (y7 : Int64) => (62, [some (.ref 114), some (.int v1), some (.int v2), some (.long r6), none, some (.long y7), none], [], M5)) hF (i := .lstore 5) rfl (fun _ => rfl) (fun y7 => ?_)
    refine dp_s1 hF (i := .lload 5) rfl (fun _ => rfl) ?_
    refine dp_s1 hF (i := .lconst 0) rfl (fun _ => rfl) ?_
    refine dp_s1 hF (i := .lcmp) rfl (fun _ => rfl) ?_
    refine dp_s2 hF (i := .ifCond .eq 70) (a := (136, [some (.ref 114), some (.int v1), some (.int v2), some (.long r6), none, some (.long y7), none], [], M5)) (b := (69, [some (.ref 114), some (.int v1), some (.int v2), some (.long r6), none, some (.long y7), none], [], M5)) rfl (fun _ => rfl) ?_ ?_
    · refine dp_s1 hF (i := .aload_n 0) rfl (fun _ => rfl) ?_
      refine dp_s1 hF (i := .iconst 0) rfl (fun _ => rfl) ?_
      refine dp_s1w (dp_setI M5 114 0 (0 : Int32)) (fun (M8 : dp_M) => (141, [some (.ref 114), some (.int v1), some (.int v2), some (.long r6), none, some (.long y7), none], [], M8)) hF (i := .putfield 1) rfl (fun _ => rfl) (fun M8 => ?_)
      refine dp_s1 hF (i := .lload 5) rfl (fun _ => rfl) ?_
      exact dp_s0 hF (i := .lreturn) rfl (fun _ => rfl)
    refine dp_s1 hF (i := .aload_n 0) rfl (fun _ => rfl) ?_
    refine dp_s1 hF (i := .iload_n 1) rfl (fun _ => rfl) ?_
    refine dp_s1 hF (i := .iload_n 2) rfl (fun _ => rfl) ?_
    refine dp_si (mj := dp_m_X12_beginsFor) (i := .invokevirtual 1053) rfl rfl (Or.inr rfl) rfl (fun _ => rfl) (fun r10 M9 => ?_)
    refine dp_s2 hF (i := .ifCond .ne 10) (a := (78, [some (.ref 114), some (.int v1), some (.int v2), some (.long r6), none, some (.long y7), none], [], M9)) (b := (85, [some (.ref 114), some (.int v1), some (.int v2), some (.long r6), none, some (.long y7), none], [], M9)) rfl (fun _ => rfl) ?_ ?_
    · refine dp_s1 hF (i := .aload_n 0) rfl (fun _ => rfl) ?_
      refine dp_s1 hF (i := .iconst 3) rfl (fun _ => rfl) ?_
      refine dp_si (mj := dp_m_X12_refuse) (i := .invokevirtual 460) rfl rfl (Or.inl rfl) rfl (fun _ => rfl) (fun r12 M11 => ?_)
      refine dp_s1 hF (i := .i2l) rfl (fun _ => rfl) ?_
      exact dp_s0 hF (i := .lreturn) rfl (fun _ => rfl)
    refine dp_s1 hF (i := .aload_n 0) rfl (fun _ => rfl) ?_
    refine dp_s1 hF (i := .aload_n 0) rfl (fun _ => rfl) ?_
    refine dp_s1 hF (i := .getfield 966) rfl (fun _ => rfl) ?_
    refine dp_s1 hF (i := .aload_n 0) rfl (fun _ => rfl) ?_
    refine dp_s1 hF (i := .getfield 383) rfl (fun _ => rfl) ?_
    refine dp_s1 hF (i := .iload_n 1) rfl (fun _ => rfl) ?_
    refine dp_s3 hF (i := .iaload) rfl (fun _ => rfl) ?_
    refine dp_s1 hF (i := .lload 5) rfl (fun _ => rfl) ?_
    refine dp_s1 hF (i := .lneg) rfl (fun _ => rfl) ?_
    refine dp_sv (mj := dp_m_X12_enters) (i := .invokevirtual 984) rfl rfl rfl rfl (fun _ => rfl) (fun M13 => ?_)
    refine dp_s1 hF (i := .aload_n 0) rfl (fun _ => rfl) ?_
    refine dp_s1 hF (i := .aload_n 0) rfl (fun _ => rfl) ?_
    refine dp_s1 hF (i := .getfield 966) rfl (fun _ => rfl) ?_
    refine dp_s1 hF (i := .bipush 8) rfl (fun _ => rfl) ?_
    refine dp_s1 hF (i := .lload 5) rfl (fun _ => rfl) ?_
    refine dp_sv (mj := dp_m_X12_enters) (i := .invokevirtual 984) rfl rfl rfl rfl (fun _ => rfl) (fun M14 => ?_)
    refine dp_s1 hF (i := .aload_n 0) rfl (fun _ => rfl) ?_
    refine dp_s1 hF (i := .iload_n 1) rfl (fun _ => rfl) ?_
    refine dp_si (mj := dp_m_X12_postsFor) (i := .invokevirtual 1056) rfl rfl (Or.inr rfl) rfl (fun _ => rfl) (fun r16 M15 => ?_)
    refine dp_s2 hF (i := .ifCond .ne 10) (a := (122, [some (.ref 114), some (.int v1), some (.int v2), some (.long r6), none, some (.long y7), none], [], M15)) (b := (129, [some (.ref 114), some (.int v1), some (.int v2), some (.long r6), none, some (.long y7), none], [], M15)) rfl (fun _ => rfl) ?_ ?_
    · refine dp_s1 hF (i := .aload_n 0) rfl (fun _ => rfl) ?_
      refine dp_s1 hF (i := .iconst 3) rfl (fun _ => rfl) ?_
      refine dp_si (mj := dp_m_X12_refuse) (i := .invokevirtual 460) rfl rfl (Or.inl rfl) rfl (fun _ => rfl) (fun r18 M17 => ?_)
      refine dp_s1 hF (i := .i2l) rfl (fun _ => rfl) ?_
      exact dp_s0 hF (i := .lreturn) rfl (fun _ => rfl)
    refine dp_s1 hF (i := .aload_n 0) rfl (fun _ => rfl) ?_
    refine dp_s1 hF (i := .getfield 407) rfl (fun _ => rfl) ?_
    refine dp_s1 hF (i := .iload_n 1) rfl (fun _ => rfl) ?_
    refine dp_s1 hF (i := .lload_n 3) rfl (fun _ => rfl) ?_
    refine dp_s3w (dp_setJ M15 242 (Int32.toNatClampNeg v1) r6) (fun (M19 : dp_M) => (136, [some (.ref 114), some (.int v1), some (.int v2), some (.long r6), none, some (.long y7), none], [], M19)) hF (i := .lastore) rfl (fun _ => rfl) (fun M19 => ?_)
    refine dp_s1 hF (i := .aload_n 0) rfl (fun _ => rfl) ?_
    refine dp_s1 hF (i := .iconst 0) rfl (fun _ => rfl) ?_
    refine dp_s1w (dp_setI M19 114 0 (0 : Int32)) (fun (M20 : dp_M) => (141, [some (.ref 114), some (.int v1), some (.int v2), some (.long r6), none, some (.long y7), none], [], M20)) hF (i := .putfield 1) rfl (fun _ => rfl) (fun M20 => ?_)
    refine dp_s1 hF (i := .lload 5) rfl (fun _ => rfl) ?_
    exact dp_s0 hF (i := .lreturn) rfl (fun _ => rfl)
  refine dp_s1 hF (i := .aload_n 0) rfl (fun _ => rfl) ?_
  refine dp_s1 hF (i := .iconst 2) rfl (fun _ => rfl) ?_
  refine dp_si (mj := dp_m_X12_refuse) (i := .invokevirtual 460) rfl rfl (Or.inl rfl) rfl (fun _ => rfl) (fun r22 M21 => ?_)
  refine dp_s1 hF (i := .i2l) rfl (fun _ => rfl) ?_
  exact dp_s0 hF (i := .lreturn) rfl (fun _ => rfl)
noncomputable def D_X12_cancel_0 (xs : Nat → Int32) (xl d : Nat) (v1 : Int32) (M : dp_M) : Option dp_Res := dp_lim true xs xl (dp_den true xs xl d) dp_m_X12_cancel (0, [some (.ref 114), some (.int v1), none], [], M)
noncomputable def D_X12_cancel_71 (xs : Nat → Int32) (xl d : Nat) (v1 : Int32) (M : dp_M) : Option dp_Res := dp_lim true xs xl (dp_den true xs xl d) dp_m_X12_cancel (71, [some (.ref 114), some (.int v1), none], [], M)
theorem D_X12_cancel_0_den (xs : Nat → Int32) (xl d : Nat) (a0 : Int32) (M : dp_M) : dp_den true xs xl (d + 1) 583 [.ref 114, .int a0] M = D_X12_cancel_0 xs xl d a0 M := rfl
set_option maxRecDepth 20000 in
theorem D_X12_cancel_0_eq (xs : Nat → Int32) (xl d : Nat) (v1 : Int32) (M : dp_M) : D_X12_cancel_0 xs xl d v1 M = dp_bi (dp_den true xs xl d 566 [.ref 114, .int v1] M) (fun r2 M1 => if r2 = 0 then (dp_bi (dp_den true xs xl d 366 [.ref 114, .int (1 : Int32)] M1) (fun r4 M3 => some (.inl (some (.int r4)), M3))) else (dp_w (dp_setI M1 114 0 (0 : Int32)) (fun M5 => if v1 < 0 ∨ 400 ≤ Int32.toNatClampNeg v1 then none else (if (1 : Int32) < (dp_I M5 241 (Int32.toNatClampNeg v1)) then (some (.inl (some (.int (0 : Int32))), M5)) else (if v1 < 0 ∨ 400 ≤ Int32.toNatClampNeg v1 then none else (if (dp_I M5 233 (Int32.toNatClampNeg v1)) < 0 ∨ 300 ≤ Int32.toNatClampNeg (dp_I M5 233 (Int32.toNatClampNeg v1)) then none else (if (dp_I M5 147 (Int32.toNatClampNeg (dp_I M5 233 (Int32.toNatClampNeg v1)))) < 0 ∨ 100 ≤ Int32.toNatClampNeg (dp_I M5 147 (Int32.toNatClampNeg (dp_I M5 233 (Int32.toNatClampNeg v1)))) then none else (if (dp_I M5 144 (Int32.toNatClampNeg (dp_I M5 147 (Int32.toNatClampNeg (dp_I M5 233 (Int32.toNatClampNeg v1)))))) = (1 : Int32) then (some (.inl (some (.int (0 : Int32))), M5)) else (if v1 < 0 ∨ 400 ≤ Int32.toNatClampNeg v1 then none else (if (dp_I M5 243 (Int32.toNatClampNeg v1)) ≤ 0 then (D_X12_cancel_71 xs xl d v1 M5) else (if v1 < 0 ∨ 400 ≤ Int32.toNatClampNeg v1 then none else (dp_bv (dp_den true xs xl d 530 [.ref 114, .int (dp_I M5 243 (Int32.toNatClampNeg v1)), .int (1 : Int32)] M5) (fun M6 => D_X12_cancel_71 xs xl d v1 M6))))))))))))) := by
  have hF := dp_den_grow (md := true) (xs := xs) (xl := xl) d
  unfold D_X12_cancel_0
  refine dp_s1 hF (i := .aload_n 0) rfl (fun _ => rfl) ?_
  refine dp_s1 hF (i := .iload_n 1) rfl (fun _ => rfl) ?_
  refine dp_si (mj := dp_m_X12_isDeclaration) (i := .invokevirtual 1029) rfl rfl (Or.inr rfl) rfl (fun _ => rfl) (fun r2 M1 => ?_)
  refine dp_s2 hF (i := .ifCond .ne 9) (a := (8, [some (.ref 114), some (.int v1), none], [], M1)) (b := (14, [some (.ref 114), some (.int v1), none], [], M1)) rfl (fun _ => rfl) ?_ ?_
  · refine dp_s1 hF (i := .aload_n 0) rfl (fun _ => rfl) ?_
    refine dp_s1 hF (i := .iconst 1) rfl (fun _ => rfl) ?_
    refine dp_si (mj := dp_m_X12_refuse) (i := .invokevirtual 460) rfl rfl (Or.inl rfl) rfl (fun _ => rfl) (fun r4 M3 => ?_)
    exact dp_s0 hF (i := .ireturn) rfl (fun _ => rfl)
  refine dp_s1 hF (i := .aload_n 0) rfl (fun _ => rfl) ?_
  refine dp_s1 hF (i := .iconst 0) rfl (fun _ => rfl) ?_
  refine dp_s1w (dp_setI M1 114 0 (0 : Int32)) (fun (M5 : dp_M) => (19, [some (.ref 114), some (.int v1), none], [], M5)) hF (i := .putfield 1) rfl (fun _ => rfl) (fun M5 => ?_)
  refine dp_s1 hF (i := .aload_n 0) rfl (fun _ => rfl) ?_
  refine dp_s1 hF (i := .getfield 404) rfl (fun _ => rfl) ?_
  refine dp_s1 hF (i := .iload_n 1) rfl (fun _ => rfl) ?_
  refine dp_s3 hF (i := .iaload) rfl (fun _ => rfl) ?_
  refine dp_s1 hF (i := .iconst 1) rfl (fun _ => rfl) ?_
  refine dp_s2 hF (i := .if_icmp .gt 23) (a := (49, [some (.ref 114), some (.int v1), none], [], M5)) (b := (29, [some (.ref 114), some (.int v1), none], [], M5)) rfl (fun _ => rfl) ?_ ?_
  · refine dp_s1 hF (i := .iconst 0) rfl (fun _ => rfl) ?_
    exact dp_s0 hF (i := .ireturn) rfl (fun _ => rfl)
  refine dp_s1 hF (i := .aload_n 0) rfl (fun _ => rfl) ?_
  refine dp_s1 hF (i := .getfield 103) rfl (fun _ => rfl) ?_
  refine dp_s1 hF (i := .aload_n 0) rfl (fun _ => rfl) ?_
  refine dp_s1 hF (i := .getfield 112) rfl (fun _ => rfl) ?_
  refine dp_s1 hF (i := .aload_n 0) rfl (fun _ => rfl) ?_
  refine dp_s1 hF (i := .getfield 380) rfl (fun _ => rfl) ?_
  refine dp_s1 hF (i := .iload_n 1) rfl (fun _ => rfl) ?_
  refine dp_s3 hF (i := .iaload) rfl (fun _ => rfl) ?_
  refine dp_s3 hF (i := .iaload) rfl (fun _ => rfl) ?_
  refine dp_s3 hF (i := .iaload) rfl (fun _ => rfl) ?_
  refine dp_s1 hF (i := .iconst 1) rfl (fun _ => rfl) ?_
  refine dp_s2 hF (i := .if_icmp .ne 5) (a := (49, [some (.ref 114), some (.int v1), none], [], M5)) (b := (51, [some (.ref 114), some (.int v1), none], [], M5)) rfl (fun _ => rfl) ?_ ?_
  · refine dp_s1 hF (i := .iconst 0) rfl (fun _ => rfl) ?_
    exact dp_s0 hF (i := .ireturn) rfl (fun _ => rfl)
  refine dp_s1 hF (i := .aload_n 0) rfl (fun _ => rfl) ?_
  refine dp_s1 hF (i := .getfield 410) rfl (fun _ => rfl) ?_
  refine dp_s1 hF (i := .iload_n 1) rfl (fun _ => rfl) ?_
  refine dp_s3 hF (i := .iaload) rfl (fun _ => rfl) ?_
  refine dp_s2 hF (i := .ifCond .le 14) (a := (71, [some (.ref 114), some (.int v1), none], [], M5)) (b := (60, [some (.ref 114), some (.int v1), none], [], M5)) rfl (fun _ => rfl) ?_ ?_
  · exact rfl
  refine dp_s1 hF (i := .aload_n 0) rfl (fun _ => rfl) ?_
  refine dp_s1 hF (i := .aload_n 0) rfl (fun _ => rfl) ?_
  refine dp_s1 hF (i := .getfield 410) rfl (fun _ => rfl) ?_
  refine dp_s1 hF (i := .iload_n 1) rfl (fun _ => rfl) ?_
  refine dp_s3 hF (i := .iaload) rfl (fun _ => rfl) ?_
  refine dp_s1 hF (i := .iconst 1) rfl (fun _ => rfl) ?_
  refine dp_sv (mj := dp_m_X12_endsAs) (i := .invokevirtual 961) rfl rfl rfl rfl (fun _ => rfl) (fun M6 => ?_)
  exact rfl
set_option maxRecDepth 20000 in
theorem D_X12_cancel_71_eq (xs : Nat → Int32) (xl d : Nat) (v1 : Int32) (M : dp_M) : D_X12_cancel_71 xs xl d v1 M = dp_bi (dp_den true xs xl d 570 [.ref 114, .int v1] M) (fun r2 M1 => if r2 < 0 then (if v1 < 0 ∨ 400 ≤ Int32.toNatClampNeg v1 then none else dp_w (dp_setI M1 241 (Int32.toNatClampNeg v1) (4 : Int32)) (fun M3 => some (.inl (some (.int (1 : Int32))), M3))) else (if r2 < 0 ∨ 400 ≤ Int32.toNatClampNeg r2 then none else dp_w (dp_setJ M1 198 (Int32.toNatClampNeg r2) (0 : Int64)) (fun M4 => if v1 < 0 ∨ 400 ≤ Int32.toNatClampNeg v1 then none else dp_w (dp_setI M4 241 (Int32.toNatClampNeg v1) (4 : Int32)) (fun M5 => some (.inl (some (.int (1 : Int32))), M5))))) := by
  have hF := dp_den_grow (md := true) (xs := xs) (xl := xl) d
  unfold D_X12_cancel_71
  refine dp_s1 hF (i := .aload_n 0) rfl (fun _ => rfl) ?_
  refine dp_s1 hF (i := .iload_n 1) rfl (fun _ => rfl) ?_
  refine dp_si (mj := dp_m_X12_askFor) (i := .invokevirtual 1038) rfl rfl (Or.inl rfl) rfl (fun _ => rfl) (fun r2 M1 => ?_)
  refine dp_s1 hF (i := .istore_n 2) rfl (fun _ => rfl) ?_
  refine dp_s1 hF (i := .iload_n 2) rfl (fun _ => rfl) ?_
  refine dp_s2 hF (i := .ifCond .lt 10) (a := (88, [some (.ref 114), some (.int v1), some (.int r2)], [], M1)) (b := (81, [some (.ref 114), some (.int v1), some (.int r2)], [], M1)) rfl (fun _ => rfl) ?_ ?_
  · refine dp_s1 hF (i := .aload_n 0) rfl (fun _ => rfl) ?_
    refine dp_s1 hF (i := .getfield 404) rfl (fun _ => rfl) ?_
    refine dp_s1 hF (i := .iload_n 1) rfl (fun _ => rfl) ?_
    refine dp_s1 hF (i := .iconst 4) rfl (fun _ => rfl) ?_
    refine dp_s3w (dp_setI M1 241 (Int32.toNatClampNeg v1) (4 : Int32)) (fun (M3 : dp_M) => (95, [some (.ref 114), some (.int v1), some (.int r2)], [], M3)) hF (i := .iastore) rfl (fun _ => rfl) (fun M3 => ?_)
    refine dp_s1 hF (i := .iconst 1) rfl (fun _ => rfl) ?_
    exact dp_s0 hF (i := .ireturn) rfl (fun _ => rfl)
  refine dp_s1 hF (i := .aload_n 0) rfl (fun _ => rfl) ?_
  refine dp_s1 hF (i := .getfield 266) rfl (fun _ => rfl) ?_
  refine dp_s1 hF (i := .iload_n 2) rfl (fun _ => rfl) ?_
  refine dp_s1 hF (i := .lconst 0) rfl (fun _ => rfl) ?_
  refine dp_s3w (dp_setJ M1 198 (Int32.toNatClampNeg r2) (0 : Int64)) (fun (M4 : dp_M) => (88, [some (.ref 114), some (.int v1), some (.int r2)], [], M4)) hF (i := .lastore) rfl (fun _ => rfl) (fun M4 => ?_)
  refine dp_s1 hF (i := .aload_n 0) rfl (fun _ => rfl) ?_
  refine dp_s1 hF (i := .getfield 404) rfl (fun _ => rfl) ?_
  refine dp_s1 hF (i := .iload_n 1) rfl (fun _ => rfl) ?_
  refine dp_s1 hF (i := .iconst 4) rfl (fun _ => rfl) ?_
  refine dp_s3w (dp_setI M4 241 (Int32.toNatClampNeg v1) (4 : Int32)) (fun (M5 : dp_M) => (95, [some (.ref 114), some (.int v1), some (.int r2)], [], M5)) hF (i := .iastore) rfl (fun _ => rfl) (fun M5 => ?_)
  refine dp_s1 hF (i := .iconst 1) rfl (fun _ => rfl) ?_
  exact dp_s0 hF (i := .ireturn) rfl (fun _ => rfl)
noncomputable def D_X12_declared_0 (xs : Nat → Int32) (xl d : Nat) (v1 : Int32) (v2 : Int32) (M : dp_M) : Option dp_Res := dp_lim true xs xl (dp_den true xs xl d) dp_m_X12_declared (0, [some (.ref 114), some (.int v1), some (.int v2), none], [], M)
noncomputable def D_X12_declared_75 (xs : Nat → Int32) (xl d : Nat) (v1 : Int32) (v2 : Int32) (v3 : Int32) (M : dp_M) : Option dp_Res := dp_lim true xs xl (dp_den true xs xl d) dp_m_X12_declared (75, [some (.ref 114), some (.int v1), some (.int v2), some (.int v3)], [], M)
theorem D_X12_declared_0_den (xs : Nat → Int32) (xl d : Nat) (a0 : Int32) (a1 : Int32) (M : dp_M) : dp_den true xs xl (d + 1) 584 [.ref 114, .int a0, .int a1] M = D_X12_declared_0 xs xl d a0 a1 M := rfl
set_option maxRecDepth 20000 in
theorem D_X12_declared_0_eq (xs : Nat → Int32) (xl d : Nat) (v1 : Int32) (v2 : Int32) (M : dp_M) : D_X12_declared_0 xs xl d v1 v2 M = dp_bi (dp_den true xs xl d 566 [.ref 114, .int v1] M) (fun r2 M1 => if r2 = 0 then (dp_bi (dp_den true xs xl d 366 [.ref 114, .int (1 : Int32)] M1) (fun r4 M3 => some (.inl (some (.long (Int32.toInt64 r4))), M3))) else (dp_bi (dp_den true xs xl d 367 [.long (Int32.toInt64 v2), .long (0 : Int64), .long (22 : Int64)] M1) (fun r6 M5 => if r6 = 0 then (dp_bi (dp_den true xs xl d 366 [.ref 114, .int (1 : Int32)] M5) (fun r8 M7 => some (.inl (some (.long (Int32.toInt64 r8))), M7))) else (dp_w (dp_setI M5 114 0 (0 : Int32)) (fun M9 => dp_bi (dp_den true xs xl d 570 [.ref 114, .int v1] M9) (fun r11 M10 => if r11 < 0 then (D_X12_declared_75 xs xl d v1 v2 r11 M10) else (if v2 < (13 : Int32) then (D_X12_declared_75 xs xl d v1 v2 r11 M10) else (if (14 : Int32) < v2 then (D_X12_declared_75 xs xl d v1 v2 r11 M10) else (if r11 < 0 ∨ 400 ≤ Int32.toNatClampNeg r11 then none else (if r11 < 0 ∨ 400 ≤ Int32.toNatClampNeg r11 then none else (if (dp_I M10 197 (Int32.toNatClampNeg r11)) < 0 ∨ 16 ≤ Int32.toNatClampNeg (dp_I M10 197 (Int32.toNatClampNeg r11)) then none else (dp_bv (dp_den true xs xl d 508 [.ref 114, .int (dp_I M10 197 (Int32.toNatClampNeg r11)), .int (dp_I M10 194 (Int32.toNatClampNeg (dp_I M10 197 (Int32.toNatClampNeg r11))))] M10) (fun M12 => D_X12_declared_75 xs xl d v1 v2 r11 M12))))))))))))) := by
  have hF := dp_den_grow (md := true) (xs := xs) (xl := xl) d
  unfold D_X12_declared_0
  refine dp_s1 hF (i := .aload_n 0) rfl (fun _ => rfl) ?_
  refine dp_s1 hF (i := .iload_n 1) rfl (fun _ => rfl) ?_
  refine dp_si (mj := dp_m_X12_isDeclaration) (i := .invokevirtual 1029) rfl rfl (Or.inr rfl) rfl (fun _ => rfl) (fun r2 M1 => ?_)
  refine dp_s2 hF (i := .ifCond .eq 15) (a := (20, [some (.ref 114), some (.int v1), some (.int v2), none], [], M1)) (b := (8, [some (.ref 114), some (.int v1), some (.int v2), none], [], M1)) rfl (fun _ => rfl) ?_ ?_
  · refine dp_s1 hF (i := .aload_n 0) rfl (fun _ => rfl) ?_
    refine dp_s1 hF (i := .iconst 1) rfl (fun _ => rfl) ?_
    refine dp_si (mj := dp_m_X12_refuse) (i := .invokevirtual 460) rfl rfl (Or.inl rfl) rfl (fun _ => rfl) (fun r4 M3 => ?_)
    refine dp_s1 hF (i := .i2l) rfl (fun _ => rfl) ?_
    exact dp_s0 hF (i := .lreturn) rfl (fun _ => rfl)
  refine dp_s1 hF (i := .iload_n 2) rfl (fun _ => rfl) ?_
  refine dp_s1 hF (i := .i2l) rfl (fun _ => rfl) ?_
  refine dp_s1 hF (i := .lconst 0) rfl (fun _ => rfl) ?_
  refine dp_s1 hF (i := .ldc2_w 1065) rfl (fun _ => rfl) ?_
  refine dp_si (mj := dp_m_X12_in) (i := .invokestatic 446) rfl rfl (Or.inr rfl) rfl (fun _ => rfl) (fun r6 M5 => ?_)
  refine dp_s2 hF (i := .ifCond .ne 10) (a := (20, [some (.ref 114), some (.int v1), some (.int v2), none], [], M5)) (b := (27, [some (.ref 114), some (.int v1), some (.int v2), none], [], M5)) rfl (fun _ => rfl) ?_ ?_
  · refine dp_s1 hF (i := .aload_n 0) rfl (fun _ => rfl) ?_
    refine dp_s1 hF (i := .iconst 1) rfl (fun _ => rfl) ?_
    refine dp_si (mj := dp_m_X12_refuse) (i := .invokevirtual 460) rfl rfl (Or.inl rfl) rfl (fun _ => rfl) (fun r8 M7 => ?_)
    refine dp_s1 hF (i := .i2l) rfl (fun _ => rfl) ?_
    exact dp_s0 hF (i := .lreturn) rfl (fun _ => rfl)
  refine dp_s1 hF (i := .aload_n 0) rfl (fun _ => rfl) ?_
  refine dp_s1 hF (i := .iconst 0) rfl (fun _ => rfl) ?_
  refine dp_s1w (dp_setI M5 114 0 (0 : Int32)) (fun (M9 : dp_M) => (32, [some (.ref 114), some (.int v1), some (.int v2), none], [], M9)) hF (i := .putfield 1) rfl (fun _ => rfl) (fun M9 => ?_)
  refine dp_s1 hF (i := .aload_n 0) rfl (fun _ => rfl) ?_
  refine dp_s1 hF (i := .iload_n 1) rfl (fun _ => rfl) ?_
  refine dp_si (mj := dp_m_X12_askFor) (i := .invokevirtual 1038) rfl rfl (Or.inl rfl) rfl (fun _ => rfl) (fun r11 M10 => ?_)
  refine dp_s1 hF (i := .istore_n 3) rfl (fun _ => rfl) ?_
  refine dp_s1 hF (i := .iload_n 3) rfl (fun _ => rfl) ?_
  refine dp_s2 hF (i := .ifCond .lt 36) (a := (75, [some (.ref 114), some (.int v1), some (.int v2), some (.int r11)], [], M10)) (b := (42, [some (.ref 114), some (.int v1), some (.int v2), some (.int r11)], [], M10)) rfl (fun _ => rfl) ?_ ?_
  · exact rfl
  refine dp_s1 hF (i := .iload_n 2) rfl (fun _ => rfl) ?_
  refine dp_s1 hF (i := .bipush 13) rfl (fun _ => rfl) ?_
  refine dp_s2 hF (i := .if_icmp .lt 30) (a := (75, [some (.ref 114), some (.int v1), some (.int v2), some (.int r11)], [], M10)) (b := (48, [some (.ref 114), some (.int v1), some (.int v2), some (.int r11)], [], M10)) rfl (fun _ => rfl) ?_ ?_
  · exact rfl
  refine dp_s1 hF (i := .iload_n 2) rfl (fun _ => rfl) ?_
  refine dp_s1 hF (i := .bipush 14) rfl (fun _ => rfl) ?_
  refine dp_s2 hF (i := .if_icmp .gt 24) (a := (75, [some (.ref 114), some (.int v1), some (.int v2), some (.int r11)], [], M10)) (b := (54, [some (.ref 114), some (.int v1), some (.int v2), some (.int r11)], [], M10)) rfl (fun _ => rfl) ?_ ?_
  · exact rfl
  refine dp_s1 hF (i := .aload_n 0) rfl (fun _ => rfl) ?_
  refine dp_s1 hF (i := .aload_n 0) rfl (fun _ => rfl) ?_
  refine dp_s1 hF (i := .getfield 263) rfl (fun _ => rfl) ?_
  refine dp_s1 hF (i := .iload_n 3) rfl (fun _ => rfl) ?_
  refine dp_s3 hF (i := .iaload) rfl (fun _ => rfl) ?_
  refine dp_s1 hF (i := .aload_n 0) rfl (fun _ => rfl) ?_
  refine dp_s1 hF (i := .getfield 254) rfl (fun _ => rfl) ?_
  refine dp_s1 hF (i := .aload_n 0) rfl (fun _ => rfl) ?_
  refine dp_s1 hF (i := .getfield 263) rfl (fun _ => rfl) ?_
  refine dp_s1 hF (i := .iload_n 3) rfl (fun _ => rfl) ?_
  refine dp_s3 hF (i := .iaload) rfl (fun _ => rfl) ?_
  refine dp_s3 hF (i := .iaload) rfl (fun _ => rfl) ?_
  refine dp_sv (mj := dp_m_X12_course) (i := .invokevirtual 908) rfl rfl rfl rfl (fun _ => rfl) (fun M12 => ?_)
  exact rfl
set_option maxRecDepth 20000 in
theorem D_X12_declared_75_eq (xs : Nat → Int32) (xl d : Nat) (v1 : Int32) (v2 : Int32) (v3 : Int32) (M : dp_M) : D_X12_declared_75 xs xl d v1 v2 v3 M = if v2 = (0 : Int32) then (if v1 < 0 ∨ 400 ≤ Int32.toNatClampNeg v1 then none else (some (.inl (some (.long (Int32.toInt64 (dp_I M 233 (Int32.toNatClampNeg v1))))), M))) else if v2 = (1 : Int32) then (if v1 < 0 ∨ 400 ≤ Int32.toNatClampNeg v1 then none else (some (.inl (some (.long (Int32.toInt64 (dp_I M 234 (Int32.toNatClampNeg v1))))), M))) else if v2 = (2 : Int32) then (if v1 < 0 ∨ 400 ≤ Int32.toNatClampNeg v1 then none else (some (.inl (some (.long (Int32.toInt64 (dp_I M 235 (Int32.toNatClampNeg v1))))), M))) else if v2 = (3 : Int32) then (if v1 < 0 ∨ 400 ≤ Int32.toNatClampNeg v1 then none else (some (.inl (some (.long (Int32.toInt64 (dp_I M 236 (Int32.toNatClampNeg v1))))), M))) else if v2 = (4 : Int32) then (if v1 < 0 ∨ 400 ≤ Int32.toNatClampNeg v1 then none else (some (.inl (some (.long (Int32.toInt64 (dp_I M 237 (Int32.toNatClampNeg v1))))), M))) else if v2 = (5 : Int32) then (if v1 < 0 ∨ 400 ≤ Int32.toNatClampNeg v1 then none else (some (.inl (some (.long (Int32.toInt64 (dp_I M 238 (Int32.toNatClampNeg v1))))), M))) else if v2 = (6 : Int32) then (if v1 < 0 ∨ 400 ≤ Int32.toNatClampNeg v1 then none else (some (.inl (some (.long (dp_J M 239 (Int32.toNatClampNeg v1)))), M))) else if v2 = (7 : Int32) then (if v1 < 0 ∨ 400 ≤ Int32.toNatClampNeg v1 then none else (some (.inl (some (.long (Int32.toInt64 (dp_I M 241 (Int32.toNatClampNeg v1))))), M))) else if v2 = (8 : Int32) then (if v1 < 0 ∨ 400 ≤ Int32.toNatClampNeg v1 then none else (some (.inl (some (.long (dp_J M 242 (Int32.toNatClampNeg v1)))), M))) else if v2 = (9 : Int32) then (if v1 < 0 ∨ 400 ≤ Int32.toNatClampNeg v1 then none else (some (.inl (some (.long (Int32.toInt64 (dp_I M 243 (Int32.toNatClampNeg v1))))), M))) else if v2 = (10 : Int32) then (if v1 < 0 ∨ 400 ≤ Int32.toNatClampNeg v1 then none else (some (.inl (some (.long (Int32.toInt64 (dp_I M 244 (Int32.toNatClampNeg v1))))), M))) else if v2 = (11 : Int32) then (if 0 ≤ v3 then (if v3 < 0 ∨ 400 ≤ Int32.toNatClampNeg v3 then none else (some (.inl (some (.long (Int32.toInt64 (dp_I M 197 (Int32.toNatClampNeg v3))))), M))) else (some (.inl (some (.long (-1 : Int64))), M))) else if v2 = (12 : Int32) then (if 0 ≤ v3 then (if v3 < 0 ∨ 400 ≤ Int32.toNatClampNeg v3 then none else (some (.inl (some (.long (dp_J M 198 (Int32.toNatClampNeg v3)))), M))) else (some (.inl (some (.long (0 : Int64))), M))) else if v2 = (13 : Int32) then (if 0 ≤ v3 then (if v3 < 0 ∨ 400 ≤ Int32.toNatClampNeg v3 then none else (some (.inl (some (.long (dp_J M 200 (Int32.toNatClampNeg v3)))), M))) else (some (.inl (some (.long (0 : Int64))), M))) else if v2 = (14 : Int32) then (if 0 ≤ v3 then (if v3 < 0 ∨ 400 ≤ Int32.toNatClampNeg v3 then none else (some (.inl (some (.long (Int32.toInt64 (dp_I M 199 (Int32.toNatClampNeg v3))))), M))) else (some (.inl (some (.long (-1 : Int64))), M))) else (if ((((8 : Int32) * v1) + v2) - (15 : Int32)) < 0 ∨ 3200 ≤ Int32.toNatClampNeg ((((8 : Int32) * v1) + v2) - (15 : Int32)) then none else (some (.inl (some (.long (dp_J M 240 (Int32.toNatClampNeg ((((8 : Int32) * v1) + v2) - (15 : Int32)))))), M))) := by
  have hF := dp_den_grow (md := true) (xs := xs) (xl := xl) d
  unfold D_X12_declared_75
  refine dp_s1 hF (i := .iload_n 2) rfl (fun _ => rfl) ?_
  refine (dp_s (E := fun k => if v2 = (0 : Int32) then k (152, [some (.ref 114), some (.int v1), some (.int v2), some (.int v3)], [], M) else if v2 = (1 : Int32) then k (160, [some (.ref 114), some (.int v1), some (.int v2), some (.int v3)], [], M) else if v2 = (2 : Int32) then k (168, [some (.ref 114), some (.int v1), some (.int v2), some (.int v3)], [], M) else if v2 = (3 : Int32) then k (176, [some (.ref 114), some (.int v1), some (.int v2), some (.int v3)], [], M) else if v2 = (4 : Int32) then k (184, [some (.ref 114), some (.int v1), some (.int v2), some (.int v3)], [], M) else if v2 = (5 : Int32) then k (192, [some (.ref 114), some (.int v1), some (.int v2), some (.int v3)], [], M) else if v2 = (6 : Int32) then k (200, [some (.ref 114), some (.int v1), some (.int v2), some (.int v3)], [], M) else if v2 = (7 : Int32) then k (207, [some (.ref 114), some (.int v1), some (.int v2), some (.int v3)], [], M) else if v2 = (8 : Int32) then k (215, [some (.ref 114), some (.int v1), some (.int v2), some (.int v3)], [], M) else if v2 = (9 : Int32) then k (222, [some (.ref 114), some (.int v1), some (.int v2), some (.int v3)], [], M) else if v2 = (10 : Int32) then k (230, [some (.ref 114), some (.int v1), some (.int v2), some (.int v3)], [], M) else if v2 = (11 : Int32) then k (238, [some (.ref 114), some (.int v1), some (.int v2), some (.int v3)], [], M) else if v2 = (12 : Int32) then k (256, [some (.ref 114), some (.int v1), some (.int v2), some (.int v3)], [], M) else if v2 = (13 : Int32) then k (271, [some (.ref 114), some (.int v1), some (.int v2), some (.int v3)], [], M) else if v2 = (14 : Int32) then k (286, [some (.ref 114), some (.int v1), some (.int v2), some (.int v3)], [], M) else k (304, [some (.ref 114), some (.int v1), some (.int v2), some (.int v3)], [], M)) hF (i := .tableswitch 228 0 14 #[76, 84, 92, 100, 108, 116, 124, 131, 139, 146, 154, 162, 180, 195, 210]) rfl (fun _ => rfl)).trans ?_
  refine dp_ifc ?_ ?_
  · refine dp_s1 hF (i := .aload_n 0) rfl (fun _ => rfl) ?_
    refine dp_s1 hF (i := .getfield 380) rfl (fun _ => rfl) ?_
    refine dp_s1 hF (i := .iload_n 1) rfl (fun _ => rfl) ?_
    refine dp_s3 hF (i := .iaload) rfl (fun _ => rfl) ?_
    refine dp_s1 hF (i := .i2l) rfl (fun _ => rfl) ?_
    exact dp_s0 hF (i := .lreturn) rfl (fun _ => rfl)
  refine dp_ifc ?_ ?_
  · refine dp_s1 hF (i := .aload_n 0) rfl (fun _ => rfl) ?_
    refine dp_s1 hF (i := .getfield 383) rfl (fun _ => rfl) ?_
    refine dp_s1 hF (i := .iload_n 1) rfl (fun _ => rfl) ?_
    refine dp_s3 hF (i := .iaload) rfl (fun _ => rfl) ?_
    refine dp_s1 hF (i := .i2l) rfl (fun _ => rfl) ?_
    exact dp_s0 hF (i := .lreturn) rfl (fun _ => rfl)
  refine dp_ifc ?_ ?_
  · refine dp_s1 hF (i := .aload_n 0) rfl (fun _ => rfl) ?_
    refine dp_s1 hF (i := .getfield 386) rfl (fun _ => rfl) ?_
    refine dp_s1 hF (i := .iload_n 1) rfl (fun _ => rfl) ?_
    refine dp_s3 hF (i := .iaload) rfl (fun _ => rfl) ?_
    refine dp_s1 hF (i := .i2l) rfl (fun _ => rfl) ?_
    exact dp_s0 hF (i := .lreturn) rfl (fun _ => rfl)
  refine dp_ifc ?_ ?_
  · refine dp_s1 hF (i := .aload_n 0) rfl (fun _ => rfl) ?_
    refine dp_s1 hF (i := .getfield 389) rfl (fun _ => rfl) ?_
    refine dp_s1 hF (i := .iload_n 1) rfl (fun _ => rfl) ?_
    refine dp_s3 hF (i := .iaload) rfl (fun _ => rfl) ?_
    refine dp_s1 hF (i := .i2l) rfl (fun _ => rfl) ?_
    exact dp_s0 hF (i := .lreturn) rfl (fun _ => rfl)
  refine dp_ifc ?_ ?_
  · refine dp_s1 hF (i := .aload_n 0) rfl (fun _ => rfl) ?_
    refine dp_s1 hF (i := .getfield 392) rfl (fun _ => rfl) ?_
    refine dp_s1 hF (i := .iload_n 1) rfl (fun _ => rfl) ?_
    refine dp_s3 hF (i := .iaload) rfl (fun _ => rfl) ?_
    refine dp_s1 hF (i := .i2l) rfl (fun _ => rfl) ?_
    exact dp_s0 hF (i := .lreturn) rfl (fun _ => rfl)
  refine dp_ifc ?_ ?_
  · refine dp_s1 hF (i := .aload_n 0) rfl (fun _ => rfl) ?_
    refine dp_s1 hF (i := .getfield 395) rfl (fun _ => rfl) ?_
    refine dp_s1 hF (i := .iload_n 1) rfl (fun _ => rfl) ?_
    refine dp_s3 hF (i := .iaload) rfl (fun _ => rfl) ?_
    refine dp_s1 hF (i := .i2l) rfl (fun _ => rfl) ?_
    exact dp_s0 hF (i := .lreturn) rfl (fun _ => rfl)
  refine dp_ifc ?_ ?_
  · refine dp_s1 hF (i := .aload_n 0) rfl (fun _ => rfl) ?_
    refine dp_s1 hF (i := .getfield 398) rfl (fun _ => rfl) ?_
    refine dp_s1 hF (i := .iload_n 1) rfl (fun _ => rfl) ?_
    refine dp_s3 hF (i := .laload) rfl (fun _ => rfl) ?_
    exact dp_s0 hF (i := .lreturn) rfl (fun _ => rfl)
  refine dp_ifc ?_ ?_
  · refine dp_s1 hF (i := .aload_n 0) rfl (fun _ => rfl) ?_
    refine dp_s1 hF (i := .getfield 404) rfl (fun _ => rfl) ?_
    refine dp_s1 hF (i := .iload_n 1) rfl (fun _ => rfl) ?_
    refine dp_s3 hF (i := .iaload) rfl (fun _ => rfl) ?_
    refine dp_s1 hF (i := .i2l) rfl (fun _ => rfl) ?_
    exact dp_s0 hF (i := .lreturn) rfl (fun _ => rfl)
  refine dp_ifc ?_ ?_
  · refine dp_s1 hF (i := .aload_n 0) rfl (fun _ => rfl) ?_
    refine dp_s1 hF (i := .getfield 407) rfl (fun _ => rfl) ?_
    refine dp_s1 hF (i := .iload_n 1) rfl (fun _ => rfl) ?_
    refine dp_s3 hF (i := .laload) rfl (fun _ => rfl) ?_
    exact dp_s0 hF (i := .lreturn) rfl (fun _ => rfl)
  refine dp_ifc ?_ ?_
  · refine dp_s1 hF (i := .aload_n 0) rfl (fun _ => rfl) ?_
    refine dp_s1 hF (i := .getfield 410) rfl (fun _ => rfl) ?_
    refine dp_s1 hF (i := .iload_n 1) rfl (fun _ => rfl) ?_
    refine dp_s3 hF (i := .iaload) rfl (fun _ => rfl) ?_
    refine dp_s1 hF (i := .i2l) rfl (fun _ => rfl) ?_
    exact dp_s0 hF (i := .lreturn) rfl (fun _ => rfl)
  refine dp_ifc ?_ ?_
  · refine dp_s1 hF (i := .aload_n 0) rfl (fun _ => rfl) ?_
    refine dp_s1 hF (i := .getfield 413) rfl (fun _ => rfl) ?_
    refine dp_s1 hF (i := .iload_n 1) rfl (fun _ => rfl) ?_
    refine dp_s3 hF (i := .iaload) rfl (fun _ => rfl) ?_
    refine dp_s1 hF (i := .i2l) rfl (fun _ => rfl) ?_
    exact dp_s0 hF (i := .lreturn) rfl (fun _ => rfl)
  refine dp_ifc ?_ ?_
  · refine dp_s1 hF (i := .iload_n 3) rfl (fun _ => rfl) ?_
    refine dp_s2 hF (i := .ifCond .ge 9) (a := (248, [some (.ref 114), some (.int v1), some (.int v2), some (.int v3)], [], M)) (b := (242, [some (.ref 114), some (.int v1), some (.int v2), some (.int v3)], [], M)) rfl (fun _ => rfl) ?_ ?_
    · refine dp_s1 hF (i := .aload_n 0) rfl (fun _ => rfl) ?_
      refine dp_s1 hF (i := .getfield 263) rfl (fun _ => rfl) ?_
      refine dp_s1 hF (i := .iload_n 3) rfl (fun _ => rfl) ?_
      refine dp_s3 hF (i := .iaload) rfl (fun _ => rfl) ?_
      refine dp_s1 hF (i := .i2l) rfl (fun _ => rfl) ?_
      exact dp_s0 hF (i := .lreturn) rfl (fun _ => rfl)
    refine dp_s1 hF (i := .ldc2_w 435) rfl (fun _ => rfl) ?_
    refine dp_s1 hF (i := .goto 10) rfl (fun _ => rfl) ?_
    exact dp_s0 hF (i := .lreturn) rfl (fun _ => rfl)
  refine dp_ifc ?_ ?_
  · refine dp_s1 hF (i := .iload_n 3) rfl (fun _ => rfl) ?_
    refine dp_s2 hF (i := .ifCond .ge 7) (a := (264, [some (.ref 114), some (.int v1), some (.int v2), some (.int v3)], [], M)) (b := (260, [some (.ref 114), some (.int v1), some (.int v2), some (.int v3)], [], M)) rfl (fun _ => rfl) ?_ ?_
    · refine dp_s1 hF (i := .aload_n 0) rfl (fun _ => rfl) ?_
      refine dp_s1 hF (i := .getfield 266) rfl (fun _ => rfl) ?_
      refine dp_s1 hF (i := .iload_n 3) rfl (fun _ => rfl) ?_
      refine dp_s3 hF (i := .laload) rfl (fun _ => rfl) ?_
      exact dp_s0 hF (i := .lreturn) rfl (fun _ => rfl)
    refine dp_s1 hF (i := .lconst 0) rfl (fun _ => rfl) ?_
    refine dp_s1 hF (i := .goto 9) rfl (fun _ => rfl) ?_
    exact dp_s0 hF (i := .lreturn) rfl (fun _ => rfl)
  refine dp_ifc ?_ ?_
  · refine dp_s1 hF (i := .iload_n 3) rfl (fun _ => rfl) ?_
    refine dp_s2 hF (i := .ifCond .ge 7) (a := (279, [some (.ref 114), some (.int v1), some (.int v2), some (.int v3)], [], M)) (b := (275, [some (.ref 114), some (.int v1), some (.int v2), some (.int v3)], [], M)) rfl (fun _ => rfl) ?_ ?_
    · refine dp_s1 hF (i := .aload_n 0) rfl (fun _ => rfl) ?_
      refine dp_s1 hF (i := .getfield 272) rfl (fun _ => rfl) ?_
      refine dp_s1 hF (i := .iload_n 3) rfl (fun _ => rfl) ?_
      refine dp_s3 hF (i := .laload) rfl (fun _ => rfl) ?_
      exact dp_s0 hF (i := .lreturn) rfl (fun _ => rfl)
    refine dp_s1 hF (i := .lconst 0) rfl (fun _ => rfl) ?_
    refine dp_s1 hF (i := .goto 9) rfl (fun _ => rfl) ?_
    exact dp_s0 hF (i := .lreturn) rfl (fun _ => rfl)
  refine dp_ifc ?_ ?_
  · refine dp_s1 hF (i := .iload_n 3) rfl (fun _ => rfl) ?_
    refine dp_s2 hF (i := .ifCond .ge 9) (a := (296, [some (.ref 114), some (.int v1), some (.int v2), some (.int v3)], [], M)) (b := (290, [some (.ref 114), some (.int v1), some (.int v2), some (.int v3)], [], M)) rfl (fun _ => rfl) ?_ ?_
    · refine dp_s1 hF (i := .aload_n 0) rfl (fun _ => rfl) ?_
      refine dp_s1 hF (i := .getfield 269) rfl (fun _ => rfl) ?_
      refine dp_s1 hF (i := .iload_n 3) rfl (fun _ => rfl) ?_
      refine dp_s3 hF (i := .iaload) rfl (fun _ => rfl) ?_
      refine dp_s1 hF (i := .i2l) rfl (fun _ => rfl) ?_
      exact dp_s0 hF (i := .lreturn) rfl (fun _ => rfl)
    refine dp_s1 hF (i := .ldc2_w 435) rfl (fun _ => rfl) ?_
    refine dp_s1 hF (i := .goto 10) rfl (fun _ => rfl) ?_
    exact dp_s0 hF (i := .lreturn) rfl (fun _ => rfl)
  refine dp_s1 hF (i := .aload_n 0) rfl (fun _ => rfl) ?_
  refine dp_s1 hF (i := .getfield 401) rfl (fun _ => rfl) ?_
  refine dp_s1 hF (i := .bipush 8) rfl (fun _ => rfl) ?_
  refine dp_s1 hF (i := .iload_n 1) rfl (fun _ => rfl) ?_
  refine dp_s1 hF (i := .imul) rfl (fun _ => rfl) ?_
  refine dp_s1 hF (i := .iload_n 2) rfl (fun _ => rfl) ?_
  refine dp_s1 hF (i := .iadd) rfl (fun _ => rfl) ?_
  refine dp_s1 hF (i := .bipush 15) rfl (fun _ => rfl) ?_
  refine dp_s1 hF (i := .isub) rfl (fun _ => rfl) ?_
  refine dp_s3 hF (i := .laload) rfl (fun _ => rfl) ?_
  exact dp_s0 hF (i := .lreturn) rfl (fun _ => rfl)
