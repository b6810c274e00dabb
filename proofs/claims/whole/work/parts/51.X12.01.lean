noncomputable def D_X12_isHere_0 (xs : Nat → Int32) (xl d : Nat) (v1 : Int32) (M : dp_M) : Option dp_Res := dp_lim true xs xl (dp_den true xs xl d) dp_m_X12_isHere (0, [some (.ref 114), some (.int v1)], [], M)
theorem D_X12_isHere_0_den (xs : Nat → Int32) (xl d : Nat) (a0 : Int32) (M : dp_M) : dp_den true xs xl (d + 1) 402 [.ref 114, .int a0] M = D_X12_isHere_0 xs xl d a0 M := rfl
set_option maxRecDepth 20000 in
theorem D_X12_isHere_0_eq (xs : Nat → Int32) (xl d : Nat) (v1 : Int32) (M : dp_M) : D_X12_isHere_0 xs xl d v1 M = if v1 < 0 ∨ 100 ≤ Int32.toNatClampNeg v1 then none else (if (dp_I M 117 (Int32.toNatClampNeg v1)) = (3 : Int32) then (if v1 < 0 ∨ 100 ≤ Int32.toNatClampNeg v1 then none else (if (dp_I M 144 (Int32.toNatClampNeg v1)) = 0 then (some (.inl (some (.int (1 : Int32))), M)) else (some (.inl (some (.int (0 : Int32))), M)))) else (some (.inl (some (.int (0 : Int32))), M))) := by
  have hF := dp_den_grow (md := true) (xs := xs) (xl := xl) d
  unfold D_X12_isHere_0
  refine dp_s1 hF (i := .aload_n 0) rfl (fun _ => rfl) ?_
  refine dp_s1 hF (i := .getfield 20) rfl (fun _ => rfl) ?_
  refine dp_s1 hF (i := .iload_n 1) rfl (fun _ => rfl) ?_
  refine dp_s3 hF (i := .iaload) rfl (fun _ => rfl) ?_
  refine dp_s1 hF (i := .iconst 3) rfl (fun _ => rfl) ?_
  refine dp_s2 hF (i := .if_icmp .ne 16) (a := (10, [some (.ref 114), some (.int v1)], [], M)) (b := (23, [some (.ref 114), some (.int v1)], [], M)) rfl (fun _ => rfl) ?_ ?_
  · refine dp_s1 hF (i := .aload_n 0) rfl (fun _ => rfl) ?_
    refine dp_s1 hF (i := .getfield 103) rfl (fun _ => rfl) ?_
    refine dp_s1 hF (i := .iload_n 1) rfl (fun _ => rfl) ?_
    refine dp_s3 hF (i := .iaload) rfl (fun _ => rfl) ?_
    refine dp_s2 hF (i := .ifCond .ne 7) (a := (19, [some (.ref 114), some (.int v1)], [], M)) (b := (23, [some (.ref 114), some (.int v1)], [], M)) rfl (fun _ => rfl) ?_ ?_
    · refine dp_s1 hF (i := .iconst 1) rfl (fun _ => rfl) ?_
      refine dp_s1 hF (i := .goto 4) rfl (fun _ => rfl) ?_
      exact dp_s0 hF (i := .ireturn) rfl (fun _ => rfl)
    refine dp_s1 hF (i := .iconst 0) rfl (fun _ => rfl) ?_
    exact dp_s0 hF (i := .ireturn) rfl (fun _ => rfl)
  refine dp_s1 hF (i := .iconst 0) rfl (fun _ => rfl) ?_
  exact dp_s0 hF (i := .ireturn) rfl (fun _ => rfl)
noncomputable def D_X12_broken_0 (xs : Nat → Int32) (xl d : Nat) (v1 : Int32) (v2 : Int32) (M : dp_M) : Option dp_Res := dp_lim true xs xl (dp_den true xs xl d) dp_m_X12_broken (0, [some (.ref 114), some (.int v1), some (.int v2), none, none], [], M)
noncomputable def D_X12_broken_42 (xs : Nat → Int32) (xl d : Nat) (v1 : Int32) (v2 : Int32) (v3 : Int32) (v4 : Int32) (M : dp_M) : Option dp_Res := dp_lim true xs xl (dp_den true xs xl d) dp_m_X12_broken (42, [some (.ref 114), some (.int v1), some (.int v2), some (.int v3), some (.int v4)], [], M)
noncomputable def D_X12_broken_117 (xs : Nat → Int32) (xl d : Nat) (v1 : Int32) (v2 : Int32) (v3 : Int32) (v4 : Int32) (M : dp_M) : Option dp_Res := dp_lim true xs xl (dp_den true xs xl d) dp_m_X12_broken (117, [some (.ref 114), some (.int v1), some (.int v2), some (.int v3), some (.int v4)], [], M)
noncomputable def D_X12_broken_155 (xs : Nat → Int32) (xl d : Nat) (v1 : Int32) (v2 : Int32) (v3 : Int32) (v4 : Int32) (vs0 : Int32) (M : dp_M) : Option dp_Res := dp_lim true xs xl (dp_den true xs xl d) dp_m_X12_broken (155, [some (.ref 114), some (.int v1), some (.int v2), some (.int v3), some (.int v4)], [.int vs0], M)
theorem D_X12_broken_0_den (xs : Nat → Int32) (xl d : Nat) (a0 : Int32) (a1 : Int32) (M : dp_M) : dp_den true xs xl (d + 1) 403 [.ref 114, .int a0, .int a1] M = D_X12_broken_0 xs xl d a0 a1 M := rfl
set_option maxRecDepth 20000 in
theorem D_X12_broken_0_eq (xs : Nat → Int32) (xl d : Nat) (v1 : Int32) (v2 : Int32) (M : dp_M) : D_X12_broken_0 xs xl d v1 v2 M = dp_bi (dp_den true xs xl d 396 [.ref 114, .int v2] M) (fun r2 M1 => dp_bi (dp_den true xs xl d 398 [.ref 114, .int v2, .int (r2 - (1 : Int32))] M1) (fun r4 M3 => if v2 < 0 ∨ 20 ≤ Int32.toNatClampNeg v2 then none else (if (dp_I M3 134 (Int32.toNatClampNeg v2)) ≤ 0 then (D_X12_broken_42 xs xl d v1 v2 r2 r4 M3) else (if v2 < 0 ∨ 20 ≤ Int32.toNatClampNeg v2 then none else (if v1 < 0 ∨ 100 ≤ Int32.toNatClampNeg v1 then none else (if (dp_I M3 134 (Int32.toNatClampNeg v2)) = (dp_I M3 139 (Int32.toNatClampNeg v1)) then (D_X12_broken_42 xs xl d v1 v2 r2 r4 M3) else (some (.inl (some (.int (2 : Int32))), M3)))))))) := by
  have hF := dp_den_grow (md := true) (xs := xs) (xl := xl) d
  unfold D_X12_broken_0
  refine dp_s1 hF (i := .aload_n 0) rfl (fun _ => rfl) ?_
  refine dp_s1 hF (i := .iload_n 2) rfl (fun _ => rfl) ?_
  refine dp_si (mj := dp_m_X12_heightOf) (i := .invokevirtual 547) rfl rfl (Or.inl rfl) rfl (fun _ => rfl) (fun r2 M1 => ?_)
  refine dp_s1 hF (i := .istore_n 3) rfl (fun _ => rfl) ?_
  refine dp_s1 hF (i := .aload_n 0) rfl (fun _ => rfl) ?_
  refine dp_s1 hF (i := .iload_n 2) rfl (fun _ => rfl) ?_
  refine dp_s1 hF (i := .iload_n 3) rfl (fun _ => rfl) ?_
  refine dp_s1 hF (i := .iconst 1) rfl (fun _ => rfl) ?_
  refine dp_s1 hF (i := .isub) rfl (fun _ => rfl) ?_
  refine dp_si (mj := dp_m_X12_boxAt) (i := .invokevirtual 550) rfl rfl (Or.inl rfl) rfl (fun _ => rfl) (fun r4 M3 => ?_)
  refine dp_s1 hF (i := .istore 4) rfl (fun _ => rfl) ?_
  refine dp_s1 hF (i := .aload_n 0) rfl (fun _ => rfl) ?_
  refine dp_s1 hF (i := .getfield 73) rfl (fun _ => rfl) ?_
  refine dp_s1 hF (i := .iload_n 2) rfl (fun _ => rfl) ?_
  refine dp_s3 hF (i := .iaload) rfl (fun _ => rfl) ?_
  refine dp_s2 hF (i := .ifCond .le 20) (a := (42, [some (.ref 114), some (.int v1), some (.int v2), some (.int r2), some (.int r4)], [], M3)) (b := (25, [some (.ref 114), some (.int v1), some (.int v2), some (.int r2), some (.int r4)], [], M3)) rfl (fun _ => rfl) ?_ ?_
  · exact rfl
  refine dp_s1 hF (i := .aload_n 0) rfl (fun _ => rfl) ?_
  refine dp_s1 hF (i := .getfield 73) rfl (fun _ => rfl) ?_
  refine dp_s1 hF (i := .iload_n 2) rfl (fun _ => rfl) ?_
  refine dp_s3 hF (i := .iaload) rfl (fun _ => rfl) ?_
  refine dp_s1 hF (i := .aload_n 0) rfl (fun _ => rfl) ?_
  refine dp_s1 hF (i := .getfield 88) rfl (fun _ => rfl) ?_
  refine dp_s1 hF (i := .iload_n 1) rfl (fun _ => rfl) ?_
  refine dp_s3 hF (i := .iaload) rfl (fun _ => rfl) ?_
  refine dp_s2 hF (i := .if_icmp .eq 5) (a := (42, [some (.ref 114), some (.int v1), some (.int v2), some (.int r2), some (.int r4)], [], M3)) (b := (40, [some (.ref 114), some (.int v1), some (.int v2), some (.int r2), some (.int r4)], [], M3)) rfl (fun _ => rfl) ?_ ?_
  · exact rfl
  refine dp_s1 hF (i := .iconst 2) rfl (fun _ => rfl) ?_
  exact dp_s0 hF (i := .ireturn) rfl (fun _ => rfl)
set_option maxRecDepth 20000 in
theorem D_X12_broken_42_eq (xs : Nat → Int32) (xl d : Nat) (v1 : Int32) (v2 : Int32) (v3 : Int32) (v4 : Int32) (M : dp_M) : D_X12_broken_42 xs xl d v1 v2 v3 v4 M = if v3 = (dp_I M 114 26) then (some (.inl (some (.int (3 : Int32))), M)) else (dp_bi (dp_den true xs xl d 397 [.ref 114, .int v2] M) (fun r2 M1 => if v1 < 0 ∨ 100 ≤ Int32.toNatClampNeg v1 then none else (if (r2 + (dp_I M1 137 (Int32.toNatClampNeg v1))) ≤ (dp_I M1 114 27) then (dp_bi (dp_den true xs xl d 400 [.ref 114, .int v1, .int v2] M1) (fun r4 M3 => if r4 = 0 then (if v4 < 0 then (D_X12_broken_117 xs xl d v1 v2 v3 v4 M3) else (if v1 < 0 ∨ 100 ≤ Int32.toNatClampNeg v1 then none else (if v4 < 0 then (if (0 : Int32) < 0 ∨ 100 ≤ Int32.toNatClampNeg (0 : Int32) then none else (if (dp_I M3 137 (Int32.toNatClampNeg v1)) ≤ (dp_I M3 137 (Int32.toNatClampNeg (0 : Int32))) then (D_X12_broken_117 xs xl d v1 v2 v3 v4 M3) else (some (.inl (some (.int (6 : Int32))), M3)))) else (if v4 < 0 ∨ 100 ≤ Int32.toNatClampNeg v4 then none else (if (dp_I M3 137 (Int32.toNatClampNeg v1)) ≤ (dp_I M3 137 (Int32.toNatClampNeg v4)) then (D_X12_broken_117 xs xl d v1 v2 v3 v4 M3) else (some (.inl (some (.int (6 : Int32))), M3))))))) else (some (.inl (some (.int (5 : Int32))), M3)))) else (some (.inl (some (.int (4 : Int32))), M1))))) := by
  have hF := dp_den_grow (md := true) (xs := xs) (xl := xl) d
  unfold D_X12_broken_42
  refine dp_s1 hF (i := .iload_n 3) rfl (fun _ => rfl) ?_
  refine dp_s1 hF (i := .aload_n 0) rfl (fun _ => rfl) ?_
  refine dp_s1 hF (i := .getfield 429) rfl (fun _ => rfl) ?_
  refine dp_s2 hF (i := .if_icmp .ne 5) (a := (50, [some (.ref 114), some (.int v1), some (.int v2), some (.int v3), some (.int v4)], [], M)) (b := (52, [some (.ref 114), some (.int v1), some (.int v2), some (.int v3), some (.int v4)], [], M)) rfl (fun _ => rfl) ?_ ?_
  · refine dp_s1 hF (i := .iconst 3) rfl (fun _ => rfl) ?_
    exact dp_s0 hF (i := .ireturn) rfl (fun _ => rfl)
  refine dp_s1 hF (i := .aload_n 0) rfl (fun _ => rfl) ?_
  refine dp_s1 hF (i := .iload_n 2) rfl (fun _ => rfl) ?_
  refine dp_si (mj := dp_m_X12_weightOf) (i := .invokevirtual 553) rfl rfl (Or.inl rfl) rfl (fun _ => rfl) (fun r2 M1 => ?_)
  refine dp_s1 hF (i := .aload_n 0) rfl (fun _ => rfl) ?_
  refine dp_s1 hF (i := .getfield 82) rfl (fun _ => rfl) ?_
  refine dp_s1 hF (i := .iload_n 1) rfl (fun _ => rfl) ?_
  refine dp_s3 hF (i := .iaload) rfl (fun _ => rfl) ?_
  refine dp_s1 hF (i := .iadd) rfl (fun _ => rfl) ?_
  refine dp_s1 hF (i := .aload_n 0) rfl (fun _ => rfl) ?_
  refine dp_s1 hF (i := .getfield 432) rfl (fun _ => rfl) ?_
  refine dp_s2 hF (i := .if_icmp .le 5) (a := (73, [some (.ref 114), some (.int v1), some (.int v2), some (.int v3), some (.int v4)], [], M1)) (b := (71, [some (.ref 114), some (.int v1), some (.int v2), some (.int v3), some (.int v4)], [], M1)) rfl (fun _ => rfl) ?_ ?_
  · refine dp_s1 hF (i := .aload_n 0) rfl (fun _ => rfl) ?_
    refine dp_s1 hF (i := .iload_n 1) rfl (fun _ => rfl) ?_
    refine dp_s1 hF (i := .iload_n 2) rfl (fun _ => rfl) ?_
    refine dp_si (mj := dp_m_X12_hasOtherSize) (i := .invokevirtual 556) rfl rfl (Or.inr rfl) rfl (fun _ => rfl) (fun r4 M3 => ?_)
    refine dp_s2 hF (i := .ifCond .eq 5) (a := (84, [some (.ref 114), some (.int v1), some (.int v2), some (.int v3), some (.int v4)], [], M3)) (b := (82, [some (.ref 114), some (.int v1), some (.int v2), some (.int v3), some (.int v4)], [], M3)) rfl (fun _ => rfl) ?_ ?_
    · refine dp_s1 hF (i := .iload 4) rfl (fun _ => rfl) ?_
      refine dp_s2 hF (i := .ifCond .lt 31) (a := (117, [some (.ref 114), some (.int v1), some (.int v2), some (.int v3), some (.int v4)], [], M3)) (b := (89, [some (.ref 114), some (.int v1), some (.int v2), some (.int v3), some (.int v4)], [], M3)) rfl (fun _ => rfl) ?_ ?_
      · exact rfl
      refine dp_s1 hF (i := .aload_n 0) rfl (fun _ => rfl) ?_
      refine dp_s1 hF (i := .getfield 82) rfl (fun _ => rfl) ?_
      refine dp_s1 hF (i := .iload_n 1) rfl (fun _ => rfl) ?_
      refine dp_s3 hF (i := .iaload) rfl (fun _ => rfl) ?_
      refine dp_s1 hF (i := .aload_n 0) rfl (fun _ => rfl) ?_
      refine dp_s1 hF (i := .getfield 82) rfl (fun _ => rfl) ?_
      refine dp_s1 hF (i := .iload 4) rfl (fun _ => rfl) ?_
      refine dp_s2 hF (i := .ifCond .lt 8) (a := (109, [some (.ref 114), some (.int v1), some (.int v2), some (.int v3), some (.int v4)], [.ref 137, .int (dp_I M3 137 (Int32.toNatClampNeg v1))], M3)) (b := (104, [some (.ref 114), some (.int v1), some (.int v2), some (.int v3), some (.int v4)], [.ref 137, .int (dp_I M3 137 (Int32.toNatClampNeg v1))], M3)) rfl (fun _ => rfl) ?_ ?_
      · refine dp_s1 hF (i := .iconst 0) rfl (fun _ => rfl) ?_
        refine dp_s3 hF (i := .iaload) rfl (fun _ => rfl) ?_
        refine dp_s2 hF (i := .if_icmp .le 6) (a := (117, [some (.ref 114), some (.int v1), some (.int v2), some (.int v3), some (.int v4)], [], M3)) (b := (114, [some (.ref 114), some (.int v1), some (.int v2), some (.int v3), some (.int v4)], [], M3)) rfl (fun _ => rfl) ?_ ?_
        · exact rfl
        refine dp_s1 hF (i := .bipush 6) rfl (fun _ => rfl) ?_
        exact dp_s0 hF (i := .ireturn) rfl (fun _ => rfl)
      refine dp_s1 hF (i := .iload 4) rfl (fun _ => rfl) ?_
      refine dp_s1 hF (i := .goto 4) rfl (fun _ => rfl) ?_
      refine dp_s3 hF (i := .iaload) rfl (fun _ => rfl) ?_
      refine dp_s2 hF (i := .if_icmp .le 6) (a := (117, [some (.ref 114), some (.int v1), some (.int v2), some (.int v3), some (.int v4)], [], M3)) (b := (114, [some (.ref 114), some (.int v1), some (.int v2), some (.int v3), some (.int v4)], [], M3)) rfl (fun _ => rfl) ?_ ?_
      · exact rfl
      refine dp_s1 hF (i := .bipush 6) rfl (fun _ => rfl) ?_
      exact dp_s0 hF (i := .ireturn) rfl (fun _ => rfl)
    refine dp_s1 hF (i := .iconst 5) rfl (fun _ => rfl) ?_
    exact dp_s0 hF (i := .ireturn) rfl (fun _ => rfl)
  refine dp_s1 hF (i := .iconst 4) rfl (fun _ => rfl) ?_
  exact dp_s0 hF (i := .ireturn) rfl (fun _ => rfl)
set_option maxRecDepth 20000 in
theorem D_X12_broken_117_eq (xs : Nat → Int32) (xl d : Nat) (v1 : Int32) (v2 : Int32) (v3 : Int32) (v4 : Int32) (M : dp_M) : D_X12_broken_117 xs xl d v1 v2 v3 v4 M = if v1 < 0 ∨ 100 ≤ Int32.toNatClampNeg v1 then none else (if (dp_I M 136 (Int32.toNatClampNeg v1)) = (1 : Int32) then (if v2 < 0 ∨ 20 ≤ Int32.toNatClampNeg v2 then none else (if (dp_I M 133 (Int32.toNatClampNeg v2)) = (1 : Int32) then (if v1 < 0 ∨ 100 ≤ Int32.toNatClampNeg v1 then none else (if (dp_I M 136 (Int32.toNatClampNeg v1)) = (2 : Int32) then (D_X12_broken_155 xs xl d v1 v2 v3 v4 (1 : Int32) M) else (D_X12_broken_155 xs xl d v1 v2 v3 v4 (0 : Int32) M))) else (some (.inl (some (.int (7 : Int32))), M)))) else (if v1 < 0 ∨ 100 ≤ Int32.toNatClampNeg v1 then none else (if (dp_I M 136 (Int32.toNatClampNeg v1)) = (2 : Int32) then (D_X12_broken_155 xs xl d v1 v2 v3 v4 (1 : Int32) M) else (D_X12_broken_155 xs xl d v1 v2 v3 v4 (0 : Int32) M)))) := by
  have hF := dp_den_grow (md := true) (xs := xs) (xl := xl) d
  unfold D_X12_broken_117
  refine dp_s1 hF (i := .aload_n 0) rfl (fun _ => rfl) ?_
  refine dp_s1 hF (i := .getfield 79) rfl (fun _ => rfl) ?_
  refine dp_s1 hF (i := .iload_n 1) rfl (fun _ => rfl) ?_
  refine dp_s3 hF (i := .iaload) rfl (fun _ => rfl) ?_
  refine dp_s1 hF (i := .iconst 1) rfl (fun _ => rfl) ?_
  refine dp_s2 hF (i := .if_icmp .ne 16) (a := (127, [some (.ref 114), some (.int v1), some (.int v2), some (.int v3), some (.int v4)], [], M)) (b := (140, [some (.ref 114), some (.int v1), some (.int v2), some (.int v3), some (.int v4)], [], M)) rfl (fun _ => rfl) ?_ ?_
  · refine dp_s1 hF (i := .aload_n 0) rfl (fun _ => rfl) ?_
    refine dp_s1 hF (i := .getfield 70) rfl (fun _ => rfl) ?_
    refine dp_s1 hF (i := .iload_n 2) rfl (fun _ => rfl) ?_
    refine dp_s3 hF (i := .iaload) rfl (fun _ => rfl) ?_
    refine dp_s1 hF (i := .iconst 1) rfl (fun _ => rfl) ?_
    refine dp_s2 hF (i := .if_icmp .eq 6) (a := (140, [some (.ref 114), some (.int v1), some (.int v2), some (.int v3), some (.int v4)], [], M)) (b := (137, [some (.ref 114), some (.int v1), some (.int v2), some (.int v3), some (.int v4)], [], M)) rfl (fun _ => rfl) ?_ ?_
    · refine dp_s1 hF (i := .aload_n 0) rfl (fun _ => rfl) ?_
      refine dp_s1 hF (i := .getfield 79) rfl (fun _ => rfl) ?_
      refine dp_s1 hF (i := .iload_n 1) rfl (fun _ => rfl) ?_
      refine dp_s3 hF (i := .iaload) rfl (fun _ => rfl) ?_
      refine dp_s1 hF (i := .iconst 2) rfl (fun _ => rfl) ?_
      refine dp_s2 hF (i := .if_icmp .ne 7) (a := (150, [some (.ref 114), some (.int v1), some (.int v2), some (.int v3), some (.int v4)], [], M)) (b := (154, [some (.ref 114), some (.int v1), some (.int v2), some (.int v3), some (.int v4)], [], M)) rfl (fun _ => rfl) ?_ ?_
      · refine dp_s1 hF (i := .iconst 1) rfl (fun _ => rfl) ?_
        refine dp_s1 hF (i := .goto 4) rfl (fun _ => rfl) ?_
        exact rfl
      refine dp_s1 hF (i := .iconst 0) rfl (fun _ => rfl) ?_
      exact rfl
    refine dp_s1 hF (i := .bipush 7) rfl (fun _ => rfl) ?_
    exact dp_s0 hF (i := .ireturn) rfl (fun _ => rfl)
  refine dp_s1 hF (i := .aload_n 0) rfl (fun _ => rfl) ?_
  refine dp_s1 hF (i := .getfield 79) rfl (fun _ => rfl) ?_
  refine dp_s1 hF (i := .iload_n 1) rfl (fun _ => rfl) ?_
  refine dp_s3 hF (i := .iaload) rfl (fun _ => rfl) ?_
  refine dp_s1 hF (i := .iconst 2) rfl (fun _ => rfl) ?_
  refine dp_s2 hF (i := .if_icmp .ne 7) (a := (150, [some (.ref 114), some (.int v1), some (.int v2), some (.int v3), some (.int v4)], [], M)) (b := (154, [some (.ref 114), some (.int v1), some (.int v2), some (.int v3), some (.int v4)], [], M)) rfl (fun _ => rfl) ?_ ?_
  · refine dp_s1 hF (i := .iconst 1) rfl (fun _ => rfl) ?_
    refine dp_s1 hF (i := .goto 4) rfl (fun _ => rfl) ?_
    exact rfl
  refine dp_s1 hF (i := .iconst 0) rfl (fun _ => rfl) ?_
  exact rfl
set_option maxRecDepth 20000 in
theorem D_X12_broken_155_eq (xs : Nat → Int32) (xl d : Nat) (v1 : Int32) (v2 : Int32) (v3 : Int32) (v4 : Int32) (vs0 : Int32) (M : dp_M) : D_X12_broken_155 xs xl d v1 v2 v3 v4 vs0 M = if v2 < 0 ∨ 20 ≤ Int32.toNatClampNeg v2 then none else (if (dp_I M 133 (Int32.toNatClampNeg v2)) = (2 : Int32) then (if vs0 = (1 : Int32) then (some (.inl (some (.int (0 : Int32))), M)) else (some (.inl (some (.int (8 : Int32))), M))) else (if vs0 = (0 : Int32) then (some (.inl (some (.int (0 : Int32))), M)) else (some (.inl (some (.int (8 : Int32))), M)))) := by
  have hF := dp_den_grow (md := true) (xs := xs) (xl := xl) d
  unfold D_X12_broken_155
  refine dp_s1 hF (i := .aload_n 0) rfl (fun _ => rfl) ?_
  refine dp_s1 hF (i := .getfield 70) rfl (fun _ => rfl) ?_
  refine dp_s1 hF (i := .iload_n 2) rfl (fun _ => rfl) ?_
  refine dp_s3 hF (i := .iaload) rfl (fun _ => rfl) ?_
  refine dp_s1 hF (i := .iconst 2) rfl (fun _ => rfl) ?_
  refine dp_s2 hF (i := .if_icmp .ne 7) (a := (165, [some (.ref 114), some (.int v1), some (.int v2), some (.int v3), some (.int v4)], [.int vs0], M)) (b := (169, [some (.ref 114), some (.int v1), some (.int v2), some (.int v3), some (.int v4)], [.int vs0], M)) rfl (fun _ => rfl) ?_ ?_
  · refine dp_s1 hF (i := .iconst 1) rfl (fun _ => rfl) ?_
    refine dp_s1 hF (i := .goto 4) rfl (fun _ => rfl) ?_
    refine dp_s2 hF (i := .if_icmp .eq 8) (a := (178, [some (.ref 114), some (.int v1), some (.int v2), some (.int v3), some (.int v4)], [], M)) (b := (173, [some (.ref 114), some (.int v1), some (.int v2), some (.int v3), some (.int v4)], [], M)) rfl (fun _ => rfl) ?_ ?_
    · refine dp_s1 hF (i := .iconst 0) rfl (fun _ => rfl) ?_
      exact dp_s0 hF (i := .ireturn) rfl (fun _ => rfl)
    refine dp_s1 hF (i := .bipush 8) rfl (fun _ => rfl) ?_
    refine dp_s1 hF (i := .goto 4) rfl (fun _ => rfl) ?_
    exact dp_s0 hF (i := .ireturn) rfl (fun _ => rfl)
  refine dp_s1 hF (i := .iconst 0) rfl (fun _ => rfl) ?_
  refine dp_s2 hF (i := .if_icmp .eq 8) (a := (178, [some (.ref 114), some (.int v1), some (.int v2), some (.int v3), some (.int v4)], [], M)) (b := (173, [some (.ref 114), some (.int v1), some (.int v2), some (.int v3), some (.int v4)], [], M)) rfl (fun _ => rfl) ?_ ?_
  · refine dp_s1 hF (i := .iconst 0) rfl (fun _ => rfl) ?_
    exact dp_s0 hF (i := .ireturn) rfl (fun _ => rfl)
  refine dp_s1 hF (i := .bipush 8) rfl (fun _ => rfl) ?_
  refine dp_s1 hF (i := .goto 4) rfl (fun _ => rfl) ?_
  exact dp_s0 hF (i := .ireturn) rfl (fun _ => rfl)
noncomputable def D_X12_scoreOf_0 (xs : Nat → Int32) (xl d : Nat) (v1 : Int32) (v2 : Int32) (M : dp_M) : Option dp_Res := dp_lim true xs xl (dp_den true xs xl d) dp_m_X12_scoreOf (0, [some (.ref 114), some (.int v1), some (.int v2), none, none, none, none], [], M)
noncomputable def D_X12_scoreOf_21 (xs : Nat → Int32) (xl d : Nat) (v1 : Int32) (v2 : Int32) (v3 : Int32) (vs0 : Int32) (M : dp_M) : Option dp_Res := dp_lim true xs xl (dp_den true xs xl d) dp_m_X12_scoreOf (21, [some (.ref 114), some (.int v1), some (.int v2), some (.int v3), none, none, none], [.int vs0], M)
theorem D_X12_scoreOf_0_den (xs : Nat → Int32) (xl d : Nat) (a0 : Int32) (a1 : Int32) (M : dp_M) : dp_den true xs xl (d + 1) 404 [.ref 114, .int a0, .int a1] M = D_X12_scoreOf_0 xs xl d a0 a1 M := rfl
set_option maxRecDepth 20000 in
theorem D_X12_scoreOf_0_eq (xs : Nat → Int32) (xl d : Nat) (v1 : Int32) (v2 : Int32) (M : dp_M) : D_X12_scoreOf_0 xs xl d v1 v2 M = dp_bi (dp_den true xs xl d 396 [.ref 114, .int v2] M) (fun r2 M1 => if v2 < 0 ∨ 20 ≤ Int32.toNatClampNeg v2 then none else (if (dp_I M1 134 (Int32.toNatClampNeg v2)) ≤ 0 then (D_X12_scoreOf_21 xs xl d v1 v2 r2 (0 : Int32) M1) else (D_X12_scoreOf_21 xs xl d v1 v2 r2 (30 : Int32) M1))) := by
  have hF := dp_den_grow (md := true) (xs := xs) (xl := xl) d
  unfold D_X12_scoreOf_0
  refine dp_s1 hF (i := .aload_n 0) rfl (fun _ => rfl) ?_
  refine dp_s1 hF (i := .iload_n 2) rfl (fun _ => rfl) ?_
  refine dp_si (mj := dp_m_X12_heightOf) (i := .invokevirtual 547) rfl rfl (Or.inl rfl) rfl (fun _ => rfl) (fun r2 M1 => ?_)
  refine dp_s1 hF (i := .istore_n 3) rfl (fun _ => rfl) ?_
  refine dp_s1 hF (i := .aload_n 0) rfl (fun _ => rfl) ?_
  refine dp_s1 hF (i := .getfield 73) rfl (fun _ => rfl) ?_
  refine dp_s1 hF (i := .iload_n 2) rfl (fun _ => rfl) ?_
  refine dp_s3 hF (i := .iaload) rfl (fun _ => rfl) ?_
  refine dp_s2 hF (i := .ifCond .le 8) (a := (20, [some (.ref 114), some (.int v1), some (.int v2), some (.int r2), none, none, none], [], M1)) (b := (15, [some (.ref 114), some (.int v1), some (.int v2), some (.int r2), none, none, none], [], M1)) rfl (fun _ => rfl) ?_ ?_
  · refine dp_s1 hF (i := .iconst 0) rfl (fun _ => rfl) ?_
    exact rfl
  refine dp_s1 hF (i := .bipush 30) rfl (fun _ => rfl) ?_
  refine dp_s1 hF (i := .goto 4) rfl (fun _ => rfl) ?_
  exact rfl
set_option maxRecDepth 20000 in
theorem D_X12_scoreOf_21_eq (xs : Nat → Int32) (xl d : Nat) (v1 : Int32) (v2 : Int32) (v3 : Int32) (vs0 : Int32) (M : dp_M) : D_X12_scoreOf_21 xs xl d v1 v2 v3 vs0 M = if v3 = 0 then (some (.inl (some (.int (vs0 + (20 : Int32)))), M)) else (dp_bi (dp_den true xs xl d 398 [.ref 114, .int v2, .int (v3 - (1 : Int32))] M) (fun r2 M1 => if r2 < 0 ∨ 100 ≤ Int32.toNatClampNeg r2 then none else (if v1 < 0 ∨ 100 ≤ Int32.toNatClampNeg v1 then none else (dp_w ((3 : Int32) * ((dp_I M1 137 (Int32.toNatClampNeg r2)) - (dp_I M1 137 (Int32.toNatClampNeg v1)))) (fun y3 => dp_bi (dp_den true xs xl d 401 [.ref 114, .int v1, .int v2, .int v3] M1) (fun r5 M4 => if r2 < 0 ∨ 100 ≤ Int32.toNatClampNeg r2 then none else (if v1 < 0 ∨ 100 ≤ Int32.toNatClampNeg v1 then none else (if (dp_I M4 139 (Int32.toNatClampNeg r2)) = (dp_I M4 139 (Int32.toNatClampNeg v1)) then (if y3 ≤ (24 : Int32) then (some (.inl (some (.int ((((vs0 + (40 : Int32)) - ((15 : Int32) * r5)) + (12 : Int32)) - y3))), M4)) else (some (.inl (some (.int ((((vs0 + (40 : Int32)) - ((15 : Int32) * r5)) + (12 : Int32)) - (24 : Int32)))), M4))) else (if y3 ≤ (24 : Int32) then (some (.inl (some (.int ((((vs0 + (40 : Int32)) - ((15 : Int32) * r5)) + (0 : Int32)) - y3))), M4)) else (some (.inl (some (.int ((((vs0 + (40 : Int32)) - ((15 : Int32) * r5)) + (0 : Int32)) - (24 : Int32)))), M4))))))))))) := by
  have hF := dp_den_grow (md := true) (xs := xs) (xl := xl) d
  unfold D_X12_scoreOf_21
  refine dp_s1 hF (i := .istore 4) rfl (fun _ => rfl) ?_
  refine dp_s1 hF (i := .iload_n 3) rfl (fun _ => rfl) ?_
  refine dp_s2 hF (i := .ifCond .ne 9) (a := (27, [some (.ref 114), some (.int v1), some (.int v2), some (.int v3), some (.int vs0), none, none], [], M)) (b := (33, [some (.ref 114), some (.int v1), some (.int v2), some (.int v3), some (.int vs0), none, none], [], M)) rfl (fun _ => rfl) ?_ ?_
  · refine dp_s1 hF (i := .iload 4) rfl (fun _ => rfl) ?_
    refine dp_s1 hF (i := .bipush 20) rfl (fun _ => rfl) ?_
    refine dp_s1 hF (i := .iadd) rfl (fun _ => rfl) ?_
    exact dp_s0 hF (i := .ireturn) rfl (fun _ => rfl)
  refine dp_s1 hF (i := .aload_n 0) rfl (fun _ => rfl) ?_
  refine dp_s1 hF (i := .iload_n 2) rfl (fun _ => rfl) ?_
  refine dp_s1 hF (i := .iload_n 3) rfl (fun _ => rfl) ?_
  refine dp_s1 hF (i := .iconst 1) rfl (fun _ => rfl) ?_
  refine dp_s1 hF (i := .isub) rfl (fun _ => rfl) ?_
  refine dp_si (mj := dp_m_X12_boxAt) (i := .invokevirtual 550) rfl rfl (Or.inl rfl) rfl (fun _ => rfl) (fun r2 M1 => ?_)
  refine dp_s1 hF (i := .istore 5) rfl (fun _ => rfl) ?_
  refine dp_s1 hF (i := .iconst 3) rfl (fun _ => rfl) ?_
  refine dp_s1 hF (i := .aload_n 0) rfl (fun _ => rfl) ?_
  refine dp_s1 hF (i := .getfield 82) rfl (fun _ => rfl) ?_
  refine dp_s1 hF (i := .iload 5) rfl (fun _ => rfl) ?_
  refine dp_s3 hF (i := .iaload) rfl (fun _ => rfl) ?_
  refine dp_s1 hF (i := .aload_n 0) rfl (fun _ => rfl) ?_
  refine dp_s1 hF (i := .getfield 82) rfl (fun _ => rfl) ?_
  refine dp_s1 hF (i := .iload_n 1) rfl (fun _ => rfl) ?_
  refine dp_s3 hF (i := .iaload) rfl (fun _ => rfl) ?_
  refine dp_s1 hF (i := .isub) rfl (fun _ => rfl) ?_
  refine dp_s1 hF (i := .imul) rfl (fun _ => rfl) ?_
  refine dp_s1w ((3 : Int32) * ((dp_I M1 137 (Int32.toNatClampNeg r2)) - (dp_I M1 137 (Int32.toNatClampNeg v1)))) (fun (y3 : Int32) => (61, [some (.ref 114), some (.int v1), some (.int v2), some (.int v3), some (.int vs0), some (.int r2), some (.int y3)], [], M1)) hF (i := .istore 6) rfl (fun _ => rfl) (fun y3 => ?_)
  refine dp_s1 hF (i := .iload 4) rfl (fun _ => rfl) ?_
  refine dp_s1 hF (i := .bipush 40) rfl (fun _ => rfl) ?_
  refine dp_s1 hF (i := .iadd) rfl (fun _ => rfl) ?_
  refine dp_s1 hF (i := .bipush 15) rfl (fun _ => rfl) ?_
  refine dp_s1 hF (i := .aload_n 0) rfl (fun _ => rfl) ?_
  refine dp_s1 hF (i := .iload_n 1) rfl (fun _ => rfl) ?_
  refine dp_s1 hF (i := .iload_n 2) rfl (fun _ => rfl) ?_
  refine dp_s1 hF (i := .iload_n 3) rfl (fun _ => rfl) ?_
  refine dp_si (mj := dp_m_X12_sooner) (i := .invokevirtual 559) rfl rfl (Or.inl rfl) rfl (fun _ => rfl) (fun r5 M4 => ?_)
  refine dp_s1 hF (i := .imul) rfl (fun _ => rfl) ?_
  refine dp_s1 hF (i := .isub) rfl (fun _ => rfl) ?_
  refine dp_s1 hF (i := .aload_n 0) rfl (fun _ => rfl) ?_
  refine dp_s1 hF (i := .getfield 88) rfl (fun _ => rfl) ?_
  refine dp_s1 hF (i := .iload 5) rfl (fun _ => rfl) ?_
  refine dp_s3 hF (i := .iaload) rfl (fun _ => rfl) ?_
  refine dp_s1 hF (i := .aload_n 0) rfl (fun _ => rfl) ?_
  refine dp_s1 hF (i := .getfield 88) rfl (fun _ => rfl) ?_
  refine dp_s1 hF (i := .iload_n 1) rfl (fun _ => rfl) ?_
  refine dp_s3 hF (i := .iaload) rfl (fun _ => rfl) ?_
  refine dp_s2 hF (i := .if_icmp .ne 8) (a := (93, [some (.ref 114), some (.int v1), some (.int v2), some (.int v3), some (.int vs0), some (.int r2), some (.int y3)], [.int ((vs0 + (40 : Int32)) - ((15 : Int32) * r5))], M4)) (b := (98, [some (.ref 114), some (.int v1), some (.int v2), some (.int v3), some (.int vs0), some (.int r2), some (.int y3)], [.int ((vs0 + (40 : Int32)) - ((15 : Int32) * r5))], M4)) rfl (fun _ => rfl) ?_ ?_
  · refine dp_s1 hF (i := .bipush 12) rfl (fun _ => rfl) ?_
    refine dp_s1 hF (i := .goto 4) rfl (fun _ => rfl) ?_
    refine dp_s1 hF (i := .iadd) rfl (fun _ => rfl) ?_
    refine dp_s1 hF (i := .iload 6) rfl (fun _ => rfl) ?_
    refine dp_s1 hF (i := .bipush 24) rfl (fun _ => rfl) ?_
    refine dp_s2 hF (i := .if_icmp .le 8) (a := (112, [some (.ref 114), some (.int v1), some (.int v2), some (.int v3), some (.int vs0), some (.int r2), some (.int y3)], [.int (((vs0 + (40 : Int32)) - ((15 : Int32) * r5)) + (12 : Int32))], M4)) (b := (107, [some (.ref 114), some (.int v1), some (.int v2), some (.int v3), some (.int vs0), some (.int r2), some (.int y3)], [.int (((vs0 + (40 : Int32)) - ((15 : Int32) * r5)) + (12 : Int32))], M4)) rfl (fun _ => rfl) ?_ ?_
    · refine dp_s1 hF (i := .iload 6) rfl (fun _ => rfl) ?_
      refine dp_s1 hF (i := .isub) rfl (fun _ => rfl) ?_
      exact dp_s0 hF (i := .ireturn) rfl (fun _ => rfl)
    refine dp_s1 hF (i := .bipush 24) rfl (fun _ => rfl) ?_
    refine dp_s1 hF (i := .goto 5) rfl (fun _ => rfl) ?_
    refine dp_s1 hF (i := .isub) rfl (fun _ => rfl) ?_
    exact dp_s0 hF (i := .ireturn) rfl (fun _ => rfl)
  refine dp_s1 hF (i := .iconst 0) rfl (fun _ => rfl) ?_
  refine dp_s1 hF (i := .iadd) rfl (fun _ => rfl) ?_
  refine dp_s1 hF (i := .iload 6) rfl (fun _ => rfl) ?_
  refine dp_s1 hF (i := .bipush 24) rfl (fun _ => rfl) ?_
  refine dp_s2 hF (i := .if_icmp .le 8) (a := (112, [some (.ref 114), some (.int v1), some (.int v2), some (.int v3), some (.int vs0), some (.int r2), some (.int y3)], [.int (((vs0 + (40 : Int32)) - ((15 : Int32) * r5)) + (0 : Int32))], M4)) (b := (107, [some (.ref 114), some (.int v1), some (.int v2), some (.int v3), some (.int vs0), some (.int r2), some (.int y3)], [.int (((vs0 + (40 : Int32)) - ((15 : Int32) * r5)) + (0 : Int32))], M4)) rfl (fun _ => rfl) ?_ ?_
  · refine dp_s1 hF (i := .iload 6) rfl (fun _ => rfl) ?_
    refine dp_s1 hF (i := .isub) rfl (fun _ => rfl) ?_
    exact dp_s0 hF (i := .ireturn) rfl (fun _ => rfl)
  refine dp_s1 hF (i := .bipush 24) rfl (fun _ => rfl) ?_
  refine dp_s1 hF (i := .goto 5) rfl (fun _ => rfl) ?_
  refine dp_s1 hF (i := .isub) rfl (fun _ => rfl) ?_
  exact dp_s0 hF (i := .ireturn) rfl (fun _ => rfl)
noncomputable def D_X12_bestRow_0 (xs : Nat → Int32) (xl d : Nat) (v1 : Int32) (M : dp_M) : Option dp_Res := dp_lim true xs xl (dp_den true xs xl d) dp_m_X12_bestRow (0, [some (.ref 114), some (.int v1), none, none], [], M)
noncomputable def D_X12_bestRow_9 (xs : Nat → Int32) (xl d : Nat) (v1 : Int32) (v2 : Int32) (v3 : Int32) (M : dp_M) : Option dp_Res := dp_lim true xs xl (dp_den true xs xl d) dp_m_X12_bestRow (9, [some (.ref 114), some (.int v1), some (.int v2), some (.int v3)], [], M)
theorem D_X12_bestRow_0_den (xs : Nat → Int32) (xl d : Nat) (a0 : Int32) (M : dp_M) : dp_den true xs xl (d + 1) 405 [.ref 114, .int a0] M = D_X12_bestRow_0 xs xl d a0 M := rfl
set_option maxRecDepth 20000 in
theorem D_X12_bestRow_0_eq (xs : Nat → Int32) (xl d : Nat) (v1 : Int32) (M : dp_M) : D_X12_bestRow_0 xs xl d v1 M = dp_w (-1 : Int32) (fun y1 => dp_w ((dp_I M 114 25) - (1 : Int32)) (fun y2 => D_X12_bestRow_9 xs xl d v1 y1 y2 M)) := by
  have hF := dp_den_grow (md := true) (xs := xs) (xl := xl) d
  unfold D_X12_bestRow_0
  refine dp_s1 hF (i := .iconst (-1)) rfl (fun _ => rfl) ?_
  refine dp_s1w (-1 : Int32) (fun (y1 : Int32) => (2, [some (.ref 114), some (.int v1), some (.int y1), none], [], M)) hF (i := .istore_n 2) rfl (fun _ => rfl) (fun y1 => ?_)
  refine dp_s1 hF (i := .aload_n 0) rfl (fun _ => rfl) ?_
  refine dp_s1 hF (i := .getfield 426) rfl (fun _ => rfl) ?_
  refine dp_s1 hF (i := .iconst 1) rfl (fun _ => rfl) ?_
  refine dp_s1 hF (i := .isub) rfl (fun _ => rfl) ?_
  refine dp_s1w ((dp_I M 114 25) - (1 : Int32)) (fun (y2 : Int32) => (9, [some (.ref 114), some (.int v1), some (.int y1), some (.int y2)], [], M)) hF (i := .istore_n 3) rfl (fun _ => rfl) (fun y2 => ?_)
  exact rfl
set_option maxRecDepth 20000 in
theorem D_X12_bestRow_9_eq (xs : Nat → Int32) (xl d : Nat) (v1 : Int32) (v2 : Int32) (v3 : Int32) (M : dp_M) : D_X12_bestRow_9 xs xl d v1 v2 v3 M = if v3 < 0 then (some (.inl (some (.int v2)), M)) else (dp_bi (dp_den true xs xl d 403 [.ref 114, .int v1, .int v3] M) (fun r2 M1 => if r2 = 0 then (if v2 < 0 then (dp_w (v3 + (-1 : Int32)) (fun y3 => D_X12_bestRow_9 xs xl d v1 v3 y3 M1)) else (dp_bi (dp_den true xs xl d 404 [.ref 114, .int v1, .int v3] M1) (fun r5 M4 => dp_bi (dp_den true xs xl d 404 [.ref 114, .int v1, .int v2] M4) (fun r7 M6 => if r5 < r7 then (dp_w (v3 + (-1 : Int32)) (fun y8 => D_X12_bestRow_9 xs xl d v1 v2 y8 M6)) else (dp_w (v3 + (-1 : Int32)) (fun y9 => D_X12_bestRow_9 xs xl d v1 v3 y9 M6)))))) else (dp_w (v3 + (-1 : Int32)) (fun y10 => D_X12_bestRow_9 xs xl d v1 v2 y10 M1)))) := by
  have hF := dp_den_grow (md := true) (xs := xs) (xl := xl) d
  unfold D_X12_bestRow_9
  refine dp_s1 hF (i := .iload_n 3) rfl (fun _ => rfl) ?_
  refine dp_s2 hF (i := .ifCond .lt 39) (a := (49, [some (.ref 114), some (.int v1), some (.int v2), some (.int v3)], [], M)) (b := (13, [some (.ref 114), some (.int v1), some (.int v2), some (.int v3)], [], M)) rfl (fun _ => rfl) ?_ ?_
  · refine dp_s1 hF (i := .iload_n 2) rfl (fun _ => rfl) ?_
    exact dp_s0 hF (i := .ireturn) rfl (fun _ => rfl)
  refine dp_s1 hF (i := .aload_n 0) rfl (fun _ => rfl) ?_
  refine dp_s1 hF (i := .iload_n 1) rfl (fun _ => rfl) ?_
  refine dp_s1 hF (i := .iload_n 3) rfl (fun _ => rfl) ?_
  refine dp_si (mj := dp_m_X12_broken) (i := .invokevirtual 563) rfl rfl (Or.inl rfl) rfl (fun _ => rfl) (fun r2 M1 => ?_)
  refine dp_s2 hF (i := .ifCond .ne 24) (a := (22, [some (.ref 114), some (.int v1), some (.int v2), some (.int v3)], [], M1)) (b := (43, [some (.ref 114), some (.int v1), some (.int v2), some (.int v3)], [], M1)) rfl (fun _ => rfl) ?_ ?_
  · refine dp_s1 hF (i := .iload_n 2) rfl (fun _ => rfl) ?_
    refine dp_s2 hF (i := .ifCond .lt 18) (a := (41, [some (.ref 114), some (.int v1), some (.int v2), some (.int v3)], [], M1)) (b := (26, [some (.ref 114), some (.int v1), some (.int v2), some (.int v3)], [], M1)) rfl (fun _ => rfl) ?_ ?_
    · refine dp_s1 hF (i := .iload_n 3) rfl (fun _ => rfl) ?_
      refine dp_s1 hF (i := .istore_n 2) rfl (fun _ => rfl) ?_
      refine dp_s1w (v3 + (-1 : Int32)) (fun (y3 : Int32) => (46, [some (.ref 114), some (.int v1), some (.int v3), some (.int y3)], [], M1)) hF (i := .iinc 3 (-1)) rfl (fun _ => rfl) (fun y3 => ?_)
      refine dp_s1 hF (i := .goto (-37)) rfl (fun _ => rfl) ?_
      exact rfl
    refine dp_s1 hF (i := .aload_n 0) rfl (fun _ => rfl) ?_
    refine dp_s1 hF (i := .iload_n 1) rfl (fun _ => rfl) ?_
    refine dp_s1 hF (i := .iload_n 3) rfl (fun _ => rfl) ?_
    refine dp_si (mj := dp_m_X12_scoreOf) (i := .invokevirtual 566) rfl rfl (Or.inl rfl) rfl (fun _ => rfl) (fun r5 M4 => ?_)
    refine dp_s1 hF (i := .aload_n 0) rfl (fun _ => rfl) ?_
    refine dp_s1 hF (i := .iload_n 1) rfl (fun _ => rfl) ?_
    refine dp_s1 hF (i := .iload_n 2) rfl (fun _ => rfl) ?_
    refine dp_si (mj := dp_m_X12_scoreOf) (i := .invokevirtual 566) rfl rfl (Or.inl rfl) rfl (fun _ => rfl) (fun r7 M6 => ?_)
    refine dp_s2 hF (i := .if_icmp .lt 5) (a := (43, [some (.ref 114), some (.int v1), some (.int v2), some (.int v3)], [], M6)) (b := (41, [some (.ref 114), some (.int v1), some (.int v2), some (.int v3)], [], M6)) rfl (fun _ => rfl) ?_ ?_
    · refine dp_s1w (v3 + (-1 : Int32)) (fun (y8 : Int32) => (46, [some (.ref 114), some (.int v1), some (.int v2), some (.int y8)], [], M6)) hF (i := .iinc 3 (-1)) rfl (fun _ => rfl) (fun y8 => ?_)
      refine dp_s1 hF (i := .goto (-37)) rfl (fun _ => rfl) ?_
      exact rfl
    refine dp_s1 hF (i := .iload_n 3) rfl (fun _ => rfl) ?_
    refine dp_s1 hF (i := .istore_n 2) rfl (fun _ => rfl) ?_
    refine dp_s1w (v3 + (-1 : Int32)) (fun (y9 : Int32) => (46, [some (.ref 114), some (.int v1), some (.int v3), some (.int y9)], [], M6)) hF (i := .iinc 3 (-1)) rfl (fun _ => rfl) (fun y9 => ?_)
    refine dp_s1 hF (i := .goto (-37)) rfl (fun _ => rfl) ?_
    exact rfl
  refine dp_s1w (v3 + (-1 : Int32)) (fun (y10 : Int32) => (46, [some (.ref 114), some (.int v1), some (.int v2), some (.int y10)], [], M1)) hF (i := .iinc 3 (-1)) rfl (fun _ => rfl) (fun y10 => ?_)
  refine dp_s1 hF (i := .goto (-37)) rfl (fun _ => rfl) ?_
  exact rfl
noncomputable def D_X12_ground_0 (xs : Nat → Int32) (xl d : Nat) (v1 : Int32) (v2 : Int32) (M : dp_M) : Option dp_Res := dp_lim true xs xl (dp_den true xs xl d) dp_m_X12_ground (0, [some (.ref 114), some (.int v1), some (.int v2)], [], M)
theorem D_X12_ground_0_den (xs : Nat → Int32) (xl d : Nat) (a0 : Int32) (a1 : Int32) (M : dp_M) : dp_den true xs xl (d + 1) 406 [.ref 114, .int a0, .int a1] M = D_X12_ground_0 xs xl d a0 a1 M := rfl
set_option maxRecDepth 20000 in
theorem D_X12_ground_0_eq (xs : Nat → Int32) (xl d : Nat) (v1 : Int32) (v2 : Int32) (M : dp_M) : D_X12_ground_0 xs xl d v1 v2 M = dp_w (dp_setI M 114 0 (0 : Int32)) (fun M1 => dp_bi (dp_den true xs xl d 395 [.ref 114, .int v1] M1) (fun r3 M2 => if r3 = 0 then (some (.inl (some (.int (0 : Int32))), M2)) else (dp_bi (dp_den true xs xl d 367 [.long (Int32.toInt64 v2), .long (0 : Int64), .long (2 : Int64)] M2) (fun r5 M4 => if r5 = 0 then (some (.inl (some (.int (0 : Int32))), M4)) else (dp_bi (dp_den true xs xl d 396 [.ref 114, .int v1] M4) (fun r7 M6 => if r7 ≤ 0 then (if v1 < 0 ∨ 20 ≤ Int32.toNatClampNeg v1 then none else dp_w (dp_setI M6 133 (Int32.toNatClampNeg v1) v2) (fun M8 => some (.inl (some (.int (1 : Int32))), M8))) else (some (.inl (some (.int (0 : Int32))), M6)))))))) := by
  have hF := dp_den_grow (md := true) (xs := xs) (xl := xl) d
  unfold D_X12_ground_0
  refine dp_s1 hF (i := .aload_n 0) rfl (fun _ => rfl) ?_
  refine dp_s1 hF (i := .iconst 0) rfl (fun _ => rfl) ?_
  refine dp_s1w (dp_setI M 114 0 (0 : Int32)) (fun (M1 : dp_M) => (5, [some (.ref 114), some (.int v1), some (.int v2)], [], M1)) hF (i := .putfield 1) rfl (fun _ => rfl) (fun M1 => ?_)
  refine dp_s1 hF (i := .aload_n 0) rfl (fun _ => rfl) ?_
  refine dp_s1 hF (i := .iload_n 1) rfl (fun _ => rfl) ?_
  refine dp_si (mj := dp_m_X12_isYardRow) (i := .invokevirtual 569) rfl rfl (Or.inr rfl) rfl (fun _ => rfl) (fun r3 M2 => ?_)
  refine dp_s2 hF (i := .ifCond .eq 23) (a := (33, [some (.ref 114), some (.int v1), some (.int v2)], [], M2)) (b := (13, [some (.ref 114), some (.int v1), some (.int v2)], [], M2)) rfl (fun _ => rfl) ?_ ?_
  · refine dp_s1 hF (i := .iconst 0) rfl (fun _ => rfl) ?_
    exact dp_s0 hF (i := .ireturn) rfl (fun _ => rfl)
  refine dp_s1 hF (i := .iload_n 2) rfl (fun _ => rfl) ?_
  refine dp_s1 hF (i := .i2l) rfl (fun _ => rfl) ?_
  refine dp_s1 hF (i := .lconst 0) rfl (fun _ => rfl) ?_
  refine dp_s1 hF (i := .ldc2_w 444) rfl (fun _ => rfl) ?_
  refine dp_si (mj := dp_m_X12_in) (i := .invokestatic 446) rfl rfl (Or.inr rfl) rfl (fun _ => rfl) (fun r5 M4 => ?_)
  refine dp_s2 hF (i := .ifCond .eq 11) (a := (33, [some (.ref 114), some (.int v1), some (.int v2)], [], M4)) (b := (25, [some (.ref 114), some (.int v1), some (.int v2)], [], M4)) rfl (fun _ => rfl) ?_ ?_
  · refine dp_s1 hF (i := .iconst 0) rfl (fun _ => rfl) ?_
    exact dp_s0 hF (i := .ireturn) rfl (fun _ => rfl)
  refine dp_s1 hF (i := .aload_n 0) rfl (fun _ => rfl) ?_
  refine dp_s1 hF (i := .iload_n 1) rfl (fun _ => rfl) ?_
  refine dp_si (mj := dp_m_X12_heightOf) (i := .invokevirtual 547) rfl rfl (Or.inl rfl) rfl (fun _ => rfl) (fun r7 M6 => ?_)
  refine dp_s2 hF (i := .ifCond .le 5) (a := (35, [some (.ref 114), some (.int v1), some (.int v2)], [], M6)) (b := (33, [some (.ref 114), some (.int v1), some (.int v2)], [], M6)) rfl (fun _ => rfl) ?_ ?_
  · refine dp_s1 hF (i := .aload_n 0) rfl (fun _ => rfl) ?_
    refine dp_s1 hF (i := .getfield 70) rfl (fun _ => rfl) ?_
    refine dp_s1 hF (i := .iload_n 1) rfl (fun _ => rfl) ?_
    refine dp_s1 hF (i := .iload_n 2) rfl (fun _ => rfl) ?_
    refine dp_s3w (dp_setI M6 133 (Int32.toNatClampNeg v1) v2) (fun (M8 : dp_M) => (42, [some (.ref 114), some (.int v1), some (.int v2)], [], M8)) hF (i := .iastore) rfl (fun _ => rfl) (fun M8 => ?_)
    refine dp_s1 hF (i := .iconst 1) rfl (fun _ => rfl) ?_
    exact dp_s0 hF (i := .ireturn) rfl (fun _ => rfl)
  refine dp_s1 hF (i := .iconst 0) rfl (fun _ => rfl) ?_
  exact dp_s0 hF (i := .ireturn) rfl (fun _ => rfl)
noncomputable def D_X12_reserve_0 (xs : Nat → Int32) (xl d : Nat) (v1 : Int32) (v2 : Int32) (M : dp_M) : Option dp_Res := dp_lim true xs xl (dp_den true xs xl d) dp_m_X12_reserve (0, [some (.ref 114), some (.int v1), some (.int v2), none], [], M)
noncomputable def D_X12_reserve_29 (xs : Nat → Int32) (xl d : Nat) (v1 : Int32) (v2 : Int32) (v3 : Int32) (M : dp_M) : Option dp_Res := dp_lim true xs xl (dp_den true xs xl d) dp_m_X12_reserve (29, [some (.ref 114), some (.int v1), some (.int v2), some (.int v3)], [], M)
theorem D_X12_reserve_0_den (xs : Nat → Int32) (xl d : Nat) (a0 : Int32) (a1 : Int32) (M : dp_M) : dp_den true xs xl (d + 1) 407 [.ref 114, .int a0, .int a1] M = D_X12_reserve_0 xs xl d a0 a1 M := rfl
set_option maxRecDepth 20000 in
theorem D_X12_reserve_0_eq (xs : Nat → Int32) (xl d : Nat) (v1 : Int32) (v2 : Int32) (M : dp_M) : D_X12_reserve_0 xs xl d v1 v2 M = dp_w (dp_setI M 114 0 (0 : Int32)) (fun M1 => dp_bi (dp_den true xs xl d 395 [.ref 114, .int v1] M1) (fun r3 M2 => if r3 = 0 then (some (.inl (some (.int (0 : Int32))), M2)) else (dp_bi (dp_den true xs xl d 367 [.long (Int32.toInt64 v2), .long (0 : Int64), .long (9 : Int64)] M2) (fun r5 M4 => if r5 = 0 then (some (.inl (some (.int (0 : Int32))), M4)) else (dp_w (0 : Int32) (fun y6 => D_X12_reserve_29 xs xl d v1 v2 y6 M4)))))) := by
  have hF := dp_den_grow (md := true) (xs := xs) (xl := xl) d
  unfold D_X12_reserve_0
  refine dp_s1 hF (i := .aload_n 0) rfl (fun _ => rfl) ?_
  refine dp_s1 hF (i := .iconst 0) rfl (fun _ => rfl) ?_
  refine dp_s1w (dp_setI M 114 0 (0 : Int32)) (fun (M1 : dp_M) => (5, [some (.ref 114), some (.int v1), some (.int v2), none], [], M1)) hF (i := .putfield 1) rfl (fun _ => rfl) (fun M1 => ?_)
  refine dp_s1 hF (i := .aload_n 0) rfl (fun _ => rfl) ?_
  refine dp_s1 hF (i := .iload_n 1) rfl (fun _ => rfl) ?_
  refine dp_si (mj := dp_m_X12_isYardRow) (i := .invokevirtual 569) rfl rfl (Or.inr rfl) rfl (fun _ => rfl) (fun r3 M2 => ?_)
  refine dp_s2 hF (i := .ifCond .eq 15) (a := (25, [some (.ref 114), some (.int v1), some (.int v2), none], [], M2)) (b := (13, [some (.ref 114), some (.int v1), some (.int v2), none], [], M2)) rfl (fun _ => rfl) ?_ ?_
  · refine dp_s1 hF (i := .iconst 0) rfl (fun _ => rfl) ?_
    exact dp_s0 hF (i := .ireturn) rfl (fun _ => rfl)
  refine dp_s1 hF (i := .iload_n 2) rfl (fun _ => rfl) ?_
  refine dp_s1 hF (i := .i2l) rfl (fun _ => rfl) ?_
  refine dp_s1 hF (i := .lconst 0) rfl (fun _ => rfl) ?_
  refine dp_s1 hF (i := .ldc2_w 458) rfl (fun _ => rfl) ?_
  refine dp_si (mj := dp_m_X12_in) (i := .invokestatic 446) rfl rfl (Or.inr rfl) rfl (fun _ => rfl) (fun r5 M4 => ?_)
  refine dp_s2 hF (i := .ifCond .ne 5) (a := (25, [some (.ref 114), some (.int v1), some (.int v2), none], [], M4)) (b := (27, [some (.ref 114), some (.int v1), some (.int v2), none], [], M4)) rfl (fun _ => rfl) ?_ ?_
  · refine dp_s1 hF (i := .iconst 0) rfl (fun _ => rfl) ?_
    exact dp_s0 hF (i := .ireturn) rfl (fun _ => rfl)
  refine dp_s1 hF (i := .iconst 0) rfl (fun _ => rfl) ?_
  refine dp_s1w (0 : Int32) (fun (y6 : Int32) => (29, [some (.ref 114), some (.int v1), some (.int v2), some (.int y6)], [], M4)) hF (i := .istore_n 3) rfl (fun _ => rfl) (fun y6 => ?_)
  exact rfl
set_option maxRecDepth 20000 in
theorem D_X12_reserve_29_eq (xs : Nat → Int32) (xl d : Nat) (v1 : Int32) (v2 : Int32) (v3 : Int32) (M : dp_M) : D_X12_reserve_29 xs xl d v1 v2 v3 M = if (dp_I M 114 3) ≤ v3 then (if v1 < 0 ∨ 20 ≤ Int32.toNatClampNeg v1 then none else dp_w (dp_setI M 134 (Int32.toNatClampNeg v1) v2) (fun M1 => some (.inl (some (.int (1 : Int32))), M1))) else (if v2 ≤ 0 then (dp_w (v3 + (1 : Int32)) (fun y2 => D_X12_reserve_29 xs xl d v1 v2 y2 M)) else (if v3 < 0 ∨ 100 ≤ Int32.toNatClampNeg v3 then none else (if (dp_I M 140 (Int32.toNatClampNeg v3)) = v1 then (if v3 < 0 ∨ 100 ≤ Int32.toNatClampNeg v3 then none else (if (dp_I M 139 (Int32.toNatClampNeg v3)) = v2 then (dp_w (v3 + (1 : Int32)) (fun y3 => D_X12_reserve_29 xs xl d v1 v2 y3 M)) else (some (.inl (some (.int (0 : Int32))), M)))) else (dp_w (v3 + (1 : Int32)) (fun y4 => D_X12_reserve_29 xs xl d v1 v2 y4 M))))) := by
  have hF := dp_den_grow (md := true) (xs := xs) (xl := xl) d
  unfold D_X12_reserve_29
  refine dp_s1 hF (i := .iload_n 3) rfl (fun _ => rfl) ?_
  refine dp_s1 hF (i := .aload_n 0) rfl (fun _ => rfl) ?_
  refine dp_s1 hF (i := .getfield 437) rfl (fun _ => rfl) ?_
  refine dp_s2 hF (i := .if_icmp .ge 35) (a := (69, [some (.ref 114), some (.int v1), some (.int v2), some (.int v3)], [], M)) (b := (37, [some (.ref 114), some (.int v1), some (.int v2), some (.int v3)], [], M)) rfl (fun _ => rfl) ?_ ?_
  · refine dp_s1 hF (i := .aload_n 0) rfl (fun _ => rfl) ?_
    refine dp_s1 hF (i := .getfield 73) rfl (fun _ => rfl) ?_
    refine dp_s1 hF (i := .iload_n 1) rfl (fun _ => rfl) ?_
    refine dp_s1 hF (i := .iload_n 2) rfl (fun _ => rfl) ?_
    refine dp_s3w (dp_setI M 134 (Int32.toNatClampNeg v1) v2) (fun (M1 : dp_M) => (76, [some (.ref 114), some (.int v1), some (.int v2), some (.int v3)], [], M1)) hF (i := .iastore) rfl (fun _ => rfl) (fun M1 => ?_)
    refine dp_s1 hF (i := .iconst 1) rfl (fun _ => rfl) ?_
    exact dp_s0 hF (i := .ireturn) rfl (fun _ => rfl)
  refine dp_s1 hF (i := .iload_n 2) rfl (fun _ => rfl) ?_
  refine dp_s2 hF (i := .ifCond .le 25) (a := (63, [some (.ref 114), some (.int v1), some (.int v2), some (.int v3)], [], M)) (b := (41, [some (.ref 114), some (.int v1), some (.int v2), some (.int v3)], [], M)) rfl (fun _ => rfl) ?_ ?_
  · refine dp_s1w (v3 + (1 : Int32)) (fun (y2 : Int32) => (66, [some (.ref 114), some (.int v1), some (.int v2), some (.int y2)], [], M)) hF (i := .iinc 3 1) rfl (fun _ => rfl) (fun y2 => ?_)
    refine dp_s1 hF (i := .goto (-37)) rfl (fun _ => rfl) ?_
    exact rfl
  refine dp_s1 hF (i := .aload_n 0) rfl (fun _ => rfl) ?_
  refine dp_s1 hF (i := .getfield 91) rfl (fun _ => rfl) ?_
  refine dp_s1 hF (i := .iload_n 3) rfl (fun _ => rfl) ?_
  refine dp_s3 hF (i := .iaload) rfl (fun _ => rfl) ?_
  refine dp_s1 hF (i := .iload_n 1) rfl (fun _ => rfl) ?_
  refine dp_s2 hF (i := .if_icmp .ne 15) (a := (51, [some (.ref 114), some (.int v1), some (.int v2), some (.int v3)], [], M)) (b := (63, [some (.ref 114), some (.int v1), some (.int v2), some (.int v3)], [], M)) rfl (fun _ => rfl) ?_ ?_
  · refine dp_s1 hF (i := .aload_n 0) rfl (fun _ => rfl) ?_
    refine dp_s1 hF (i := .getfield 88) rfl (fun _ => rfl) ?_
    refine dp_s1 hF (i := .iload_n 3) rfl (fun _ => rfl) ?_
    refine dp_s3 hF (i := .iaload) rfl (fun _ => rfl) ?_
    refine dp_s1 hF (i := .iload_n 2) rfl (fun _ => rfl) ?_
    refine dp_s2 hF (i := .if_icmp .eq 5) (a := (63, [some (.ref 114), some (.int v1), some (.int v2), some (.int v3)], [], M)) (b := (61, [some (.ref 114), some (.int v1), some (.int v2), some (.int v3)], [], M)) rfl (fun _ => rfl) ?_ ?_
    · refine dp_s1w (v3 + (1 : Int32)) (fun (y3 : Int32) => (66, [some (.ref 114), some (.int v1), some (.int v2), some (.int y3)], [], M)) hF (i := .iinc 3 1) rfl (fun _ => rfl) (fun y3 => ?_)
      refine dp_s1 hF (i := .goto (-37)) rfl (fun _ => rfl) ?_
      exact rfl
    refine dp_s1 hF (i := .iconst 0) rfl (fun _ => rfl) ?_
    exact dp_s0 hF (i := .ireturn) rfl (fun _ => rfl)
  refine dp_s1w (v3 + (1 : Int32)) (fun (y4 : Int32) => (66, [some (.ref 114), some (.int v1), some (.int v2), some (.int y4)], [], M)) hF (i := .iinc 3 1) rfl (fun _ => rfl) (fun y4 => ?_)
  refine dp_s1 hF (i := .goto (-37)) rfl (fun _ => rfl) ?_
  exact rfl
noncomputable def D_X12_stands_0 (xs : Nat → Int32) (xl d : Nat) (v1 : Int32) (v2 : Int32) (M : dp_M) : Option dp_Res := dp_lim true xs xl (dp_den true xs xl d) dp_m_X12_stands (0, [some (.ref 114), some (.int v1), some (.int v2)], [], M)
theorem D_X12_stands_0_den (xs : Nat → Int32) (xl d : Nat) (a0 : Int32) (a1 : Int32) (M : dp_M) : dp_den true xs xl (d + 1) 408 [.ref 114, .int a0, .int a1] M = D_X12_stands_0 xs xl d a0 a1 M := rfl
set_option maxRecDepth 20000 in
theorem D_X12_stands_0_eq (xs : Nat → Int32) (xl d : Nat) (v1 : Int32) (v2 : Int32) (M : dp_M) : D_X12_stands_0 xs xl d v1 v2 M = if 0 ≤ v2 then (dp_bi (dp_den true xs xl d 396 [.ref 114, .int v2] M) (fun r2 M1 => if v1 < 0 ∨ 100 ≤ Int32.toNatClampNeg v1 then none else dp_w (dp_setI M1 141 (Int32.toNatClampNeg v1) r2) (fun M3 => if v1 < 0 ∨ 100 ≤ Int32.toNatClampNeg v1 then none else dp_w (dp_setI M3 140 (Int32.toNatClampNeg v1) v2) (fun M4 => some (.inl none, M4))))) else (if v1 < 0 ∨ 100 ≤ Int32.toNatClampNeg v1 then none else dp_w (dp_setI M 141 (Int32.toNatClampNeg v1) (-1 : Int32)) (fun M5 => if v1 < 0 ∨ 100 ≤ Int32.toNatClampNeg v1 then none else dp_w (dp_setI M5 140 (Int32.toNatClampNeg v1) v2) (fun M6 => some (.inl none, M6)))) := by
  have hF := dp_den_grow (md := true) (xs := xs) (xl := xl) d
  unfold D_X12_stands_0
  refine dp_s1 hF (i := .aload_n 0) rfl (fun _ => rfl) ?_
  refine dp_s1 hF (i := .getfield 94) rfl (fun _ => rfl) ?_
  refine dp_s1 hF (i := .iload_n 1) rfl (fun _ => rfl) ?_
  refine dp_s1 hF (i := .iload_n 2) rfl (fun _ => rfl) ?_
  refine dp_s2 hF (i := .ifCond .ge 7) (a := (13, [some (.ref 114), some (.int v1), some (.int v2)], [.int v1, .ref 141], M)) (b := (9, [some (.ref 114), some (.int v1), some (.int v2)], [.int v1, .ref 141], M)) rfl (fun _ => rfl) ?_ ?_
  · refine dp_s1 hF (i := .aload_n 0) rfl (fun _ => rfl) ?_
    refine dp_s1 hF (i := .iload_n 2) rfl (fun _ => rfl) ?_
    refine dp_si (mj := dp_m_X12_heightOf) (i := .invokevirtual 547) rfl rfl (Or.inl rfl) rfl (fun _ => rfl) (fun r2 M1 => ?_)
    refine dp_s3w (dp_setI M1 141 (Int32.toNatClampNeg v1) r2) (fun (M3 : dp_M) => (19, [some (.ref 114), some (.int v1), some (.int v2)], [], M3)) hF (i := .iastore) rfl (fun _ => rfl) (fun M3 => ?_)
    refine dp_s1 hF (i := .aload_n 0) rfl (fun _ => rfl) ?_
    refine dp_s1 hF (i := .getfield 91) rfl (fun _ => rfl) ?_
    refine dp_s1 hF (i := .iload_n 1) rfl (fun _ => rfl) ?_
    refine dp_s1 hF (i := .iload_n 2) rfl (fun _ => rfl) ?_
    refine dp_s3w (dp_setI M3 140 (Int32.toNatClampNeg v1) v2) (fun (M4 : dp_M) => (26, [some (.ref 114), some (.int v1), some (.int v2)], [], M4)) hF (i := .iastore) rfl (fun _ => rfl) (fun M4 => ?_)
    exact dp_s0 hF (i := .return_) rfl (fun _ => rfl)
  refine dp_s1 hF (i := .iconst (-1)) rfl (fun _ => rfl) ?_
  refine dp_s1 hF (i := .goto 8) rfl (fun _ => rfl) ?_
  refine dp_s3w (dp_setI M 141 (Int32.toNatClampNeg v1) (-1 : Int32)) (fun (M5 : dp_M) => (19, [some (.ref 114), some (.int v1), some (.int v2)], [], M5)) hF (i := .iastore) rfl (fun _ => rfl) (fun M5 => ?_)
  refine dp_s1 hF (i := .aload_n 0) rfl (fun _ => rfl) ?_
  refine dp_s1 hF (i := .getfield 91) rfl (fun _ => rfl) ?_
  refine dp_s1 hF (i := .iload_n 1) rfl (fun _ => rfl) ?_
  refine dp_s1 hF (i := .iload_n 2) rfl (fun _ => rfl) ?_
  refine dp_s3w (dp_setI M5 140 (Int32.toNatClampNeg v1) v2) (fun (M6 : dp_M) => (26, [some (.ref 114), some (.int v1), some (.int v2)], [], M6)) hF (i := .iastore) rfl (fun _ => rfl) (fun M6 => ?_)
  exact dp_s0 hF (i := .return_) rfl (fun _ => rfl)
noncomputable def D_X12_goesTo_0 (xs : Nat → Int32) (xl d : Nat) (v1 : Int32) (v2 : Int32) (M : dp_M) : Option dp_Res := dp_lim true xs xl (dp_den true xs xl d) dp_m_X12_goesTo (0, [some (.ref 114), some (.int v1), some (.int v2), none], [], M)
noncomputable def D_X12_goesTo_11 (xs : Nat → Int32) (xl d : Nat) (v1 : Int32) (v2 : Int32) (v3 : Int32) (M : dp_M) : Option dp_Res := dp_lim true xs xl (dp_den true xs xl d) dp_m_X12_goesTo (11, [some (.ref 114), some (.int v1), some (.int v2), some (.int v3)], [], M)
noncomputable def D_X12_goesTo_61 (xs : Nat → Int32) (xl d : Nat) (v1 : Int32) (v2 : Int32) (M : dp_M) : Option dp_Res := dp_lim true xs xl (dp_den true xs xl d) dp_m_X12_goesTo (61, [some (.ref 114), some (.int v1), some (.int v2), none], [], M)
noncomputable def D_X12_goesTo_61_a (xs : Nat → Int32) (xl d : Nat) (v1 : Int32) (v2 : Int32) (v3 : Int32) (M : dp_M) : Option dp_Res := dp_lim true xs xl (dp_den true xs xl d) dp_m_X12_goesTo (61, [some (.ref 114), some (.int v1), some (.int v2), some (.int v3)], [], M)
theorem D_X12_goesTo_0_den (xs : Nat → Int32) (xl d : Nat) (a0 : Int32) (a1 : Int32) (M : dp_M) : dp_den true xs xl (d + 1) 409 [.ref 114, .int a0, .int a1] M = D_X12_goesTo_0 xs xl d a0 a1 M := rfl
set_option maxRecDepth 20000 in
theorem D_X12_goesTo_0_eq (xs : Nat → Int32) (xl d : Nat) (v1 : Int32) (v2 : Int32) (M : dp_M) : D_X12_goesTo_0 xs xl d v1 v2 M = if (dp_I M 114 38) = (100 : Int32) then (dp_w (1 : Int32) (fun y1 => D_X12_goesTo_11 xs xl d v1 v2 y1 M)) else (D_X12_goesTo_61 xs xl d v1 v2 M) := by
  have hF := dp_den_grow (md := true) (xs := xs) (xl := xl) d
  unfold D_X12_goesTo_0
  refine dp_s1 hF (i := .aload_n 0) rfl (fun _ => rfl) ?_
  refine dp_s1 hF (i := .getfield 572) rfl (fun _ => rfl) ?_
  refine dp_s1 hF (i := .bipush 100) rfl (fun _ => rfl) ?_
  refine dp_s2 hF (i := .if_icmp .ne 55) (a := (9, [some (.ref 114), some (.int v1), some (.int v2), none], [], M)) (b := (61, [some (.ref 114), some (.int v1), some (.int v2), none], [], M)) rfl (fun _ => rfl) ?_ ?_
  · refine dp_s1 hF (i := .iconst 1) rfl (fun _ => rfl) ?_
    refine dp_s1w (1 : Int32) (fun (y1 : Int32) => (11, [some (.ref 114), some (.int v1), some (.int v2), some (.int y1)], [], M)) hF (i := .istore_n 3) rfl (fun _ => rfl) (fun y1 => ?_)
    exact rfl
  exact rfl
set_option maxRecDepth 20000 in
theorem D_X12_goesTo_11_eq (xs : Nat → Int32) (xl d : Nat) (v1 : Int32) (v2 : Int32) (v3 : Int32) (M : dp_M) : D_X12_goesTo_11 xs xl d v1 v2 v3 M = if (100 : Int32) ≤ v3 then (dp_w (dp_setI M 114 38 ((dp_I M 114 38) - (1 : Int32))) (fun M1 => D_X12_goesTo_61_a xs xl d v1 v2 v3 M1)) else (if v3 < 0 ∨ 100 ≤ Int32.toNatClampNeg v3 then none else (if (v3 - (1 : Int32)) < 0 ∨ 100 ≤ Int32.toNatClampNeg (v3 - (1 : Int32)) then none else dp_w (dp_setI M 142 (Int32.toNatClampNeg (v3 - (1 : Int32))) (dp_I M 142 (Int32.toNatClampNeg v3))) (fun M2 => if v3 < 0 ∨ 100 ≤ Int32.toNatClampNeg v3 then none else (if (v3 - (1 : Int32)) < 0 ∨ 100 ≤ Int32.toNatClampNeg (v3 - (1 : Int32)) then none else dp_w (dp_setI M2 143 (Int32.toNatClampNeg (v3 - (1 : Int32))) (dp_I M2 143 (Int32.toNatClampNeg v3))) (fun M3 => dp_w (v3 + (1 : Int32)) (fun y4 => D_X12_goesTo_11 xs xl d v1 v2 y4 M3)))))) := by
  have hF := dp_den_grow (md := true) (xs := xs) (xl := xl) d
  unfold D_X12_goesTo_11
  refine dp_s1 hF (i := .iload_n 3) rfl (fun _ => rfl) ?_
  refine dp_s1 hF (i := .bipush 100) rfl (fun _ => rfl) ?_
  refine dp_s2 hF (i := .if_icmp .ge 37) (a := (51, [some (.ref 114), some (.int v1), some (.int v2), some (.int v3)], [], M)) (b := (17, [some (.ref 114), some (.int v1), some (.int v2), some (.int v3)], [], M)) rfl (fun _ => rfl) ?_ ?_
  · refine dp_s1 hF (i := .aload_n 0) rfl (fun _ => rfl) ?_
    refine dp_s1 hF (i := .dup) rfl (fun _ => rfl) ?_
    refine dp_s1 hF (i := .getfield 572) rfl (fun _ => rfl) ?_
    refine dp_s1 hF (i := .iconst 1) rfl (fun _ => rfl) ?_
    refine dp_s1 hF (i := .isub) rfl (fun _ => rfl) ?_
    refine dp_s1w (dp_setI M 114 38 ((dp_I M 114 38) - (1 : Int32))) (fun (M1 : dp_M) => (61, [some (.ref 114), some (.int v1), some (.int v2), some (.int v3)], [], M1)) hF (i := .putfield 572) rfl (fun _ => rfl) (fun M1 => ?_)
    exact rfl
  refine dp_s1 hF (i := .aload_n 0) rfl (fun _ => rfl) ?_
  refine dp_s1 hF (i := .getfield 97) rfl (fun _ => rfl) ?_
  refine dp_s1 hF (i := .iload_n 3) rfl (fun _ => rfl) ?_
  refine dp_s1 hF (i := .iconst 1) rfl (fun _ => rfl) ?_
  refine dp_s1 hF (i := .isub) rfl (fun _ => rfl) ?_
  refine dp_s1 hF (i := .aload_n 0) rfl (fun _ => rfl) ?_
  refine dp_s1 hF (i := .getfield 97) rfl (fun _ => rfl) ?_
  refine dp_s1 hF (i := .iload_n 3) rfl (fun _ => rfl) ?_
  refine dp_s3 hF (i := .iaload) rfl (fun _ => rfl) ?_
  refine dp_s3w (dp_setI M 142 (Int32.toNatClampNeg (v3 - (1 : Int32))) (dp_I M 142 (Int32.toNatClampNeg v3))) (fun (M2 : dp_M) => (31, [some (.ref 114), some (.int v1), some (.int v2), some (.int v3)], [], M2)) hF (i := .iastore) rfl (fun _ => rfl) (fun M2 => ?_)
  refine dp_s1 hF (i := .aload_n 0) rfl (fun _ => rfl) ?_
  refine dp_s1 hF (i := .getfield 100) rfl (fun _ => rfl) ?_
  refine dp_s1 hF (i := .iload_n 3) rfl (fun _ => rfl) ?_
  refine dp_s1 hF (i := .iconst 1) rfl (fun _ => rfl) ?_
  refine dp_s1 hF (i := .isub) rfl (fun _ => rfl) ?_
  refine dp_s1 hF (i := .aload_n 0) rfl (fun _ => rfl) ?_
  refine dp_s1 hF (i := .getfield 100) rfl (fun _ => rfl) ?_
  refine dp_s1 hF (i := .iload_n 3) rfl (fun _ => rfl) ?_
  refine dp_s3 hF (i := .iaload) rfl (fun _ => rfl) ?_
  refine dp_s3w (dp_setI M2 143 (Int32.toNatClampNeg (v3 - (1 : Int32))) (dp_I M2 143 (Int32.toNatClampNeg v3))) (fun (M3 : dp_M) => (45, [some (.ref 114), some (.int v1), some (.int v2), some (.int v3)], [], M3)) hF (i := .iastore) rfl (fun _ => rfl) (fun M3 => ?_)
  refine dp_s1w (v3 + (1 : Int32)) (fun (y4 : Int32) => (48, [some (.ref 114), some (.int v1), some (.int v2), some (.int y4)], [], M3)) hF (i := .iinc 3 1) rfl (fun _ => rfl) (fun y4 => ?_)
  refine dp_s1 hF (i := .goto (-37)) rfl (fun _ => rfl) ?_
  exact rfl
set_option maxRecDepth 20000 in
theorem D_X12_goesTo_61_eq (xs : Nat → Int32) (xl d : Nat) (v1 : Int32) (v2 : Int32) (M : dp_M) : D_X12_goesTo_61 xs xl d v1 v2 M = if (dp_I M 114 38) < 0 ∨ 100 ≤ Int32.toNatClampNeg (dp_I M 114 38) then none else dp_w (dp_setI M 142 (Int32.toNatClampNeg (dp_I M 114 38)) v1) (fun M1 => if v1 < 0 ∨ 100 ≤ Int32.toNatClampNeg v1 then none else (if (dp_I M1 114 38) < 0 ∨ 100 ≤ Int32.toNatClampNeg (dp_I M1 114 38) then none else dp_w (dp_setI M1 143 (Int32.toNatClampNeg (dp_I M1 114 38)) (dp_I M1 140 (Int32.toNatClampNeg v1))) (fun M2 => dp_w (dp_setI M2 114 38 ((dp_I M2 114 38) + (1 : Int32))) (fun M3 => dp_w (dp_setI M3 114 37 ((dp_I M3 114 37) + (1 : Int32))) (fun M4 => dp_bv (dp_den true xs xl d 408 [.ref 114, .int v1, .int v2] M4) (fun M5 => some (.inl none, M5))))))) := by
  have hF := dp_den_grow (md := true) (xs := xs) (xl := xl) d
  unfold D_X12_goesTo_61
  refine dp_s1 hF (i := .aload_n 0) rfl (fun _ => rfl) ?_
  refine dp_s1 hF (i := .getfield 97) rfl (fun _ => rfl) ?_
  refine dp_s1 hF (i := .aload_n 0) rfl (fun _ => rfl) ?_
  refine dp_s1 hF (i := .getfield 572) rfl (fun _ => rfl) ?_
  refine dp_s1 hF (i := .iload_n 1) rfl (fun _ => rfl) ?_
  refine dp_s3w (dp_setI M 142 (Int32.toNatClampNeg (dp_I M 114 38)) v1) (fun (M1 : dp_M) => (71, [some (.ref 114), some (.int v1), some (.int v2), none], [], M1)) hF (i := .iastore) rfl (fun _ => rfl) (fun M1 => ?_)
  refine dp_s1 hF (i := .aload_n 0) rfl (fun _ => rfl) ?_
  refine dp_s1 hF (i := .getfield 100) rfl (fun _ => rfl) ?_
  refine dp_s1 hF (i := .aload_n 0) rfl (fun _ => rfl) ?_
  refine dp_s1 hF (i := .getfield 572) rfl (fun _ => rfl) ?_
  refine dp_s1 hF (i := .aload_n 0) rfl (fun _ => rfl) ?_
  refine dp_s1 hF (i := .getfield 91) rfl (fun _ => rfl) ?_
  refine dp_s1 hF (i := .iload_n 1) rfl (fun _ => rfl) ?_
  refine dp_s3 hF (i := .iaload) rfl (fun _ => rfl) ?_
  refine dp_s3w (dp_setI M1 143 (Int32.toNatClampNeg (dp_I M1 114 38)) (dp_I M1 140 (Int32.toNatClampNeg v1))) (fun (M2 : dp_M) => (86, [some (.ref 114), some (.int v1), some (.int v2), none], [], M2)) hF (i := .iastore) rfl (fun _ => rfl) (fun M2 => ?_)
  refine dp_s1 hF (i := .aload_n 0) rfl (fun _ => rfl) ?_
  refine dp_s1 hF (i := .dup) rfl (fun _ => rfl) ?_
  refine dp_s1 hF (i := .getfield 572) rfl (fun _ => rfl) ?_
  refine dp_s1 hF (i := .iconst 1) rfl (fun _ => rfl) ?_
  refine dp_s1 hF (i := .iadd) rfl (fun _ => rfl) ?_
  refine dp_s1w (dp_setI M2 114 38 ((dp_I M2 114 38) + (1 : Int32))) (fun (M3 : dp_M) => (96, [some (.ref 114), some (.int v1), some (.int v2), none], [], M3)) hF (i := .putfield 572) rfl (fun _ => rfl) (fun M3 => ?_)
  refine dp_s1 hF (i := .aload_n 0) rfl (fun _ => rfl) ?_
  refine dp_s1 hF (i := .dup) rfl (fun _ => rfl) ?_
  refine dp_s1 hF (i := .getfield 575) rfl (fun _ => rfl) ?_
  refine dp_s1 hF (i := .iconst 1) rfl (fun _ => rfl) ?_
  refine dp_s1 hF (i := .iadd) rfl (fun _ => rfl) ?_
  refine dp_s1w (dp_setI M3 114 37 ((dp_I M3 114 37) + (1 : Int32))) (fun (M4 : dp_M) => (106, [some (.ref 114), some (.int v1), some (.int v2), none], [], M4)) hF (i := .putfield 575) rfl (fun _ => rfl) (fun M4 => ?_)
  refine dp_s1 hF (i := .aload_n 0) rfl (fun _ => rfl) ?_
  refine dp_s1 hF (i := .iload_n 1) rfl (fun _ => rfl) ?_
  refine dp_s1 hF (i := .iload_n 2) rfl (fun _ => rfl) ?_
  refine dp_sv (mj := dp_m_X12_stands) (i := .invokevirtual 578) rfl rfl rfl rfl (fun _ => rfl) (fun M5 => ?_)
  exact dp_s0 hF (i := .return_) rfl (fun _ => rfl)
set_option maxRecDepth 20000 in
theorem D_X12_goesTo_61_a_eq (xs : Nat → Int32) (xl d : Nat) (v1 : Int32) (v2 : Int32) (v3 : Int32) (M : dp_M) : D_X12_goesTo_61_a xs xl d v1 v2 v3 M = if (dp_I M 114 38) < 0 ∨ 100 ≤ Int32.toNatClampNeg (dp_I M 114 38) then none else dp_w (dp_setI M 142 (Int32.toNatClampNeg (dp_I M 114 38)) v1) (fun M1 => if v1 < 0 ∨ 100 ≤ Int32.toNatClampNeg v1 then none else (if (dp_I M1 114 38) < 0 ∨ 100 ≤ Int32.toNatClampNeg (dp_I M1 114 38) then none else dp_w (dp_setI M1 143 (Int32.toNatClampNeg (dp_I M1 114 38)) (dp_I M1 140 (Int32.toNatClampNeg v1))) (fun M2 => dp_w (dp_setI M2 114 38 ((dp_I M2 114 38) + (1 : Int32))) (fun M3 => dp_w (dp_setI M3 114 37 ((dp_I M3 114 37) + (1 : Int32))) (fun M4 => dp_bv (dp_den true xs xl d 408 [.ref 114, .int v1, .int v2] M4) (fun M5 => some (.inl none, M5))))))) := by
  have hF := dp_den_grow (md := true) (xs := xs) (xl := xl) d
  unfold D_X12_goesTo_61_a
  refine dp_s1 hF (i := .aload_n 0) rfl (fun _ => rfl) ?_
  refine dp_s1 hF (i := .getfield 97) rfl (fun _ => rfl) ?_
  refine dp_s1 hF (i := .aload_n 0) rfl (fun _ => rfl) ?_
  refine dp_s1 hF (i := .getfield 572) rfl (fun _ => rfl) ?_
  refine dp_s1 hF (i := .iload_n 1) rfl (fun _ => rfl) ?_
  refine dp_s3w (dp_setI M 142 (Int32.toNatClampNeg (dp_I M 114 38)) v1) (fun (M1 : dp_M) => (71, [some (.ref 114), some (.int v1), some (.int v2), some (.int v3)], [], M1)) hF (i := .iastore) rfl (fun _ => rfl) (fun M1 => ?_)
  refine dp_s1 hF (i := .aload_n 0) rfl (fun _ => rfl) ?_
  refine dp_s1 hF (i := .getfield 100) rfl (fun _ => rfl) ?_
  refine dp_s1 hF (i := .aload_n 0) rfl (fun _ => rfl) ?_
  refine dp_s1 hF (i := .getfield 572) rfl (fun _ => rfl) ?_
  refine dp_s1 hF (i := .aload_n 0) rfl (fun _ => rfl) ?_
  refine dp_s1 hF (i := .getfield 91) rfl (fun _ => rfl) ?_
  refine dp_s1 hF (i := .iload_n 1) rfl (fun _ => rfl) ?_
  refine dp_s3 hF (i := .iaload) rfl (fun _ => rfl) ?_
  refine dp_s3w (dp_setI M1 143 (Int32.toNatClampNeg (dp_I M1 114 38)) (dp_I M1 140 (Int32.toNatClampNeg v1))) (fun (M2 : dp_M) => (86, [some (.ref 114), some (.int v1), some (.int v2), some (.int v3)], [], M2)) hF (i := .iastore) rfl (fun _ => rfl) (fun M2 => ?_)
  refine dp_s1 hF (i := .aload_n 0) rfl (fun _ => rfl) ?_
  refine dp_s1 hF (i := .dup) rfl (fun _ => rfl) ?_
  refine dp_s1 hF (i := .getfield 572) rfl (fun _ => rfl) ?_
  refine dp_s1 hF (i := .iconst 1) rfl (fun _ => rfl) ?_
  refine dp_s1 hF (i := .iadd) rfl (fun _ => rfl) ?_
  refine dp_s1w (dp_setI M2 114 38 ((dp_I M2 114 38) + (1 : Int32))) (fun (M3 : dp_M) => (96, [some (.ref 114), some (.int v1), some (.int v2), some (.int v3)], [], M3)) hF (i := .putfield 572) rfl (fun _ => rfl) (fun M3 => ?_)
  refine dp_s1 hF (i := .aload_n 0) rfl (fun _ => rfl) ?_
  refine dp_s1 hF (i := .dup) rfl (fun _ => rfl) ?_
  refine dp_s1 hF (i := .getfield 575) rfl (fun _ => rfl) ?_
  refine dp_s1 hF (i := .iconst 1) rfl (fun _ => rfl) ?_
  refine dp_s1 hF (i := .iadd) rfl (fun _ => rfl) ?_
  refine dp_s1w (dp_setI M3 114 37 ((dp_I M3 114 37) + (1 : Int32))) (fun (M4 : dp_M) => (106, [some (.ref 114), some (.int v1), some (.int v2), some (.int v3)], [], M4)) hF (i := .putfield 575) rfl (fun _ => rfl) (fun M4 => ?_)
  refine dp_s1 hF (i := .aload_n 0) rfl (fun _ => rfl) ?_
  refine dp_s1 hF (i := .iload_n 1) rfl (fun _ => rfl) ?_
  refine dp_s1 hF (i := .iload_n 2) rfl (fun _ => rfl) ?_
  refine dp_sv (mj := dp_m_X12_stands) (i := .invokevirtual 578) rfl rfl rfl rfl (fun _ => rfl) (fun M5 => ?_)
  exact dp_s0 hF (i := .return_) rfl (fun _ => rfl)
noncomputable def D_X12_put_0 (xs : Nat → Int32) (xl d : Nat) (v1 : Int32) (v2 : Int32) (M : dp_M) : Option dp_Res := dp_lim true xs xl (dp_den true xs xl d) dp_m_X12_put (0, [some (.ref 114), some (.int v1), some (.int v2), none], [], M)
theorem D_X12_put_0_den (xs : Nat → Int32) (xl d : Nat) (a0 : Int32) (a1 : Int32) (M : dp_M) : dp_den true xs xl (d + 1) 410 [.ref 114, .int a0, .int a1] M = D_X12_put_0 xs xl d a0 a1 M := rfl
set_option maxRecDepth 20000 in
theorem D_X12_put_0_eq (xs : Nat → Int32) (xl d : Nat) (v1 : Int32) (v2 : Int32) (M : dp_M) : D_X12_put_0 xs xl d v1 v2 M = dp_bi (dp_den true xs xl d 371 [.ref 114, .int v1] M) (fun r2 M1 => if r2 = 0 then (dp_bi (dp_den true xs xl d 366 [.ref 114, .int (1 : Int32)] M1) (fun r4 M3 => some (.inl (some (.int r4)), M3))) else (dp_bi (dp_den true xs xl d 395 [.ref 114, .int v2] M1) (fun r6 M5 => if r6 = 0 then (dp_bi (dp_den true xs xl d 366 [.ref 114, .int (1 : Int32)] M5) (fun r8 M7 => some (.inl (some (.int r8)), M7))) else (dp_w (dp_setI M5 114 0 (0 : Int32)) (fun M9 => dp_bi (dp_den true xs xl d 402 [.ref 114, .int v1] M9) (fun r11 M10 => if r11 = 0 then (dp_w (9 : Int32) (fun y12 => if y12 ≤ 0 then (dp_bv (dp_den true xs xl d 409 [.ref 114, .int v1, .int v2] M10) (fun M13 => some (.inl (some (.int (1 : Int32))), M13))) else (some (.inl (some (.int (-y12))), M10)))) else (if v1 < 0 ∨ 100 ≤ Int32.toNatClampNeg v1 then none else (if (dp_I M10 140 (Int32.toNatClampNeg v1)) < 0 then (dp_bi (dp_den true xs xl d 403 [.ref 114, .int v1, .int v2] M10) (fun r15 M14 => if r15 ≤ 0 then (dp_bv (dp_den true xs xl d 409 [.ref 114, .int v1, .int v2] M14) (fun M16 => some (.inl (some (.int (1 : Int32))), M16))) else (some (.inl (some (.int (-r15))), M14)))) else (dp_w (1 : Int32) (fun y17 => if y17 ≤ 0 then (dp_bv (dp_den true xs xl d 409 [.ref 114, .int v1, .int v2] M10) (fun M18 => some (.inl (some (.int (1 : Int32))), M18))) else (some (.inl (some (.int (-y17))), M10)))))))))))) := by
  have hF := dp_den_grow (md := true) (xs := xs) (xl := xl) d
  unfold D_X12_put_0
  refine dp_s1 hF (i := .aload_n 0) rfl (fun _ => rfl) ?_
  refine dp_s1 hF (i := .iload_n 1) rfl (fun _ => rfl) ?_
  refine dp_si (mj := dp_m_X12_isBox) (i := .invokevirtual 470) rfl rfl (Or.inr rfl) rfl (fun _ => rfl) (fun r2 M1 => ?_)
  refine dp_s2 hF (i := .ifCond .eq 11) (a := (16, [some (.ref 114), some (.int v1), some (.int v2), none], [], M1)) (b := (8, [some (.ref 114), some (.int v1), some (.int v2), none], [], M1)) rfl (fun _ => rfl) ?_ ?_
  · refine dp_s1 hF (i := .aload_n 0) rfl (fun _ => rfl) ?_
    refine dp_s1 hF (i := .iconst 1) rfl (fun _ => rfl) ?_
    refine dp_si (mj := dp_m_X12_refuse) (i := .invokevirtual 460) rfl rfl (Or.inl rfl) rfl (fun _ => rfl) (fun r4 M3 => ?_)
    exact dp_s0 hF (i := .ireturn) rfl (fun _ => rfl)
  refine dp_s1 hF (i := .aload_n 0) rfl (fun _ => rfl) ?_
  refine dp_s1 hF (i := .iload_n 2) rfl (fun _ => rfl) ?_
  refine dp_si (mj := dp_m_X12_isYardRow) (i := .invokevirtual 569) rfl rfl (Or.inr rfl) rfl (fun _ => rfl) (fun r6 M5 => ?_)
  refine dp_s2 hF (i := .ifCond .ne 9) (a := (16, [some (.ref 114), some (.int v1), some (.int v2), none], [], M5)) (b := (22, [some (.ref 114), some (.int v1), some (.int v2), none], [], M5)) rfl (fun _ => rfl) ?_ ?_
  · refine dp_s1 hF (i := .aload_n 0) rfl (fun _ => rfl) ?_
    refine dp_s1 hF (i := .iconst 1) rfl (fun _ => rfl) ?_
    refine dp_si (mj := dp_m_X12_refuse) (i := .invokevirtual 460) rfl rfl (Or.inl rfl) rfl (fun _ => rfl) (fun r8 M7 => ?_)
    exact dp_s0 hF (i := .ireturn) rfl (fun _ => rfl)
  refine dp_s1 hF (i := .aload_n 0) rfl (fun _ => rfl) ?_
  refine dp_s1 hF (i := .iconst 0) rfl (fun _ => rfl) ?_
  refine dp_s1w (dp_setI M5 114 0 (0 : Int32)) (fun (M9 : dp_M) => (27, [some (.ref 114), some (.int v1), some (.int v2), none], [], M9)) hF (i := .putfield 1) rfl (fun _ => rfl) (fun M9 => ?_)
  refine dp_s1 hF (i := .aload_n 0) rfl (fun _ => rfl) ?_
  refine dp_s1 hF (i := .iload_n 1) rfl (fun _ => rfl) ?_
  refine dp_si (mj := dp_m_X12_isHere) (i := .invokevirtual 581) rfl rfl (Or.inr rfl) rfl (fun _ => rfl) (fun r11 M10 => ?_)
  refine dp_s2 hF (i := .ifCond .ne 8) (a := (35, [some (.ref 114), some (.int v1), some (.int v2), none], [], M10)) (b := (40, [some (.ref 114), some (.int v1), some (.int v2), none], [], M10)) rfl (fun _ => rfl) ?_ ?_
  · refine dp_s1 hF (i := .bipush 9) rfl (fun _ => rfl) ?_
    refine dp_s1 hF (i := .goto 22) rfl (fun _ => rfl) ?_
    refine dp_s1w (9 : Int32) (fun (y12 : Int32) => (60, [some (.ref 114), some (.int v1), some (.int v2), some (.int y12)], [], M10)) hF (i := .istore_n 3) rfl (fun _ => rfl) (fun y12 => ?_)
    refine dp_s1 hF (i := .iload_n 3) rfl (fun _ => rfl) ?_
    refine dp_s2 hF (i := .ifCond .le 6) (a := (67, [some (.ref 114), some (.int v1), some (.int v2), some (.int y12)], [], M10)) (b := (64, [some (.ref 114), some (.int v1), some (.int v2), some (.int y12)], [], M10)) rfl (fun _ => rfl) ?_ ?_
    · refine dp_s1 hF (i := .aload_n 0) rfl (fun _ => rfl) ?_
      refine dp_s1 hF (i := .iload_n 1) rfl (fun _ => rfl) ?_
      refine dp_s1 hF (i := .iload_n 2) rfl (fun _ => rfl) ?_
      refine dp_sv (mj := dp_m_X12_goesTo) (i := .invokevirtual 534) rfl rfl rfl rfl (fun _ => rfl) (fun M13 => ?_)
      refine dp_s1 hF (i := .iconst 1) rfl (fun _ => rfl) ?_
      exact dp_s0 hF (i := .ireturn) rfl (fun _ => rfl)
    refine dp_s1 hF (i := .iload_n 3) rfl (fun _ => rfl) ?_
    refine dp_s1 hF (i := .ineg) rfl (fun _ => rfl) ?_
    exact dp_s0 hF (i := .ireturn) rfl (fun _ => rfl)
  refine dp_s1 hF (i := .aload_n 0) rfl (fun _ => rfl) ?_
  refine dp_s1 hF (i := .getfield 91) rfl (fun _ => rfl) ?_
  refine dp_s1 hF (i := .iload_n 1) rfl (fun _ => rfl) ?_
  refine dp_s3 hF (i := .iaload) rfl (fun _ => rfl) ?_
  refine dp_s2 hF (i := .ifCond .lt 7) (a := (53, [some (.ref 114), some (.int v1), some (.int v2), none], [], M10)) (b := (49, [some (.ref 114), some (.int v1), some (.int v2), none], [], M10)) rfl (fun _ => rfl) ?_ ?_
  · refine dp_s1 hF (i := .aload_n 0) rfl (fun _ => rfl) ?_
    refine dp_s1 hF (i := .iload_n 1) rfl (fun _ => rfl) ?_
    refine dp_s1 hF (i := .iload_n 2) rfl (fun _ => rfl) ?_
    refine dp_si (mj := dp_m_X12_broken) (i := .invokevirtual 563) rfl rfl (Or.inl rfl) rfl (fun _ => rfl) (fun r15 M14 => ?_)
    refine dp_s1 hF (i := .istore_n 3) rfl (fun _ => rfl) ?_
    refine dp_s1 hF (i := .iload_n 3) rfl (fun _ => rfl) ?_
    refine dp_s2 hF (i := .ifCond .le 6) (a := (67, [some (.ref 114), some (.int v1), some (.int v2), some (.int r15)], [], M14)) (b := (64, [some (.ref 114), some (.int v1), some (.int v2), some (.int r15)], [], M14)) rfl (fun _ => rfl) ?_ ?_
    · refine dp_s1 hF (i := .aload_n 0) rfl (fun _ => rfl) ?_
      refine dp_s1 hF (i := .iload_n 1) rfl (fun _ => rfl) ?_
      refine dp_s1 hF (i := .iload_n 2) rfl (fun _ => rfl) ?_
      refine dp_sv (mj := dp_m_X12_goesTo) (i := .invokevirtual 534) rfl rfl rfl rfl (fun _ => rfl) (fun M16 => ?_)
      refine dp_s1 hF (i := .iconst 1) rfl (fun _ => rfl) ?_
      exact dp_s0 hF (i := .ireturn) rfl (fun _ => rfl)
    refine dp_s1 hF (i := .iload_n 3) rfl (fun _ => rfl) ?_
    refine dp_s1 hF (i := .ineg) rfl (fun _ => rfl) ?_
    exact dp_s0 hF (i := .ireturn) rfl (fun _ => rfl)
  refine dp_s1 hF (i := .iconst 1) rfl (fun _ => rfl) ?_
  refine dp_s1 hF (i := .goto 9) rfl (fun _ => rfl) ?_
  refine dp_s1w (1 : Int32) (fun (y17 : Int32) => (60, [some (.ref 114), some (.int v1), some (.int v2), some (.int y17)], [], M10)) hF (i := .istore_n 3) rfl (fun _ => rfl) (fun y17 => ?_)
  refine dp_s1 hF (i := .iload_n 3) rfl (fun _ => rfl) ?_
  refine dp_s2 hF (i := .ifCond .le 6) (a := (67, [some (.ref 114), some (.int v1), some (.int v2), some (.int y17)], [], M10)) (b := (64, [some (.ref 114), some (.int v1), some (.int v2), some (.int y17)], [], M10)) rfl (fun _ => rfl) ?_ ?_
  · refine dp_s1 hF (i := .aload_n 0) rfl (fun _ => rfl) ?_
    refine dp_s1 hF (i := .iload_n 1) rfl (fun _ => rfl) ?_
    refine dp_s1 hF (i := .iload_n 2) rfl (fun _ => rfl) ?_
    refine dp_sv (mj := dp_m_X12_goesTo) (i := .invokevirtual 534) rfl rfl rfl rfl (fun _ => rfl) (fun M18 => ?_)
    refine dp_s1 hF (i := .iconst 1) rfl (fun _ => rfl) ?_
    exact dp_s0 hF (i := .ireturn) rfl (fun _ => rfl)
  refine dp_s1 hF (i := .iload_n 3) rfl (fun _ => rfl) ?_
  refine dp_s1 hF (i := .ineg) rfl (fun _ => rfl) ?_
  exact dp_s0 hF (i := .ireturn) rfl (fun _ => rfl)
noncomputable def D_X12_take_0 (xs : Nat → Int32) (xl d : Nat) (v1 : Int32) (M : dp_M) : Option dp_Res := dp_lim true xs xl (dp_den true xs xl d) dp_m_X12_take (0, [some (.ref 114), some (.int v1)], [], M)
theorem D_X12_take_0_den (xs : Nat → Int32) (xl d : Nat) (a0 : Int32) (M : dp_M) : dp_den true xs xl (d + 1) 411 [.ref 114, .int a0] M = D_X12_take_0 xs xl d a0 M := rfl
set_option maxRecDepth 20000 in
theorem D_X12_take_0_eq (xs : Nat → Int32) (xl d : Nat) (v1 : Int32) (M : dp_M) : D_X12_take_0 xs xl d v1 M = dp_bi (dp_den true xs xl d 371 [.ref 114, .int v1] M) (fun r2 M1 => if r2 = 0 then (dp_bi (dp_den true xs xl d 366 [.ref 114, .int (1 : Int32)] M1) (fun r4 M3 => some (.inl (some (.int r4)), M3))) else (dp_w (dp_setI M1 114 0 (0 : Int32)) (fun M5 => dp_bi (dp_den true xs xl d 399 [.ref 114, .int v1] M5) (fun r7 M6 => if r7 = 0 then (some (.inl (some (.int (0 : Int32))), M6)) else (dp_bv (dp_den true xs xl d 409 [.ref 114, .int v1, .int (-1 : Int32)] M6) (fun M8 => some (.inl (some (.int (1 : Int32))), M8))))))) := by
  have hF := dp_den_grow (md := true) (xs := xs) (xl := xl) d
  unfold D_X12_take_0
  refine dp_s1 hF (i := .aload_n 0) rfl (fun _ => rfl) ?_
  refine dp_s1 hF (i := .iload_n 1) rfl (fun _ => rfl) ?_
  refine dp_si (mj := dp_m_X12_isBox) (i := .invokevirtual 470) rfl rfl (Or.inr rfl) rfl (fun _ => rfl) (fun r2 M1 => ?_)
  refine dp_s2 hF (i := .ifCond .ne 9) (a := (8, [some (.ref 114), some (.int v1)], [], M1)) (b := (14, [some (.ref 114), some (.int v1)], [], M1)) rfl (fun _ => rfl) ?_ ?_
  · refine dp_s1 hF (i := .aload_n 0) rfl (fun _ => rfl) ?_
    refine dp_s1 hF (i := .iconst 1) rfl (fun _ => rfl) ?_
    refine dp_si (mj := dp_m_X12_refuse) (i := .invokevirtual 460) rfl rfl (Or.inl rfl) rfl (fun _ => rfl) (fun r4 M3 => ?_)
    exact dp_s0 hF (i := .ireturn) rfl (fun _ => rfl)
  refine dp_s1 hF (i := .aload_n 0) rfl (fun _ => rfl) ?_
  refine dp_s1 hF (i := .iconst 0) rfl (fun _ => rfl) ?_
  refine dp_s1w (dp_setI M1 114 0 (0 : Int32)) (fun (M5 : dp_M) => (19, [some (.ref 114), some (.int v1)], [], M5)) hF (i := .putfield 1) rfl (fun _ => rfl) (fun M5 => ?_)
  refine dp_s1 hF (i := .aload_n 0) rfl (fun _ => rfl) ?_
  refine dp_s1 hF (i := .iload_n 1) rfl (fun _ => rfl) ?_
  refine dp_si (mj := dp_m_X12_isTop) (i := .invokevirtual 584) rfl rfl (Or.inr rfl) rfl (fun _ => rfl) (fun r7 M6 => ?_)
  refine dp_s2 hF (i := .ifCond .ne 5) (a := (27, [some (.ref 114), some (.int v1)], [], M6)) (b := (29, [some (.ref 114), some (.int v1)], [], M6)) rfl (fun _ => rfl) ?_ ?_
  · refine dp_s1 hF (i := .iconst 0) rfl (fun _ => rfl) ?_
    exact dp_s0 hF (i := .ireturn) rfl (fun _ => rfl)
  refine dp_s1 hF (i := .aload_n 0) rfl (fun _ => rfl) ?_
  refine dp_s1 hF (i := .iload_n 1) rfl (fun _ => rfl) ?_
  refine dp_s1 hF (i := .iconst (-1)) rfl (fun _ => rfl) ?_
  refine dp_sv (mj := dp_m_X12_goesTo) (i := .invokevirtual 534) rfl rfl rfl rfl (fun _ => rfl) (fun M8 => ?_)
  refine dp_s1 hF (i := .iconst 1) rfl (fun _ => rfl) ?_
  exact dp_s0 hF (i := .ireturn) rfl (fun _ => rfl)
noncomputable def D_X12_shift_0 (xs : Nat → Int32) (xl d : Nat) (v1 : Int32) (v2 : Int32) (M : dp_M) : Option dp_Res := dp_lim true xs xl (dp_den true xs xl d) dp_m_X12_shift (0, [some (.ref 114), some (.int v1), some (.int v2), none], [], M)
theorem D_X12_shift_0_den (xs : Nat → Int32) (xl d : Nat) (a0 : Int32) (a1 : Int32) (M : dp_M) : dp_den true xs xl (d + 1) 412 [.ref 114, .int a0, .int a1] M = D_X12_shift_0 xs xl d a0 a1 M := rfl
set_option maxRecDepth 20000 in
theorem D_X12_shift_0_eq (xs : Nat → Int32) (xl d : Nat) (v1 : Int32) (v2 : Int32) (M : dp_M) : D_X12_shift_0 xs xl d v1 v2 M = dp_bi (dp_den true xs xl d 371 [.ref 114, .int v1] M) (fun r2 M1 => if r2 = 0 then (dp_bi (dp_den true xs xl d 366 [.ref 114, .int (1 : Int32)] M1) (fun r4 M3 => some (.inl (some (.int r4)), M3))) else (dp_bi (dp_den true xs xl d 395 [.ref 114, .int v2] M1) (fun r6 M5 => if r6 = 0 then (dp_bi (dp_den true xs xl d 366 [.ref 114, .int (1 : Int32)] M5) (fun r8 M7 => some (.inl (some (.int r8)), M7))) else (dp_w (dp_setI M5 114 0 (0 : Int32)) (fun M9 => dp_bi (dp_den true xs xl d 399 [.ref 114, .int v1] M9) (fun r11 M10 => if r11 = 0 then (some (.inl (some (.int (0 : Int32))), M10)) else (if v1 < 0 ∨ 100 ≤ Int32.toNatClampNeg v1 then none else (if (dp_I M10 140 (Int32.toNatClampNeg v1)) = v2 then (dp_w (1 : Int32) (fun y12 => if y12 ≤ 0 then (dp_bv (dp_den true xs xl d 409 [.ref 114, .int v1, .int v2] M10) (fun M13 => some (.inl (some (.int (1 : Int32))), M13))) else (some (.inl (some (.int (-y12))), M10)))) else (dp_bi (dp_den true xs xl d 403 [.ref 114, .int v1, .int v2] M10) (fun r15 M14 => if r15 ≤ 0 then (dp_bv (dp_den true xs xl d 409 [.ref 114, .int v1, .int v2] M14) (fun M16 => some (.inl (some (.int (1 : Int32))), M16))) else (some (.inl (some (.int (-r15))), M14)))))))))))) := by
  have hF := dp_den_grow (md := true) (xs := xs) (xl := xl) d
  unfold D_X12_shift_0
  refine dp_s1 hF (i := .aload_n 0) rfl (fun _ => rfl) ?_
  refine dp_s1 hF (i := .iload_n 1) rfl (fun _ => rfl) ?_
  refine dp_si (mj := dp_m_X12_isBox) (i := .invokevirtual 470) rfl rfl (Or.inr rfl) rfl (fun _ => rfl) (fun r2 M1 => ?_)
  refine dp_s2 hF (i := .ifCond .eq 11) (a := (16, [some (.ref 114), some (.int v1), some (.int v2), none], [], M1)) (b := (8, [some (.ref 114), some (.int v1), some (.int v2), none], [], M1)) rfl (fun _ => rfl) ?_ ?_
  · refine dp_s1 hF (i := .aload_n 0) rfl (fun _ => rfl) ?_
    refine dp_s1 hF (i := .iconst 1) rfl (fun _ => rfl) ?_
    refine dp_si (mj := dp_m_X12_refuse) (i := .invokevirtual 460) rfl rfl (Or.inl rfl) rfl (fun _ => rfl) (fun r4 M3 => ?_)
    exact dp_s0 hF (i := .ireturn) rfl (fun _ => rfl)
  refine dp_s1 hF (i := .aload_n 0) rfl (fun _ => rfl) ?_
  refine dp_s1 hF (i := .iload_n 2) rfl (fun _ => rfl) ?_
  refine dp_si (mj := dp_m_X12_isYardRow) (i := .invokevirtual 569) rfl rfl (Or.inr rfl) rfl (fun _ => rfl) (fun r6 M5 => ?_)
  refine dp_s2 hF (i := .ifCond .ne 9) (a := (16, [some (.ref 114), some (.int v1), some (.int v2), none], [], M5)) (b := (22, [some (.ref 114), some (.int v1), some (.int v2), none], [], M5)) rfl (fun _ => rfl) ?_ ?_
  · refine dp_s1 hF (i := .aload_n 0) rfl (fun _ => rfl) ?_
    refine dp_s1 hF (i := .iconst 1) rfl (fun _ => rfl) ?_
    refine dp_si (mj := dp_m_X12_refuse) (i := .invokevirtual 460) rfl rfl (Or.inl rfl) rfl (fun _ => rfl) (fun r8 M7 => ?_)
    exact dp_s0 hF (i := .ireturn) rfl (fun _ => rfl)
  refine dp_s1 hF (i := .aload_n 0) rfl (fun _ => rfl) ?_
  refine dp_s1 hF (i := .iconst 0) rfl (fun _ => rfl) ?_
  refine dp_s1w (dp_setI M5 114 0 (0 : Int32)) (fun (M9 : dp_M) => (27, [some (.ref 114), some (.int v1), some (.int v2), none], [], M9)) hF (i := .putfield 1) rfl (fun _ => rfl) (fun M9 => ?_)
  refine dp_s1 hF (i := .aload_n 0) rfl (fun _ => rfl) ?_
  refine dp_s1 hF (i := .iload_n 1) rfl (fun _ => rfl) ?_
  refine dp_si (mj := dp_m_X12_isTop) (i := .invokevirtual 584) rfl rfl (Or.inr rfl) rfl (fun _ => rfl) (fun r11 M10 => ?_)
  refine dp_s2 hF (i := .ifCond .ne 5) (a := (35, [some (.ref 114), some (.int v1), some (.int v2), none], [], M10)) (b := (37, [some (.ref 114), some (.int v1), some (.int v2), none], [], M10)) rfl (fun _ => rfl) ?_ ?_
  · refine dp_s1 hF (i := .iconst 0) rfl (fun _ => rfl) ?_
    exact dp_s0 hF (i := .ireturn) rfl (fun _ => rfl)
  refine dp_s1 hF (i := .aload_n 0) rfl (fun _ => rfl) ?_
  refine dp_s1 hF (i := .getfield 91) rfl (fun _ => rfl) ?_
  refine dp_s1 hF (i := .iload_n 1) rfl (fun _ => rfl) ?_
  refine dp_s3 hF (i := .iaload) rfl (fun _ => rfl) ?_
  refine dp_s1 hF (i := .iload_n 2) rfl (fun _ => rfl) ?_
  refine dp_s2 hF (i := .if_icmp .ne 7) (a := (47, [some (.ref 114), some (.int v1), some (.int v2), none], [], M10)) (b := (51, [some (.ref 114), some (.int v1), some (.int v2), none], [], M10)) rfl (fun _ => rfl) ?_ ?_
  · refine dp_s1 hF (i := .iconst 1) rfl (fun _ => rfl) ?_
    refine dp_s1 hF (i := .goto 9) rfl (fun _ => rfl) ?_
    refine dp_s1w (1 : Int32) (fun (y12 : Int32) => (58, [some (.ref 114), some (.int v1), some (.int v2), some (.int y12)], [], M10)) hF (i := .istore_n 3) rfl (fun _ => rfl) (fun y12 => ?_)
    refine dp_s1 hF (i := .iload_n 3) rfl (fun _ => rfl) ?_
    refine dp_s2 hF (i := .ifCond .le 6) (a := (65, [some (.ref 114), some (.int v1), some (.int v2), some (.int y12)], [], M10)) (b := (62, [some (.ref 114), some (.int v1), some (.int v2), some (.int y12)], [], M10)) rfl (fun _ => rfl) ?_ ?_
    · refine dp_s1 hF (i := .aload_n 0) rfl (fun _ => rfl) ?_
      refine dp_s1 hF (i := .iload_n 1) rfl (fun _ => rfl) ?_
      refine dp_s1 hF (i := .iload_n 2) rfl (fun _ => rfl) ?_
      refine dp_sv (mj := dp_m_X12_goesTo) (i := .invokevirtual 534) rfl rfl rfl rfl (fun _ => rfl) (fun M13 => ?_)
      refine dp_s1 hF (i := .iconst 1) rfl (fun _ => rfl) ?_
      exact dp_s0 hF (i := .ireturn) rfl (fun _ => rfl)
    refine dp_s1 hF (i := .iload_n 3) rfl (fun _ => rfl) ?_
    refine dp_s1 hF (i := .ineg) rfl (fun _ => rfl) ?_
    exact dp_s0 hF (i := .ireturn) rfl (fun _ => rfl)
  refine dp_s1 hF (i := .aload_n 0) rfl (fun _ => rfl) ?_
  refine dp_s1 hF (i := .iload_n 1) rfl (fun _ => rfl) ?_
  refine dp_s1 hF (i := .iload_n 2) rfl (fun _ => rfl) ?_
  refine dp_si (mj := dp_m_X12_broken) (i := .invokevirtual 563) rfl rfl (Or.inl rfl) rfl (fun _ => rfl) (fun r15 M14 => ?_)
  refine dp_s1 hF (i := .istore_n 3) rfl (fun _ => rfl) ?_
  refine dp_s1 hF (i := .iload_n 3) rfl (fun _ => rfl) ?_
  refine dp_s2 hF (i := .ifCond .le 6) (a := (65, [some (.ref 114), some (.int v1), some (.int v2), some (.int r15)], [], M14)) (b := (62, [some (.ref 114), some (.int v1), some (.int v2), some (.int r15)], [], M14)) rfl (fun _ => rfl) ?_ ?_
  · refine dp_s1 hF (i := .aload_n 0) rfl (fun _ => rfl) ?_
    refine dp_s1 hF (i := .iload_n 1) rfl (fun _ => rfl) ?_
    refine dp_s1 hF (i := .iload_n 2) rfl (fun _ => rfl) ?_
    refine dp_sv (mj := dp_m_X12_goesTo) (i := .invokevirtual 534) rfl rfl rfl rfl (fun _ => rfl) (fun M16 => ?_)
    refine dp_s1 hF (i := .iconst 1) rfl (fun _ => rfl) ?_
    exact dp_s0 hF (i := .ireturn) rfl (fun _ => rfl)
  refine dp_s1 hF (i := .iload_n 3) rfl (fun _ => rfl) ?_
  refine dp_s1 hF (i := .ineg) rfl (fun _ => rfl) ?_
  exact dp_s0 hF (i := .ireturn) rfl (fun _ => rfl)
noncomputable def D_X12_choose_0 (xs : Nat → Int32) (xl d : Nat) (v1 : Int32) (M : dp_M) : Option dp_Res := dp_lim true xs xl (dp_den true xs xl d) dp_m_X12_choose (0, [some (.ref 114), some (.int v1)], [], M)
theorem D_X12_choose_0_den (xs : Nat → Int32) (xl d : Nat) (a0 : Int32) (M : dp_M) : dp_den true xs xl (d + 1) 413 [.ref 114, .int a0] M = D_X12_choose_0 xs xl d a0 M := rfl
set_option maxRecDepth 20000 in
theorem D_X12_choose_0_eq (xs : Nat → Int32) (xl d : Nat) (v1 : Int32) (M : dp_M) : D_X12_choose_0 xs xl d v1 M = dp_bi (dp_den true xs xl d 371 [.ref 114, .int v1] M) (fun r2 M1 => if r2 = 0 then (dp_bi (dp_den true xs xl d 366 [.ref 114, .int (1 : Int32)] M1) (fun r4 M3 => some (.inl (some (.int r4)), M3))) else (dp_w (dp_setI M1 114 0 (0 : Int32)) (fun M5 => if v1 < 0 ∨ 100 ≤ Int32.toNatClampNeg v1 then none else (if 0 ≤ (dp_I M5 140 (Int32.toNatClampNeg v1)) then (some (.inl (some (.int (-1 : Int32))), M5)) else (dp_bi (dp_den true xs xl d 402 [.ref 114, .int v1] M5) (fun r7 M6 => if r7 = 0 then (some (.inl (some (.int (-1 : Int32))), M6)) else (dp_bi (dp_den true xs xl d 405 [.ref 114, .int v1] M6) (fun r9 M8 => some (.inl (some (.int r9)), M8))))))))) := by
  have hF := dp_den_grow (md := true) (xs := xs) (xl := xl) d
  unfold D_X12_choose_0
  refine dp_s1 hF (i := .aload_n 0) rfl (fun _ => rfl) ?_
  refine dp_s1 hF (i := .iload_n 1) rfl (fun _ => rfl) ?_
  refine dp_si (mj := dp_m_X12_isBox) (i := .invokevirtual 470) rfl rfl (Or.inr rfl) rfl (fun _ => rfl) (fun r2 M1 => ?_)
  refine dp_s2 hF (i := .ifCond .ne 9) (a := (8, [some (.ref 114), some (.int v1)], [], M1)) (b := (14, [some (.ref 114), some (.int v1)], [], M1)) rfl (fun _ => rfl) ?_ ?_
  · refine dp_s1 hF (i := .aload_n 0) rfl (fun _ => rfl) ?_
    refine dp_s1 hF (i := .iconst 1) rfl (fun _ => rfl) ?_
    refine dp_si (mj := dp_m_X12_refuse) (i := .invokevirtual 460) rfl rfl (Or.inl rfl) rfl (fun _ => rfl) (fun r4 M3 => ?_)
    exact dp_s0 hF (i := .ireturn) rfl (fun _ => rfl)
  refine dp_s1 hF (i := .aload_n 0) rfl (fun _ => rfl) ?_
  refine dp_s1 hF (i := .iconst 0) rfl (fun _ => rfl) ?_
  refine dp_s1w (dp_setI M1 114 0 (0 : Int32)) (fun (M5 : dp_M) => (19, [some (.ref 114), some (.int v1)], [], M5)) hF (i := .putfield 1) rfl (fun _ => rfl) (fun M5 => ?_)
  refine dp_s1 hF (i := .aload_n 0) rfl (fun _ => rfl) ?_
  refine dp_s1 hF (i := .getfield 91) rfl (fun _ => rfl) ?_
  refine dp_s1 hF (i := .iload_n 1) rfl (fun _ => rfl) ?_
  refine dp_s3 hF (i := .iaload) rfl (fun _ => rfl) ?_
  refine dp_s2 hF (i := .ifCond .ge 11) (a := (36, [some (.ref 114), some (.int v1)], [], M5)) (b := (28, [some (.ref 114), some (.int v1)], [], M5)) rfl (fun _ => rfl) ?_ ?_
  · refine dp_s1 hF (i := .iconst (-1)) rfl (fun _ => rfl) ?_
    refine dp_s1 hF (i := .goto 8) rfl (fun _ => rfl) ?_
    exact dp_s0 hF (i := .ireturn) rfl (fun _ => rfl)
  refine dp_s1 hF (i := .aload_n 0) rfl (fun _ => rfl) ?_
  refine dp_s1 hF (i := .iload_n 1) rfl (fun _ => rfl) ?_
  refine dp_si (mj := dp_m_X12_isHere) (i := .invokevirtual 581) rfl rfl (Or.inr rfl) rfl (fun _ => rfl) (fun r7 M6 => ?_)
  refine dp_s2 hF (i := .ifCond .ne 7) (a := (36, [some (.ref 114), some (.int v1)], [], M6)) (b := (40, [some (.ref 114), some (.int v1)], [], M6)) rfl (fun _ => rfl) ?_ ?_
  · refine dp_s1 hF (i := .iconst (-1)) rfl (fun _ => rfl) ?_
    refine dp_s1 hF (i := .goto 8) rfl (fun _ => rfl) ?_
    exact dp_s0 hF (i := .ireturn) rfl (fun _ => rfl)
  refine dp_s1 hF (i := .aload_n 0) rfl (fun _ => rfl) ?_
  refine dp_s1 hF (i := .iload_n 1) rfl (fun _ => rfl) ?_
  refine dp_si (mj := dp_m_X12_bestRow) (i := .invokevirtual 531) rfl rfl (Or.inl rfl) rfl (fun _ => rfl) (fun r9 M8 => ?_)
  exact dp_s0 hF (i := .ireturn) rfl (fun _ => rfl)
noncomputable def D_X12_asideRow_0 (xs : Nat → Int32) (xl d : Nat) (v1 : Int32) (M : dp_M) : Option dp_Res := dp_lim true xs xl (dp_den true xs xl d) dp_m_X12_asideRow (0, [some (.ref 114), some (.int v1), none, none, none], [], M)
noncomputable def D_X12_asideRow_9 (xs : Nat → Int32) (xl d : Nat) (v1 : Int32) (v2 : Int32) (v3 : Int32) (M : dp_M) : Option dp_Res := dp_lim true xs xl (dp_den true xs xl d) dp_m_X12_asideRow (9, [some (.ref 114), some (.int v1), some (.int v2), some (.int v3), none], [], M)
noncomputable def D_X12_asideRow_50 (xs : Nat → Int32) (xl d : Nat) (v1 : Int32) (v2 : Int32) (v3 : Int32) (vs0 : Int32) (M : dp_M) : Option dp_Res := dp_lim true xs xl (dp_den true xs xl d) dp_m_X12_asideRow (50, [some (.ref 114), some (.int v1), some (.int v2), some (.int v3), none], [.int vs0], M)
noncomputable def D_X12_asideRow_9_a (xs : Nat → Int32) (xl d : Nat) (v1 : Int32) (v2 : Int32) (v3 : Int32) (v4 : Int32) (M : dp_M) : Option dp_Res := dp_lim true xs xl (dp_den true xs xl d) dp_m_X12_asideRow (9, [some (.ref 114), some (.int v1), some (.int v2), some (.int v3), some (.int v4)], [], M)
noncomputable def D_X12_asideRow_50_a (xs : Nat → Int32) (xl d : Nat) (v1 : Int32) (v2 : Int32) (v3 : Int32) (v4 : Int32) (vs0 : Int32) (M : dp_M) : Option dp_Res := dp_lim true xs xl (dp_den true xs xl d) dp_m_X12_asideRow (50, [some (.ref 114), some (.int v1), some (.int v2), some (.int v3), some (.int v4)], [.int vs0], M)
theorem D_X12_asideRow_0_den (xs : Nat → Int32) (xl d : Nat) (a0 : Int32) (M : dp_M) : dp_den true xs xl (d + 1) 414 [.ref 114, .int a0] M = D_X12_asideRow_0 xs xl d a0 M := rfl
set_option maxRecDepth 20000 in
theorem D_X12_asideRow_0_eq (xs : Nat → Int32) (xl d : Nat) (v1 : Int32) (M : dp_M) : D_X12_asideRow_0 xs xl d v1 M = dp_w (-1 : Int32) (fun y1 => dp_w ((dp_I M 114 25) - (1 : Int32)) (fun y2 => D_X12_asideRow_9 xs xl d v1 y1 y2 M)) := by
  have hF := dp_den_grow (md := true) (xs := xs) (xl := xl) d
  unfold D_X12_asideRow_0
  refine dp_s1 hF (i := .iconst (-1)) rfl (fun _ => rfl) ?_
  refine dp_s1w (-1 : Int32) (fun (y1 : Int32) => (2, [some (.ref 114), some (.int v1), some (.int y1), none, none], [], M)) hF (i := .istore_n 2) rfl (fun _ => rfl) (fun y1 => ?_)
  refine dp_s1 hF (i := .aload_n 0) rfl (fun _ => rfl) ?_
  refine dp_s1 hF (i := .getfield 426) rfl (fun _ => rfl) ?_
  refine dp_s1 hF (i := .iconst 1) rfl (fun _ => rfl) ?_
  refine dp_s1 hF (i := .isub) rfl (fun _ => rfl) ?_
  refine dp_s1w ((dp_I M 114 25) - (1 : Int32)) (fun (y2 : Int32) => (9, [some (.ref 114), some (.int v1), some (.int y1), some (.int y2), none], [], M)) hF (i := .istore_n 3) rfl (fun _ => rfl) (fun y2 => ?_)
  exact rfl
set_option maxRecDepth 20000 in
theorem D_X12_asideRow_9_eq (xs : Nat → Int32) (xl d : Nat) (v1 : Int32) (v2 : Int32) (v3 : Int32) (M : dp_M) : D_X12_asideRow_9 xs xl d v1 v2 v3 M = if v3 < 0 then (some (.inl (some (.int v2)), M)) else (if v1 < 0 ∨ 100 ≤ Int32.toNatClampNeg v1 then none else (if v3 = (dp_I M 140 (Int32.toNatClampNeg v1)) then (D_X12_asideRow_50 xs xl d v1 v2 v3 (0 : Int32) M) else (dp_bi (dp_den true xs xl d 403 [.ref 114, .int v1, .int v3] M) (fun r2 M1 => if r2 = 0 then (dp_bi (dp_den true xs xl d 401 [.ref 114, .int v1, .int v3, .int (dp_I M1 114 26)] M1) (fun r4 M3 => if r4 = 0 then (D_X12_asideRow_50 xs xl d v1 v2 v3 (1 : Int32) M3) else (D_X12_asideRow_50 xs xl d v1 v2 v3 (0 : Int32) M3))) else (D_X12_asideRow_50 xs xl d v1 v2 v3 (0 : Int32) M1))))) := by
  have hF := dp_den_grow (md := true) (xs := xs) (xl := xl) d
  unfold D_X12_asideRow_9
  refine dp_s1 hF (i := .iload_n 3) rfl (fun _ => rfl) ?_
  refine dp_s2 hF (i := .ifCond .lt 74) (a := (84, [some (.ref 114), some (.int v1), some (.int v2), some (.int v3), none], [], M)) (b := (13, [some (.ref 114), some (.int v1), some (.int v2), some (.int v3), none], [], M)) rfl (fun _ => rfl) ?_ ?_
  · refine dp_s1 hF (i := .iload_n 2) rfl (fun _ => rfl) ?_
    exact dp_s0 hF (i := .ireturn) rfl (fun _ => rfl)
  refine dp_s1 hF (i := .iload_n 3) rfl (fun _ => rfl) ?_
  refine dp_s1 hF (i := .aload_n 0) rfl (fun _ => rfl) ?_
  refine dp_s1 hF (i := .getfield 91) rfl (fun _ => rfl) ?_
  refine dp_s1 hF (i := .iload_n 1) rfl (fun _ => rfl) ?_
  refine dp_s3 hF (i := .iaload) rfl (fun _ => rfl) ?_
  refine dp_s2 hF (i := .if_icmp .eq 29) (a := (49, [some (.ref 114), some (.int v1), some (.int v2), some (.int v3), none], [], M)) (b := (23, [some (.ref 114), some (.int v1), some (.int v2), some (.int v3), none], [], M)) rfl (fun _ => rfl) ?_ ?_
  · refine dp_s1 hF (i := .iconst 0) rfl (fun _ => rfl) ?_
    exact rfl
  refine dp_s1 hF (i := .aload_n 0) rfl (fun _ => rfl) ?_
  refine dp_s1 hF (i := .iload_n 1) rfl (fun _ => rfl) ?_
  refine dp_s1 hF (i := .iload_n 3) rfl (fun _ => rfl) ?_
  refine dp_si (mj := dp_m_X12_broken) (i := .invokevirtual 563) rfl rfl (Or.inl rfl) rfl (fun _ => rfl) (fun r2 M1 => ?_)
  refine dp_s2 hF (i := .ifCond .ne 20) (a := (32, [some (.ref 114), some (.int v1), some (.int v2), some (.int v3), none], [], M1)) (b := (49, [some (.ref 114), some (.int v1), some (.int v2), some (.int v3), none], [], M1)) rfl (fun _ => rfl) ?_ ?_
  · refine dp_s1 hF (i := .aload_n 0) rfl (fun _ => rfl) ?_
    refine dp_s1 hF (i := .iload_n 1) rfl (fun _ => rfl) ?_
    refine dp_s1 hF (i := .iload_n 3) rfl (fun _ => rfl) ?_
    refine dp_s1 hF (i := .aload_n 0) rfl (fun _ => rfl) ?_
    refine dp_s1 hF (i := .getfield 429) rfl (fun _ => rfl) ?_
    refine dp_si (mj := dp_m_X12_sooner) (i := .invokevirtual 559) rfl rfl (Or.inl rfl) rfl (fun _ => rfl) (fun r4 M3 => ?_)
    refine dp_s2 hF (i := .ifCond .ne 7) (a := (45, [some (.ref 114), some (.int v1), some (.int v2), some (.int v3), none], [], M3)) (b := (49, [some (.ref 114), some (.int v1), some (.int v2), some (.int v3), none], [], M3)) rfl (fun _ => rfl) ?_ ?_
    · refine dp_s1 hF (i := .iconst 1) rfl (fun _ => rfl) ?_
      refine dp_s1 hF (i := .goto 4) rfl (fun _ => rfl) ?_
      exact rfl
    refine dp_s1 hF (i := .iconst 0) rfl (fun _ => rfl) ?_
    exact rfl
  refine dp_s1 hF (i := .iconst 0) rfl (fun _ => rfl) ?_
  exact rfl
set_option maxRecDepth 20000 in
theorem D_X12_asideRow_50_eq (xs : Nat → Int32) (xl d : Nat) (v1 : Int32) (v2 : Int32) (v3 : Int32) (vs0 : Int32) (M : dp_M) : D_X12_asideRow_50 xs xl d v1 v2 v3 vs0 M = if vs0 = 0 then (dp_w (v3 + (-1 : Int32)) (fun y1 => D_X12_asideRow_9_a xs xl d v1 v2 y1 vs0 M)) else (if v2 < 0 then (dp_w (v3 + (-1 : Int32)) (fun y2 => D_X12_asideRow_9_a xs xl d v1 v3 y2 vs0 M)) else (dp_bi (dp_den true xs xl d 404 [.ref 114, .int v1, .int v3] M) (fun r4 M3 => dp_bi (dp_den true xs xl d 404 [.ref 114, .int v1, .int v2] M3) (fun r6 M5 => if r4 < r6 then (dp_w (v3 + (-1 : Int32)) (fun y7 => D_X12_asideRow_9_a xs xl d v1 v2 y7 vs0 M5)) else (dp_w (v3 + (-1 : Int32)) (fun y8 => D_X12_asideRow_9_a xs xl d v1 v3 y8 vs0 M5)))))) := by
  have hF := dp_den_grow (md := true) (xs := xs) (xl := xl) d
  unfold D_X12_asideRow_50
  refine dp_s1 hF (i := .istore 4) rfl (fun _ => rfl) ?_
  refine dp_s1 hF (i := .iload 4) rfl (fun _ => rfl) ?_
  refine dp_s2 hF (i := .ifCond .eq 24) (a := (78, [some (.ref 114), some (.int v1), some (.int v2), some (.int v3), some (.int vs0)], [], M)) (b := (57, [some (.ref 114), some (.int v1), some (.int v2), some (.int v3), some (.int vs0)], [], M)) rfl (fun _ => rfl) ?_ ?_
  · refine dp_s1w (v3 + (-1 : Int32)) (fun (y1 : Int32) => (81, [some (.ref 114), some (.int v1), some (.int v2), some (.int y1), some (.int vs0)], [], M)) hF (i := .iinc 3 (-1)) rfl (fun _ => rfl) (fun y1 => ?_)
    refine dp_s1 hF (i := .goto (-72)) rfl (fun _ => rfl) ?_
    exact rfl
  refine dp_s1 hF (i := .iload_n 2) rfl (fun _ => rfl) ?_
  refine dp_s2 hF (i := .ifCond .lt 18) (a := (76, [some (.ref 114), some (.int v1), some (.int v2), some (.int v3), some (.int vs0)], [], M)) (b := (61, [some (.ref 114), some (.int v1), some (.int v2), some (.int v3), some (.int vs0)], [], M)) rfl (fun _ => rfl) ?_ ?_
  · refine dp_s1 hF (i := .iload_n 3) rfl (fun _ => rfl) ?_
    refine dp_s1 hF (i := .istore_n 2) rfl (fun _ => rfl) ?_
    refine dp_s1w (v3 + (-1 : Int32)) (fun (y2 : Int32) => (81, [some (.ref 114), some (.int v1), some (.int v3), some (.int y2), some (.int vs0)], [], M)) hF (i := .iinc 3 (-1)) rfl (fun _ => rfl) (fun y2 => ?_)
    refine dp_s1 hF (i := .goto (-72)) rfl (fun _ => rfl) ?_
    exact rfl
  refine dp_s1 hF (i := .aload_n 0) rfl (fun _ => rfl) ?_
  refine dp_s1 hF (i := .iload_n 1) rfl (fun _ => rfl) ?_
  refine dp_s1 hF (i := .iload_n 3) rfl (fun _ => rfl) ?_
  refine dp_si (mj := dp_m_X12_scoreOf) (i := .invokevirtual 566) rfl rfl (Or.inl rfl) rfl (fun _ => rfl) (fun r4 M3 => ?_)
  refine dp_s1 hF (i := .aload_n 0) rfl (fun _ => rfl) ?_
  refine dp_s1 hF (i := .iload_n 1) rfl (fun _ => rfl) ?_
  refine dp_s1 hF (i := .iload_n 2) rfl (fun _ => rfl) ?_
  refine dp_si (mj := dp_m_X12_scoreOf) (i := .invokevirtual 566) rfl rfl (Or.inl rfl) rfl (fun _ => rfl) (fun r6 M5 => ?_)
  refine dp_s2 hF (i := .if_icmp .lt 5) (a := (78, [some (.ref 114), some (.int v1), some (.int v2), some (.int v3), some (.int vs0)], [], M5)) (b := (76, [some (.ref 114), some (.int v1), some (.int v2), some (.int v3), some (.int vs0)], [], M5)) rfl (fun _ => rfl) ?_ ?_
  · refine dp_s1w (v3 + (-1 : Int32)) (fun (y7 : Int32) => (81, [some (.ref 114), some (.int v1), some (.int v2), some (.int y7), some (.int vs0)], [], M5)) hF (i := .iinc 3 (-1)) rfl (fun _ => rfl) (fun y7 => ?_)
    refine dp_s1 hF (i := .goto (-72)) rfl (fun _ => rfl) ?_
    exact rfl
  refine dp_s1 hF (i := .iload_n 3) rfl (fun _ => rfl) ?_
  refine dp_s1 hF (i := .istore_n 2) rfl (fun _ => rfl) ?_
  refine dp_s1w (v3 + (-1 : Int32)) (fun (y8 : Int32) => (81, [some (.ref 114), some (.int v1), some (.int v3), some (.int y8), some (.int vs0)], [], M5)) hF (i := .iinc 3 (-1)) rfl (fun _ => rfl) (fun y8 => ?_)
  refine dp_s1 hF (i := .goto (-72)) rfl (fun _ => rfl) ?_
  exact rfl
set_option maxRecDepth 20000 in
theorem D_X12_asideRow_9_a_eq (xs : Nat → Int32) (xl d : Nat) (v1 : Int32) (v2 : Int32) (v3 : Int32) (v4 : Int32) (M : dp_M) : D_X12_asideRow_9_a xs xl d v1 v2 v3 v4 M = if v3 < 0 then (some (.inl (some (.int v2)), M)) else (if v1 < 0 ∨ 100 ≤ Int32.toNatClampNeg v1 then none else (if v3 = (dp_I M 140 (Int32.toNatClampNeg v1)) then (D_X12_asideRow_50_a xs xl d v1 v2 v3 v4 (0 : Int32) M) else (dp_bi (dp_den true xs xl d 403 [.ref 114, .int v1, .int v3] M) (fun r2 M1 => if r2 = 0 then (dp_bi (dp_den true xs xl d 401 [.ref 114, .int v1, .int v3, .int (dp_I M1 114 26)] M1) (fun r4 M3 => if r4 = 0 then (D_X12_asideRow_50_a xs xl d v1 v2 v3 v4 (1 : Int32) M3) else (D_X12_asideRow_50_a xs xl d v1 v2 v3 v4 (0 : Int32) M3))) else (D_X12_asideRow_50_a xs xl d v1 v2 v3 v4 (0 : Int32) M1))))) := by
  have hF := dp_den_grow (md := true) (xs := xs) (xl := xl) d
  unfold D_X12_asideRow_9_a
  refine dp_s1 hF (i := .iload_n 3) rfl (fun _ => rfl) ?_
  refine dp_s2 hF (i := .ifCond .lt 74) (a := (84, [some (.ref 114), some (.int v1), some (.int v2), some (.int v3), some (.int v4)], [], M)) (b := (13, [some (.ref 114), some (.int v1), some (.int v2), some (.int v3), some (.int v4)], [], M)) rfl (fun _ => rfl) ?_ ?_
  · refine dp_s1 hF (i := .iload_n 2) rfl (fun _ => rfl) ?_
    exact dp_s0 hF (i := .ireturn) rfl (fun _ => rfl)
  refine dp_s1 hF (i := .iload_n 3) rfl (fun _ => rfl) ?_
  refine dp_s1 hF (i := .aload_n 0) rfl (fun _ => rfl) ?_
  refine dp_s1 hF (i := .getfield 91) rfl (fun _ => rfl) ?_
  refine dp_s1 hF (i := .iload_n 1) rfl (fun _ => rfl) ?_
  refine dp_s3 hF (i := .iaload) rfl (fun _ => rfl) ?_
  refine dp_s2 hF (i := .if_icmp .eq 29) (a := (49, [some (.ref 114), some (.int v1), some (.int v2), some (.int v3), some (.int v4)], [], M)) (b := (23, [some (.ref 114), some (.int v1), some (.int v2), some (.int v3), some (.int v4)], [], M)) rfl (fun _ => rfl) ?_ ?_
  · refine dp_s1 hF (i := .iconst 0) rfl (fun _ => rfl) ?_
    exact rfl
  refine dp_s1 hF (i := .aload_n 0) rfl (fun _ => rfl) ?_
  refine dp_s1 hF (i := .iload_n 1) rfl (fun _ => rfl) ?_
  refine dp_s1 hF (i := .iload_n 3) rfl (fun _ => rfl) ?_
  refine dp_si (mj := dp_m_X12_broken) (i := .invokevirtual 563) rfl rfl (Or.inl rfl) rfl (fun _ => rfl) (fun r2 M1 => ?_)
  refine dp_s2 hF (i := .ifCond .ne 20) (a := (32, [some (.ref 114), some (.int v1), some (.int v2), some (.int v3), some (.int v4)], [], M1)) (b := (49, [some (.ref 114), some (.int v1), some (.int v2), some (.int v3), some (.int v4)], [], M1)) rfl (fun _ => rfl) ?_ ?_
  · refine dp_s1 hF (i := .aload_n 0) rfl (fun _ => rfl) ?_
    refine dp_s1 hF (i := .iload_n 1) rfl (fun _ => rfl) ?_
    refine dp_s1 hF (i := .iload_n 3) rfl (fun _ => rfl) ?_
    refine dp_s1 hF (i := .aload_n 0) rfl (fun _ => rfl) ?_
    refine dp_s1 hF (i := .getfield 429) rfl (fun _ => rfl) ?_
    refine dp_si (mj := dp_m_X12_sooner) (i := .invokevirtual 559) rfl rfl (Or.inl rfl) rfl (fun _ => rfl) (fun r4 M3 => ?_)
    refine dp_s2 hF (i := .ifCond .ne 7) (a := (45, [some (.ref 114), some (.int v1), some (.int v2), some (.int v3), some (.int v4)], [], M3)) (b := (49, [some (.ref 114), some (.int v1), some (.int v2), some (.int v3), some (.int v4)], [], M3)) rfl (fun _ => rfl) ?_ ?_
    · refine dp_s1 hF (i := .iconst 1) rfl (fun _ => rfl) ?_
      refine dp_s1 hF (i := .goto 4) rfl (fun _ => rfl) ?_
      exact rfl
    refine dp_s1 hF (i := .iconst 0) rfl (fun _ => rfl) ?_
    exact rfl
  refine dp_s1 hF (i := .iconst 0) rfl (fun _ => rfl) ?_
  exact rfl
set_option maxRecDepth 20000 in
theorem D_X12_asideRow_50_a_eq (xs : Nat → Int32) (xl d : Nat) (v1 : Int32) (v2 : Int32) (v3 : Int32) (v4 : Int32) (vs0 : Int32) (M : dp_M) : D_X12_asideRow_50_a xs xl d v1 v2 v3 v4 vs0 M = if vs0 = 0 then (dp_w (v3 + (-1 : Int32)) (fun y1 => D_X12_asideRow_9_a xs xl d v1 v2 y1 vs0 M)) else (if v2 < 0 then (dp_w (v3 + (-1 : Int32)) (fun y2 => D_X12_asideRow_9_a xs xl d v1 v3 y2 vs0 M)) else (dp_bi (dp_den true xs xl d 404 [.ref 114, .int v1, .int v3] M) (fun r4 M3 => dp_bi (dp_den true xs xl d 404 [.ref 114, .int v1, .int v2] M3) (fun r6 M5 => if r4 < r6 then (dp_w (v3 + (-1 : Int32)) (fun y7 => D_X12_asideRow_9_a xs xl d v1 v2 y7 vs0 M5)) else (dp_w (v3 + (-1 : Int32)) (fun y8 => D_X12_asideRow_9_a xs xl d v1 v3 y8 vs0 M5)))))) := by
  have hF := dp_den_grow (md := true) (xs := xs) (xl := xl) d
  unfold D_X12_asideRow_50_a
  refine dp_s1 hF (i := .istore 4) rfl (fun _ => rfl) ?_
  refine dp_s1 hF (i := .iload 4) rfl (fun _ => rfl) ?_
  refine dp_s2 hF (i := .ifCond .eq 24) (a := (78, [some (.ref 114), some (.int v1), some (.int v2), some (.int v3), some (.int vs0)], [], M)) (b := (57, [some (.ref 114), some (.int v1), some (.int v2), some (.int v3), some (.int vs0)], [], M)) rfl (fun _ => rfl) ?_ ?_
  · refine dp_s1w (v3 + (-1 : Int32)) (fun (y1 : Int32) => (81, [some (.ref 114), some (.int v1), some (.int v2), some (.int y1), some (.int vs0)], [], M)) hF (i := .iinc 3 (-1)) rfl (fun _ => rfl) (fun y1 => ?_)
    refine dp_s1 hF (i := .goto (-72)) rfl (fun _ => rfl) ?_
    exact rfl
  refine dp_s1 hF (i := .iload_n 2) rfl (fun _ => rfl) ?_
  refine dp_s2 hF (i := .ifCond .lt 18) (a := (76, [some (.ref 114), some (.int v1), some (.int v2), some (.int v3), some (.int vs0)], [], M)) (b := (61, [some (.ref 114), some (.int v1), some (.int v2), some (.int v3), some (.int vs0)], [], M)) rfl (fun _ => rfl) ?_ ?_
  · refine dp_s1 hF (i := .iload_n 3) rfl (fun _ => rfl) ?_
    refine dp_s1 hF (i := .istore_n 2) rfl (fun _ => rfl) ?_
    refine dp_s1w (v3 + (-1 : Int32)) (fun (y2 : Int32) => (81, [some (.ref 114), some (.int v1), some (.int v3), some (.int y2), some (.int vs0)], [], M)) hF (i := .iinc 3 (-1)) rfl (fun _ => rfl) (fun y2 => ?_)
    refine dp_s1 hF (i := .goto (-72)) rfl (fun _ => rfl) ?_
    exact rfl
  refine dp_s1 hF (i := .aload_n 0) rfl (fun _ => rfl) ?_
  refine dp_s1 hF (i := .iload_n 1) rfl (fun _ => rfl) ?_
  refine dp_s1 hF (i := .iload_n 3) rfl (fun _ => rfl) ?_
  refine dp_si (mj := dp_m_X12_scoreOf) (i := .invokevirtual 566) rfl rfl (Or.inl rfl) rfl (fun _ => rfl) (fun r4 M3 => ?_)
  refine dp_s1 hF (i := .aload_n 0) rfl (fun _ => rfl) ?_
  refine dp_s1 hF (i := .iload_n 1) rfl (fun _ => rfl) ?_
  refine dp_s1 hF (i := .iload_n 2) rfl (fun _ => rfl) ?_
  refine dp_si (mj := dp_m_X12_scoreOf) (i := .invokevirtual 566) rfl rfl (Or.inl rfl) rfl (fun _ => rfl) (fun r6 M5 => ?_)
  refine dp_s2 hF (i := .if_icmp .lt 5) (a := (78, [some (.ref 114), some (.int v1), some (.int v2), some (.int v3), some (.int vs0)], [], M5)) (b := (76, [some (.ref 114), some (.int v1), some (.int v2), some (.int v3), some (.int vs0)], [], M5)) rfl (fun _ => rfl) ?_ ?_
  · refine dp_s1w (v3 + (-1 : Int32)) (fun (y7 : Int32) => (81, [some (.ref 114), some (.int v1), some (.int v2), some (.int y7), some (.int vs0)], [], M5)) hF (i := .iinc 3 (-1)) rfl (fun _ => rfl) (fun y7 => ?_)
    refine dp_s1 hF (i := .goto (-72)) rfl (fun _ => rfl) ?_
    exact rfl
  refine dp_s1 hF (i := .iload_n 3) rfl (fun _ => rfl) ?_
  refine dp_s1 hF (i := .istore_n 2) rfl (fun _ => rfl) ?_
  refine dp_s1w (v3 + (-1 : Int32)) (fun (y8 : Int32) => (81, [some (.ref 114), some (.int v1), some (.int v3), some (.int y8), some (.int vs0)], [], M5)) hF (i := .iinc 3 (-1)) rfl (fun _ => rfl) (fun y8 => ?_)
  refine dp_s1 hF (i := .goto (-72)) rfl (fun _ => rfl) ?_
  exact rfl
noncomputable def D_X12_worst_0 (xs : Nat → Int32) (xl d : Nat)  (M : dp_M) : Option dp_Res := dp_lim true xs xl (dp_den true xs xl d) dp_m_X12_worst (0, [some (.ref 114), none, none, none, none, none], [], M)
noncomputable def D_X12_worst_6 (xs : Nat → Int32) (xl d : Nat) (v1 : Int32) (v2 : Int32) (v3 : Int32) (M : dp_M) : Option dp_Res := dp_lim true xs xl (dp_den true xs xl d) dp_m_X12_worst (6, [some (.ref 114), some (.int v1), some (.int v2), some (.int v3), none, none], [], M)
noncomputable def D_X12_worst_51 (xs : Nat → Int32) (xl d : Nat) (v1 : Int32) (v2 : Int32) (v3 : Int32) (v4 : Int32) (vs0 : Int32) (M : dp_M) : Option dp_Res := dp_lim true xs xl (dp_den true xs xl d) dp_m_X12_worst (51, [some (.ref 114), some (.int v1), some (.int v2), some (.int v3), some (.int v4), none], [.int vs0], M)
noncomputable def D_X12_worst_6_a (xs : Nat → Int32) (xl d : Nat) (v1 : Int32) (v2 : Int32) (v3 : Int32) (v4 : Int32) (v5 : Int32) (M : dp_M) : Option dp_Res := dp_lim true xs xl (dp_den true xs xl d) dp_m_X12_worst (6, [some (.ref 114), some (.int v1), some (.int v2), some (.int v3), some (.int v4), some (.int v5)], [], M)
noncomputable def D_X12_worst_51_a (xs : Nat → Int32) (xl d : Nat) (v1 : Int32) (v2 : Int32) (v3 : Int32) (v4 : Int32) (v5 : Int32) (vs0 : Int32) (M : dp_M) : Option dp_Res := dp_lim true xs xl (dp_den true xs xl d) dp_m_X12_worst (51, [some (.ref 114), some (.int v1), some (.int v2), some (.int v3), some (.int v4), some (.int v5)], [.int vs0], M)
theorem D_X12_worst_0_den (xs : Nat → Int32) (xl d : Nat)  (M : dp_M) : dp_den true xs xl (d + 1) 415 [.ref 114] M = D_X12_worst_0 xs xl d  M := rfl
set_option maxRecDepth 20000 in
theorem D_X12_worst_0_eq (xs : Nat → Int32) (xl d : Nat)  (M : dp_M) : D_X12_worst_0 xs xl d  M = dp_w (-1 : Int32) (fun y1 => dp_w (0 : Int32) (fun y2 => dp_w (0 : Int32) (fun y3 => D_X12_worst_6 xs xl d y1 y2 y3 M))) := by
  have hF := dp_den_grow (md := true) (xs := xs) (xl := xl) d
  unfold D_X12_worst_0
  refine dp_s1 hF (i := .iconst (-1)) rfl (fun _ => rfl) ?_
  refine dp_s1w (-1 : Int32) (fun (y1 : Int32) => (2, [some (.ref 114), some (.int y1), none, none, none, none], [], M)) hF (i := .istore_n 1) rfl (fun _ => rfl) (fun y1 => ?_)
  refine dp_s1 hF (i := .iconst 0) rfl (fun _ => rfl) ?_
  refine dp_s1w (0 : Int32) (fun (y2 : Int32) => (4, [some (.ref 114), some (.int y1), some (.int y2), none, none, none], [], M)) hF (i := .istore_n 2) rfl (fun _ => rfl) (fun y2 => ?_)
  refine dp_s1 hF (i := .iconst 0) rfl (fun _ => rfl) ?_
  refine dp_s1w (0 : Int32) (fun (y3 : Int32) => (6, [some (.ref 114), some (.int y1), some (.int y2), some (.int y3), none, none], [], M)) hF (i := .istore_n 3) rfl (fun _ => rfl) (fun y3 => ?_)
  exact rfl
set_option maxRecDepth 20000 in
theorem D_X12_worst_6_eq (xs : Nat → Int32) (xl d : Nat) (v1 : Int32) (v2 : Int32) (v3 : Int32) (M : dp_M) : D_X12_worst_6 xs xl d v1 v2 v3 M = if (dp_I M 114 25) ≤ v3 then (some (.inl (some (.int v1)), M)) else (dp_bi (dp_den true xs xl d 396 [.ref 114, .int v3] M) (fun r2 M1 => dp_bi (dp_den true xs xl d 398 [.ref 114, .int v3, .int (r2 - (1 : Int32))] M1) (fun r4 M3 => if 0 ≤ r4 then (if r4 < 0 ∨ 100 ≤ Int32.toNatClampNeg r4 then none else (dp_bi (dp_den true xs xl d 401 [.ref 114, .int r4, .int v3, .int (dp_I M3 141 (Int32.toNatClampNeg r4))] M3) (fun r6 M5 => D_X12_worst_51 xs xl d v1 v2 v3 r4 r6 M5))) else (D_X12_worst_51 xs xl d v1 v2 v3 r4 (0 : Int32) M3)))) := by
  have hF := dp_den_grow (md := true) (xs := xs) (xl := xl) d
  unfold D_X12_worst_6
  refine dp_s1 hF (i := .iload_n 3) rfl (fun _ => rfl) ?_
  refine dp_s1 hF (i := .aload_n 0) rfl (fun _ => rfl) ?_
  refine dp_s1 hF (i := .getfield 426) rfl (fun _ => rfl) ?_
  refine dp_s2 hF (i := .if_icmp .ge 69) (a := (80, [some (.ref 114), some (.int v1), some (.int v2), some (.int v3), none, none], [], M)) (b := (14, [some (.ref 114), some (.int v1), some (.int v2), some (.int v3), none, none], [], M)) rfl (fun _ => rfl) ?_ ?_
  · refine dp_s1 hF (i := .iload_n 1) rfl (fun _ => rfl) ?_
    exact dp_s0 hF (i := .ireturn) rfl (fun _ => rfl)
  refine dp_s1 hF (i := .aload_n 0) rfl (fun _ => rfl) ?_
  refine dp_s1 hF (i := .iload_n 3) rfl (fun _ => rfl) ?_
  refine dp_s1 hF (i := .aload_n 0) rfl (fun _ => rfl) ?_
  refine dp_s1 hF (i := .iload_n 3) rfl (fun _ => rfl) ?_
  refine dp_si (mj := dp_m_X12_heightOf) (i := .invokevirtual 547) rfl rfl (Or.inl rfl) rfl (fun _ => rfl) (fun r2 M1 => ?_)
  refine dp_s1 hF (i := .iconst 1) rfl (fun _ => rfl) ?_
  refine dp_s1 hF (i := .isub) rfl (fun _ => rfl) ?_
  refine dp_si (mj := dp_m_X12_boxAt) (i := .invokevirtual 550) rfl rfl (Or.inl rfl) rfl (fun _ => rfl) (fun r4 M3 => ?_)
  refine dp_s1 hF (i := .istore 4) rfl (fun _ => rfl) ?_
  refine dp_s1 hF (i := .iload 4) rfl (fun _ => rfl) ?_
  refine dp_s2 hF (i := .ifCond .ge 7) (a := (37, [some (.ref 114), some (.int v1), some (.int v2), some (.int v3), some (.int r4), none], [], M3)) (b := (33, [some (.ref 114), some (.int v1), some (.int v2), some (.int v3), some (.int r4), none], [], M3)) rfl (fun _ => rfl) ?_ ?_
  · refine dp_s1 hF (i := .aload_n 0) rfl (fun _ => rfl) ?_
    refine dp_s1 hF (i := .iload 4) rfl (fun _ => rfl) ?_
    refine dp_s1 hF (i := .iload_n 3) rfl (fun _ => rfl) ?_
    refine dp_s1 hF (i := .aload_n 0) rfl (fun _ => rfl) ?_
    refine dp_s1 hF (i := .getfield 94) rfl (fun _ => rfl) ?_
    refine dp_s1 hF (i := .iload 4) rfl (fun _ => rfl) ?_
    refine dp_s3 hF (i := .iaload) rfl (fun _ => rfl) ?_
    refine dp_si (mj := dp_m_X12_sooner) (i := .invokevirtual 559) rfl rfl (Or.inl rfl) rfl (fun _ => rfl) (fun r6 M5 => ?_)
    exact rfl
  refine dp_s1 hF (i := .iconst 0) rfl (fun _ => rfl) ?_
  refine dp_s1 hF (i := .goto 17) rfl (fun _ => rfl) ?_
  exact rfl
set_option maxRecDepth 20000 in
theorem D_X12_worst_51_eq (xs : Nat → Int32) (xl d : Nat) (v1 : Int32) (v2 : Int32) (v3 : Int32) (v4 : Int32) (vs0 : Int32) (M : dp_M) : D_X12_worst_51 xs xl d v1 v2 v3 v4 vs0 M = if vs0 ≤ v2 then (dp_w (v3 + (1 : Int32)) (fun y1 => D_X12_worst_6_a xs xl d v1 v2 y1 v4 vs0 M)) else (dp_bi (dp_den true xs xl d 414 [.ref 114, .int v4] M) (fun r3 M2 => if r3 < 0 then (dp_w (v3 + (1 : Int32)) (fun y4 => D_X12_worst_6_a xs xl d v1 v2 y4 v4 vs0 M2)) else (dp_w (v3 + (1 : Int32)) (fun y5 => D_X12_worst_6_a xs xl d v4 vs0 y5 v4 vs0 M2)))) := by
  have hF := dp_den_grow (md := true) (xs := xs) (xl := xl) d
  unfold D_X12_worst_51
  refine dp_s1 hF (i := .istore 5) rfl (fun _ => rfl) ?_
  refine dp_s1 hF (i := .iload 5) rfl (fun _ => rfl) ?_
  refine dp_s1 hF (i := .iload_n 2) rfl (fun _ => rfl) ?_
  refine dp_s2 hF (i := .if_icmp .le 18) (a := (74, [some (.ref 114), some (.int v1), some (.int v2), some (.int v3), some (.int v4), some (.int vs0)], [], M)) (b := (59, [some (.ref 114), some (.int v1), some (.int v2), some (.int v3), some (.int v4), some (.int vs0)], [], M)) rfl (fun _ => rfl) ?_ ?_
  · refine dp_s1w (v3 + (1 : Int32)) (fun (y1 : Int32) => (77, [some (.ref 114), some (.int v1), some (.int v2), some (.int y1), some (.int v4), some (.int vs0)], [], M)) hF (i := .iinc 3 1) rfl (fun _ => rfl) (fun y1 => ?_)
    refine dp_s1 hF (i := .goto (-71)) rfl (fun _ => rfl) ?_
    exact rfl
  refine dp_s1 hF (i := .aload_n 0) rfl (fun _ => rfl) ?_
  refine dp_s1 hF (i := .iload 4) rfl (fun _ => rfl) ?_
  refine dp_si (mj := dp_m_X12_asideRow) (i := .invokevirtual 587) rfl rfl (Or.inl rfl) rfl (fun _ => rfl) (fun r3 M2 => ?_)
  refine dp_s2 hF (i := .ifCond .lt 9) (a := (74, [some (.ref 114), some (.int v1), some (.int v2), some (.int v3), some (.int v4), some (.int vs0)], [], M2)) (b := (68, [some (.ref 114), some (.int v1), some (.int v2), some (.int v3), some (.int v4), some (.int vs0)], [], M2)) rfl (fun _ => rfl) ?_ ?_
  · refine dp_s1w (v3 + (1 : Int32)) (fun (y4 : Int32) => (77, [some (.ref 114), some (.int v1), some (.int v2), some (.int y4), some (.int v4), some (.int vs0)], [], M2)) hF (i := .iinc 3 1) rfl (fun _ => rfl) (fun y4 => ?_)
    refine dp_s1 hF (i := .goto (-71)) rfl (fun _ => rfl) ?_
    exact rfl
  refine dp_s1 hF (i := .iload 4) rfl (fun _ => rfl) ?_
  refine dp_s1 hF (i := .istore_n 1) rfl (fun _ => rfl) ?_
  refine dp_s1 hF (i := .iload 5) rfl (fun _ => rfl) ?_
  refine dp_s1 hF (i := .istore_n 2) rfl (fun _ => rfl) ?_
  refine dp_s1w (v3 + (1 : Int32)) (fun (y5 : Int32) => (77, [some (.ref 114), some (.int v4), some (.int vs0), some (.int y5), some (.int v4), some (.int vs0)], [], M2)) hF (i := .iinc 3 1) rfl (fun _ => rfl) (fun y5 => ?_)
  refine dp_s1 hF (i := .goto (-71)) rfl (fun _ => rfl) ?_
  exact rfl
set_option maxRecDepth 20000 in
theorem D_X12_worst_6_a_eq (xs : Nat → Int32) (xl d : Nat) (v1 : Int32) (v2 : Int32) (v3 : Int32) (v4 : Int32) (v5 : Int32) (M : dp_M) : D_X12_worst_6_a xs xl d v1 v2 v3 v4 v5 M = if (dp_I M 114 25) ≤ v3 then (some (.inl (some (.int v1)), M)) else (dp_bi (dp_den true xs xl d 396 [.ref 114, .int v3] M) (fun r2 M1 => dp_bi (dp_den true xs xl d 398 [.ref 114, .int v3, .int (r2 - (1 : Int32))] M1) (fun r4 M3 => if 0 ≤ r4 then (if r4 < 0 ∨ 100 ≤ Int32.toNatClampNeg r4 then none else (dp_bi (dp_den true xs xl d 401 [.ref 114, .int r4, .int v3, .int (dp_I M3 141 (Int32.toNatClampNeg r4))] M3) (fun r6 M5 => D_X12_worst_51_a xs xl d v1 v2 v3 r4 v5 r6 M5))) else (D_X12_worst_51_a xs xl d v1 v2 v3 r4 v5 (0 : Int32) M3)))) := by
  have hF := dp_den_grow (md := true) (xs := xs) (xl := xl) d
  unfold D_X12_worst_6_a
  refine dp_s1 hF (i := .iload_n 3) rfl (fun _ => rfl) ?_
  refine dp_s1 hF (i := .aload_n 0) rfl (fun _ => rfl) ?_
  refine dp_s1 hF (i := .getfield 426) rfl (fun _ => rfl) ?_
  refine dp_s2 hF (i := .if_icmp .ge 69) (a := (80, [some (.ref 114), some (.int v1), some (.int v2), some (.int v3), some (.int v4), some (.int v5)], [], M)) (b := (14, [some (.ref 114), some (.int v1), some (.int v2), some (.int v3), some (.int v4), some (.int v5)], [], M)) rfl (fun _ => rfl) ?_ ?_
  · refine dp_s1 hF (i := .iload_n 1) rfl (fun _ => rfl) ?_
    exact dp_s0 hF (i := .ireturn) rfl (fun _ => rfl)
  refine dp_s1 hF (i := .aload_n 0) rfl (fun _ => rfl) ?_
  refine dp_s1 hF (i := .iload_n 3) rfl (fun _ => rfl) ?_
  refine dp_s1 hF (i := .aload_n 0) rfl (fun _ => rfl) ?_
  refine dp_s1 hF (i := .iload_n 3) rfl (fun _ => rfl) ?_
  refine dp_si (mj := dp_m_X12_heightOf) (i := .invokevirtual 547) rfl rfl (Or.inl rfl) rfl (fun _ => rfl) (fun r2 M1 => ?_)
  refine dp_s1 hF (i := .iconst 1) rfl (fun _ => rfl) ?_
  refine dp_s1 hF (i := .isub) rfl (fun _ => rfl) ?_
  refine dp_si (mj := dp_m_X12_boxAt) (i := .invokevirtual 550) rfl rfl (Or.inl rfl) rfl (fun _ => rfl) (fun r4 M3 => ?_)
  refine dp_s1 hF (i := .istore 4) rfl (fun _ => rfl) ?_
  refine dp_s1 hF (i := .iload 4) rfl (fun _ => rfl) ?_
  refine dp_s2 hF (i := .ifCond .ge 7) (a := (37, [some (.ref 114), some (.int v1), some (.int v2), some (.int v3), some (.int r4), some (.int v5)], [], M3)) (b := (33, [some (.ref 114), some (.int v1), some (.int v2), some (.int v3), some (.int r4), some (.int v5)], [], M3)) rfl (fun _ => rfl) ?_ ?_
  · refine dp_s1 hF (i := .aload_n 0) rfl (fun _ => rfl) ?_
    refine dp_s1 hF (i := .iload 4) rfl (fun _ => rfl) ?_
    refine dp_s1 hF (i := .iload_n 3) rfl (fun _ => rfl) ?_
    refine dp_s1 hF (i := .aload_n 0) rfl (fun _ => rfl) ?_
    refine dp_s1 hF (i := .getfield 94) rfl (fun _ => rfl) ?_
    refine dp_s1 hF (i := .iload 4) rfl (fun _ => rfl) ?_
    refine dp_s3 hF (i := .iaload) rfl (fun _ => rfl) ?_
    refine dp_si (mj := dp_m_X12_sooner) (i := .invokevirtual 559) rfl rfl (Or.inl rfl) rfl (fun _ => rfl) (fun r6 M5 => ?_)
    exact rfl
  refine dp_s1 hF (i := .iconst 0) rfl (fun _ => rfl) ?_
  refine dp_s1 hF (i := .goto 17) rfl (fun _ => rfl) ?_
  exact rfl
set_option maxRecDepth 20000 in
theorem D_X12_worst_51_a_eq (xs : Nat → Int32) (xl d : Nat) (v1 : Int32) (v2 : Int32) (v3 : Int32) (v4 : Int32) (v5 : Int32) (vs0 : Int32) (M : dp_M) : D_X12_worst_51_a xs xl d v1 v2 v3 v4 v5 vs0 M = if vs0 ≤ v2 then (dp_w (v3 + (1 : Int32)) (fun y1 => D_X12_worst_6_a xs xl d v1 v2 y1 v4 vs0 M)) else (dp_bi (dp_den true xs xl d 414 [.ref 114, .int v4] M) (fun r3 M2 => if r3 < 0 then (dp_w (v3 + (1 : Int32)) (fun y4 => D_X12_worst_6_a xs xl d v1 v2 y4 v4 vs0 M2)) else (dp_w (v3 + (1 : Int32)) (fun y5 => D_X12_worst_6_a xs xl d v4 vs0 y5 v4 vs0 M2)))) := by
  have hF := dp_den_grow (md := true) (xs := xs) (xl := xl) d
  unfold D_X12_worst_51_a
  refine dp_s1 hF (i := .istore 5) rfl (fun _ => rfl) ?_
  refine dp_s1 hF (i := .iload 5) rfl (fun _ => rfl) ?_
  refine dp_s1 hF (i := .iload_n 2) rfl (fun _ => rfl) ?_
  refine dp_s2 hF (i := .if_icmp .le 18) (a := (74, [some (.ref 114), some (.int v1), some (.int v2), some (.int v3), some (.int v4), some (.int vs0)], [], M)) (b := (59, [some (.ref 114), some (.int v1), some (.int v2), some (.int v3), some (.int v4), some (.int vs0)], [], M)) rfl (fun _ => rfl) ?_ ?_
  · refine dp_s1w (v3 + (1 : Int32)) (fun (y1 : Int32) => (77, [some (.ref 114), some (.int v1), some (.int v2), some (.int y1), some (.int v4), some (.int vs0)], [], M)) hF (i := .iinc 3 1) rfl (fun _ => rfl) (fun y1 => ?_)
    refine dp_s1 hF (i := .goto (-71)) rfl (fun _ => rfl) ?_
    exact rfl
  refine dp_s1 hF (i := .aload_n 0) rfl (fun _ => rfl) ?_
  refine dp_s1 hF (i := .iload 4) rfl (fun _ => rfl) ?_
  refine dp_si (mj := dp_m_X12_asideRow) (i := .invokevirtual 587) rfl rfl (Or.inl rfl) rfl (fun _ => rfl) (fun r3 M2 => ?_)
  refine dp_s2 hF (i := .ifCond .lt 9) (a := (74, [some (.ref 114), some (.int v1), some (.int v2), some (.int v3), some (.int v4), some (.int vs0)], [], M2)) (b := (68, [some (.ref 114), some (.int v1), some (.int v2), some (.int v3), some (.int v4), some (.int vs0)], [], M2)) rfl (fun _ => rfl) ?_ ?_
  · refine dp_s1w (v3 + (1 : Int32)) (fun (y4 : Int32) => (77, [some (.ref 114), some (.int v1), some (.int v2), some (.int y4), some (.int v4), some (.int vs0)], [], M2)) hF (i := .iinc 3 1) rfl (fun _ => rfl) (fun y4 => ?_)
    refine dp_s1 hF (i := .goto (-71)) rfl (fun _ => rfl) ?_
    exact rfl
  refine dp_s1 hF (i := .iload 4) rfl (fun _ => rfl) ?_
  refine dp_s1 hF (i := .istore_n 1) rfl (fun _ => rfl) ?_
  refine dp_s1 hF (i := .iload 5) rfl (fun _ => rfl) ?_
  refine dp_s1 hF (i := .istore_n 2) rfl (fun _ => rfl) ?_
  refine dp_s1w (v3 + (1 : Int32)) (fun (y5 : Int32) => (77, [some (.ref 114), some (.int v4), some (.int vs0), some (.int y5), some (.int v4), some (.int vs0)], [], M2)) hF (i := .iinc 3 1) rfl (fun _ => rfl) (fun y5 => ?_)
  refine dp_s1 hF (i := .goto (-71)) rfl (fun _ => rfl) ?_
  exact rfl
noncomputable def D_X12_night_0 (xs : Nat → Int32) (xl d : Nat) (v1 : Int32) (M : dp_M) : Option dp_Res := dp_lim true xs xl (dp_den true xs xl d) dp_m_X12_night (0, [some (.ref 114), some (.int v1), none, none], [], M)
noncomputable def D_X12_night_30 (xs : Nat → Int32) (xl d : Nat) (v1 : Int32) (v2 : Int32) (v3 : Int32) (M : dp_M) : Option dp_Res := dp_lim true xs xl (dp_den true xs xl d) dp_m_X12_night (30, [some (.ref 114), some (.int v1), some (.int v2), some (.int v3)], [], M)
theorem D_X12_night_0_den (xs : Nat → Int32) (xl d : Nat) (a0 : Int32) (M : dp_M) : dp_den true xs xl (d + 1) 416 [.ref 114, .int a0] M = D_X12_night_0 xs xl d a0 M := rfl
set_option maxRecDepth 20000 in
theorem D_X12_night_0_eq (xs : Nat → Int32) (xl d : Nat) (v1 : Int32) (M : dp_M) : D_X12_night_0 xs xl d v1 M = dp_bi (dp_den true xs xl d 367 [.long (Int32.toInt64 v1), .long (0 : Int64), .long (50 : Int64)] M) (fun r2 M1 => if r2 = 0 then (dp_bi (dp_den true xs xl d 366 [.ref 114, .int (1 : Int32)] M1) (fun r4 M3 => some (.inl (some (.int r4)), M3))) else (dp_w (dp_setI M1 114 0 (0 : Int32)) (fun M5 => dp_w (0 : Int32) (fun y6 => dp_bi (dp_den true xs xl d 415 [.ref 114] M5) (fun r8 M7 => D_X12_night_30 xs xl d v1 y6 r8 M7))))) := by
  have hF := dp_den_grow (md := true) (xs := xs) (xl := xl) d
  unfold D_X12_night_0
  refine dp_s1 hF (i := .iload_n 1) rfl (fun _ => rfl) ?_
  refine dp_s1 hF (i := .i2l) rfl (fun _ => rfl) ?_
  refine dp_s1 hF (i := .lconst 0) rfl (fun _ => rfl) ?_
  refine dp_s1 hF (i := .ldc2_w 590) rfl (fun _ => rfl) ?_
  refine dp_si (mj := dp_m_X12_in) (i := .invokestatic 446) rfl rfl (Or.inr rfl) rfl (fun _ => rfl) (fun r2 M1 => ?_)
  refine dp_s2 hF (i := .ifCond .ne 9) (a := (12, [some (.ref 114), some (.int v1), none, none], [], M1)) (b := (18, [some (.ref 114), some (.int v1), none, none], [], M1)) rfl (fun _ => rfl) ?_ ?_
  · refine dp_s1 hF (i := .aload_n 0) rfl (fun _ => rfl) ?_
    refine dp_s1 hF (i := .iconst 1) rfl (fun _ => rfl) ?_
    refine dp_si (mj := dp_m_X12_refuse) (i := .invokevirtual 460) rfl rfl (Or.inl rfl) rfl (fun _ => rfl) (fun r4 M3 => ?_)
    exact dp_s0 hF (i := .ireturn) rfl (fun _ => rfl)
  refine dp_s1 hF (i := .aload_n 0) rfl (fun _ => rfl) ?_
  refine dp_s1 hF (i := .iconst 0) rfl (fun _ => rfl) ?_
  refine dp_s1w (dp_setI M1 114 0 (0 : Int32)) (fun (M5 : dp_M) => (23, [some (.ref 114), some (.int v1), none, none], [], M5)) hF (i := .putfield 1) rfl (fun _ => rfl) (fun M5 => ?_)
  refine dp_s1 hF (i := .iconst 0) rfl (fun _ => rfl) ?_
  refine dp_s1w (0 : Int32) (fun (y6 : Int32) => (25, [some (.ref 114), some (.int v1), some (.int y6), none], [], M5)) hF (i := .istore_n 2) rfl (fun _ => rfl) (fun y6 => ?_)
  refine dp_s1 hF (i := .aload_n 0) rfl (fun _ => rfl) ?_
  refine dp_si (mj := dp_m_X12_worst) (i := .invokevirtual 592) rfl rfl (Or.inl rfl) rfl (fun _ => rfl) (fun r8 M7 => ?_)
  refine dp_s1 hF (i := .istore_n 3) rfl (fun _ => rfl) ?_
  exact rfl
set_option maxRecDepth 20000 in
theorem D_X12_night_30_eq (xs : Nat → Int32) (xl d : Nat) (v1 : Int32) (v2 : Int32) (v3 : Int32) (M : dp_M) : D_X12_night_30 xs xl d v1 v2 v3 M = if v1 ≤ v2 then (some (.inl (some (.int v2)), M)) else (if v3 < 0 then (some (.inl (some (.int v2)), M)) else (dp_bi (dp_den true xs xl d 414 [.ref 114, .int v3] M) (fun r2 M1 => dp_bv (dp_den true xs xl d 409 [.ref 114, .int v3, .int r2] M1) (fun M3 => dp_w (v2 + (1 : Int32)) (fun y4 => dp_bi (dp_den true xs xl d 415 [.ref 114] M3) (fun r6 M5 => D_X12_night_30 xs xl d v1 y4 r6 M5)))))) := by
  have hF := dp_den_grow (md := true) (xs := xs) (xl := xl) d
  unfold D_X12_night_30
  refine dp_s1 hF (i := .iload_n 2) rfl (fun _ => rfl) ?_
  refine dp_s1 hF (i := .iload_n 1) rfl (fun _ => rfl) ?_
  refine dp_s2 hF (i := .if_icmp .ge 28) (a := (60, [some (.ref 114), some (.int v1), some (.int v2), some (.int v3)], [], M)) (b := (35, [some (.ref 114), some (.int v1), some (.int v2), some (.int v3)], [], M)) rfl (fun _ => rfl) ?_ ?_
  · refine dp_s1 hF (i := .iload_n 2) rfl (fun _ => rfl) ?_
    exact dp_s0 hF (i := .ireturn) rfl (fun _ => rfl)
  refine dp_s1 hF (i := .iload_n 3) rfl (fun _ => rfl) ?_
  refine dp_s2 hF (i := .ifCond .lt 24) (a := (60, [some (.ref 114), some (.int v1), some (.int v2), some (.int v3)], [], M)) (b := (39, [some (.ref 114), some (.int v1), some (.int v2), some (.int v3)], [], M)) rfl (fun _ => rfl) ?_ ?_
  · refine dp_s1 hF (i := .iload_n 2) rfl (fun _ => rfl) ?_
    exact dp_s0 hF (i := .ireturn) rfl (fun _ => rfl)
  refine dp_s1 hF (i := .aload_n 0) rfl (fun _ => rfl) ?_
  refine dp_s1 hF (i := .iload_n 3) rfl (fun _ => rfl) ?_
  refine dp_s1 hF (i := .aload_n 0) rfl (fun _ => rfl) ?_
  refine dp_s1 hF (i := .iload_n 3) rfl (fun _ => rfl) ?_
  refine dp_si (mj := dp_m_X12_asideRow) (i := .invokevirtual 587) rfl rfl (Or.inl rfl) rfl (fun _ => rfl) (fun r2 M1 => ?_)
  refine dp_sv (mj := dp_m_X12_goesTo) (i := .invokevirtual 534) rfl rfl rfl rfl (fun _ => rfl) (fun M3 => ?_)
  refine dp_s1w (v2 + (1 : Int32)) (fun (y4 : Int32) => (52, [some (.ref 114), some (.int v1), some (.int y4), some (.int v3)], [], M3)) hF (i := .iinc 2 1) rfl (fun _ => rfl) (fun y4 => ?_)
  refine dp_s1 hF (i := .aload_n 0) rfl (fun _ => rfl) ?_
  refine dp_si (mj := dp_m_X12_worst) (i := .invokevirtual 592) rfl rfl (Or.inl rfl) rfl (fun _ => rfl) (fun r6 M5 => ?_)
  refine dp_s1 hF (i := .istore_n 3) rfl (fun _ => rfl) ?_
  refine dp_s1 hF (i := .goto (-27)) rfl (fun _ => rfl) ?_
  exact rfl
noncomputable def D_X12_undo_0 (xs : Nat → Int32) (xl d : Nat)  (M : dp_M) : Option dp_Res := dp_lim true xs xl (dp_den true xs xl d) dp_m_X12_undo (0, [some (.ref 114), none], [], M)
noncomputable def D_X12_undo_27 (xs : Nat → Int32) (xl d : Nat) (vs0 : Int32) (M : dp_M) : Option dp_Res := dp_lim true xs xl (dp_den true xs xl d) dp_m_X12_undo (27, [some (.ref 114), none], [.int vs0], M)
theorem D_X12_undo_0_den (xs : Nat → Int32) (xl d : Nat)  (M : dp_M) : dp_den true xs xl (d + 1) 417 [.ref 114] M = D_X12_undo_0 xs xl d  M := rfl
set_option maxRecDepth 20000 in
theorem D_X12_undo_0_eq (xs : Nat → Int32) (xl d : Nat)  (M : dp_M) : D_X12_undo_0 xs xl d  M = dp_w (dp_setI M 114 0 (0 : Int32)) (fun M1 => if (dp_I M1 114 38) = 0 then (D_X12_undo_27 xs xl d (-1 : Int32) M1) else (if ((dp_I M1 114 38) - (1 : Int32)) < 0 ∨ 100 ≤ Int32.toNatClampNeg ((dp_I M1 114 38) - (1 : Int32)) then none else (D_X12_undo_27 xs xl d (dp_I M1 142 (Int32.toNatClampNeg ((dp_I M1 114 38) - (1 : Int32)))) M1))) := by
  have hF := dp_den_grow (md := true) (xs := xs) (xl := xl) d
  unfold D_X12_undo_0
  refine dp_s1 hF (i := .aload_n 0) rfl (fun _ => rfl) ?_
  refine dp_s1 hF (i := .iconst 0) rfl (fun _ => rfl) ?_
  refine dp_s1w (dp_setI M 114 0 (0 : Int32)) (fun (M1 : dp_M) => (5, [some (.ref 114), none], [], M1)) hF (i := .putfield 1) rfl (fun _ => rfl) (fun M1 => ?_)
  refine dp_s1 hF (i := .aload_n 0) rfl (fun _ => rfl) ?_
  refine dp_s1 hF (i := .getfield 572) rfl (fun _ => rfl) ?_
  refine dp_s2 hF (i := .ifCond .ne 7) (a := (12, [some (.ref 114), none], [], M1)) (b := (16, [some (.ref 114), none], [], M1)) rfl (fun _ => rfl) ?_ ?_
  · refine dp_s1 hF (i := .iconst (-1)) rfl (fun _ => rfl) ?_
    refine dp_s1 hF (i := .goto 14) rfl (fun _ => rfl) ?_
    exact rfl
  refine dp_s1 hF (i := .aload_n 0) rfl (fun _ => rfl) ?_
  refine dp_s1 hF (i := .getfield 97) rfl (fun _ => rfl) ?_
  refine dp_s1 hF (i := .aload_n 0) rfl (fun _ => rfl) ?_
  refine dp_s1 hF (i := .getfield 572) rfl (fun _ => rfl) ?_
  refine dp_s1 hF (i := .iconst 1) rfl (fun _ => rfl) ?_
  refine dp_s1 hF (i := .isub) rfl (fun _ => rfl) ?_
  refine dp_s3 hF (i := .iaload) rfl (fun _ => rfl) ?_
  exact rfl
set_option maxRecDepth 20000 in
theorem D_X12_undo_27_eq (xs : Nat → Int32) (xl d : Nat) (vs0 : Int32) (M : dp_M) : D_X12_undo_27 xs xl d vs0 M = if vs0 < 0 then (some (.inl (some (.int (-1 : Int32))), M)) else (if vs0 < 0 ∨ 100 ≤ Int32.toNatClampNeg vs0 then none else (if (dp_I M 144 (Int32.toNatClampNeg vs0)) = 0 then (dp_w (dp_setI M 114 38 ((dp_I M 114 38) - (1 : Int32))) (fun M1 => dp_w (dp_setI M1 114 37 ((dp_I M1 114 37) - (1 : Int32))) (fun M2 => if vs0 < 0 ∨ 100 ≤ Int32.toNatClampNeg vs0 then none else dp_w (dp_setI M2 140 (Int32.toNatClampNeg vs0) (-1 : Int32)) (fun M3 => if (dp_I M3 114 38) < 0 ∨ 100 ≤ Int32.toNatClampNeg (dp_I M3 114 38) then none else (dp_bv (dp_den true xs xl d 408 [.ref 114, .int vs0, .int (dp_I M3 143 (Int32.toNatClampNeg (dp_I M3 114 38)))] M3) (fun M4 => some (.inl (some (.int vs0)), M4))))))) else (some (.inl (some (.int (-1 : Int32))), M)))) := by
  have hF := dp_den_grow (md := true) (xs := xs) (xl := xl) d
  unfold D_X12_undo_27
  refine dp_s1 hF (i := .istore_n 1) rfl (fun _ => rfl) ?_
  refine dp_s1 hF (i := .iload_n 1) rfl (fun _ => rfl) ?_
  refine dp_s2 hF (i := .ifCond .lt 12) (a := (41, [some (.ref 114), some (.int vs0)], [], M)) (b := (32, [some (.ref 114), some (.int vs0)], [], M)) rfl (fun _ => rfl) ?_ ?_
  · refine dp_s1 hF (i := .iconst (-1)) rfl (fun _ => rfl) ?_
    exact dp_s0 hF (i := .ireturn) rfl (fun _ => rfl)
  refine dp_s1 hF (i := .aload_n 0) rfl (fun _ => rfl) ?_
  refine dp_s1 hF (i := .getfield 103) rfl (fun _ => rfl) ?_
  refine dp_s1 hF (i := .iload_n 1) rfl (fun _ => rfl) ?_
  refine dp_s3 hF (i := .iaload) rfl (fun _ => rfl) ?_
  refine dp_s2 hF (i := .ifCond .eq 5) (a := (43, [some (.ref 114), some (.int vs0)], [], M)) (b := (41, [some (.ref 114), some (.int vs0)], [], M)) rfl (fun _ => rfl) ?_ ?_
  · refine dp_s1 hF (i := .aload_n 0) rfl (fun _ => rfl) ?_
    refine dp_s1 hF (i := .dup) rfl (fun _ => rfl) ?_
    refine dp_s1 hF (i := .getfield 572) rfl (fun _ => rfl) ?_
    refine dp_s1 hF (i := .iconst 1) rfl (fun _ => rfl) ?_
    refine dp_s1 hF (i := .isub) rfl (fun _ => rfl) ?_
    refine dp_s1w (dp_setI M 114 38 ((dp_I M 114 38) - (1 : Int32))) (fun (M1 : dp_M) => (53, [some (.ref 114), some (.int vs0)], [], M1)) hF (i := .putfield 572) rfl (fun _ => rfl) (fun M1 => ?_)
    refine dp_s1 hF (i := .aload_n 0) rfl (fun _ => rfl) ?_
    refine dp_s1 hF (i := .dup) rfl (fun _ => rfl) ?_
    refine dp_s1 hF (i := .getfield 575) rfl (fun _ => rfl) ?_
    refine dp_s1 hF (i := .iconst 1) rfl (fun _ => rfl) ?_
    refine dp_s1 hF (i := .isub) rfl (fun _ => rfl) ?_
    refine dp_s1w (dp_setI M1 114 37 ((dp_I M1 114 37) - (1 : Int32))) (fun (M2 : dp_M) => (63, [some (.ref 114), some (.int vs0)], [], M2)) hF (i := .putfield 575) rfl (fun _ => rfl) (fun M2 => ?_)
    refine dp_s1 hF (i := .aload_n 0) rfl (fun _ => rfl) ?_
    refine dp_s1 hF (i := .getfield 91) rfl (fun _ => rfl) ?_
    refine dp_s1 hF (i := .iload_n 1) rfl (fun _ => rfl) ?_
    refine dp_s1 hF (i := .iconst (-1)) rfl (fun _ => rfl) ?_
    refine dp_s3w (dp_setI M2 140 (Int32.toNatClampNeg vs0) (-1 : Int32)) (fun (M3 : dp_M) => (70, [some (.ref 114), some (.int vs0)], [], M3)) hF (i := .iastore) rfl (fun _ => rfl) (fun M3 => ?_)
    refine dp_s1 hF (i := .aload_n 0) rfl (fun _ => rfl) ?_
    refine dp_s1 hF (i := .iload_n 1) rfl (fun _ => rfl) ?_
    refine dp_s1 hF (i := .aload_n 0) rfl (fun _ => rfl) ?_
    refine dp_s1 hF (i := .getfield 100) rfl (fun _ => rfl) ?_
    refine dp_s1 hF (i := .aload_n 0) rfl (fun _ => rfl) ?_
    refine dp_s1 hF (i := .getfield 572) rfl (fun _ => rfl) ?_
    refine dp_s3 hF (i := .iaload) rfl (fun _ => rfl) ?_
    refine dp_sv (mj := dp_m_X12_stands) (i := .invokevirtual 578) rfl rfl rfl rfl (fun _ => rfl) (fun M4 => ?_)
    refine dp_s1 hF (i := .iload_n 1) rfl (fun _ => rfl) ?_
    exact dp_s0 hF (i := .ireturn) rfl (fun _ => rfl)
  refine dp_s1 hF (i := .iconst (-1)) rfl (fun _ => rfl) ?_
  exact dp_s0 hF (i := .ireturn) rfl (fun _ => rfl)
noncomputable def D_X12_isInTheWay_0 (xs : Nat → Int32) (xl d : Nat) (v1 : Int32) (M : dp_M) : Option dp_Res := dp_lim true xs xl (dp_den true xs xl d) dp_m_X12_isInTheWay (0, [some (.ref 114), some (.int v1)], [], M)
theorem D_X12_isInTheWay_0_den (xs : Nat → Int32) (xl d : Nat) (a0 : Int32) (M : dp_M) : dp_den true xs xl (d + 1) 418 [.ref 114, .int a0] M = D_X12_isInTheWay_0 xs xl d a0 M := rfl
set_option maxRecDepth 20000 in
theorem D_X12_isInTheWay_0_eq (xs : Nat → Int32) (xl d : Nat) (v1 : Int32) (M : dp_M) : D_X12_isInTheWay_0 xs xl d v1 M = if v1 < 0 ∨ 100 ≤ Int32.toNatClampNeg v1 then none else (if (dp_I M 140 (Int32.toNatClampNeg v1)) < 0 then (some (.inl (some (.int (0 : Int32))), M)) else (if v1 < 0 ∨ 100 ≤ Int32.toNatClampNeg v1 then none else (if v1 < 0 ∨ 100 ≤ Int32.toNatClampNeg v1 then none else (dp_bi (dp_den true xs xl d 401 [.ref 114, .int v1, .int (dp_I M 140 (Int32.toNatClampNeg v1)), .int (dp_I M 141 (Int32.toNatClampNeg v1))] M) (fun r2 M1 => if r2 ≤ 0 then (some (.inl (some (.int (0 : Int32))), M1)) else (some (.inl (some (.int (1 : Int32))), M1))))))) := by
  have hF := dp_den_grow (md := true) (xs := xs) (xl := xl) d
  unfold D_X12_isInTheWay_0
  refine dp_s1 hF (i := .aload_n 0) rfl (fun _ => rfl) ?_
  refine dp_s1 hF (i := .getfield 91) rfl (fun _ => rfl) ?_
  refine dp_s1 hF (i := .iload_n 1) rfl (fun _ => rfl) ?_
  refine dp_s3 hF (i := .iaload) rfl (fun _ => rfl) ?_
  refine dp_s2 hF (i := .ifCond .lt 27) (a := (33, [some (.ref 114), some (.int v1)], [], M)) (b := (9, [some (.ref 114), some (.int v1)], [], M)) rfl (fun _ => rfl) ?_ ?_
  · refine dp_s1 hF (i := .iconst 0) rfl (fun _ => rfl) ?_
    exact dp_s0 hF (i := .ireturn) rfl (fun _ => rfl)
  refine dp_s1 hF (i := .aload_n 0) rfl (fun _ => rfl) ?_
  refine dp_s1 hF (i := .iload_n 1) rfl (fun _ => rfl) ?_
  refine dp_s1 hF (i := .aload_n 0) rfl (fun _ => rfl) ?_
  refine dp_s1 hF (i := .getfield 91) rfl (fun _ => rfl) ?_
  refine dp_s1 hF (i := .iload_n 1) rfl (fun _ => rfl) ?_
  refine dp_s3 hF (i := .iaload) rfl (fun _ => rfl) ?_
  refine dp_s1 hF (i := .aload_n 0) rfl (fun _ => rfl) ?_
  refine dp_s1 hF (i := .getfield 94) rfl (fun _ => rfl) ?_
  refine dp_s1 hF (i := .iload_n 1) rfl (fun _ => rfl) ?_
  refine dp_s3 hF (i := .iaload) rfl (fun _ => rfl) ?_
  refine dp_si (mj := dp_m_X12_sooner) (i := .invokevirtual 559) rfl rfl (Or.inl rfl) rfl (fun _ => rfl) (fun r2 M1 => ?_)
  refine dp_s2 hF (i := .ifCond .le 7) (a := (33, [some (.ref 114), some (.int v1)], [], M1)) (b := (29, [some (.ref 114), some (.int v1)], [], M1)) rfl (fun _ => rfl) ?_ ?_
  · refine dp_s1 hF (i := .iconst 0) rfl (fun _ => rfl) ?_
    exact dp_s0 hF (i := .ireturn) rfl (fun _ => rfl)
  refine dp_s1 hF (i := .iconst 1) rfl (fun _ => rfl) ?_
  refine dp_s1 hF (i := .goto 4) rfl (fun _ => rfl) ?_
  exact dp_s0 hF (i := .ireturn) rfl (fun _ => rfl)
noncomputable def D_X12_where_0 (xs : Nat → Int32) (xl d : Nat) (v1 : Int32) (v2 : Int32) (M : dp_M) : Option dp_Res := dp_lim true xs xl (dp_den true xs xl d) dp_m_X12_where (0, [some (.ref 114), some (.int v1), some (.int v2)], [], M)
theorem D_X12_where_0_den (xs : Nat → Int32) (xl d : Nat) (a0 : Int32) (a1 : Int32) (M : dp_M) : dp_den true xs xl (d + 1) 419 [.ref 114, .int a0, .int a1] M = D_X12_where_0 xs xl d a0 a1 M := rfl
set_option maxRecDepth 20000 in
theorem D_X12_where_0_eq (xs : Nat → Int32) (xl d : Nat) (v1 : Int32) (v2 : Int32) (M : dp_M) : D_X12_where_0 xs xl d v1 v2 M = dp_bi (dp_den true xs xl d 371 [.ref 114, .int v1] M) (fun r2 M1 => if r2 = 0 then (dp_bi (dp_den true xs xl d 366 [.ref 114, .int (1 : Int32)] M1) (fun r4 M3 => some (.inl (some (.int r4)), M3))) else (dp_bi (dp_den true xs xl d 367 [.long (Int32.toInt64 v2), .long (0 : Int64), .long (8 : Int64)] M1) (fun r6 M5 => if r6 = 0 then (dp_bi (dp_den true xs xl d 366 [.ref 114, .int (1 : Int32)] M5) (fun r8 M7 => some (.inl (some (.int r8)), M7))) else (dp_w (dp_setI M5 114 0 (0 : Int32)) (fun M9 => if v2 = (0 : Int32) then (if v1 < 0 ∨ 100 ≤ Int32.toNatClampNeg v1 then none else (some (.inl (some (.int (dp_I M9 140 (Int32.toNatClampNeg v1)))), M9))) else if v2 = (1 : Int32) then (if v1 < 0 ∨ 100 ≤ Int32.toNatClampNeg v1 then none else (some (.inl (some (.int (dp_I M9 141 (Int32.toNatClampNeg v1)))), M9))) else if v2 = (2 : Int32) then (if v1 < 0 ∨ 100 ≤ Int32.toNatClampNeg v1 then none else (if (dp_I M9 140 (Int32.toNatClampNeg v1)) < 0 then (some (.inl (some (.int (0 : Int32))), M9)) else (if v1 < 0 ∨ 100 ≤ Int32.toNatClampNeg v1 then none else (dp_bi (dp_den true xs xl d 396 [.ref 114, .int (dp_I M9 140 (Int32.toNatClampNeg v1))] M9) (fun r11 M10 => if v1 < 0 ∨ 100 ≤ Int32.toNatClampNeg v1 then none else (some (.inl (some (.int ((r11 - (1 : Int32)) - (dp_I M10 141 (Int32.toNatClampNeg v1))))), M10))))))) else if v2 = (3 : Int32) then (dp_bi (dp_den true xs xl d 418 [.ref 114, .int v1] M9) (fun r13 M12 => if r13 = 0 then (some (.inl (some (.int (0 : Int32))), M12)) else (some (.inl (some (.int (1 : Int32))), M12)))) else if v2 = (4 : Int32) then (if v1 < 0 ∨ 100 ≤ Int32.toNatClampNeg v1 then none else (some (.inl (some (.int (dp_I M9 135 (Int32.toNatClampNeg v1)))), M9))) else if v2 = (5 : Int32) then (if v1 < 0 ∨ 100 ≤ Int32.toNatClampNeg v1 then none else (some (.inl (some (.int (dp_I M9 137 (Int32.toNatClampNeg v1)))), M9))) else if v2 = (6 : Int32) then (if v1 < 0 ∨ 100 ≤ Int32.toNatClampNeg v1 then none else (some (.inl (some (.int (dp_I M9 138 (Int32.toNatClampNeg v1)))), M9))) else if v2 = (7 : Int32) then (if v1 < 0 ∨ 100 ≤ Int32.toNatClampNeg v1 then none else (some (.inl (some (.int (dp_I M9 139 (Int32.toNatClampNeg v1)))), M9))) else (if v1 < 0 ∨ 100 ≤ Int32.toNatClampNeg v1 then none else (some (.inl (some (.int (dp_I M9 136 (Int32.toNatClampNeg v1)))), M9)))))))) := by
  have hF := dp_den_grow (md := true) (xs := xs) (xl := xl) d
  unfold D_X12_where_0
  refine dp_s1 hF (i := .aload_n 0) rfl (fun _ => rfl) ?_
  refine dp_s1 hF (i := .iload_n 1) rfl (fun _ => rfl) ?_
  refine dp_si (mj := dp_m_X12_isBox) (i := .invokevirtual 470) rfl rfl (Or.inr rfl) rfl (fun _ => rfl) (fun r2 M1 => ?_)
  refine dp_s2 hF (i := .ifCond .eq 15) (a := (20, [some (.ref 114), some (.int v1), some (.int v2)], [], M1)) (b := (8, [some (.ref 114), some (.int v1), some (.int v2)], [], M1)) rfl (fun _ => rfl) ?_ ?_
  · refine dp_s1 hF (i := .aload_n 0) rfl (fun _ => rfl) ?_
    refine dp_s1 hF (i := .iconst 1) rfl (fun _ => rfl) ?_
    refine dp_si (mj := dp_m_X12_refuse) (i := .invokevirtual 460) rfl rfl (Or.inl rfl) rfl (fun _ => rfl) (fun r4 M3 => ?_)
    exact dp_s0 hF (i := .ireturn) rfl (fun _ => rfl)
  refine dp_s1 hF (i := .iload_n 2) rfl (fun _ => rfl) ?_
  refine dp_s1 hF (i := .i2l) rfl (fun _ => rfl) ?_
  refine dp_s1 hF (i := .lconst 0) rfl (fun _ => rfl) ?_
  refine dp_s1 hF (i := .ldc2_w 452) rfl (fun _ => rfl) ?_
  refine dp_si (mj := dp_m_X12_in) (i := .invokestatic 446) rfl rfl (Or.inr rfl) rfl (fun _ => rfl) (fun r6 M5 => ?_)
  refine dp_s2 hF (i := .ifCond .ne 9) (a := (20, [some (.ref 114), some (.int v1), some (.int v2)], [], M5)) (b := (26, [some (.ref 114), some (.int v1), some (.int v2)], [], M5)) rfl (fun _ => rfl) ?_ ?_
  · refine dp_s1 hF (i := .aload_n 0) rfl (fun _ => rfl) ?_
    refine dp_s1 hF (i := .iconst 1) rfl (fun _ => rfl) ?_
    refine dp_si (mj := dp_m_X12_refuse) (i := .invokevirtual 460) rfl rfl (Or.inl rfl) rfl (fun _ => rfl) (fun r8 M7 => ?_)
    exact dp_s0 hF (i := .ireturn) rfl (fun _ => rfl)
  refine dp_s1 hF (i := .aload_n 0) rfl (fun _ => rfl) ?_
  refine dp_s1 hF (i := .iconst 0) rfl (fun _ => rfl) ?_
  refine dp_s1w (dp_setI M5 114 0 (0 : Int32)) (fun (M9 : dp_M) => (31, [some (.ref 114), some (.int v1), some (.int v2)], [], M9)) hF (i := .putfield 1) rfl (fun _ => rfl) (fun M9 => ?_)
  refine dp_s1 hF (i := .iload_n 2) rfl (fun _ => rfl) ?_
  refine (dp_s (E := fun k => if v2 = (0 : Int32) then k (80, [some (.ref 114), some (.int v1), some (.int v2)], [], M9) else if v2 = (1 : Int32) then k (87, [some (.ref 114), some (.int v1), some (.int v2)], [], M9) else if v2 = (2 : Int32) then k (94, [some (.ref 114), some (.int v1), some (.int v2)], [], M9) else if v2 = (3 : Int32) then k (127, [some (.ref 114), some (.int v1), some (.int v2)], [], M9) else if v2 = (4 : Int32) then k (141, [some (.ref 114), some (.int v1), some (.int v2)], [], M9) else if v2 = (5 : Int32) then k (148, [some (.ref 114), some (.int v1), some (.int v2)], [], M9) else if v2 = (6 : Int32) then k (155, [some (.ref 114), some (.int v1), some (.int v2)], [], M9) else if v2 = (7 : Int32) then k (162, [some (.ref 114), some (.int v1), some (.int v2)], [], M9) else k (169, [some (.ref 114), some (.int v1), some (.int v2)], [], M9)) hF (i := .tableswitch 137 0 7 #[48, 55, 62, 95, 109, 116, 123, 130]) rfl (fun _ => rfl)).trans ?_
  refine dp_ifc ?_ ?_
  · refine dp_s1 hF (i := .aload_n 0) rfl (fun _ => rfl) ?_
    refine dp_s1 hF (i := .getfield 91) rfl (fun _ => rfl) ?_
    refine dp_s1 hF (i := .iload_n 1) rfl (fun _ => rfl) ?_
    refine dp_s3 hF (i := .iaload) rfl (fun _ => rfl) ?_
    exact dp_s0 hF (i := .ireturn) rfl (fun _ => rfl)
  refine dp_ifc ?_ ?_
  · refine dp_s1 hF (i := .aload_n 0) rfl (fun _ => rfl) ?_
    refine dp_s1 hF (i := .getfield 94) rfl (fun _ => rfl) ?_
    refine dp_s1 hF (i := .iload_n 1) rfl (fun _ => rfl) ?_
    refine dp_s3 hF (i := .iaload) rfl (fun _ => rfl) ?_
    exact dp_s0 hF (i := .ireturn) rfl (fun _ => rfl)
  refine dp_ifc ?_ ?_
  · refine dp_s1 hF (i := .aload_n 0) rfl (fun _ => rfl) ?_
    refine dp_s1 hF (i := .getfield 91) rfl (fun _ => rfl) ?_
    refine dp_s1 hF (i := .iload_n 1) rfl (fun _ => rfl) ?_
    refine dp_s3 hF (i := .iaload) rfl (fun _ => rfl) ?_
    refine dp_s2 hF (i := .ifCond .lt 25) (a := (125, [some (.ref 114), some (.int v1), some (.int v2)], [], M9)) (b := (103, [some (.ref 114), some (.int v1), some (.int v2)], [], M9)) rfl (fun _ => rfl) ?_ ?_
    · refine dp_s1 hF (i := .iconst 0) rfl (fun _ => rfl) ?_
      exact dp_s0 hF (i := .ireturn) rfl (fun _ => rfl)
    refine dp_s1 hF (i := .aload_n 0) rfl (fun _ => rfl) ?_
    refine dp_s1 hF (i := .aload_n 0) rfl (fun _ => rfl) ?_
    refine dp_s1 hF (i := .getfield 91) rfl (fun _ => rfl) ?_
    refine dp_s1 hF (i := .iload_n 1) rfl (fun _ => rfl) ?_
    refine dp_s3 hF (i := .iaload) rfl (fun _ => rfl) ?_
    refine dp_si (mj := dp_m_X12_heightOf) (i := .invokevirtual 547) rfl rfl (Or.inl rfl) rfl (fun _ => rfl) (fun r11 M10 => ?_)
    refine dp_s1 hF (i := .iconst 1) rfl (fun _ => rfl) ?_
    refine dp_s1 hF (i := .isub) rfl (fun _ => rfl) ?_
    refine dp_s1 hF (i := .aload_n 0) rfl (fun _ => rfl) ?_
    refine dp_s1 hF (i := .getfield 94) rfl (fun _ => rfl) ?_
    refine dp_s1 hF (i := .iload_n 1) rfl (fun _ => rfl) ?_
    refine dp_s3 hF (i := .iaload) rfl (fun _ => rfl) ?_
    refine dp_s1 hF (i := .isub) rfl (fun _ => rfl) ?_
    refine dp_s1 hF (i := .goto 4) rfl (fun _ => rfl) ?_
    exact dp_s0 hF (i := .ireturn) rfl (fun _ => rfl)
  refine dp_ifc ?_ ?_
  · refine dp_s1 hF (i := .aload_n 0) rfl (fun _ => rfl) ?_
    refine dp_s1 hF (i := .iload_n 1) rfl (fun _ => rfl) ?_
    refine dp_si (mj := dp_m_X12_isInTheWay) (i := .invokevirtual 596) rfl rfl (Or.inr rfl) rfl (fun _ => rfl) (fun r13 M12 => ?_)
    refine dp_s2 hF (i := .ifCond .eq 7) (a := (139, [some (.ref 114), some (.int v1), some (.int v2)], [], M12)) (b := (135, [some (.ref 114), some (.int v1), some (.int v2)], [], M12)) rfl (fun _ => rfl) ?_ ?_
    · refine dp_s1 hF (i := .iconst 0) rfl (fun _ => rfl) ?_
      exact dp_s0 hF (i := .ireturn) rfl (fun _ => rfl)
    refine dp_s1 hF (i := .iconst 1) rfl (fun _ => rfl) ?_
    refine dp_s1 hF (i := .goto 4) rfl (fun _ => rfl) ?_
    exact dp_s0 hF (i := .ireturn) rfl (fun _ => rfl)
  refine dp_ifc ?_ ?_
  · refine dp_s1 hF (i := .aload_n 0) rfl (fun _ => rfl) ?_
    refine dp_s1 hF (i := .getfield 76) rfl (fun _ => rfl) ?_
    refine dp_s1 hF (i := .iload_n 1) rfl (fun _ => rfl) ?_
    refine dp_s3 hF (i := .iaload) rfl (fun _ => rfl) ?_
    exact dp_s0 hF (i := .ireturn) rfl (fun _ => rfl)
  refine dp_ifc ?_ ?_
  · refine dp_s1 hF (i := .aload_n 0) rfl (fun _ => rfl) ?_
    refine dp_s1 hF (i := .getfield 82) rfl (fun _ => rfl) ?_
    refine dp_s1 hF (i := .iload_n 1) rfl (fun _ => rfl) ?_
    refine dp_s3 hF (i := .iaload) rfl (fun _ => rfl) ?_
    exact dp_s0 hF (i := .ireturn) rfl (fun _ => rfl)
  refine dp_ifc ?_ ?_
  · refine dp_s1 hF (i := .aload_n 0) rfl (fun _ => rfl) ?_
    refine dp_s1 hF (i := .getfield 85) rfl (fun _ => rfl) ?_
    refine dp_s1 hF (i := .iload_n 1) rfl (fun _ => rfl) ?_
    refine dp_s3 hF (i := .iaload) rfl (fun _ => rfl) ?_
    exact dp_s0 hF (i := .ireturn) rfl (fun _ => rfl)
  refine dp_ifc ?_ ?_
  · refine dp_s1 hF (i := .aload_n 0) rfl (fun _ => rfl) ?_
    refine dp_s1 hF (i := .getfield 88) rfl (fun _ => rfl) ?_
    refine dp_s1 hF (i := .iload_n 1) rfl (fun _ => rfl) ?_
    refine dp_s3 hF (i := .iaload) rfl (fun _ => rfl) ?_
    exact dp_s0 hF (i := .ireturn) rfl (fun _ => rfl)
  refine dp_s1 hF (i := .aload_n 0) rfl (fun _ => rfl) ?_
  refine dp_s1 hF (i := .getfield 79) rfl (fun _ => rfl) ?_
  refine dp_s1 hF (i := .iload_n 1) rfl (fun _ => rfl) ?_
  refine dp_s3 hF (i := .iaload) rfl (fun _ => rfl) ?_
  exact dp_s0 hF (i := .ireturn) rfl (fun _ => rfl)
noncomputable def D_X12_at_0 (xs : Nat → Int32) (xl d : Nat) (v1 : Int32) (v2 : Int32) (M : dp_M) : Option dp_Res := dp_lim true xs xl (dp_den true xs xl d) dp_m_X12_at (0, [some (.ref 114), some (.int v1), some (.int v2)], [], M)
theorem D_X12_at_0_den (xs : Nat → Int32) (xl d : Nat) (a0 : Int32) (a1 : Int32) (M : dp_M) : dp_den true xs xl (d + 1) 420 [.ref 114, .int a0, .int a1] M = D_X12_at_0 xs xl d a0 a1 M := rfl
set_option maxRecDepth 20000 in
theorem D_X12_at_0_eq (xs : Nat → Int32) (xl d : Nat) (v1 : Int32) (v2 : Int32) (M : dp_M) : D_X12_at_0 xs xl d v1 v2 M = dp_bi (dp_den true xs xl d 395 [.ref 114, .int v1] M) (fun r2 M1 => if r2 = 0 then (dp_bi (dp_den true xs xl d 366 [.ref 114, .int (1 : Int32)] M1) (fun r4 M3 => some (.inl (some (.int r4)), M3))) else (dp_bi (dp_den true xs xl d 367 [.long (Int32.toInt64 v2), .long (0 : Int64), .long ((Int32.toInt64 (dp_I M1 114 26)) - (1 : Int64))] M1) (fun r6 M5 => if r6 = 0 then (dp_bi (dp_den true xs xl d 366 [.ref 114, .int (1 : Int32)] M5) (fun r8 M7 => some (.inl (some (.int r8)), M7))) else (dp_w (dp_setI M5 114 0 (0 : Int32)) (fun M9 => dp_bi (dp_den true xs xl d 398 [.ref 114, .int v1, .int v2] M9) (fun r11 M10 => some (.inl (some (.int r11)), M10))))))) := by
  have hF := dp_den_grow (md := true) (xs := xs) (xl := xl) d
  unfold D_X12_at_0
  refine dp_s1 hF (i := .aload_n 0) rfl (fun _ => rfl) ?_
  refine dp_s1 hF (i := .iload_n 1) rfl (fun _ => rfl) ?_
  refine dp_si (mj := dp_m_X12_isYardRow) (i := .invokevirtual 569) rfl rfl (Or.inr rfl) rfl (fun _ => rfl) (fun r2 M1 => ?_)
  refine dp_s2 hF (i := .ifCond .eq 19) (a := (24, [some (.ref 114), some (.int v1), some (.int v2)], [], M1)) (b := (8, [some (.ref 114), some (.int v1), some (.int v2)], [], M1)) rfl (fun _ => rfl) ?_ ?_
  · refine dp_s1 hF (i := .aload_n 0) rfl (fun _ => rfl) ?_
    refine dp_s1 hF (i := .iconst 1) rfl (fun _ => rfl) ?_
    refine dp_si (mj := dp_m_X12_refuse) (i := .invokevirtual 460) rfl rfl (Or.inl rfl) rfl (fun _ => rfl) (fun r4 M3 => ?_)
    exact dp_s0 hF (i := .ireturn) rfl (fun _ => rfl)
  refine dp_s1 hF (i := .iload_n 2) rfl (fun _ => rfl) ?_
  refine dp_s1 hF (i := .i2l) rfl (fun _ => rfl) ?_
  refine dp_s1 hF (i := .lconst 0) rfl (fun _ => rfl) ?_
  refine dp_s1 hF (i := .aload_n 0) rfl (fun _ => rfl) ?_
  refine dp_s1 hF (i := .getfield 429) rfl (fun _ => rfl) ?_
  refine dp_s1 hF (i := .i2l) rfl (fun _ => rfl) ?_
  refine dp_s1 hF (i := .lconst 1) rfl (fun _ => rfl) ?_
  refine dp_s1 hF (i := .lsub) rfl (fun _ => rfl) ?_
  refine dp_si (mj := dp_m_X12_in) (i := .invokestatic 446) rfl rfl (Or.inr rfl) rfl (fun _ => rfl) (fun r6 M5 => ?_)
  refine dp_s2 hF (i := .ifCond .ne 9) (a := (24, [some (.ref 114), some (.int v1), some (.int v2)], [], M5)) (b := (30, [some (.ref 114), some (.int v1), some (.int v2)], [], M5)) rfl (fun _ => rfl) ?_ ?_
  · refine dp_s1 hF (i := .aload_n 0) rfl (fun _ => rfl) ?_
    refine dp_s1 hF (i := .iconst 1) rfl (fun _ => rfl) ?_
    refine dp_si (mj := dp_m_X12_refuse) (i := .invokevirtual 460) rfl rfl (Or.inl rfl) rfl (fun _ => rfl) (fun r8 M7 => ?_)
    exact dp_s0 hF (i := .ireturn) rfl (fun _ => rfl)
  refine dp_s1 hF (i := .aload_n 0) rfl (fun _ => rfl) ?_
  refine dp_s1 hF (i := .iconst 0) rfl (fun _ => rfl) ?_
  refine dp_s1w (dp_setI M5 114 0 (0 : Int32)) (fun (M9 : dp_M) => (35, [some (.ref 114), some (.int v1), some (.int v2)], [], M9)) hF (i := .putfield 1) rfl (fun _ => rfl) (fun M9 => ?_)
  refine dp_s1 hF (i := .aload_n 0) rfl (fun _ => rfl) ?_
  refine dp_s1 hF (i := .iload_n 1) rfl (fun _ => rfl) ?_
  refine dp_s1 hF (i := .iload_n 2) rfl (fun _ => rfl) ?_
  refine dp_si (mj := dp_m_X12_boxAt) (i := .invokevirtual 550) rfl rfl (Or.inl rfl) rfl (fun _ => rfl) (fun r11 M10 => ?_)
  exact dp_s0 hF (i := .ireturn) rfl (fun _ => rfl)
noncomputable def D_X12_kilograms_0 (xs : Nat → Int32) (xl d : Nat) (v1 : Int32) (M : dp_M) : Option dp_Res := dp_lim true xs xl (dp_den true xs xl d) dp_m_X12_kilograms (0, [some (.ref 114), some (.int v1)], [], M)
theorem D_X12_kilograms_0_den (xs : Nat → Int32) (xl d : Nat) (a0 : Int32) (M : dp_M) : dp_den true xs xl (d + 1) 421 [.ref 114, .int a0] M = D_X12_kilograms_0 xs xl d a0 M := rfl
set_option maxRecDepth 20000 in
theorem D_X12_kilograms_0_eq (xs : Nat → Int32) (xl d : Nat) (v1 : Int32) (M : dp_M) : D_X12_kilograms_0 xs xl d v1 M = if v1 < 0 ∨ 100 ≤ Int32.toNatClampNeg v1 then none else (some (.inl (some (.int ((1000 : Int32) * (dp_I M 137 (Int32.toNatClampNeg v1))))), M)) := by
  have hF := dp_den_grow (md := true) (xs := xs) (xl := xl) d
  unfold D_X12_kilograms_0
  refine dp_s1 hF (i := .sipush 1000) rfl (fun _ => rfl) ?_
  refine dp_s1 hF (i := .aload_n 0) rfl (fun _ => rfl) ?_
  refine dp_s1 hF (i := .getfield 82) rfl (fun _ => rfl) ?_
  refine dp_s1 hF (i := .iload_n 1) rfl (fun _ => rfl) ?_
  refine dp_s3 hF (i := .iaload) rfl (fun _ => rfl) ?_
  refine dp_s1 hF (i := .imul) rfl (fun _ => rfl) ?_
  exact dp_s0 hF (i := .ireturn) rfl (fun _ => rfl)
noncomputable def D_X12_tells_0 (xs : Nat → Int32) (xl d : Nat) (v1 : Int32) (v2 : Int32) (M : dp_M) : Option dp_Res := dp_lim true xs xl (dp_den true xs xl d) dp_m_X12_tells (0, [some (.ref 114), some (.int v1), some (.int v2), none], [], M)
noncomputable def D_X12_tells_37 (xs : Nat → Int32) (xl d : Nat) (v1 : Int32) (v2 : Int32) (M : dp_M) : Option dp_Res := dp_lim true xs xl (dp_den true xs xl d) dp_m_X12_tells (37, [some (.ref 114), some (.int v1), some (.int v2), none], [], M)
noncomputable def D_X12_tells_11 (xs : Nat → Int32) (xl d : Nat) (v1 : Int32) (v2 : Int32) (v3 : Int32) (M : dp_M) : Option dp_Res := dp_lim true xs xl (dp_den true xs xl d) dp_m_X12_tells (11, [some (.ref 114), some (.int v1), some (.int v2), some (.int v3)], [], M)
noncomputable def D_X12_tells_37_a (xs : Nat → Int32) (xl d : Nat) (v1 : Int32) (v2 : Int32) (v3 : Int32) (M : dp_M) : Option dp_Res := dp_lim true xs xl (dp_den true xs xl d) dp_m_X12_tells (37, [some (.ref 114), some (.int v1), some (.int v2), some (.int v3)], [], M)
theorem D_X12_tells_0_den (xs : Nat → Int32) (xl d : Nat) (a0 : Int32) (a1 : Int32) (M : dp_M) : dp_den true xs xl (d + 1) 422 [.ref 114, .int a0, .int a1] M = D_X12_tells_0 xs xl d a0 a1 M := rfl
set_option maxRecDepth 20000 in
theorem D_X12_tells_0_eq (xs : Nat → Int32) (xl d : Nat) (v1 : Int32) (v2 : Int32) (M : dp_M) : D_X12_tells_0 xs xl d v1 v2 M = if (dp_I M 114 52) < (64 : Int32) then (D_X12_tells_37 xs xl d v1 v2 M) else (dp_w (1 : Int32) (fun y1 => D_X12_tells_11 xs xl d v1 v2 y1 M)) := by
  have hF := dp_den_grow (md := true) (xs := xs) (xl := xl) d
  unfold D_X12_tells_0
  refine dp_s1 hF (i := .aload_n 0) rfl (fun _ => rfl) ?_
  refine dp_s1 hF (i := .getfield 599) rfl (fun _ => rfl) ?_
  refine dp_s1 hF (i := .bipush 64) rfl (fun _ => rfl) ?_
  refine dp_s2 hF (i := .if_icmp .lt 31) (a := (37, [some (.ref 114), some (.int v1), some (.int v2), none], [], M)) (b := (9, [some (.ref 114), some (.int v1), some (.int v2), none], [], M)) rfl (fun _ => rfl) ?_ ?_
  · exact rfl
  refine dp_s1 hF (i := .iconst 1) rfl (fun _ => rfl) ?_
  refine dp_s1w (1 : Int32) (fun (y1 : Int32) => (11, [some (.ref 114), some (.int v1), some (.int v2), some (.int y1)], [], M)) hF (i := .istore_n 3) rfl (fun _ => rfl) (fun y1 => ?_)
  exact rfl
set_option maxRecDepth 20000 in
theorem D_X12_tells_37_eq (xs : Nat → Int32) (xl d : Nat) (v1 : Int32) (v2 : Int32) (M : dp_M) : D_X12_tells_37 xs xl d v1 v2 M = if (dp_I M 114 52) < (64 : Int32) then (if (dp_I M 114 52) < 0 ∨ 64 ≤ Int32.toNatClampNeg (dp_I M 114 52) then none else dp_w (dp_setI M 154 (Int32.toNatClampNeg (dp_I M 114 52)) (((10 : Int32) * v1) + v2)) (fun M1 => dp_w (dp_setI M1 114 52 ((dp_I M1 114 52) + (1 : Int32))) (fun M2 => some (.inl none, M2)))) else (if (63 : Int32) < 0 ∨ 64 ≤ Int32.toNatClampNeg (63 : Int32) then none else dp_w (dp_setI M 154 (Int32.toNatClampNeg (63 : Int32)) (((10 : Int32) * v1) + v2)) (fun M3 => dp_w (dp_setI M3 114 52 ((dp_I M3 114 52) + (1 : Int32))) (fun M4 => some (.inl none, M4)))) := by
  have hF := dp_den_grow (md := true) (xs := xs) (xl := xl) d
  unfold D_X12_tells_37
  refine dp_s1 hF (i := .aload_n 0) rfl (fun _ => rfl) ?_
  refine dp_s1 hF (i := .getfield 133) rfl (fun _ => rfl) ?_
  refine dp_s1 hF (i := .aload_n 0) rfl (fun _ => rfl) ?_
  refine dp_s1 hF (i := .getfield 599) rfl (fun _ => rfl) ?_
  refine dp_s1 hF (i := .bipush 64) rfl (fun _ => rfl) ?_
  refine dp_s2 hF (i := .if_icmp .lt 8) (a := (55, [some (.ref 114), some (.int v1), some (.int v2), none], [.ref 154], M)) (b := (50, [some (.ref 114), some (.int v1), some (.int v2), none], [.ref 154], M)) rfl (fun _ => rfl) ?_ ?_
  · refine dp_s1 hF (i := .aload_n 0) rfl (fun _ => rfl) ?_
    refine dp_s1 hF (i := .getfield 599) rfl (fun _ => rfl) ?_
    refine dp_s1 hF (i := .bipush 10) rfl (fun _ => rfl) ?_
    refine dp_s1 hF (i := .iload_n 1) rfl (fun _ => rfl) ?_
    refine dp_s1 hF (i := .imul) rfl (fun _ => rfl) ?_
    refine dp_s1 hF (i := .iload_n 2) rfl (fun _ => rfl) ?_
    refine dp_s1 hF (i := .iadd) rfl (fun _ => rfl) ?_
    refine dp_s3w (dp_setI M 154 (Int32.toNatClampNeg (dp_I M 114 52)) (((10 : Int32) * v1) + v2)) (fun (M1 : dp_M) => (66, [some (.ref 114), some (.int v1), some (.int v2), none], [], M1)) hF (i := .iastore) rfl (fun _ => rfl) (fun M1 => ?_)
    refine dp_s1 hF (i := .aload_n 0) rfl (fun _ => rfl) ?_
    refine dp_s1 hF (i := .dup) rfl (fun _ => rfl) ?_
    refine dp_s1 hF (i := .getfield 599) rfl (fun _ => rfl) ?_
    refine dp_s1 hF (i := .iconst 1) rfl (fun _ => rfl) ?_
    refine dp_s1 hF (i := .iadd) rfl (fun _ => rfl) ?_
    refine dp_s1w (dp_setI M1 114 52 ((dp_I M1 114 52) + (1 : Int32))) (fun (M2 : dp_M) => (76, [some (.ref 114), some (.int v1), some (.int v2), none], [], M2)) hF (i := .putfield 599) rfl (fun _ => rfl) (fun M2 => ?_)
    exact dp_s0 hF (i := .return_) rfl (fun _ => rfl)
  refine dp_s1 hF (i := .bipush 63) rfl (fun _ => rfl) ?_
  refine dp_s1 hF (i := .goto 7) rfl (fun _ => rfl) ?_
  refine dp_s1 hF (i := .bipush 10) rfl (fun _ => rfl) ?_
  refine dp_s1 hF (i := .iload_n 1) rfl (fun _ => rfl) ?_
  refine dp_s1 hF (i := .imul) rfl (fun _ => rfl) ?_
  refine dp_s1 hF (i := .iload_n 2) rfl (fun _ => rfl) ?_
  refine dp_s1 hF (i := .iadd) rfl (fun _ => rfl) ?_
  refine dp_s3w (dp_setI M 154 (Int32.toNatClampNeg (63 : Int32)) (((10 : Int32) * v1) + v2)) (fun (M3 : dp_M) => (66, [some (.ref 114), some (.int v1), some (.int v2), none], [], M3)) hF (i := .iastore) rfl (fun _ => rfl) (fun M3 => ?_)
  refine dp_s1 hF (i := .aload_n 0) rfl (fun _ => rfl) ?_
  refine dp_s1 hF (i := .dup) rfl (fun _ => rfl) ?_
  refine dp_s1 hF (i := .getfield 599) rfl (fun _ => rfl) ?_
  refine dp_s1 hF (i := .iconst 1) rfl (fun _ => rfl) ?_
  refine dp_s1 hF (i := .iadd) rfl (fun _ => rfl) ?_
  refine dp_s1w (dp_setI M3 114 52 ((dp_I M3 114 52) + (1 : Int32))) (fun (M4 : dp_M) => (76, [some (.ref 114), some (.int v1), some (.int v2), none], [], M4)) hF (i := .putfield 599) rfl (fun _ => rfl) (fun M4 => ?_)
  exact dp_s0 hF (i := .return_) rfl (fun _ => rfl)
set_option maxRecDepth 20000 in
theorem D_X12_tells_11_eq (xs : Nat → Int32) (xl d : Nat) (v1 : Int32) (v2 : Int32) (v3 : Int32) (M : dp_M) : D_X12_tells_11 xs xl d v1 v2 v3 M = if (64 : Int32) ≤ v3 then (D_X12_tells_37_a xs xl d v1 v2 v3 M) else (if v3 < 0 ∨ 64 ≤ Int32.toNatClampNeg v3 then none else (if (v3 - (1 : Int32)) < 0 ∨ 64 ≤ Int32.toNatClampNeg (v3 - (1 : Int32)) then none else dp_w (dp_setI M 154 (Int32.toNatClampNeg (v3 - (1 : Int32))) (dp_I M 154 (Int32.toNatClampNeg v3))) (fun M1 => dp_w (v3 + (1 : Int32)) (fun y2 => D_X12_tells_11 xs xl d v1 v2 y2 M1)))) := by
  have hF := dp_den_grow (md := true) (xs := xs) (xl := xl) d
  unfold D_X12_tells_11
  refine dp_s1 hF (i := .iload_n 3) rfl (fun _ => rfl) ?_
  refine dp_s1 hF (i := .bipush 64) rfl (fun _ => rfl) ?_
  refine dp_s2 hF (i := .if_icmp .ge 23) (a := (37, [some (.ref 114), some (.int v1), some (.int v2), some (.int v3)], [], M)) (b := (17, [some (.ref 114), some (.int v1), some (.int v2), some (.int v3)], [], M)) rfl (fun _ => rfl) ?_ ?_
  · exact rfl
  refine dp_s1 hF (i := .aload_n 0) rfl (fun _ => rfl) ?_
  refine dp_s1 hF (i := .getfield 133) rfl (fun _ => rfl) ?_
  refine dp_s1 hF (i := .iload_n 3) rfl (fun _ => rfl) ?_
  refine dp_s1 hF (i := .iconst 1) rfl (fun _ => rfl) ?_
  refine dp_s1 hF (i := .isub) rfl (fun _ => rfl) ?_
  refine dp_s1 hF (i := .aload_n 0) rfl (fun _ => rfl) ?_
  refine dp_s1 hF (i := .getfield 133) rfl (fun _ => rfl) ?_
  refine dp_s1 hF (i := .iload_n 3) rfl (fun _ => rfl) ?_
  refine dp_s3 hF (i := .iaload) rfl (fun _ => rfl) ?_
  refine dp_s3w (dp_setI M 154 (Int32.toNatClampNeg (v3 - (1 : Int32))) (dp_I M 154 (Int32.toNatClampNeg v3))) (fun (M1 : dp_M) => (31, [some (.ref 114), some (.int v1), some (.int v2), some (.int v3)], [], M1)) hF (i := .iastore) rfl (fun _ => rfl) (fun M1 => ?_)
  refine dp_s1w (v3 + (1 : Int32)) (fun (y2 : Int32) => (34, [some (.ref 114), some (.int v1), some (.int v2), some (.int y2)], [], M1)) hF (i := .iinc 3 1) rfl (fun _ => rfl) (fun y2 => ?_)
  refine dp_s1 hF (i := .goto (-23)) rfl (fun _ => rfl) ?_
  exact rfl
set_option maxRecDepth 20000 in
theorem D_X12_tells_37_a_eq (xs : Nat → Int32) (xl d : Nat) (v1 : Int32) (v2 : Int32) (v3 : Int32) (M : dp_M) : D_X12_tells_37_a xs xl d v1 v2 v3 M = if (dp_I M 114 52) < (64 : Int32) then (if (dp_I M 114 52) < 0 ∨ 64 ≤ Int32.toNatClampNeg (dp_I M 114 52) then none else dp_w (dp_setI M 154 (Int32.toNatClampNeg (dp_I M 114 52)) (((10 : Int32) * v1) + v2)) (fun M1 => dp_w (dp_setI M1 114 52 ((dp_I M1 114 52) + (1 : Int32))) (fun M2 => some (.inl none, M2)))) else (if (63 : Int32) < 0 ∨ 64 ≤ Int32.toNatClampNeg (63 : Int32) then none else dp_w (dp_setI M 154 (Int32.toNatClampNeg (63 : Int32)) (((10 : Int32) * v1) + v2)) (fun M3 => dp_w (dp_setI M3 114 52 ((dp_I M3 114 52) + (1 : Int32))) (fun M4 => some (.inl none, M4)))) := by
  have hF := dp_den_grow (md := true) (xs := xs) (xl := xl) d
  unfold D_X12_tells_37_a
  refine dp_s1 hF (i := .aload_n 0) rfl (fun _ => rfl) ?_
  refine dp_s1 hF (i := .getfield 133) rfl (fun _ => rfl) ?_
  refine dp_s1 hF (i := .aload_n 0) rfl (fun _ => rfl) ?_
  refine dp_s1 hF (i := .getfield 599) rfl (fun _ => rfl) ?_
  refine dp_s1 hF (i := .bipush 64) rfl (fun _ => rfl) ?_
  refine dp_s2 hF (i := .if_icmp .lt 8) (a := (55, [some (.ref 114), some (.int v1), some (.int v2), some (.int v3)], [.ref 154], M)) (b := (50, [some (.ref 114), some (.int v1), some (.int v2), some (.int v3)], [.ref 154], M)) rfl (fun _ => rfl) ?_ ?_
  · refine dp_s1 hF (i := .aload_n 0) rfl (fun _ => rfl) ?_
    refine dp_s1 hF (i := .getfield 599) rfl (fun _ => rfl) ?_
    refine dp_s1 hF (i := .bipush 10) rfl (fun _ => rfl) ?_
    refine dp_s1 hF (i := .iload_n 1) rfl (fun _ => rfl) ?_
    refine dp_s1 hF (i := .imul) rfl (fun _ => rfl) ?_
    refine dp_s1 hF (i := .iload_n 2) rfl (fun _ => rfl) ?_
    refine dp_s1 hF (i := .iadd) rfl (fun _ => rfl) ?_
    refine dp_s3w (dp_setI M 154 (Int32.toNatClampNeg (dp_I M 114 52)) (((10 : Int32) * v1) + v2)) (fun (M1 : dp_M) => (66, [some (.ref 114), some (.int v1), some (.int v2), some (.int v3)], [], M1)) hF (i := .iastore) rfl (fun _ => rfl) (fun M1 => ?_)
    refine dp_s1 hF (i := .aload_n 0) rfl (fun _ => rfl) ?_
    refine dp_s1 hF (i := .dup) rfl (fun _ => rfl) ?_
    refine dp_s1 hF (i := .getfield 599) rfl (fun _ => rfl) ?_
    refine dp_s1 hF (i := .iconst 1) rfl (fun _ => rfl) ?_
    refine dp_s1 hF (i := .iadd) rfl (fun _ => rfl) ?_
    refine dp_s1w (dp_setI M1 114 52 ((dp_I M1 114 52) + (1 : Int32))) (fun (M2 : dp_M) => (76, [some (.ref 114), some (.int v1), some (.int v2), some (.int v3)], [], M2)) hF (i := .putfield 599) rfl (fun _ => rfl) (fun M2 => ?_)
    exact dp_s0 hF (i := .return_) rfl (fun _ => rfl)
  refine dp_s1 hF (i := .bipush 63) rfl (fun _ => rfl) ?_
  refine dp_s1 hF (i := .goto 7) rfl (fun _ => rfl) ?_
  refine dp_s1 hF (i := .bipush 10) rfl (fun _ => rfl) ?_
  refine dp_s1 hF (i := .iload_n 1) rfl (fun _ => rfl) ?_
  refine dp_s1 hF (i := .imul) rfl (fun _ => rfl) ?_
  refine dp_s1 hF (i := .iload_n 2) rfl (fun _ => rfl) ?_
  refine dp_s1 hF (i := .iadd) rfl (fun _ => rfl) ?_
  refine dp_s3w (dp_setI M 154 (Int32.toNatClampNeg (63 : Int32)) (((10 : Int32) * v1) + v2)) (fun (M3 : dp_M) => (66, [some (.ref 114), some (.int v1), some (.int v2), some (.int v3)], [], M3)) hF (i := .iastore) rfl (fun _ => rfl) (fun M3 => ?_)
  refine dp_s1 hF (i := .aload_n 0) rfl (fun _ => rfl) ?_
  refine dp_s1 hF (i := .dup) rfl (fun _ => rfl) ?_
  refine dp_s1 hF (i := .getfield 599) rfl (fun _ => rfl) ?_
  refine dp_s1 hF (i := .iconst 1) rfl (fun _ => rfl) ?_
  refine dp_s1 hF (i := .iadd) rfl (fun _ => rfl) ?_
  refine dp_s1w (dp_setI M3 114 52 ((dp_I M3 114 52) + (1 : Int32))) (fun (M4 : dp_M) => (76, [some (.ref 114), some (.int v1), some (.int v2), some (.int v3)], [], M4)) hF (i := .putfield 599) rfl (fun _ => rfl) (fun M4 => ?_)
  exact dp_s0 hF (i := .return_) rfl (fun _ => rfl)
noncomputable def D_X12_weightIn_0 (xs : Nat → Int32) (xl d : Nat) (v1 : Int32) (M : dp_M) : Option dp_Res := dp_lim true xs xl (dp_den true xs xl d) dp_m_X12_weightIn (0, [some (.ref 114), some (.int v1), none, none], [], M)
noncomputable def D_X12_weightIn_4 (xs : Nat → Int32) (xl d : Nat) (v1 : Int32) (v2 : Int32) (v3 : Int32) (M : dp_M) : Option dp_Res := dp_lim true xs xl (dp_den true xs xl d) dp_m_X12_weightIn (4, [some (.ref 114), some (.int v1), some (.int v2), some (.int v3)], [], M)
theorem D_X12_weightIn_0_den (xs : Nat → Int32) (xl d : Nat) (a0 : Int32) (M : dp_M) : dp_den true xs xl (d + 1) 423 [.ref 114, .int a0] M = D_X12_weightIn_0 xs xl d a0 M := rfl
set_option maxRecDepth 20000 in
theorem D_X12_weightIn_0_eq (xs : Nat → Int32) (xl d : Nat) (v1 : Int32) (M : dp_M) : D_X12_weightIn_0 xs xl d v1 M = dp_w (0 : Int32) (fun y1 => dp_w (0 : Int32) (fun y2 => D_X12_weightIn_4 xs xl d v1 y1 y2 M)) := by
  have hF := dp_den_grow (md := true) (xs := xs) (xl := xl) d
  unfold D_X12_weightIn_0
  refine dp_s1 hF (i := .iconst 0) rfl (fun _ => rfl) ?_
  refine dp_s1w (0 : Int32) (fun (y1 : Int32) => (2, [some (.ref 114), some (.int v1), some (.int y1), none], [], M)) hF (i := .istore_n 2) rfl (fun _ => rfl) (fun y1 => ?_)
  refine dp_s1 hF (i := .iconst 0) rfl (fun _ => rfl) ?_
  refine dp_s1w (0 : Int32) (fun (y2 : Int32) => (4, [some (.ref 114), some (.int v1), some (.int y1), some (.int y2)], [], M)) hF (i := .istore_n 3) rfl (fun _ => rfl) (fun y2 => ?_)
  exact rfl
set_option maxRecDepth 20000 in
theorem D_X12_weightIn_4_eq (xs : Nat → Int32) (xl d : Nat) (v1 : Int32) (v2 : Int32) (v3 : Int32) (M : dp_M) : D_X12_weightIn_4 xs xl d v1 v2 v3 M = if (dp_I M 114 44) ≤ v3 then (some (.inl (some (.int v2)), M)) else (if v3 < 0 ∨ 300 ≤ Int32.toNatClampNeg v3 then none else (if (dp_I M 147 (Int32.toNatClampNeg v3)) = v1 then (if v3 < 0 ∨ 300 ≤ Int32.toNatClampNeg v3 then none else (dp_w (v2 + (dp_I M 148 (Int32.toNatClampNeg v3))) (fun y1 => dp_w (v3 + (1 : Int32)) (fun y2 => D_X12_weightIn_4 xs xl d v1 y1 y2 M)))) else (dp_w (v2 + (0 : Int32)) (fun y3 => dp_w (v3 + (1 : Int32)) (fun y4 => D_X12_weightIn_4 xs xl d v1 y3 y4 M))))) := by
  have hF := dp_den_grow (md := true) (xs := xs) (xl := xl) d
  unfold D_X12_weightIn_4
  refine dp_s1 hF (i := .iload_n 3) rfl (fun _ => rfl) ?_
  refine dp_s1 hF (i := .aload_n 0) rfl (fun _ => rfl) ?_
  refine dp_s1 hF (i := .getfield 602) rfl (fun _ => rfl) ?_
  refine dp_s2 hF (i := .if_icmp .ge 32) (a := (41, [some (.ref 114), some (.int v1), some (.int v2), some (.int v3)], [], M)) (b := (12, [some (.ref 114), some (.int v1), some (.int v2), some (.int v3)], [], M)) rfl (fun _ => rfl) ?_ ?_
  · refine dp_s1 hF (i := .iload_n 2) rfl (fun _ => rfl) ?_
    exact dp_s0 hF (i := .ireturn) rfl (fun _ => rfl)
  refine dp_s1 hF (i := .iload_n 2) rfl (fun _ => rfl) ?_
  refine dp_s1 hF (i := .aload_n 0) rfl (fun _ => rfl) ?_
  refine dp_s1 hF (i := .getfield 112) rfl (fun _ => rfl) ?_
  refine dp_s1 hF (i := .iload_n 3) rfl (fun _ => rfl) ?_
  refine dp_s3 hF (i := .iaload) rfl (fun _ => rfl) ?_
  refine dp_s1 hF (i := .iload_n 1) rfl (fun _ => rfl) ?_
  refine dp_s2 hF (i := .if_icmp .ne 12) (a := (23, [some (.ref 114), some (.int v1), some (.int v2), some (.int v3)], [.int v2], M)) (b := (32, [some (.ref 114), some (.int v1), some (.int v2), some (.int v3)], [.int v2], M)) rfl (fun _ => rfl) ?_ ?_
  · refine dp_s1 hF (i := .aload_n 0) rfl (fun _ => rfl) ?_
    refine dp_s1 hF (i := .getfield 115) rfl (fun _ => rfl) ?_
    refine dp_s1 hF (i := .iload_n 3) rfl (fun _ => rfl) ?_
    refine dp_s3 hF (i := .iaload) rfl (fun _ => rfl) ?_
    refine dp_s1 hF (i := .goto 4) rfl (fun _ => rfl) ?_
    refine dp_s1 hF (i := .iadd) rfl (fun _ => rfl) ?_
    refine dp_s1w (v2 + (dp_I M 148 (Int32.toNatClampNeg v3))) (fun (y1 : Int32) => (35, [some (.ref 114), some (.int v1), some (.int y1), some (.int v3)], [], M)) hF (i := .istore_n 2) rfl (fun _ => rfl) (fun y1 => ?_)
    refine dp_s1w (v3 + (1 : Int32)) (fun (y2 : Int32) => (38, [some (.ref 114), some (.int v1), some (.int y1), some (.int y2)], [], M)) hF (i := .iinc 3 1) rfl (fun _ => rfl) (fun y2 => ?_)
    refine dp_s1 hF (i := .goto (-34)) rfl (fun _ => rfl) ?_
    exact rfl
  refine dp_s1 hF (i := .iconst 0) rfl (fun _ => rfl) ?_
  refine dp_s1 hF (i := .iadd) rfl (fun _ => rfl) ?_
  refine dp_s1w (v2 + (0 : Int32)) (fun (y3 : Int32) => (35, [some (.ref 114), some (.int v1), some (.int y3), some (.int v3)], [], M)) hF (i := .istore_n 2) rfl (fun _ => rfl) (fun y3 => ?_)
  refine dp_s1w (v3 + (1 : Int32)) (fun (y4 : Int32) => (38, [some (.ref 114), some (.int v1), some (.int y3), some (.int y4)], [], M)) hF (i := .iinc 3 1) rfl (fun _ => rfl) (fun y4 => ?_)
  refine dp_s1 hF (i := .goto (-34)) rfl (fun _ => rfl) ?_
  exact rfl
noncomputable def D_X12_goods_0 (xs : Nat → Int32) (xl d : Nat) (v1 : Int32) (v2 : Int32) (M : dp_M) : Option dp_Res := dp_lim true xs xl (dp_den true xs xl d) dp_m_X12_goods (0, [some (.ref 114), some (.int v1), some (.int v2)], [], M)
noncomputable def D_X12_goods_28 (xs : Nat → Int32) (xl d : Nat) (v1 : Int32) (v2 : Int32) (vs0 : Int32) (vs2 : Int32) (M : dp_M) : Option dp_Res := dp_lim true xs xl (dp_den true xs xl d) dp_m_X12_goods (28, [some (.ref 114), some (.int v1), some (.int v2)], [.int vs0, .ref 114, .int vs2], M)
theorem D_X12_goods_0_den (xs : Nat → Int32) (xl d : Nat) (a0 : Int32) (a1 : Int32) (M : dp_M) : dp_den true xs xl (d + 1) 424 [.ref 114, .int a0, .int a1] M = D_X12_goods_0 xs xl d a0 a1 M := rfl
set_option maxRecDepth 20000 in
theorem D_X12_goods_0_eq (xs : Nat → Int32) (xl d : Nat) (v1 : Int32) (v2 : Int32) (M : dp_M) : D_X12_goods_0 xs xl d v1 v2 M = dp_bi (dp_den true xs xl d 371 [.ref 114, .int v1] M) (fun r2 M1 => if r2 = 0 then (dp_bi (dp_den true xs xl d 366 [.ref 114, .int (1 : Int32)] M1) (fun r4 M3 => some (.inl (some (.int r4)), M3))) else (if v2 < (1 : Int32) then (dp_bi (dp_den true xs xl d 366 [.ref 114, .int (1 : Int32)] M1) (fun r6 M5 => some (.inl (some (.int r6)), M5))) else (dp_bi (dp_den true xs xl d 371 [.ref 114, .int v1] M1) (fun r8 M7 => if r8 = 0 then (D_X12_goods_28 xs xl d v1 v2 (0 : Int32) v2 M7) else (D_X12_goods_28 xs xl d v1 v2 v1 v2 M7))))) := by
  have hF := dp_den_grow (md := true) (xs := xs) (xl := xl) d
  unfold D_X12_goods_0
  refine dp_s1 hF (i := .aload_n 0) rfl (fun _ => rfl) ?_
  refine dp_s1 hF (i := .iload_n 1) rfl (fun _ => rfl) ?_
  refine dp_si (mj := dp_m_X12_isBox) (i := .invokevirtual 470) rfl rfl (Or.inr rfl) rfl (fun _ => rfl) (fun r2 M1 => ?_)
  refine dp_s2 hF (i := .ifCond .eq 35) (a := (40, [some (.ref 114), some (.int v1), some (.int v2)], [], M1)) (b := (8, [some (.ref 114), some (.int v1), some (.int v2)], [], M1)) rfl (fun _ => rfl) ?_ ?_
  · refine dp_s1 hF (i := .aload_n 0) rfl (fun _ => rfl) ?_
    refine dp_s1 hF (i := .iconst 1) rfl (fun _ => rfl) ?_
    refine dp_si (mj := dp_m_X12_refuse) (i := .invokevirtual 460) rfl rfl (Or.inl rfl) rfl (fun _ => rfl) (fun r4 M3 => ?_)
    exact dp_s0 hF (i := .ireturn) rfl (fun _ => rfl)
  refine dp_s1 hF (i := .iload_n 2) rfl (fun _ => rfl) ?_
  refine dp_s1 hF (i := .iconst 1) rfl (fun _ => rfl) ?_
  refine dp_s2 hF (i := .if_icmp .lt 30) (a := (40, [some (.ref 114), some (.int v1), some (.int v2)], [], M1)) (b := (13, [some (.ref 114), some (.int v1), some (.int v2)], [], M1)) rfl (fun _ => rfl) ?_ ?_
  · refine dp_s1 hF (i := .aload_n 0) rfl (fun _ => rfl) ?_
    refine dp_s1 hF (i := .iconst 1) rfl (fun _ => rfl) ?_
    refine dp_si (mj := dp_m_X12_refuse) (i := .invokevirtual 460) rfl rfl (Or.inl rfl) rfl (fun _ => rfl) (fun r6 M5 => ?_)
    exact dp_s0 hF (i := .ireturn) rfl (fun _ => rfl)
  refine dp_s1 hF (i := .iload_n 2) rfl (fun _ => rfl) ?_
  refine dp_s1 hF (i := .aload_n 0) rfl (fun _ => rfl) ?_
  refine dp_s1 hF (i := .aload_n 0) rfl (fun _ => rfl) ?_
  refine dp_s1 hF (i := .iload_n 1) rfl (fun _ => rfl) ?_
  refine dp_si (mj := dp_m_X12_isBox) (i := .invokevirtual 470) rfl rfl (Or.inr rfl) rfl (fun _ => rfl) (fun r8 M7 => ?_)
  refine dp_s2 hF (i := .ifCond .eq 7) (a := (27, [some (.ref 114), some (.int v1), some (.int v2)], [.ref 114, .int v2], M7)) (b := (23, [some (.ref 114), some (.int v1), some (.int v2)], [.ref 114, .int v2], M7)) rfl (fun _ => rfl) ?_ ?_
  · refine dp_s1 hF (i := .iconst 0) rfl (fun _ => rfl) ?_
    exact rfl
  refine dp_s1 hF (i := .iload_n 1) rfl (fun _ => rfl) ?_
  refine dp_s1 hF (i := .goto 4) rfl (fun _ => rfl) ?_
  exact rfl
set_option maxRecDepth 20000 in
theorem D_X12_goods_28_eq (xs : Nat → Int32) (xl d : Nat) (v1 : Int32) (v2 : Int32) (vs0 : Int32) (vs2 : Int32) (M : dp_M) : D_X12_goods_28 xs xl d v1 v2 vs0 vs2 M = dp_bi (dp_den true xs xl d 421 [.ref 114, .int vs0] M) (fun r2 M1 => dp_bi (dp_den true xs xl d 423 [.ref 114, .int v1] M1) (fun r4 M3 => if vs2 ≤ (r2 - r4) then (if (dp_I M3 114 44) = (300 : Int32) then (dp_bi (dp_den true xs xl d 366 [.ref 114, .int (2 : Int32)] M3) (fun r6 M5 => some (.inl (some (.int r6)), M5))) else (dp_w (dp_setI M3 114 0 (0 : Int32)) (fun M7 => if (dp_I M7 114 44) < 0 ∨ 300 ≤ Int32.toNatClampNeg (dp_I M7 114 44) then none else dp_w (dp_setI M7 147 (Int32.toNatClampNeg (dp_I M7 114 44)) v1) (fun M8 => if (dp_I M8 114 44) < 0 ∨ 300 ≤ Int32.toNatClampNeg (dp_I M8 114 44) then none else dp_w (dp_setI M8 148 (Int32.toNatClampNeg (dp_I M8 114 44)) v2) (fun M9 => dp_w (dp_setI M9 114 44 ((dp_I M9 114 44) + (1 : Int32))) (fun M10 => some (.inl (some (.int ((dp_I M10 114 44) - (1 : Int32)))), M10))))))) else (dp_bi (dp_den true xs xl d 366 [.ref 114, .int (1 : Int32)] M3) (fun r12 M11 => some (.inl (some (.int r12)), M11))))) := by
  have hF := dp_den_grow (md := true) (xs := xs) (xl := xl) d
  unfold D_X12_goods_28
  refine dp_si (mj := dp_m_X12_kilograms) (i := .invokevirtual 605) rfl rfl (Or.inl rfl) rfl (fun _ => rfl) (fun r2 M1 => ?_)
  refine dp_s1 hF (i := .aload_n 0) rfl (fun _ => rfl) ?_
  refine dp_s1 hF (i := .iload_n 1) rfl (fun _ => rfl) ?_
  refine dp_si (mj := dp_m_X12_weightIn) (i := .invokevirtual 608) rfl rfl (Or.inl rfl) rfl (fun _ => rfl) (fun r4 M3 => ?_)
  refine dp_s1 hF (i := .isub) rfl (fun _ => rfl) ?_
  refine dp_s2 hF (i := .if_icmp .le 9) (a := (46, [some (.ref 114), some (.int v1), some (.int v2)], [], M3)) (b := (40, [some (.ref 114), some (.int v1), some (.int v2)], [], M3)) rfl (fun _ => rfl) ?_ ?_
  · refine dp_s1 hF (i := .aload_n 0) rfl (fun _ => rfl) ?_
    refine dp_s1 hF (i := .getfield 602) rfl (fun _ => rfl) ?_
    refine dp_s1 hF (i := .sipush 300) rfl (fun _ => rfl) ?_
    refine dp_s2 hF (i := .if_icmp .ne 9) (a := (56, [some (.ref 114), some (.int v1), some (.int v2)], [], M3)) (b := (62, [some (.ref 114), some (.int v1), some (.int v2)], [], M3)) rfl (fun _ => rfl) ?_ ?_
    · refine dp_s1 hF (i := .aload_n 0) rfl (fun _ => rfl) ?_
      refine dp_s1 hF (i := .iconst 2) rfl (fun _ => rfl) ?_
      refine dp_si (mj := dp_m_X12_refuse) (i := .invokevirtual 460) rfl rfl (Or.inl rfl) rfl (fun _ => rfl) (fun r6 M5 => ?_)
      exact dp_s0 hF (i := .ireturn) rfl (fun _ => rfl)
    refine dp_s1 hF (i := .aload_n 0) rfl (fun _ => rfl) ?_
    refine dp_s1 hF (i := .iconst 0) rfl (fun _ => rfl) ?_
    refine dp_s1w (dp_setI M3 114 0 (0 : Int32)) (fun (M7 : dp_M) => (67, [some (.ref 114), some (.int v1), some (.int v2)], [], M7)) hF (i := .putfield 1) rfl (fun _ => rfl) (fun M7 => ?_)
    refine dp_s1 hF (i := .aload_n 0) rfl (fun _ => rfl) ?_
    refine dp_s1 hF (i := .getfield 112) rfl (fun _ => rfl) ?_
    refine dp_s1 hF (i := .aload_n 0) rfl (fun _ => rfl) ?_
    refine dp_s1 hF (i := .getfield 602) rfl (fun _ => rfl) ?_
    refine dp_s1 hF (i := .iload_n 1) rfl (fun _ => rfl) ?_
    refine dp_s3w (dp_setI M7 147 (Int32.toNatClampNeg (dp_I M7 114 44)) v1) (fun (M8 : dp_M) => (77, [some (.ref 114), some (.int v1), some (.int v2)], [], M8)) hF (i := .iastore) rfl (fun _ => rfl) (fun M8 => ?_)
    refine dp_s1 hF (i := .aload_n 0) rfl (fun _ => rfl) ?_
    refine dp_s1 hF (i := .getfield 115) rfl (fun _ => rfl) ?_
    refine dp_s1 hF (i := .aload_n 0) rfl (fun _ => rfl) ?_
    refine dp_s1 hF (i := .getfield 602) rfl (fun _ => rfl) ?_
    refine dp_s1 hF (i := .iload_n 2) rfl (fun _ => rfl) ?_
    refine dp_s3w (dp_setI M8 148 (Int32.toNatClampNeg (dp_I M8 114 44)) v2) (fun (M9 : dp_M) => (87, [some (.ref 114), some (.int v1), some (.int v2)], [], M9)) hF (i := .iastore) rfl (fun _ => rfl) (fun M9 => ?_)
    refine dp_s1 hF (i := .aload_n 0) rfl (fun _ => rfl) ?_
    refine dp_s1 hF (i := .dup) rfl (fun _ => rfl) ?_
    refine dp_s1 hF (i := .getfield 602) rfl (fun _ => rfl) ?_
    refine dp_s1 hF (i := .iconst 1) rfl (fun _ => rfl) ?_
    refine dp_s1 hF (i := .iadd) rfl (fun _ => rfl) ?_
    refine dp_s1w (dp_setI M9 114 44 ((dp_I M9 114 44) + (1 : Int32))) (fun (M10 : dp_M) => (97, [some (.ref 114), some (.int v1), some (.int v2)], [], M10)) hF (i := .putfield 602) rfl (fun _ => rfl) (fun M10 => ?_)
    refine dp_s1 hF (i := .aload_n 0) rfl (fun _ => rfl) ?_
    refine dp_s1 hF (i := .getfield 602) rfl (fun _ => rfl) ?_
    refine dp_s1 hF (i := .iconst 1) rfl (fun _ => rfl) ?_
    refine dp_s1 hF (i := .isub) rfl (fun _ => rfl) ?_
    exact dp_s0 hF (i := .ireturn) rfl (fun _ => rfl)
  refine dp_s1 hF (i := .aload_n 0) rfl (fun _ => rfl) ?_
  refine dp_s1 hF (i := .iconst 1) rfl (fun _ => rfl) ?_
  refine dp_si (mj := dp_m_X12_refuse) (i := .invokevirtual 460) rfl rfl (Or.inl rfl) rfl (fun _ => rfl) (fun r12 M11 => ?_)
  exact dp_s0 hF (i := .ireturn) rfl (fun _ => rfl)
noncomputable def D_X12_manyIn_0 (xs : Nat → Int32) (xl d : Nat) (v1 : Int32) (M : dp_M) : Option dp_Res := dp_lim true xs xl (dp_den true xs xl d) dp_m_X12_manyIn (0, [some (.ref 114), some (.int v1), none, none], [], M)
noncomputable def D_X12_manyIn_4 (xs : Nat → Int32) (xl d : Nat) (v1 : Int32) (v2 : Int32) (v3 : Int32) (M : dp_M) : Option dp_Res := dp_lim true xs xl (dp_den true xs xl d) dp_m_X12_manyIn (4, [some (.ref 114), some (.int v1), some (.int v2), some (.int v3)], [], M)
theorem D_X12_manyIn_0_den (xs : Nat → Int32) (xl d : Nat) (a0 : Int32) (M : dp_M) : dp_den true xs xl (d + 1) 425 [.ref 114, .int a0] M = D_X12_manyIn_0 xs xl d a0 M := rfl
set_option maxRecDepth 20000 in
theorem D_X12_manyIn_0_eq (xs : Nat → Int32) (xl d : Nat) (v1 : Int32) (M : dp_M) : D_X12_manyIn_0 xs xl d v1 M = dp_w (0 : Int32) (fun y1 => dp_w (0 : Int32) (fun y2 => D_X12_manyIn_4 xs xl d v1 y1 y2 M)) := by
  have hF := dp_den_grow (md := true) (xs := xs) (xl := xl) d
  unfold D_X12_manyIn_0
  refine dp_s1 hF (i := .iconst 0) rfl (fun _ => rfl) ?_
  refine dp_s1w (0 : Int32) (fun (y1 : Int32) => (2, [some (.ref 114), some (.int v1), some (.int y1), none], [], M)) hF (i := .istore_n 2) rfl (fun _ => rfl) (fun y1 => ?_)
  refine dp_s1 hF (i := .iconst 0) rfl (fun _ => rfl) ?_
  refine dp_s1w (0 : Int32) (fun (y2 : Int32) => (4, [some (.ref 114), some (.int v1), some (.int y1), some (.int y2)], [], M)) hF (i := .istore_n 3) rfl (fun _ => rfl) (fun y2 => ?_)
  exact rfl
set_option maxRecDepth 20000 in
theorem D_X12_manyIn_4_eq (xs : Nat → Int32) (xl d : Nat) (v1 : Int32) (v2 : Int32) (v3 : Int32) (M : dp_M) : D_X12_manyIn_4 xs xl d v1 v2 v3 M = if (dp_I M 114 44) ≤ v3 then (some (.inl (some (.int v2)), M)) else (if v3 < 0 ∨ 300 ≤ Int32.toNatClampNeg v3 then none else (if (dp_I M 147 (Int32.toNatClampNeg v3)) = v1 then (dp_w (v2 + (1 : Int32)) (fun y1 => dp_w (v3 + (1 : Int32)) (fun y2 => D_X12_manyIn_4 xs xl d v1 y1 y2 M))) else (dp_w (v2 + (0 : Int32)) (fun y3 => dp_w (v3 + (1 : Int32)) (fun y4 => D_X12_manyIn_4 xs xl d v1 y3 y4 M))))) := by
  have hF := dp_den_grow (md := true) (xs := xs) (xl := xl) d
  unfold D_X12_manyIn_4
  refine dp_s1 hF (i := .iload_n 3) rfl (fun _ => rfl) ?_
  refine dp_s1 hF (i := .aload_n 0) rfl (fun _ => rfl) ?_
  refine dp_s1 hF (i := .getfield 602) rfl (fun _ => rfl) ?_
  refine dp_s2 hF (i := .if_icmp .ge 27) (a := (36, [some (.ref 114), some (.int v1), some (.int v2), some (.int v3)], [], M)) (b := (12, [some (.ref 114), some (.int v1), some (.int v2), some (.int v3)], [], M)) rfl (fun _ => rfl) ?_ ?_
  · refine dp_s1 hF (i := .iload_n 2) rfl (fun _ => rfl) ?_
    exact dp_s0 hF (i := .ireturn) rfl (fun _ => rfl)
  refine dp_s1 hF (i := .iload_n 2) rfl (fun _ => rfl) ?_
  refine dp_s1 hF (i := .aload_n 0) rfl (fun _ => rfl) ?_
  refine dp_s1 hF (i := .getfield 112) rfl (fun _ => rfl) ?_
  refine dp_s1 hF (i := .iload_n 3) rfl (fun _ => rfl) ?_
  refine dp_s3 hF (i := .iaload) rfl (fun _ => rfl) ?_
  refine dp_s1 hF (i := .iload_n 1) rfl (fun _ => rfl) ?_
  refine dp_s2 hF (i := .if_icmp .ne 7) (a := (23, [some (.ref 114), some (.int v1), some (.int v2), some (.int v3)], [.int v2], M)) (b := (27, [some (.ref 114), some (.int v1), some (.int v2), some (.int v3)], [.int v2], M)) rfl (fun _ => rfl) ?_ ?_
  · refine dp_s1 hF (i := .iconst 1) rfl (fun _ => rfl) ?_
    refine dp_s1 hF (i := .goto 4) rfl (fun _ => rfl) ?_
    refine dp_s1 hF (i := .iadd) rfl (fun _ => rfl) ?_
    refine dp_s1w (v2 + (1 : Int32)) (fun (y1 : Int32) => (30, [some (.ref 114), some (.int v1), some (.int y1), some (.int v3)], [], M)) hF (i := .istore_n 2) rfl (fun _ => rfl) (fun y1 => ?_)
    refine dp_s1w (v3 + (1 : Int32)) (fun (y2 : Int32) => (33, [some (.ref 114), some (.int v1), some (.int y1), some (.int y2)], [], M)) hF (i := .iinc 3 1) rfl (fun _ => rfl) (fun y2 => ?_)
    refine dp_s1 hF (i := .goto (-29)) rfl (fun _ => rfl) ?_
    exact rfl
  refine dp_s1 hF (i := .iconst 0) rfl (fun _ => rfl) ?_
  refine dp_s1 hF (i := .iadd) rfl (fun _ => rfl) ?_
  refine dp_s1w (v2 + (0 : Int32)) (fun (y3 : Int32) => (30, [some (.ref 114), some (.int v1), some (.int y3), some (.int v3)], [], M)) hF (i := .istore_n 2) rfl (fun _ => rfl) (fun y3 => ?_)
  refine dp_s1w (v3 + (1 : Int32)) (fun (y4 : Int32) => (33, [some (.ref 114), some (.int v1), some (.int y3), some (.int y4)], [], M)) hF (i := .iinc 3 1) rfl (fun _ => rfl) (fun y4 => ?_)
  refine dp_s1 hF (i := .goto (-29)) rfl (fun _ => rfl) ?_
  exact rfl
noncomputable def D_X12_isFree_0 (xs : Nat → Int32) (xl d : Nat) (v1 : Int32) (M : dp_M) : Option dp_Res := dp_lim true xs xl (dp_den true xs xl d) dp_m_X12_isFree (0, [some (.ref 114), some (.int v1), none, none], [], M)
noncomputable def D_X12_isFree_4 (xs : Nat → Int32) (xl d : Nat) (v1 : Int32) (v2 : Int32) (v3 : Int32) (M : dp_M) : Option dp_Res := dp_lim true xs xl (dp_den true xs xl d) dp_m_X12_isFree (4, [some (.ref 114), some (.int v1), some (.int v2), some (.int v3)], [], M)
theorem D_X12_isFree_0_den (xs : Nat → Int32) (xl d : Nat) (a0 : Int32) (M : dp_M) : dp_den true xs xl (d + 1) 426 [.ref 114, .int a0] M = D_X12_isFree_0 xs xl d a0 M := rfl
set_option maxRecDepth 20000 in
theorem D_X12_isFree_0_eq (xs : Nat → Int32) (xl d : Nat) (v1 : Int32) (M : dp_M) : D_X12_isFree_0 xs xl d v1 M = dp_w (0 : Int32) (fun y1 => dp_w (0 : Int32) (fun y2 => D_X12_isFree_4 xs xl d v1 y1 y2 M)) := by
  have hF := dp_den_grow (md := true) (xs := xs) (xl := xl) d
  unfold D_X12_isFree_0
  refine dp_s1 hF (i := .iconst 0) rfl (fun _ => rfl) ?_
  refine dp_s1w (0 : Int32) (fun (y1 : Int32) => (2, [some (.ref 114), some (.int v1), some (.int y1), none], [], M)) hF (i := .istore_n 2) rfl (fun _ => rfl) (fun y1 => ?_)
  refine dp_s1 hF (i := .iconst 0) rfl (fun _ => rfl) ?_
  refine dp_s1w (0 : Int32) (fun (y2 : Int32) => (4, [some (.ref 114), some (.int v1), some (.int y1), some (.int y2)], [], M)) hF (i := .istore_n 3) rfl (fun _ => rfl) (fun y2 => ?_)
  exact rfl
set_option maxRecDepth 20000 in
theorem D_X12_isFree_4_eq (xs : Nat → Int32) (xl d : Nat) (v1 : Int32) (v2 : Int32) (v3 : Int32) (M : dp_M) : D_X12_isFree_4 xs xl d v1 v2 v3 M = if (dp_I M 114 160) ≤ v3 then (if v2 = 0 ∨ v2 = 1 then some (.inl (some (.int v2)), M) else none) else (if v2 = 0 then (if v3 < 0 ∨ 400 ≤ Int32.toNatClampNeg v3 then none else (if (dp_I M 233 (Int32.toNatClampNeg v3)) = v1 then (if v3 < 0 ∨ 400 ≤ Int32.toNatClampNeg v3 then none else (dp_bi (dp_den true xs xl d 367 [.long (Int32.toInt64 (dp_I M 241 (Int32.toNatClampNeg v3))), .long (1 : Int64), .long (3 : Int64)] M) (fun r2 M1 => if r2 = 0 then (dp_w (0 : Int32) (fun y3 => dp_w (v3 + (1 : Int32)) (fun y4 => D_X12_isFree_4 xs xl d v1 y3 y4 M1))) else (dp_w (1 : Int32) (fun y5 => dp_w (v3 + (1 : Int32)) (fun y6 => D_X12_isFree_4 xs xl d v1 y5 y6 M1)))))) else (dp_w (0 : Int32) (fun y7 => dp_w (v3 + (1 : Int32)) (fun y8 => D_X12_isFree_4 xs xl d v1 y7 y8 M))))) else (dp_w (1 : Int32) (fun y9 => dp_w (v3 + (1 : Int32)) (fun y10 => D_X12_isFree_4 xs xl d v1 y9 y10 M)))) := by
  have hF := dp_den_grow (md := true) (xs := xs) (xl := xl) d
  unfold D_X12_isFree_4
  refine dp_s1 hF (i := .iload_n 3) rfl (fun _ => rfl) ?_
  refine dp_s1 hF (i := .aload_n 0) rfl (fun _ => rfl) ?_
  refine dp_s1 hF (i := .getfield 611) rfl (fun _ => rfl) ?_
  refine dp_s2 hF (i := .if_icmp .ge 46) (a := (55, [some (.ref 114), some (.int v1), some (.int v2), some (.int v3)], [], M)) (b := (12, [some (.ref 114), some (.int v1), some (.int v2), some (.int v3)], [], M)) rfl (fun _ => rfl) ?_ ?_
  · refine dp_s1 hF (i := .iload_n 2) rfl (fun _ => rfl) ?_
    exact dp_s0 hF (i := .ireturn) rfl (fun _ => rfl)
  refine dp_s1 hF (i := .iload_n 2) rfl (fun _ => rfl) ?_
  refine dp_s2 hF (i := .ifCond .ne 30) (a := (16, [some (.ref 114), some (.int v1), some (.int v2), some (.int v3)], [], M)) (b := (43, [some (.ref 114), some (.int v1), some (.int v2), some (.int v3)], [], M)) rfl (fun _ => rfl) ?_ ?_
  · refine dp_s1 hF (i := .aload_n 0) rfl (fun _ => rfl) ?_
    refine dp_s1 hF (i := .getfield 380) rfl (fun _ => rfl) ?_
    refine dp_s1 hF (i := .iload_n 3) rfl (fun _ => rfl) ?_
    refine dp_s3 hF (i := .iaload) rfl (fun _ => rfl) ?_
    refine dp_s1 hF (i := .iload_n 1) rfl (fun _ => rfl) ?_
    refine dp_s2 hF (i := .if_icmp .ne 24) (a := (26, [some (.ref 114), some (.int v1), some (.int v2), some (.int v3)], [], M)) (b := (47, [some (.ref 114), some (.int v1), some (.int v2), some (.int v3)], [], M)) rfl (fun _ => rfl) ?_ ?_
    · refine dp_s1 hF (i := .aload_n 0) rfl (fun _ => rfl) ?_
      refine dp_s1 hF (i := .getfield 404) rfl (fun _ => rfl) ?_
      refine dp_s1 hF (i := .iload_n 3) rfl (fun _ => rfl) ?_
      refine dp_s3 hF (i := .iaload) rfl (fun _ => rfl) ?_
      refine dp_s1 hF (i := .i2l) rfl (fun _ => rfl) ?_
      refine dp_s1 hF (i := .lconst 1) rfl (fun _ => rfl) ?_
      refine dp_s1 hF (i := .ldc2_w 529) rfl (fun _ => rfl) ?_
      refine dp_si (mj := dp_m_X12_in) (i := .invokestatic 446) rfl rfl (Or.inr rfl) rfl (fun _ => rfl) (fun r2 M1 => ?_)
      refine dp_s2 hF (i := .ifCond .eq 7) (a := (47, [some (.ref 114), some (.int v1), some (.int v2), some (.int v3)], [], M1)) (b := (43, [some (.ref 114), some (.int v1), some (.int v2), some (.int v3)], [], M1)) rfl (fun _ => rfl) ?_ ?_
      · refine dp_s1 hF (i := .iconst 0) rfl (fun _ => rfl) ?_
        refine dp_s1w (0 : Int32) (fun (y3 : Int32) => (49, [some (.ref 114), some (.int v1), some (.int y3), some (.int v3)], [], M1)) hF (i := .istore_n 2) rfl (fun _ => rfl) (fun y3 => ?_)
        refine dp_s1w (v3 + (1 : Int32)) (fun (y4 : Int32) => (52, [some (.ref 114), some (.int v1), some (.int y3), some (.int y4)], [], M1)) hF (i := .iinc 3 1) rfl (fun _ => rfl) (fun y4 => ?_)
        refine dp_s1 hF (i := .goto (-48)) rfl (fun _ => rfl) ?_
        exact rfl
      refine dp_s1 hF (i := .iconst 1) rfl (fun _ => rfl) ?_
      refine dp_s1 hF (i := .goto 4) rfl (fun _ => rfl) ?_
      refine dp_s1w (1 : Int32) (fun (y5 : Int32) => (49, [some (.ref 114), some (.int v1), some (.int y5), some (.int v3)], [], M1)) hF (i := .istore_n 2) rfl (fun _ => rfl) (fun y5 => ?_)
      refine dp_s1w (v3 + (1 : Int32)) (fun (y6 : Int32) => (52, [some (.ref 114), some (.int v1), some (.int y5), some (.int y6)], [], M1)) hF (i := .iinc 3 1) rfl (fun _ => rfl) (fun y6 => ?_)
      refine dp_s1 hF (i := .goto (-48)) rfl (fun _ => rfl) ?_
      exact rfl
    refine dp_s1 hF (i := .iconst 0) rfl (fun _ => rfl) ?_
    refine dp_s1w (0 : Int32) (fun (y7 : Int32) => (49, [some (.ref 114), some (.int v1), some (.int y7), some (.int v3)], [], M)) hF (i := .istore_n 2) rfl (fun _ => rfl) (fun y7 => ?_)
    refine dp_s1w (v3 + (1 : Int32)) (fun (y8 : Int32) => (52, [some (.ref 114), some (.int v1), some (.int y7), some (.int y8)], [], M)) hF (i := .iinc 3 1) rfl (fun _ => rfl) (fun y8 => ?_)
    refine dp_s1 hF (i := .goto (-48)) rfl (fun _ => rfl) ?_
    exact rfl
  refine dp_s1 hF (i := .iconst 1) rfl (fun _ => rfl) ?_
  refine dp_s1 hF (i := .goto 4) rfl (fun _ => rfl) ?_
  refine dp_s1w (1 : Int32) (fun (y9 : Int32) => (49, [some (.ref 114), some (.int v1), some (.int y9), some (.int v3)], [], M)) hF (i := .istore_n 2) rfl (fun _ => rfl) (fun y9 => ?_)
  refine dp_s1w (v3 + (1 : Int32)) (fun (y10 : Int32) => (52, [some (.ref 114), some (.int v1), some (.int y9), some (.int y10)], [], M)) hF (i := .iinc 3 1) rfl (fun _ => rfl) (fun y10 => ?_)
  refine dp_s1 hF (i := .goto (-48)) rfl (fun _ => rfl) ?_
  exact rfl
noncomputable def D_X12_ownBar_0 (xs : Nat → Int32) (xl d : Nat) (v1 : Int32) (M : dp_M) : Option dp_Res := dp_lim true xs xl (dp_den true xs xl d) dp_m_X12_ownBar (0, [some (.ref 114), some (.int v1), none, none], [], M)
noncomputable def D_X12_ownBar_4 (xs : Nat → Int32) (xl d : Nat) (v1 : Int32) (v2 : Int32) (v3 : Int32) (M : dp_M) : Option dp_Res := dp_lim true xs xl (dp_den true xs xl d) dp_m_X12_ownBar (4, [some (.ref 114), some (.int v1), some (.int v2), some (.int v3)], [], M)
theorem D_X12_ownBar_0_den (xs : Nat → Int32) (xl d : Nat) (a0 : Int32) (M : dp_M) : dp_den true xs xl (d + 1) 427 [.ref 114, .int a0] M = D_X12_ownBar_0 xs xl d a0 M := rfl
set_option maxRecDepth 20000 in
theorem D_X12_ownBar_0_eq (xs : Nat → Int32) (xl d : Nat) (v1 : Int32) (M : dp_M) : D_X12_ownBar_0 xs xl d v1 M = dp_w (1 : Int32) (fun y1 => dp_w (0 : Int32) (fun y2 => D_X12_ownBar_4 xs xl d v1 y1 y2 M)) := by
  have hF := dp_den_grow (md := true) (xs := xs) (xl := xl) d
  unfold D_X12_ownBar_0
  refine dp_s1 hF (i := .iconst 1) rfl (fun _ => rfl) ?_
  refine dp_s1w (1 : Int32) (fun (y1 : Int32) => (2, [some (.ref 114), some (.int v1), some (.int y1), none], [], M)) hF (i := .istore_n 2) rfl (fun _ => rfl) (fun y1 => ?_)
  refine dp_s1 hF (i := .iconst 0) rfl (fun _ => rfl) ?_
  refine dp_s1w (0 : Int32) (fun (y2 : Int32) => (4, [some (.ref 114), some (.int v1), some (.int y1), some (.int y2)], [], M)) hF (i := .istore_n 3) rfl (fun _ => rfl) (fun y2 => ?_)
  exact rfl
set_option maxRecDepth 20000 in
theorem D_X12_ownBar_4_eq (xs : Nat → Int32) (xl d : Nat) (v1 : Int32) (v2 : Int32) (v3 : Int32) (M : dp_M) : D_X12_ownBar_4 xs xl d v1 v2 v3 M = if (dp_I M 114 44) ≤ v3 then (dp_bi (dp_den true xs xl d 425 [.ref 114, .int v1] M) (fun r2 M1 => if r2 = 0 then (some (.inl (some (.int (10 : Int32))), M1)) else (if v2 = 0 then (some (.inl (some (.int (11 : Int32))), M1)) else (some (.inl (some (.int (0 : Int32))), M1))))) else (if v2 = 0 then (dp_w (0 : Int32) (fun y3 => dp_w (v3 + (1 : Int32)) (fun y4 => D_X12_ownBar_4 xs xl d v1 y3 y4 M))) else (if v3 < 0 ∨ 300 ≤ Int32.toNatClampNeg v3 then none else (if (dp_I M 147 (Int32.toNatClampNeg v3)) = v1 then (dp_bi (dp_den true xs xl d 426 [.ref 114, .int v3] M) (fun r6 M5 => if r6 = 0 then (dp_w (0 : Int32) (fun y7 => dp_w (v3 + (1 : Int32)) (fun y8 => D_X12_ownBar_4 xs xl d v1 y7 y8 M5))) else (dp_w (1 : Int32) (fun y9 => dp_w (v3 + (1 : Int32)) (fun y10 => D_X12_ownBar_4 xs xl d v1 y9 y10 M5))))) else (dp_w (1 : Int32) (fun y11 => dp_w (v3 + (1 : Int32)) (fun y12 => D_X12_ownBar_4 xs xl d v1 y11 y12 M)))))) := by
  have hF := dp_den_grow (md := true) (xs := xs) (xl := xl) d
  unfold D_X12_ownBar_4
  refine dp_s1 hF (i := .iload_n 3) rfl (fun _ => rfl) ?_
  refine dp_s1 hF (i := .aload_n 0) rfl (fun _ => rfl) ?_
  refine dp_s1 hF (i := .getfield 602) rfl (fun _ => rfl) ?_
  refine dp_s2 hF (i := .if_icmp .ge 37) (a := (46, [some (.ref 114), some (.int v1), some (.int v2), some (.int v3)], [], M)) (b := (12, [some (.ref 114), some (.int v1), some (.int v2), some (.int v3)], [], M)) rfl (fun _ => rfl) ?_ ?_
  · refine dp_s1 hF (i := .aload_n 0) rfl (fun _ => rfl) ?_
    refine dp_s1 hF (i := .iload_n 1) rfl (fun _ => rfl) ?_
    refine dp_si (mj := dp_m_X12_manyIn) (i := .invokevirtual 617) rfl rfl (Or.inl rfl) rfl (fun _ => rfl) (fun r2 M1 => ?_)
    refine dp_s2 hF (i := .ifCond .ne 8) (a := (54, [some (.ref 114), some (.int v1), some (.int v2), some (.int v3)], [], M1)) (b := (59, [some (.ref 114), some (.int v1), some (.int v2), some (.int v3)], [], M1)) rfl (fun _ => rfl) ?_ ?_
    · refine dp_s1 hF (i := .bipush 10) rfl (fun _ => rfl) ?_
      refine dp_s1 hF (i := .goto 13) rfl (fun _ => rfl) ?_
      exact dp_s0 hF (i := .ireturn) rfl (fun _ => rfl)
    refine dp_s1 hF (i := .iload_n 2) rfl (fun _ => rfl) ?_
    refine dp_s2 hF (i := .ifCond .eq 7) (a := (67, [some (.ref 114), some (.int v1), some (.int v2), some (.int v3)], [], M1)) (b := (63, [some (.ref 114), some (.int v1), some (.int v2), some (.int v3)], [], M1)) rfl (fun _ => rfl) ?_ ?_
    · refine dp_s1 hF (i := .bipush 11) rfl (fun _ => rfl) ?_
      exact dp_s0 hF (i := .ireturn) rfl (fun _ => rfl)
    refine dp_s1 hF (i := .iconst 0) rfl (fun _ => rfl) ?_
    refine dp_s1 hF (i := .goto 5) rfl (fun _ => rfl) ?_
    exact dp_s0 hF (i := .ireturn) rfl (fun _ => rfl)
  refine dp_s1 hF (i := .iload_n 2) rfl (fun _ => rfl) ?_
  refine dp_s2 hF (i := .ifCond .eq 25) (a := (38, [some (.ref 114), some (.int v1), some (.int v2), some (.int v3)], [], M)) (b := (16, [some (.ref 114), some (.int v1), some (.int v2), some (.int v3)], [], M)) rfl (fun _ => rfl) ?_ ?_
  · refine dp_s1 hF (i := .iconst 0) rfl (fun _ => rfl) ?_
    refine dp_s1w (0 : Int32) (fun (y3 : Int32) => (40, [some (.ref 114), some (.int v1), some (.int y3), some (.int v3)], [], M)) hF (i := .istore_n 2) rfl (fun _ => rfl) (fun y3 => ?_)
    refine dp_s1w (v3 + (1 : Int32)) (fun (y4 : Int32) => (43, [some (.ref 114), some (.int v1), some (.int y3), some (.int y4)], [], M)) hF (i := .iinc 3 1) rfl (fun _ => rfl) (fun y4 => ?_)
    refine dp_s1 hF (i := .goto (-39)) rfl (fun _ => rfl) ?_
    exact rfl
  refine dp_s1 hF (i := .aload_n 0) rfl (fun _ => rfl) ?_
  refine dp_s1 hF (i := .getfield 112) rfl (fun _ => rfl) ?_
  refine dp_s1 hF (i := .iload_n 3) rfl (fun _ => rfl) ?_
  refine dp_s3 hF (i := .iaload) rfl (fun _ => rfl) ?_
  refine dp_s1 hF (i := .iload_n 1) rfl (fun _ => rfl) ?_
  refine dp_s2 hF (i := .if_icmp .ne 11) (a := (26, [some (.ref 114), some (.int v1), some (.int v2), some (.int v3)], [], M)) (b := (34, [some (.ref 114), some (.int v1), some (.int v2), some (.int v3)], [], M)) rfl (fun _ => rfl) ?_ ?_
  · refine dp_s1 hF (i := .aload_n 0) rfl (fun _ => rfl) ?_
    refine dp_s1 hF (i := .iload_n 3) rfl (fun _ => rfl) ?_
    refine dp_si (mj := dp_m_X12_isFree) (i := .invokevirtual 614) rfl rfl (Or.inr rfl) rfl (fun _ => rfl) (fun r6 M5 => ?_)
    refine dp_s2 hF (i := .ifCond .eq 7) (a := (38, [some (.ref 114), some (.int v1), some (.int v2), some (.int v3)], [], M5)) (b := (34, [some (.ref 114), some (.int v1), some (.int v2), some (.int v3)], [], M5)) rfl (fun _ => rfl) ?_ ?_
    · refine dp_s1 hF (i := .iconst 0) rfl (fun _ => rfl) ?_
      refine dp_s1w (0 : Int32) (fun (y7 : Int32) => (40, [some (.ref 114), some (.int v1), some (.int y7), some (.int v3)], [], M5)) hF (i := .istore_n 2) rfl (fun _ => rfl) (fun y7 => ?_)
      refine dp_s1w (v3 + (1 : Int32)) (fun (y8 : Int32) => (43, [some (.ref 114), some (.int v1), some (.int y7), some (.int y8)], [], M5)) hF (i := .iinc 3 1) rfl (fun _ => rfl) (fun y8 => ?_)
      refine dp_s1 hF (i := .goto (-39)) rfl (fun _ => rfl) ?_
      exact rfl
    refine dp_s1 hF (i := .iconst 1) rfl (fun _ => rfl) ?_
    refine dp_s1 hF (i := .goto 4) rfl (fun _ => rfl) ?_
    refine dp_s1w (1 : Int32) (fun (y9 : Int32) => (40, [some (.ref 114), some (.int v1), some (.int y9), some (.int v3)], [], M5)) hF (i := .istore_n 2) rfl (fun _ => rfl) (fun y9 => ?_)
    refine dp_s1w (v3 + (1 : Int32)) (fun (y10 : Int32) => (43, [some (.ref 114), some (.int v1), some (.int y9), some (.int y10)], [], M5)) hF (i := .iinc 3 1) rfl (fun _ => rfl) (fun y10 => ?_)
    refine dp_s1 hF (i := .goto (-39)) rfl (fun _ => rfl) ?_
    exact rfl
  refine dp_s1 hF (i := .iconst 1) rfl (fun _ => rfl) ?_
  refine dp_s1 hF (i := .goto 4) rfl (fun _ => rfl) ?_
  refine dp_s1w (1 : Int32) (fun (y11 : Int32) => (40, [some (.ref 114), some (.int v1), some (.int y11), some (.int v3)], [], M)) hF (i := .istore_n 2) rfl (fun _ => rfl) (fun y11 => ?_)
  refine dp_s1w (v3 + (1 : Int32)) (fun (y12 : Int32) => (43, [some (.ref 114), some (.int v1), some (.int y11), some (.int y12)], [], M)) hF (i := .iinc 3 1) rfl (fun _ => rfl) (fun y12 => ?_)
  refine dp_s1 hF (i := .goto (-39)) rfl (fun _ => rfl) ?_
  exact rfl
noncomputable def D_X12_bar_0 (xs : Nat → Int32) (xl d : Nat) (v1 : Int32) (v2 : Int32) (v3 : Int32) (v4 : Int32) (M : dp_M) : Option dp_Res := dp_lim true xs xl (dp_den true xs xl d) dp_m_X12_bar (0, [some (.ref 114), some (.int v1), some (.int v2), some (.int v3), some (.int v4), none], [], M)
theorem D_X12_bar_0_den (xs : Nat → Int32) (xl d : Nat) (a0 : Int32) (a1 : Int32) (a2 : Int32) (a3 : Int32) (M : dp_M) : dp_den true xs xl (d + 1) 428 [.ref 114, .int a0, .int a1, .int a2, .int a3] M = D_X12_bar_0 xs xl d a0 a1 a2 a3 M := rfl
set_option maxRecDepth 20000 in
theorem D_X12_bar_0_eq (xs : Nat → Int32) (xl d : Nat) (v1 : Int32) (v2 : Int32) (v3 : Int32) (v4 : Int32) (M : dp_M) : D_X12_bar_0 xs xl d v1 v2 v3 v4 M = dp_bi (dp_den true xs xl d 367 [.long (Int32.toInt64 v1), .long (0 : Int64), .long (3 : Int64)] M) (fun r2 M1 => if r2 = 0 then (dp_bi (dp_den true xs xl d 366 [.ref 114, .int (1 : Int32)] M1) (fun r4 M3 => some (.inl (some (.int r4)), M3))) else (dp_bi (dp_den true xs xl d 371 [.ref 114, .int v2] M1) (fun r6 M5 => if r6 = 0 then (dp_bi (dp_den true xs xl d 366 [.ref 114, .int (1 : Int32)] M5) (fun r8 M7 => some (.inl (some (.int r8)), M7))) else (dp_bi (dp_den true xs xl d 367 [.long (Int32.toInt64 v3), .long (0 : Int64), .long (9 : Int64)] M5) (fun r10 M9 => if r10 = 0 then (dp_bi (dp_den true xs xl d 366 [.ref 114, .int (1 : Int32)] M9) (fun r12 M11 => some (.inl (some (.int r12)), M11))) else (dp_bi (dp_den true xs xl d 367 [.long (Int32.toInt64 v4), .long (0 : Int64), .long (15 : Int64)] M9) (fun r14 M13 => if r14 = 0 then (dp_bi (dp_den true xs xl d 366 [.ref 114, .int (1 : Int32)] M13) (fun r16 M15 => some (.inl (some (.int r16)), M15))) else (dp_w (dp_setI M13 114 0 (0 : Int32)) (fun M17 => dp_w ((((40 : Int32) * v2) + ((10 : Int32) * v1)) + v3) (fun y18 => if y18 < 0 ∨ 4000 ≤ Int32.toNatClampNeg y18 then none else (if y18 < 0 ∨ 4000 ≤ Int32.toNatClampNeg y18 then none else dp_w (dp_setI M17 149 (Int32.toNatClampNeg y18) ((dp_I M17 149 (Int32.toNatClampNeg y18)) + (1 : Int32))) (fun M19 => if y18 < 0 ∨ 4000 ≤ Int32.toNatClampNeg y18 then none else dp_w (dp_setI M19 150 (Int32.toNatClampNeg y18) v4) (fun M20 => if y18 < 0 ∨ 4000 ≤ Int32.toNatClampNeg y18 then none else (if (dp_I M20 149 (Int32.toNatClampNeg y18)) = (1 : Int32) then (dp_bv (dp_den true xs xl d 422 [.ref 114, .int v2, .int (0 : Int32)] M20) (fun M21 => if y18 < 0 ∨ 4000 ≤ Int32.toNatClampNeg y18 then none else (some (.inl (some (.int (dp_I M21 149 (Int32.toNatClampNeg y18)))), M21)))) else (if y18 < 0 ∨ 4000 ≤ Int32.toNatClampNeg y18 then none else (some (.inl (some (.int (dp_I M20 149 (Int32.toNatClampNeg y18)))), M20))))))))))))))))) := by
  have hF := dp_den_grow (md := true) (xs := xs) (xl := xl) d
  unfold D_X12_bar_0
  refine dp_s1 hF (i := .iload_n 1) rfl (fun _ => rfl) ?_
  refine dp_s1 hF (i := .i2l) rfl (fun _ => rfl) ?_
  refine dp_s1 hF (i := .lconst 0) rfl (fun _ => rfl) ?_
  refine dp_s1 hF (i := .ldc2_w 529) rfl (fun _ => rfl) ?_
  refine dp_si (mj := dp_m_X12_in) (i := .invokestatic 446) rfl rfl (Or.inr rfl) rfl (fun _ => rfl) (fun r2 M1 => ?_)
  refine dp_s2 hF (i := .ifCond .eq 36) (a := (45, [some (.ref 114), some (.int v1), some (.int v2), some (.int v3), some (.int v4), none], [], M1)) (b := (12, [some (.ref 114), some (.int v1), some (.int v2), some (.int v3), some (.int v4), none], [], M1)) rfl (fun _ => rfl) ?_ ?_
  · refine dp_s1 hF (i := .aload_n 0) rfl (fun _ => rfl) ?_
    refine dp_s1 hF (i := .iconst 1) rfl (fun _ => rfl) ?_
    refine dp_si (mj := dp_m_X12_refuse) (i := .invokevirtual 460) rfl rfl (Or.inl rfl) rfl (fun _ => rfl) (fun r4 M3 => ?_)
    exact dp_s0 hF (i := .ireturn) rfl (fun _ => rfl)
  refine dp_s1 hF (i := .aload_n 0) rfl (fun _ => rfl) ?_
  refine dp_s1 hF (i := .iload_n 2) rfl (fun _ => rfl) ?_
  refine dp_si (mj := dp_m_X12_isBox) (i := .invokevirtual 470) rfl rfl (Or.inr rfl) rfl (fun _ => rfl) (fun r6 M5 => ?_)
  refine dp_s2 hF (i := .ifCond .eq 28) (a := (45, [some (.ref 114), some (.int v1), some (.int v2), some (.int v3), some (.int v4), none], [], M5)) (b := (20, [some (.ref 114), some (.int v1), some (.int v2), some (.int v3), some (.int v4), none], [], M5)) rfl (fun _ => rfl) ?_ ?_
  · refine dp_s1 hF (i := .aload_n 0) rfl (fun _ => rfl) ?_
    refine dp_s1 hF (i := .iconst 1) rfl (fun _ => rfl) ?_
    refine dp_si (mj := dp_m_X12_refuse) (i := .invokevirtual 460) rfl rfl (Or.inl rfl) rfl (fun _ => rfl) (fun r8 M7 => ?_)
    exact dp_s0 hF (i := .ireturn) rfl (fun _ => rfl)
  refine dp_s1 hF (i := .iload_n 3) rfl (fun _ => rfl) ?_
  refine dp_s1 hF (i := .i2l) rfl (fun _ => rfl) ?_
  refine dp_s1 hF (i := .lconst 0) rfl (fun _ => rfl) ?_
  refine dp_s1 hF (i := .ldc2_w 458) rfl (fun _ => rfl) ?_
  refine dp_si (mj := dp_m_X12_in) (i := .invokestatic 446) rfl rfl (Or.inr rfl) rfl (fun _ => rfl) (fun r10 M9 => ?_)
  refine dp_s2 hF (i := .ifCond .eq 16) (a := (45, [some (.ref 114), some (.int v1), some (.int v2), some (.int v3), some (.int v4), none], [], M9)) (b := (32, [some (.ref 114), some (.int v1), some (.int v2), some (.int v3), some (.int v4), none], [], M9)) rfl (fun _ => rfl) ?_ ?_
  · refine dp_s1 hF (i := .aload_n 0) rfl (fun _ => rfl) ?_
    refine dp_s1 hF (i := .iconst 1) rfl (fun _ => rfl) ?_
    refine dp_si (mj := dp_m_X12_refuse) (i := .invokevirtual 460) rfl rfl (Or.inl rfl) rfl (fun _ => rfl) (fun r12 M11 => ?_)
    exact dp_s0 hF (i := .ireturn) rfl (fun _ => rfl)
  refine dp_s1 hF (i := .iload 4) rfl (fun _ => rfl) ?_
  refine dp_s1 hF (i := .i2l) rfl (fun _ => rfl) ?_
  refine dp_s1 hF (i := .lconst 0) rfl (fun _ => rfl) ?_
  refine dp_s1 hF (i := .ldc2_w 483) rfl (fun _ => rfl) ?_
  refine dp_si (mj := dp_m_X12_in) (i := .invokestatic 446) rfl rfl (Or.inr rfl) rfl (fun _ => rfl) (fun r14 M13 => ?_)
  refine dp_s2 hF (i := .ifCond .ne 9) (a := (45, [some (.ref 114), some (.int v1), some (.int v2), some (.int v3), some (.int v4), none], [], M13)) (b := (51, [some (.ref 114), some (.int v1), some (.int v2), some (.int v3), some (.int v4), none], [], M13)) rfl (fun _ => rfl) ?_ ?_
  · refine dp_s1 hF (i := .aload_n 0) rfl (fun _ => rfl) ?_
    refine dp_s1 hF (i := .iconst 1) rfl (fun _ => rfl) ?_
    refine dp_si (mj := dp_m_X12_refuse) (i := .invokevirtual 460) rfl rfl (Or.inl rfl) rfl (fun _ => rfl) (fun r16 M15 => ?_)
    exact dp_s0 hF (i := .ireturn) rfl (fun _ => rfl)
  refine dp_s1 hF (i := .aload_n 0) rfl (fun _ => rfl) ?_
  refine dp_s1 hF (i := .iconst 0) rfl (fun _ => rfl) ?_
  refine dp_s1w (dp_setI M13 114 0 (0 : Int32)) (fun (M17 : dp_M) => (56, [some (.ref 114), some (.int v1), some (.int v2), some (.int v3), some (.int v4), none], [], M17)) hF (i := .putfield 1) rfl (fun _ => rfl) (fun M17 => ?_)
  refine dp_s1 hF (i := .bipush 40) rfl (fun _ => rfl) ?_
  refine dp_s1 hF (i := .iload_n 2) rfl (fun _ => rfl) ?_
  refine dp_s1 hF (i := .imul) rfl (fun _ => rfl) ?_
  refine dp_s1 hF (i := .bipush 10) rfl (fun _ => rfl) ?_
  refine dp_s1 hF (i := .iload_n 1) rfl (fun _ => rfl) ?_
  refine dp_s1 hF (i := .imul) rfl (fun _ => rfl) ?_
  refine dp_s1 hF (i := .iadd) rfl (fun _ => rfl) ?_
  refine dp_s1 hF (i := .iload_n 3) rfl (fun _ => rfl) ?_
  refine dp_s1 hF (i := .iadd) rfl (fun _ => rfl) ?_
  refine dp_s1w ((((40 : Int32) * v2) + ((10 : Int32) * v1)) + v3) (fun (y18 : Int32) => (69, [some (.ref 114), some (.int v1), some (.int v2), some (.int v3), some (.int v4), some (.int y18)], [], M17)) hF (i := .istore 5) rfl (fun _ => rfl) (fun y18 => ?_)
  refine dp_s1 hF (i := .aload_n 0) rfl (fun _ => rfl) ?_
  refine dp_s1 hF (i := .getfield 118) rfl (fun _ => rfl) ?_
  refine dp_s1 hF (i := .iload 5) rfl (fun _ => rfl) ?_
  refine dp_s1 hF (i := .dup2) rfl (fun _ => rfl) ?_
  refine dp_s3 hF (i := .iaload) rfl (fun _ => rfl) ?_
  refine dp_s1 hF (i := .iconst 1) rfl (fun _ => rfl) ?_
  refine dp_s1 hF (i := .iadd) rfl (fun _ => rfl) ?_
  refine dp_s3w (dp_setI M17 149 (Int32.toNatClampNeg y18) ((dp_I M17 149 (Int32.toNatClampNeg y18)) + (1 : Int32))) (fun (M19 : dp_M) => (80, [some (.ref 114), some (.int v1), some (.int v2), some (.int v3), some (.int v4), some (.int y18)], [], M19)) hF (i := .iastore) rfl (fun _ => rfl) (fun M19 => ?_)
  refine dp_s1 hF (i := .aload_n 0) rfl (fun _ => rfl) ?_
  refine dp_s1 hF (i := .getfield 121) rfl (fun _ => rfl) ?_
  refine dp_s1 hF (i := .iload 5) rfl (fun _ => rfl) ?_
  refine dp_s1 hF (i := .iload 4) rfl (fun _ => rfl) ?_
  refine dp_s3w (dp_setI M19 150 (Int32.toNatClampNeg y18) v4) (fun (M20 : dp_M) => (89, [some (.ref 114), some (.int v1), some (.int v2), some (.int v3), some (.int v4), some (.int y18)], [], M20)) hF (i := .iastore) rfl (fun _ => rfl) (fun M20 => ?_)
  refine dp_s1 hF (i := .aload_n 0) rfl (fun _ => rfl) ?_
  refine dp_s1 hF (i := .getfield 118) rfl (fun _ => rfl) ?_
  refine dp_s1 hF (i := .iload 5) rfl (fun _ => rfl) ?_
  refine dp_s3 hF (i := .iaload) rfl (fun _ => rfl) ?_
  refine dp_s1 hF (i := .iconst 1) rfl (fun _ => rfl) ?_
  refine dp_s2 hF (i := .if_icmp .ne 9) (a := (100, [some (.ref 114), some (.int v1), some (.int v2), some (.int v3), some (.int v4), some (.int y18)], [], M20)) (b := (106, [some (.ref 114), some (.int v1), some (.int v2), some (.int v3), some (.int v4), some (.int y18)], [], M20)) rfl (fun _ => rfl) ?_ ?_
  · refine dp_s1 hF (i := .aload_n 0) rfl (fun _ => rfl) ?_
    refine dp_s1 hF (i := .iload_n 2) rfl (fun _ => rfl) ?_
    refine dp_s1 hF (i := .iconst 0) rfl (fun _ => rfl) ?_
    refine dp_sv (mj := dp_m_X12_tells) (i := .invokevirtual 620) rfl rfl rfl rfl (fun _ => rfl) (fun M21 => ?_)
    refine dp_s1 hF (i := .aload_n 0) rfl (fun _ => rfl) ?_
    refine dp_s1 hF (i := .getfield 118) rfl (fun _ => rfl) ?_
    refine dp_s1 hF (i := .iload 5) rfl (fun _ => rfl) ?_
    refine dp_s3 hF (i := .iaload) rfl (fun _ => rfl) ?_
    exact dp_s0 hF (i := .ireturn) rfl (fun _ => rfl)
  refine dp_s1 hF (i := .aload_n 0) rfl (fun _ => rfl) ?_
  refine dp_s1 hF (i := .getfield 118) rfl (fun _ => rfl) ?_
  refine dp_s1 hF (i := .iload 5) rfl (fun _ => rfl) ?_
  refine dp_s3 hF (i := .iaload) rfl (fun _ => rfl) ?_
  exact dp_s0 hF (i := .ireturn) rfl (fun _ => rfl)
noncomputable def D_X12_lift_0 (xs : Nat → Int32) (xl d : Nat) (v1 : Int32) (v2 : Int32) (v3 : Int32) (v4 : Int32) (M : dp_M) : Option dp_Res := dp_lim true xs xl (dp_den true xs xl d) dp_m_X12_lift (0, [some (.ref 114), some (.int v1), some (.int v2), some (.int v3), some (.int v4), none], [], M)
theorem D_X12_lift_0_den (xs : Nat → Int32) (xl d : Nat) (a0 : Int32) (a1 : Int32) (a2 : Int32) (a3 : Int32) (M : dp_M) : dp_den true xs xl (d + 1) 429 [.ref 114, .int a0, .int a1, .int a2, .int a3] M = D_X12_lift_0 xs xl d a0 a1 a2 a3 M := rfl
set_option maxRecDepth 20000 in
theorem D_X12_lift_0_eq (xs : Nat → Int32) (xl d : Nat) (v1 : Int32) (v2 : Int32) (v3 : Int32) (v4 : Int32) (M : dp_M) : D_X12_lift_0 xs xl d v1 v2 v3 v4 M = dp_bi (dp_den true xs xl d 367 [.long (Int32.toInt64 v1), .long (0 : Int64), .long (3 : Int64)] M) (fun r2 M1 => if r2 = 0 then (dp_bi (dp_den true xs xl d 366 [.ref 114, .int (1 : Int32)] M1) (fun r4 M3 => some (.inl (some (.int r4)), M3))) else (dp_bi (dp_den true xs xl d 371 [.ref 114, .int v2] M1) (fun r6 M5 => if r6 = 0 then (dp_bi (dp_den true xs xl d 366 [.ref 114, .int (1 : Int32)] M5) (fun r8 M7 => some (.inl (some (.int r8)), M7))) else (dp_bi (dp_den true xs xl d 367 [.long (Int32.toInt64 v3), .long (0 : Int64), .long (9 : Int64)] M5) (fun r10 M9 => if r10 = 0 then (dp_bi (dp_den true xs xl d 366 [.ref 114, .int (1 : Int32)] M9) (fun r12 M11 => some (.inl (some (.int r12)), M11))) else (dp_bi (dp_den true xs xl d 367 [.long (Int32.toInt64 v4), .long (0 : Int64), .long (65535 : Int64)] M9) (fun r14 M13 => if r14 = 0 then (dp_bi (dp_den true xs xl d 366 [.ref 114, .int (1 : Int32)] M13) (fun r16 M15 => some (.inl (some (.int r16)), M15))) else (dp_w (dp_setI M13 114 0 (0 : Int32)) (fun M17 => dp_w ((((40 : Int32) * v2) + ((10 : Int32) * v1)) + v3) (fun y18 => if y18 < 0 ∨ 4000 ≤ Int32.toNatClampNeg y18 then none else (if (dp_I M17 149 (Int32.toNatClampNeg y18)) = 0 then (some (.inl (some (.int (-1 : Int32))), M17)) else (if y18 < 0 ∨ 4000 ≤ Int32.toNatClampNeg y18 then none else (if ((v4 >>> ((dp_I M17 150 (Int32.toNatClampNeg y18)) &&& 31)) &&& (1 : Int32)) = 0 then (some (.inl (some (.int (-1 : Int32))), M17)) else (if y18 < 0 ∨ 4000 ≤ Int32.toNatClampNeg y18 then none else (if y18 < 0 ∨ 4000 ≤ Int32.toNatClampNeg y18 then none else dp_w (dp_setI M17 149 (Int32.toNatClampNeg y18) ((dp_I M17 149 (Int32.toNatClampNeg y18)) - (1 : Int32))) (fun M19 => if y18 < 0 ∨ 4000 ≤ Int32.toNatClampNeg y18 then none else (if (dp_I M19 149 (Int32.toNatClampNeg y18)) = 0 then (dp_bv (dp_den true xs xl d 422 [.ref 114, .int v2, .int (1 : Int32)] M19) (fun M20 => if y18 < 0 ∨ 4000 ≤ Int32.toNatClampNeg y18 then none else (some (.inl (some (.int (dp_I M20 149 (Int32.toNatClampNeg y18)))), M20)))) else (if y18 < 0 ∨ 4000 ≤ Int32.toNatClampNeg y18 then none else (some (.inl (some (.int (dp_I M19 149 (Int32.toNatClampNeg y18)))), M19)))))))))))))))))))) := by
  have hF := dp_den_grow (md := true) (xs := xs) (xl := xl) d
  unfold D_X12_lift_0
  refine dp_s1 hF (i := .iload_n 1) rfl (fun _ => rfl) ?_
  refine dp_s1 hF (i := .i2l) rfl (fun _ => rfl) ?_
  refine dp_s1 hF (i := .lconst 0) rfl (fun _ => rfl) ?_
  refine dp_s1 hF (i := .ldc2_w 529) rfl (fun _ => rfl) ?_
  refine dp_si (mj := dp_m_X12_in) (i := .invokestatic 446) rfl rfl (Or.inr rfl) rfl (fun _ => rfl) (fun r2 M1 => ?_)
  refine dp_s2 hF (i := .ifCond .eq 36) (a := (45, [some (.ref 114), some (.int v1), some (.int v2), some (.int v3), some (.int v4), none], [], M1)) (b := (12, [some (.ref 114), some (.int v1), some (.int v2), some (.int v3), some (.int v4), none], [], M1)) rfl (fun _ => rfl) ?_ ?_
  · refine dp_s1 hF (i := .aload_n 0) rfl (fun _ => rfl) ?_
    refine dp_s1 hF (i := .iconst 1) rfl (fun _ => rfl) ?_
    refine dp_si (mj := dp_m_X12_refuse) (i := .invokevirtual 460) rfl rfl (Or.inl rfl) rfl (fun _ => rfl) (fun r4 M3 => ?_)
    exact dp_s0 hF (i := .ireturn) rfl (fun _ => rfl)
  refine dp_s1 hF (i := .aload_n 0) rfl (fun _ => rfl) ?_
  refine dp_s1 hF (i := .iload_n 2) rfl (fun _ => rfl) ?_
  refine dp_si (mj := dp_m_X12_isBox) (i := .invokevirtual 470) rfl rfl (Or.inr rfl) rfl (fun _ => rfl) (fun r6 M5 => ?_)
  refine dp_s2 hF (i := .ifCond .eq 28) (a := (45, [some (.ref 114), some (.int v1), some (.int v2), some (.int v3), some (.int v4), none], [], M5)) (b := (20, [some (.ref 114), some (.int v1), some (.int v2), some (.int v3), some (.int v4), none], [], M5)) rfl (fun _ => rfl) ?_ ?_
  · refine dp_s1 hF (i := .aload_n 0) rfl (fun _ => rfl) ?_
    refine dp_s1 hF (i := .iconst 1) rfl (fun _ => rfl) ?_
    refine dp_si (mj := dp_m_X12_refuse) (i := .invokevirtual 460) rfl rfl (Or.inl rfl) rfl (fun _ => rfl) (fun r8 M7 => ?_)
    exact dp_s0 hF (i := .ireturn) rfl (fun _ => rfl)
  refine dp_s1 hF (i := .iload_n 3) rfl (fun _ => rfl) ?_
  refine dp_s1 hF (i := .i2l) rfl (fun _ => rfl) ?_
  refine dp_s1 hF (i := .lconst 0) rfl (fun _ => rfl) ?_
  refine dp_s1 hF (i := .ldc2_w 458) rfl (fun _ => rfl) ?_
  refine dp_si (mj := dp_m_X12_in) (i := .invokestatic 446) rfl rfl (Or.inr rfl) rfl (fun _ => rfl) (fun r10 M9 => ?_)
  refine dp_s2 hF (i := .ifCond .eq 16) (a := (45, [some (.ref 114), some (.int v1), some (.int v2), some (.int v3), some (.int v4), none], [], M9)) (b := (32, [some (.ref 114), some (.int v1), some (.int v2), some (.int v3), some (.int v4), none], [], M9)) rfl (fun _ => rfl) ?_ ?_
  · refine dp_s1 hF (i := .aload_n 0) rfl (fun _ => rfl) ?_
    refine dp_s1 hF (i := .iconst 1) rfl (fun _ => rfl) ?_
    refine dp_si (mj := dp_m_X12_refuse) (i := .invokevirtual 460) rfl rfl (Or.inl rfl) rfl (fun _ => rfl) (fun r12 M11 => ?_)
    exact dp_s0 hF (i := .ireturn) rfl (fun _ => rfl)
  refine dp_s1 hF (i := .iload 4) rfl (fun _ => rfl) ?_
  refine dp_s1 hF (i := .i2l) rfl (fun _ => rfl) ?_
  refine dp_s1 hF (i := .lconst 0) rfl (fun _ => rfl) ?_
  refine dp_s1 hF (i := .ldc2_w 623) rfl (fun _ => rfl) ?_
  refine dp_si (mj := dp_m_X12_in) (i := .invokestatic 446) rfl rfl (Or.inr rfl) rfl (fun _ => rfl) (fun r14 M13 => ?_)
  refine dp_s2 hF (i := .ifCond .ne 9) (a := (45, [some (.ref 114), some (.int v1), some (.int v2), some (.int v3), some (.int v4), none], [], M13)) (b := (51, [some (.ref 114), some (.int v1), some (.int v2), some (.int v3), some (.int v4), none], [], M13)) rfl (fun _ => rfl) ?_ ?_
  · refine dp_s1 hF (i := .aload_n 0) rfl (fun _ => rfl) ?_
    refine dp_s1 hF (i := .iconst 1) rfl (fun _ => rfl) ?_
    refine dp_si (mj := dp_m_X12_refuse) (i := .invokevirtual 460) rfl rfl (Or.inl rfl) rfl (fun _ => rfl) (fun r16 M15 => ?_)
    exact dp_s0 hF (i := .ireturn) rfl (fun _ => rfl)
  refine dp_s1 hF (i := .aload_n 0) rfl (fun _ => rfl) ?_
  refine dp_s1 hF (i := .iconst 0) rfl (fun _ => rfl) ?_
  refine dp_s1w (dp_setI M13 114 0 (0 : Int32)) (fun (M17 : dp_M) => (56, [some (.ref 114), some (.int v1), some (.int v2), some (.int v3), some (.int v4), none], [], M17)) hF (i := .putfield 1) rfl (fun _ => rfl) (fun M17 => ?_)
  refine dp_s1 hF (i := .bipush 40) rfl (fun _ => rfl) ?_
  refine dp_s1 hF (i := .iload_n 2) rfl (fun _ => rfl) ?_
  refine dp_s1 hF (i := .imul) rfl (fun _ => rfl) ?_
  refine dp_s1 hF (i := .bipush 10) rfl (fun _ => rfl) ?_
  refine dp_s1 hF (i := .iload_n 1) rfl (fun _ => rfl) ?_
  refine dp_s1 hF (i := .imul) rfl (fun _ => rfl) ?_
  refine dp_s1 hF (i := .iadd) rfl (fun _ => rfl) ?_
  refine dp_s1 hF (i := .iload_n 3) rfl (fun _ => rfl) ?_
  refine dp_s1 hF (i := .iadd) rfl (fun _ => rfl) ?_
  refine dp_s1w ((((40 : Int32) * v2) + ((10 : Int32) * v1)) + v3) (fun (y18 : Int32) => (69, [some (.ref 114), some (.int v1), some (.int v2), some (.int v3), some (.int v4), some (.int y18)], [], M17)) hF (i := .istore 5) rfl (fun _ => rfl) (fun y18 => ?_)
  refine dp_s1 hF (i := .aload_n 0) rfl (fun _ => rfl) ?_
  refine dp_s1 hF (i := .getfield 118) rfl (fun _ => rfl) ?_
  refine dp_s1 hF (i := .iload 5) rfl (fun _ => rfl) ?_
  refine dp_s3 hF (i := .iaload) rfl (fun _ => rfl) ?_
  refine dp_s2 hF (i := .ifCond .eq 18) (a := (94, [some (.ref 114), some (.int v1), some (.int v2), some (.int v3), some (.int v4), some (.int y18)], [], M17)) (b := (79, [some (.ref 114), some (.int v1), some (.int v2), some (.int v3), some (.int v4), some (.int y18)], [], M17)) rfl (fun _ => rfl) ?_ ?_
  · refine dp_s1 hF (i := .iconst (-1)) rfl (fun _ => rfl) ?_
    exact dp_s0 hF (i := .ireturn) rfl (fun _ => rfl)
  refine dp_s1 hF (i := .iload 4) rfl (fun _ => rfl) ?_
  refine dp_s1 hF (i := .aload_n 0) rfl (fun _ => rfl) ?_
  refine dp_s1 hF (i := .getfield 121) rfl (fun _ => rfl) ?_
  refine dp_s1 hF (i := .iload 5) rfl (fun _ => rfl) ?_
  refine dp_s3 hF (i := .iaload) rfl (fun _ => rfl) ?_
  refine dp_s1 hF (i := .ishr) rfl (fun _ => rfl) ?_
  refine dp_s1 hF (i := .iconst 1) rfl (fun _ => rfl) ?_
  refine dp_s1 hF (i := .iand) rfl (fun _ => rfl) ?_
  refine dp_s2 hF (i := .ifCond .ne 5) (a := (94, [some (.ref 114), some (.int v1), some (.int v2), some (.int v3), some (.int v4), some (.int y18)], [], M17)) (b := (96, [some (.ref 114), some (.int v1), some (.int v2), some (.int v3), some (.int v4), some (.int y18)], [], M17)) rfl (fun _ => rfl) ?_ ?_
  · refine dp_s1 hF (i := .iconst (-1)) rfl (fun _ => rfl) ?_
    exact dp_s0 hF (i := .ireturn) rfl (fun _ => rfl)
  refine dp_s1 hF (i := .aload_n 0) rfl (fun _ => rfl) ?_
  refine dp_s1 hF (i := .getfield 118) rfl (fun _ => rfl) ?_
  refine dp_s1 hF (i := .iload 5) rfl (fun _ => rfl) ?_
  refine dp_s1 hF (i := .dup2) rfl (fun _ => rfl) ?_
  refine dp_s3 hF (i := .iaload) rfl (fun _ => rfl) ?_
  refine dp_s1 hF (i := .iconst 1) rfl (fun _ => rfl) ?_
  refine dp_s1 hF (i := .isub) rfl (fun _ => rfl) ?_
  refine dp_s3w (dp_setI M17 149 (Int32.toNatClampNeg y18) ((dp_I M17 149 (Int32.toNatClampNeg y18)) - (1 : Int32))) (fun (M19 : dp_M) => (107, [some (.ref 114), some (.int v1), some (.int v2), some (.int v3), some (.int v4), some (.int y18)], [], M19)) hF (i := .iastore) rfl (fun _ => rfl) (fun M19 => ?_)
  refine dp_s1 hF (i := .aload_n 0) rfl (fun _ => rfl) ?_
  refine dp_s1 hF (i := .getfield 118) rfl (fun _ => rfl) ?_
  refine dp_s1 hF (i := .iload 5) rfl (fun _ => rfl) ?_
  refine dp_s3 hF (i := .iaload) rfl (fun _ => rfl) ?_
  refine dp_s2 hF (i := .ifCond .ne 9) (a := (117, [some (.ref 114), some (.int v1), some (.int v2), some (.int v3), some (.int v4), some (.int y18)], [], M19)) (b := (123, [some (.ref 114), some (.int v1), some (.int v2), some (.int v3), some (.int v4), some (.int y18)], [], M19)) rfl (fun _ => rfl) ?_ ?_
  · refine dp_s1 hF (i := .aload_n 0) rfl (fun _ => rfl) ?_
    refine dp_s1 hF (i := .iload_n 2) rfl (fun _ => rfl) ?_
    refine dp_s1 hF (i := .iconst 1) rfl (fun _ => rfl) ?_
    refine dp_sv (mj := dp_m_X12_tells) (i := .invokevirtual 620) rfl rfl rfl rfl (fun _ => rfl) (fun M20 => ?_)
    refine dp_s1 hF (i := .aload_n 0) rfl (fun _ => rfl) ?_
    refine dp_s1 hF (i := .getfield 118) rfl (fun _ => rfl) ?_
    refine dp_s1 hF (i := .iload 5) rfl (fun _ => rfl) ?_
    refine dp_s3 hF (i := .iaload) rfl (fun _ => rfl) ?_
    exact dp_s0 hF (i := .ireturn) rfl (fun _ => rfl)
  refine dp_s1 hF (i := .aload_n 0) rfl (fun _ => rfl) ?_
  refine dp_s1 hF (i := .getfield 118) rfl (fun _ => rfl) ?_
  refine dp_s1 hF (i := .iload 5) rfl (fun _ => rfl) ?_
  refine dp_s3 hF (i := .iaload) rfl (fun _ => rfl) ?_
  exact dp_s0 hF (i := .ireturn) rfl (fun _ => rfl)
noncomputable def D_X12_join_0 (xs : Nat → Int32) (xl d : Nat) (v1 : Int32) (v2 : Int32) (M : dp_M) : Option dp_Res := dp_lim true xs xl (dp_den true xs xl d) dp_m_X12_join (0, [some (.ref 114), some (.int v1), some (.int v2), none, none, none, none], [], M)
noncomputable def D_X12_join_72 (xs : Nat → Int32) (xl d : Nat) (v1 : Int32) (v2 : Int32) (v3 : Int32) (v4 : Int32) (v5 : Int32) (v6 : Int32) (M : dp_M) : Option dp_Res := dp_lim true xs xl (dp_den true xs xl d) dp_m_X12_join (72, [some (.ref 114), some (.int v1), some (.int v2), some (.int v3), some (.int v4), some (.int v5), some (.int v6)], [], M)
theorem D_X12_join_0_den (xs : Nat → Int32) (xl d : Nat) (a0 : Int32) (a1 : Int32) (M : dp_M) : dp_den true xs xl (d + 1) 430 [.ref 114, .int a0, .int a1] M = D_X12_join_0 xs xl d a0 a1 M := rfl
set_option maxRecDepth 20000 in
theorem D_X12_join_0_eq (xs : Nat → Int32) (xl d : Nat) (v1 : Int32) (v2 : Int32) (M : dp_M) : D_X12_join_0 xs xl d v1 v2 M = dp_bi (dp_den true xs xl d 371 [.ref 114, .int v1] M) (fun r2 M1 => if r2 = 0 then (dp_bi (dp_den true xs xl d 366 [.ref 114, .int (1 : Int32)] M1) (fun r4 M3 => some (.inl (some (.int r4)), M3))) else (dp_bi (dp_den true xs xl d 371 [.ref 114, .int v2] M1) (fun r6 M5 => if r6 = 0 then (dp_bi (dp_den true xs xl d 366 [.ref 114, .int (1 : Int32)] M5) (fun r8 M7 => some (.inl (some (.int r8)), M7))) else (if v1 = v2 then (dp_bi (dp_den true xs xl d 366 [.ref 114, .int (1 : Int32)] M5) (fun r10 M9 => some (.inl (some (.int r10)), M9))) else (dp_w (dp_setI M5 114 0 (0 : Int32)) (fun M11 => if v1 < 0 ∨ 100 ≤ Int32.toNatClampNeg v1 then none else (dp_w (dp_I M11 146 (Int32.toNatClampNeg v1)) (fun y12 => if v2 < 0 ∨ 100 ≤ Int32.toNatClampNeg v2 then none else (dp_w (dp_I M11 146 (Int32.toNatClampNeg v2)) (fun y13 => if y12 = y13 then (some (.inl (some (.int (0 : Int32))), M11)) else (if y13 ≤ y12 then (dp_w (0 : Int32) (fun y14 => D_X12_join_72 xs xl d v1 v2 y12 y13 y13 y14 M11)) else (dp_w (0 : Int32) (fun y15 => D_X12_join_72 xs xl d v1 v2 y12 y13 y12 y15 M11))))))))))))) := by
  have hF := dp_den_grow (md := true) (xs := xs) (xl := xl) d
  unfold D_X12_join_0
  refine dp_s1 hF (i := .aload_n 0) rfl (fun _ => rfl) ?_
  refine dp_s1 hF (i := .iload_n 1) rfl (fun _ => rfl) ?_
  refine dp_si (mj := dp_m_X12_isBox) (i := .invokevirtual 470) rfl rfl (Or.inr rfl) rfl (fun _ => rfl) (fun r2 M1 => ?_)
  refine dp_s2 hF (i := .ifCond .eq 16) (a := (21, [some (.ref 114), some (.int v1), some (.int v2), none, none, none, none], [], M1)) (b := (8, [some (.ref 114), some (.int v1), some (.int v2), none, none, none, none], [], M1)) rfl (fun _ => rfl) ?_ ?_
  · refine dp_s1 hF (i := .aload_n 0) rfl (fun _ => rfl) ?_
    refine dp_s1 hF (i := .iconst 1) rfl (fun _ => rfl) ?_
    refine dp_si (mj := dp_m_X12_refuse) (i := .invokevirtual 460) rfl rfl (Or.inl rfl) rfl (fun _ => rfl) (fun r4 M3 => ?_)
    exact dp_s0 hF (i := .ireturn) rfl (fun _ => rfl)
  refine dp_s1 hF (i := .aload_n 0) rfl (fun _ => rfl) ?_
  refine dp_s1 hF (i := .iload_n 2) rfl (fun _ => rfl) ?_
  refine dp_si (mj := dp_m_X12_isBox) (i := .invokevirtual 470) rfl rfl (Or.inr rfl) rfl (fun _ => rfl) (fun r6 M5 => ?_)
  refine dp_s2 hF (i := .ifCond .eq 8) (a := (21, [some (.ref 114), some (.int v1), some (.int v2), none, none, none, none], [], M5)) (b := (16, [some (.ref 114), some (.int v1), some (.int v2), none, none, none, none], [], M5)) rfl (fun _ => rfl) ?_ ?_
  · refine dp_s1 hF (i := .aload_n 0) rfl (fun _ => rfl) ?_
    refine dp_s1 hF (i := .iconst 1) rfl (fun _ => rfl) ?_
    refine dp_si (mj := dp_m_X12_refuse) (i := .invokevirtual 460) rfl rfl (Or.inl rfl) rfl (fun _ => rfl) (fun r8 M7 => ?_)
    exact dp_s0 hF (i := .ireturn) rfl (fun _ => rfl)
  refine dp_s1 hF (i := .iload_n 1) rfl (fun _ => rfl) ?_
  refine dp_s1 hF (i := .iload_n 2) rfl (fun _ => rfl) ?_
  refine dp_s2 hF (i := .if_icmp .ne 9) (a := (21, [some (.ref 114), some (.int v1), some (.int v2), none, none, none, none], [], M5)) (b := (27, [some (.ref 114), some (.int v1), some (.int v2), none, none, none, none], [], M5)) rfl (fun _ => rfl) ?_ ?_
  · refine dp_s1 hF (i := .aload_n 0) rfl (fun _ => rfl) ?_
    refine dp_s1 hF (i := .iconst 1) rfl (fun _ => rfl) ?_
    refine dp_si (mj := dp_m_X12_refuse) (i := .invokevirtual 460) rfl rfl (Or.inl rfl) rfl (fun _ => rfl) (fun r10 M9 => ?_)
    exact dp_s0 hF (i := .ireturn) rfl (fun _ => rfl)
  refine dp_s1 hF (i := .aload_n 0) rfl (fun _ => rfl) ?_
  refine dp_s1 hF (i := .iconst 0) rfl (fun _ => rfl) ?_
  refine dp_s1w (dp_setI M5 114 0 (0 : Int32)) (fun (M11 : dp_M) => (32, [some (.ref 114), some (.int v1), some (.int v2), none, none, none, none], [], M11)) hF (i := .putfield 1) rfl (fun _ => rfl) (fun M11 => ?_)
  refine dp_s1 hF (i := .aload_n 0) rfl (fun _ => rfl) ?_
  refine dp_s1 hF (i := .getfield 109) rfl (fun _ => rfl) ?_
  refine dp_s1 hF (i := .iload_n 1) rfl (fun _ => rfl) ?_
  refine dp_s3 hF (i := .iaload) rfl (fun _ => rfl) ?_
  refine dp_s1w (dp_I M11 146 (Int32.toNatClampNeg v1)) (fun (y12 : Int32) => (39, [some (.ref 114), some (.int v1), some (.int v2), some (.int y12), none, none, none], [], M11)) hF (i := .istore_n 3) rfl (fun _ => rfl) (fun y12 => ?_)
  refine dp_s1 hF (i := .aload_n 0) rfl (fun _ => rfl) ?_
  refine dp_s1 hF (i := .getfield 109) rfl (fun _ => rfl) ?_
  refine dp_s1 hF (i := .iload_n 2) rfl (fun _ => rfl) ?_
  refine dp_s3 hF (i := .iaload) rfl (fun _ => rfl) ?_
  refine dp_s1w (dp_I M11 146 (Int32.toNatClampNeg v2)) (fun (y13 : Int32) => (47, [some (.ref 114), some (.int v1), some (.int v2), some (.int y12), some (.int y13), none, none], [], M11)) hF (i := .istore 4) rfl (fun _ => rfl) (fun y13 => ?_)
  refine dp_s1 hF (i := .iload_n 3) rfl (fun _ => rfl) ?_
  refine dp_s1 hF (i := .iload 4) rfl (fun _ => rfl) ?_
  refine dp_s2 hF (i := .if_icmp .ne 5) (a := (53, [some (.ref 114), some (.int v1), some (.int v2), some (.int y12), some (.int y13), none, none], [], M11)) (b := (55, [some (.ref 114), some (.int v1), some (.int v2), some (.int y12), some (.int y13), none, none], [], M11)) rfl (fun _ => rfl) ?_ ?_
  · refine dp_s1 hF (i := .iconst 0) rfl (fun _ => rfl) ?_
    exact dp_s0 hF (i := .ireturn) rfl (fun _ => rfl)
  refine dp_s1 hF (i := .iload_n 3) rfl (fun _ => rfl) ?_
  refine dp_s1 hF (i := .iload 4) rfl (fun _ => rfl) ?_
  refine dp_s2 hF (i := .if_icmp .ge 7) (a := (65, [some (.ref 114), some (.int v1), some (.int v2), some (.int y12), some (.int y13), none, none], [], M11)) (b := (61, [some (.ref 114), some (.int v1), some (.int v2), some (.int y12), some (.int y13), none, none], [], M11)) rfl (fun _ => rfl) ?_ ?_
  · refine dp_s1 hF (i := .iload 4) rfl (fun _ => rfl) ?_
    refine dp_s1 hF (i := .istore 5) rfl (fun _ => rfl) ?_
    refine dp_s1 hF (i := .iconst 0) rfl (fun _ => rfl) ?_
    refine dp_s1w (0 : Int32) (fun (y14 : Int32) => (72, [some (.ref 114), some (.int v1), some (.int v2), some (.int y12), some (.int y13), some (.int y13), some (.int y14)], [], M11)) hF (i := .istore 6) rfl (fun _ => rfl) (fun y14 => ?_)
    exact rfl
  refine dp_s1 hF (i := .iload_n 3) rfl (fun _ => rfl) ?_
  refine dp_s1 hF (i := .goto 5) rfl (fun _ => rfl) ?_
  refine dp_s1 hF (i := .istore 5) rfl (fun _ => rfl) ?_
  refine dp_s1 hF (i := .iconst 0) rfl (fun _ => rfl) ?_
  refine dp_s1w (0 : Int32) (fun (y15 : Int32) => (72, [some (.ref 114), some (.int v1), some (.int v2), some (.int y12), some (.int y13), some (.int y12), some (.int y15)], [], M11)) hF (i := .istore 6) rfl (fun _ => rfl) (fun y15 => ?_)
  exact rfl
set_option maxRecDepth 20000 in
theorem D_X12_join_72_eq (xs : Nat → Int32) (xl d : Nat) (v1 : Int32) (v2 : Int32) (v3 : Int32) (v4 : Int32) (v5 : Int32) (v6 : Int32) (M : dp_M) : D_X12_join_72 xs xl d v1 v2 v3 v4 v5 v6 M = if (dp_I M 114 3) ≤ v6 then (some (.inl (some (.int (1 : Int32))), M)) else (if v6 < 0 ∨ 100 ≤ Int32.toNatClampNeg v6 then none else (if (dp_I M 146 (Int32.toNatClampNeg v6)) = v3 then (if v6 < 0 ∨ 100 ≤ Int32.toNatClampNeg v6 then none else dp_w (dp_setI M 146 (Int32.toNatClampNeg v6) v5) (fun M1 => dp_w (v6 + (1 : Int32)) (fun y2 => D_X12_join_72 xs xl d v1 v2 v3 v4 v5 y2 M1))) else (if v6 < 0 ∨ 100 ≤ Int32.toNatClampNeg v6 then none else (if (dp_I M 146 (Int32.toNatClampNeg v6)) = v4 then (if v6 < 0 ∨ 100 ≤ Int32.toNatClampNeg v6 then none else dp_w (dp_setI M 146 (Int32.toNatClampNeg v6) v5) (fun M3 => dp_w (v6 + (1 : Int32)) (fun y4 => D_X12_join_72 xs xl d v1 v2 v3 v4 v5 y4 M3))) else (if v6 < 0 ∨ 100 ≤ Int32.toNatClampNeg v6 then none else (if v6 < 0 ∨ 100 ≤ Int32.toNatClampNeg v6 then none else dp_w (dp_setI M 146 (Int32.toNatClampNeg v6) (dp_I M 146 (Int32.toNatClampNeg v6))) (fun M5 => dp_w (v6 + (1 : Int32)) (fun y6 => D_X12_join_72 xs xl d v1 v2 v3 v4 v5 y6 M5)))))))) := by
  have hF := dp_den_grow (md := true) (xs := xs) (xl := xl) d
  unfold D_X12_join_72
  refine dp_s1 hF (i := .iload 6) rfl (fun _ => rfl) ?_
  refine dp_s1 hF (i := .aload_n 0) rfl (fun _ => rfl) ?_
  refine dp_s1 hF (i := .getfield 437) rfl (fun _ => rfl) ?_
  refine dp_s2 hF (i := .if_icmp .ge 51) (a := (129, [some (.ref 114), some (.int v1), some (.int v2), some (.int v3), some (.int v4), some (.int v5), some (.int v6)], [], M)) (b := (81, [some (.ref 114), some (.int v1), some (.int v2), some (.int v3), some (.int v4), some (.int v5), some (.int v6)], [], M)) rfl (fun _ => rfl) ?_ ?_
  · refine dp_s1 hF (i := .iconst 1) rfl (fun _ => rfl) ?_
    exact dp_s0 hF (i := .ireturn) rfl (fun _ => rfl)
  refine dp_s1 hF (i := .aload_n 0) rfl (fun _ => rfl) ?_
  refine dp_s1 hF (i := .getfield 109) rfl (fun _ => rfl) ?_
  refine dp_s1 hF (i := .iload 6) rfl (fun _ => rfl) ?_
  refine dp_s1 hF (i := .aload_n 0) rfl (fun _ => rfl) ?_
  refine dp_s1 hF (i := .getfield 109) rfl (fun _ => rfl) ?_
  refine dp_s1 hF (i := .iload 6) rfl (fun _ => rfl) ?_
  refine dp_s3 hF (i := .iaload) rfl (fun _ => rfl) ?_
  refine dp_s1 hF (i := .iload_n 3) rfl (fun _ => rfl) ?_
  refine dp_s2 hF (i := .if_icmp .eq 15) (a := (110, [some (.ref 114), some (.int v1), some (.int v2), some (.int v3), some (.int v4), some (.int v5), some (.int v6)], [.int v6, .ref 146], M)) (b := (98, [some (.ref 114), some (.int v1), some (.int v2), some (.int v3), some (.int v4), some (.int v5), some (.int v6)], [.int v6, .ref 146], M)) rfl (fun _ => rfl) ?_ ?_
  · refine dp_s1 hF (i := .iload 5) rfl (fun _ => rfl) ?_
    refine dp_s1 hF (i := .goto 10) rfl (fun _ => rfl) ?_
    refine dp_s3w (dp_setI M 146 (Int32.toNatClampNeg v6) v5) (fun (M1 : dp_M) => (123, [some (.ref 114), some (.int v1), some (.int v2), some (.int v3), some (.int v4), some (.int v5), some (.int v6)], [], M1)) hF (i := .iastore) rfl (fun _ => rfl) (fun M1 => ?_)
    refine dp_s1w (v6 + (1 : Int32)) (fun (y2 : Int32) => (126, [some (.ref 114), some (.int v1), some (.int v2), some (.int v3), some (.int v4), some (.int v5), some (.int y2)], [], M1)) hF (i := .iinc 6 1) rfl (fun _ => rfl) (fun y2 => ?_)
    refine dp_s1 hF (i := .goto (-54)) rfl (fun _ => rfl) ?_
    exact rfl
  refine dp_s1 hF (i := .aload_n 0) rfl (fun _ => rfl) ?_
  refine dp_s1 hF (i := .getfield 109) rfl (fun _ => rfl) ?_
  refine dp_s1 hF (i := .iload 6) rfl (fun _ => rfl) ?_
  refine dp_s3 hF (i := .iaload) rfl (fun _ => rfl) ?_
  refine dp_s1 hF (i := .iload 4) rfl (fun _ => rfl) ?_
  refine dp_s2 hF (i := .if_icmp .ne 8) (a := (110, [some (.ref 114), some (.int v1), some (.int v2), some (.int v3), some (.int v4), some (.int v5), some (.int v6)], [.int v6, .ref 146], M)) (b := (115, [some (.ref 114), some (.int v1), some (.int v2), some (.int v3), some (.int v4), some (.int v5), some (.int v6)], [.int v6, .ref 146], M)) rfl (fun _ => rfl) ?_ ?_
  · refine dp_s1 hF (i := .iload 5) rfl (fun _ => rfl) ?_
    refine dp_s1 hF (i := .goto 10) rfl (fun _ => rfl) ?_
    refine dp_s3w (dp_setI M 146 (Int32.toNatClampNeg v6) v5) (fun (M3 : dp_M) => (123, [some (.ref 114), some (.int v1), some (.int v2), some (.int v3), some (.int v4), some (.int v5), some (.int v6)], [], M3)) hF (i := .iastore) rfl (fun _ => rfl) (fun M3 => ?_)
    refine dp_s1w (v6 + (1 : Int32)) (fun (y4 : Int32) => (126, [some (.ref 114), some (.int v1), some (.int v2), some (.int v3), some (.int v4), some (.int v5), some (.int y4)], [], M3)) hF (i := .iinc 6 1) rfl (fun _ => rfl) (fun y4 => ?_)
    refine dp_s1 hF (i := .goto (-54)) rfl (fun _ => rfl) ?_
    exact rfl
  refine dp_s1 hF (i := .aload_n 0) rfl (fun _ => rfl) ?_
  refine dp_s1 hF (i := .getfield 109) rfl (fun _ => rfl) ?_
  refine dp_s1 hF (i := .iload 6) rfl (fun _ => rfl) ?_
  refine dp_s3 hF (i := .iaload) rfl (fun _ => rfl) ?_
  refine dp_s3w (dp_setI M 146 (Int32.toNatClampNeg v6) (dp_I M 146 (Int32.toNatClampNeg v6))) (fun (M5 : dp_M) => (123, [some (.ref 114), some (.int v1), some (.int v2), some (.int v3), some (.int v4), some (.int v5), some (.int v6)], [], M5)) hF (i := .iastore) rfl (fun _ => rfl) (fun M5 => ?_)
  refine dp_s1w (v6 + (1 : Int32)) (fun (y6 : Int32) => (126, [some (.ref 114), some (.int v1), some (.int v2), some (.int v3), some (.int v4), some (.int v5), some (.int y6)], [], M5)) hF (i := .iinc 6 1) rfl (fun _ => rfl) (fun y6 => ?_)
  refine dp_s1 hF (i := .goto (-54)) rfl (fun _ => rfl) ?_
  exact rfl
noncomputable def D_X12_rule_0 (xs : Nat → Int32) (xl d : Nat) (v1 : Int32) (v2 : Int32) (v3 : Int32) (M : dp_M) : Option dp_Res := dp_lim true xs xl (dp_den true xs xl d) dp_m_X12_rule (0, [some (.ref 114), some (.int v1), some (.int v2), some (.int v3)], [], M)
theorem D_X12_rule_0_den (xs : Nat → Int32) (xl d : Nat) (a0 : Int32) (a1 : Int32) (a2 : Int32) (M : dp_M) : dp_den true xs xl (d + 1) 431 [.ref 114, .int a0, .int a1, .int a2] M = D_X12_rule_0 xs xl d a0 a1 a2 M := rfl
set_option maxRecDepth 20000 in
theorem D_X12_rule_0_eq (xs : Nat → Int32) (xl d : Nat) (v1 : Int32) (v2 : Int32) (v3 : Int32) (M : dp_M) : D_X12_rule_0 xs xl d v1 v2 v3 M = dp_w (dp_setI M 114 0 (0 : Int32)) (fun M1 => dp_bi (dp_den true xs xl d 367 [.long (Int32.toInt64 v1), .long (0 : Int64), .long (3 : Int64)] M1) (fun r3 M2 => if r3 = 0 then (some (.inl (some (.int (0 : Int32))), M2)) else (dp_bi (dp_den true xs xl d 367 [.long (Int32.toInt64 v2), .long (0 : Int64), .long (4 : Int64)] M2) (fun r5 M4 => if r5 = 0 then (some (.inl (some (.int (0 : Int32))), M4)) else (if v2 = (1 : Int32) then (dp_bi (dp_den true xs xl d 367 [.long (Int32.toInt64 v3), .long (0 : Int64), .long (40000 : Int64)] M4) (fun r7 M6 => if r7 = 0 then (some (.inl (some (.int (0 : Int32))), M6)) else (if v1 < 0 ∨ 4 ≤ Int32.toNatClampNeg v1 then none else dp_w (dp_setI M6 151 (Int32.toNatClampNeg v1) v2) (fun M8 => if v1 < 0 ∨ 4 ≤ Int32.toNatClampNeg v1 then none else dp_w (dp_setI M8 152 (Int32.toNatClampNeg v1) v3) (fun M9 => some (.inl (some (.int (1 : Int32))), M9)))))) else (if v1 < 0 ∨ 4 ≤ Int32.toNatClampNeg v1 then none else dp_w (dp_setI M4 151 (Int32.toNatClampNeg v1) v2) (fun M10 => if v1 < 0 ∨ 4 ≤ Int32.toNatClampNeg v1 then none else dp_w (dp_setI M10 152 (Int32.toNatClampNeg v1) v3) (fun M11 => some (.inl (some (.int (1 : Int32))), M11))))))))) := by
  have hF := dp_den_grow (md := true) (xs := xs) (xl := xl) d
  unfold D_X12_rule_0
  refine dp_s1 hF (i := .aload_n 0) rfl (fun _ => rfl) ?_
  refine dp_s1 hF (i := .iconst 0) rfl (fun _ => rfl) ?_
  refine dp_s1w (dp_setI M 114 0 (0 : Int32)) (fun (M1 : dp_M) => (5, [some (.ref 114), some (.int v1), some (.int v2), some (.int v3)], [], M1)) hF (i := .putfield 1) rfl (fun _ => rfl) (fun M1 => ?_)
  refine dp_s1 hF (i := .iload_n 1) rfl (fun _ => rfl) ?_
  refine dp_s1 hF (i := .i2l) rfl (fun _ => rfl) ?_
  refine dp_s1 hF (i := .lconst 0) rfl (fun _ => rfl) ?_
  refine dp_s1 hF (i := .ldc2_w 529) rfl (fun _ => rfl) ?_
  refine dp_si (mj := dp_m_X12_in) (i := .invokestatic 446) rfl rfl (Or.inr rfl) rfl (fun _ => rfl) (fun r3 M2 => ?_)
  refine dp_s2 hF (i := .ifCond .eq 32) (a := (46, [some (.ref 114), some (.int v1), some (.int v2), some (.int v3)], [], M2)) (b := (17, [some (.ref 114), some (.int v1), some (.int v2), some (.int v3)], [], M2)) rfl (fun _ => rfl) ?_ ?_
  · refine dp_s1 hF (i := .iconst 0) rfl (fun _ => rfl) ?_
    exact dp_s0 hF (i := .ireturn) rfl (fun _ => rfl)
  refine dp_s1 hF (i := .iload_n 2) rfl (fun _ => rfl) ?_
  refine dp_s1 hF (i := .i2l) rfl (fun _ => rfl) ?_
  refine dp_s1 hF (i := .lconst 0) rfl (fun _ => rfl) ?_
  refine dp_s1 hF (i := .ldc2_w 625) rfl (fun _ => rfl) ?_
  refine dp_si (mj := dp_m_X12_in) (i := .invokestatic 446) rfl rfl (Or.inr rfl) rfl (fun _ => rfl) (fun r5 M4 => ?_)
  refine dp_s2 hF (i := .ifCond .eq 20) (a := (46, [some (.ref 114), some (.int v1), some (.int v2), some (.int v3)], [], M4)) (b := (29, [some (.ref 114), some (.int v1), some (.int v2), some (.int v3)], [], M4)) rfl (fun _ => rfl) ?_ ?_
  · refine dp_s1 hF (i := .iconst 0) rfl (fun _ => rfl) ?_
    exact dp_s0 hF (i := .ireturn) rfl (fun _ => rfl)
  refine dp_s1 hF (i := .iload_n 2) rfl (fun _ => rfl) ?_
  refine dp_s1 hF (i := .iconst 1) rfl (fun _ => rfl) ?_
  refine dp_s2 hF (i := .if_icmp .ne 17) (a := (34, [some (.ref 114), some (.int v1), some (.int v2), some (.int v3)], [], M4)) (b := (48, [some (.ref 114), some (.int v1), some (.int v2), some (.int v3)], [], M4)) rfl (fun _ => rfl) ?_ ?_
  · refine dp_s1 hF (i := .iload_n 3) rfl (fun _ => rfl) ?_
    refine dp_s1 hF (i := .i2l) rfl (fun _ => rfl) ?_
    refine dp_s1 hF (i := .lconst 0) rfl (fun _ => rfl) ?_
    refine dp_s1 hF (i := .ldc2_w 627) rfl (fun _ => rfl) ?_
    refine dp_si (mj := dp_m_X12_in) (i := .invokestatic 446) rfl rfl (Or.inr rfl) rfl (fun _ => rfl) (fun r7 M6 => ?_)
    refine dp_s2 hF (i := .ifCond .ne 5) (a := (46, [some (.ref 114), some (.int v1), some (.int v2), some (.int v3)], [], M6)) (b := (48, [some (.ref 114), some (.int v1), some (.int v2), some (.int v3)], [], M6)) rfl (fun _ => rfl) ?_ ?_
    · refine dp_s1 hF (i := .iconst 0) rfl (fun _ => rfl) ?_
      exact dp_s0 hF (i := .ireturn) rfl (fun _ => rfl)
    refine dp_s1 hF (i := .aload_n 0) rfl (fun _ => rfl) ?_
    refine dp_s1 hF (i := .getfield 124) rfl (fun _ => rfl) ?_
    refine dp_s1 hF (i := .iload_n 1) rfl (fun _ => rfl) ?_
    refine dp_s1 hF (i := .iload_n 2) rfl (fun _ => rfl) ?_
    refine dp_s3w (dp_setI M6 151 (Int32.toNatClampNeg v1) v2) (fun (M8 : dp_M) => (55, [some (.ref 114), some (.int v1), some (.int v2), some (.int v3)], [], M8)) hF (i := .iastore) rfl (fun _ => rfl) (fun M8 => ?_)
    refine dp_s1 hF (i := .aload_n 0) rfl (fun _ => rfl) ?_
    refine dp_s1 hF (i := .getfield 127) rfl (fun _ => rfl) ?_
    refine dp_s1 hF (i := .iload_n 1) rfl (fun _ => rfl) ?_
    refine dp_s1 hF (i := .iload_n 3) rfl (fun _ => rfl) ?_
    refine dp_s3w (dp_setI M8 152 (Int32.toNatClampNeg v1) v3) (fun (M9 : dp_M) => (62, [some (.ref 114), some (.int v1), some (.int v2), some (.int v3)], [], M9)) hF (i := .iastore) rfl (fun _ => rfl) (fun M9 => ?_)
    refine dp_s1 hF (i := .iconst 1) rfl (fun _ => rfl) ?_
    exact dp_s0 hF (i := .ireturn) rfl (fun _ => rfl)
  refine dp_s1 hF (i := .aload_n 0) rfl (fun _ => rfl) ?_
  refine dp_s1 hF (i := .getfield 124) rfl (fun _ => rfl) ?_
  refine dp_s1 hF (i := .iload_n 1) rfl (fun _ => rfl) ?_
  refine dp_s1 hF (i := .iload_n 2) rfl (fun _ => rfl) ?_
  refine dp_s3w (dp_setI M4 151 (Int32.toNatClampNeg v1) v2) (fun (M10 : dp_M) => (55, [some (.ref 114), some (.int v1), some (.int v2), some (.int v3)], [], M10)) hF (i := .iastore) rfl (fun _ => rfl) (fun M10 => ?_)
  refine dp_s1 hF (i := .aload_n 0) rfl (fun _ => rfl) ?_
  refine dp_s1 hF (i := .getfield 127) rfl (fun _ => rfl) ?_
  refine dp_s1 hF (i := .iload_n 1) rfl (fun _ => rfl) ?_
  refine dp_s1 hF (i := .iload_n 3) rfl (fun _ => rfl) ?_
  refine dp_s3w (dp_setI M10 152 (Int32.toNatClampNeg v1) v3) (fun (M11 : dp_M) => (62, [some (.ref 114), some (.int v1), some (.int v2), some (.int v3)], [], M11)) hF (i := .iastore) rfl (fun _ => rfl) (fun M11 => ?_)
  refine dp_s1 hF (i := .iconst 1) rfl (fun _ => rfl) ?_
  exact dp_s0 hF (i := .ireturn) rfl (fun _ => rfl)
noncomputable def D_X12_ruled_0 (xs : Nat → Int32) (xl d : Nat) (v1 : Int32) (v2 : Int32) (M : dp_M) : Option dp_Res := dp_lim true xs xl (dp_den true xs xl d) dp_m_X12_ruled (0, [some (.ref 114), some (.int v1), some (.int v2)], [], M)
theorem D_X12_ruled_0_den (xs : Nat → Int32) (xl d : Nat) (a0 : Int32) (a1 : Int32) (M : dp_M) : dp_den true xs xl (d + 1) 432 [.ref 114, .int a0, .int a1] M = D_X12_ruled_0 xs xl d a0 a1 M := rfl
set_option maxRecDepth 20000 in
theorem D_X12_ruled_0_eq (xs : Nat → Int32) (xl d : Nat) (v1 : Int32) (v2 : Int32) (M : dp_M) : D_X12_ruled_0 xs xl d v1 v2 M = if v1 < 0 ∨ 4 ≤ Int32.toNatClampNeg v1 then none else (if (dp_I M 151 (Int32.toNatClampNeg v1)) = (1 : Int32) then (dp_bi (dp_den true xs xl d 421 [.ref 114, .int v2] M) (fun r2 M1 => if v1 < 0 ∨ 4 ≤ Int32.toNatClampNeg v1 then none else (if r2 ≤ (dp_I M1 152 (Int32.toNatClampNeg v1)) then (some (.inl (some (.int (0 : Int32))), M1)) else (some (.inl (some (.int (13 : Int32))), M1))))) else if (dp_I M 151 (Int32.toNatClampNeg v1)) = (2 : Int32) then (if (v2 - v2 / (2 : Int32) * (2 : Int32)) = (1 : Int32) then (some (.inl (some (.int (13 : Int32))), M)) else (some (.inl (some (.int (0 : Int32))), M))) else if (dp_I M 151 (Int32.toNatClampNeg v1)) = (3 : Int32) then (dp_bi (dp_den true xs xl d 425 [.ref 114, .int v2] M) (fun r4 M3 => if r4 ≤ 0 then (some (.inl (some (.int (0 : Int32))), M3)) else (some (.inl (some (.int (14 : Int32))), M3)))) else if (dp_I M 151 (Int32.toNatClampNeg v1)) = (4 : Int32) then (some (.inl (some (.int (14 : Int32))), M)) else (some (.inl (some (.int (0 : Int32))), M))) := by
  have hF := dp_den_grow (md := true) (xs := xs) (xl := xl) d
  unfold D_X12_ruled_0
  refine dp_s1 hF (i := .aload_n 0) rfl (fun _ => rfl) ?_
  refine dp_s1 hF (i := .getfield 124) rfl (fun _ => rfl) ?_
  refine dp_s1 hF (i := .iload_n 1) rfl (fun _ => rfl) ?_
  refine dp_s3 hF (i := .iaload) rfl (fun _ => rfl) ?_
  refine (dp_s (E := fun k => if (dp_I M 151 (Int32.toNatClampNeg v1)) = (1 : Int32) then k (36, [some (.ref 114), some (.int v1), some (.int v2)], [], M) else if (dp_I M 151 (Int32.toNatClampNeg v1)) = (2 : Int32) then k (57, [some (.ref 114), some (.int v1), some (.int v2)], [], M) else if (dp_I M 151 (Int32.toNatClampNeg v1)) = (3 : Int32) then k (71, [some (.ref 114), some (.int v1), some (.int v2)], [], M) else if (dp_I M 151 (Int32.toNatClampNeg v1)) = (4 : Int32) then k (86, [some (.ref 114), some (.int v1), some (.int v2)], [], M) else k (89, [some (.ref 114), some (.int v1), some (.int v2)], [], M)) hF (i := .tableswitch 83 1 4 #[30, 51, 65, 80]) rfl (fun _ => rfl)).trans ?_
  refine dp_ifc ?_ ?_
  · refine dp_s1 hF (i := .aload_n 0) rfl (fun _ => rfl) ?_
    refine dp_s1 hF (i := .iload_n 2) rfl (fun _ => rfl) ?_
    refine dp_si (mj := dp_m_X12_kilograms) (i := .invokevirtual 605) rfl rfl (Or.inl rfl) rfl (fun _ => rfl) (fun r2 M1 => ?_)
    refine dp_s1 hF (i := .aload_n 0) rfl (fun _ => rfl) ?_
    refine dp_s1 hF (i := .getfield 127) rfl (fun _ => rfl) ?_
    refine dp_s1 hF (i := .iload_n 1) rfl (fun _ => rfl) ?_
    refine dp_s3 hF (i := .iaload) rfl (fun _ => rfl) ?_
    refine dp_s2 hF (i := .if_icmp .le 8) (a := (55, [some (.ref 114), some (.int v1), some (.int v2)], [], M1)) (b := (50, [some (.ref 114), some (.int v1), some (.int v2)], [], M1)) rfl (fun _ => rfl) ?_ ?_
    · refine dp_s1 hF (i := .iconst 0) rfl (fun _ => rfl) ?_
      exact dp_s0 hF (i := .ireturn) rfl (fun _ => rfl)
    refine dp_s1 hF (i := .bipush 13) rfl (fun _ => rfl) ?_
    refine dp_s1 hF (i := .goto 4) rfl (fun _ => rfl) ?_
    exact dp_s0 hF (i := .ireturn) rfl (fun _ => rfl)
  refine dp_ifc ?_ ?_
  · refine dp_s1 hF (i := .iload_n 2) rfl (fun _ => rfl) ?_
    refine dp_s1 hF (i := .iconst 2) rfl (fun _ => rfl) ?_
    refine dp_s1 hF (i := .irem) rfl (fun _ => rfl) ?_
    refine dp_s1 hF (i := .iconst 1) rfl (fun _ => rfl) ?_
    refine dp_s2 hF (i := .if_icmp .ne 8) (a := (64, [some (.ref 114), some (.int v1), some (.int v2)], [], M)) (b := (69, [some (.ref 114), some (.int v1), some (.int v2)], [], M)) rfl (fun _ => rfl) ?_ ?_
    · refine dp_s1 hF (i := .bipush 13) rfl (fun _ => rfl) ?_
      refine dp_s1 hF (i := .goto 4) rfl (fun _ => rfl) ?_
      exact dp_s0 hF (i := .ireturn) rfl (fun _ => rfl)
    refine dp_s1 hF (i := .iconst 0) rfl (fun _ => rfl) ?_
    exact dp_s0 hF (i := .ireturn) rfl (fun _ => rfl)
  refine dp_ifc ?_ ?_
  · refine dp_s1 hF (i := .aload_n 0) rfl (fun _ => rfl) ?_
    refine dp_s1 hF (i := .iload_n 2) rfl (fun _ => rfl) ?_
    refine dp_si (mj := dp_m_X12_manyIn) (i := .invokevirtual 617) rfl rfl (Or.inl rfl) rfl (fun _ => rfl) (fun r4 M3 => ?_)
    refine dp_s2 hF (i := .ifCond .le 8) (a := (84, [some (.ref 114), some (.int v1), some (.int v2)], [], M3)) (b := (79, [some (.ref 114), some (.int v1), some (.int v2)], [], M3)) rfl (fun _ => rfl) ?_ ?_
    · refine dp_s1 hF (i := .iconst 0) rfl (fun _ => rfl) ?_
      exact dp_s0 hF (i := .ireturn) rfl (fun _ => rfl)
    refine dp_s1 hF (i := .bipush 14) rfl (fun _ => rfl) ?_
    refine dp_s1 hF (i := .goto 4) rfl (fun _ => rfl) ?_
    exact dp_s0 hF (i := .ireturn) rfl (fun _ => rfl)
  refine dp_ifc ?_ ?_
  · refine dp_s1 hF (i := .bipush 14) rfl (fun _ => rfl) ?_
    exact dp_s0 hF (i := .ireturn) rfl (fun _ => rfl)
  refine dp_s1 hF (i := .iconst 0) rfl (fun _ => rfl) ?_
  exact dp_s0 hF (i := .ireturn) rfl (fun _ => rfl)
noncomputable def D_X12_barAt_0 (xs : Nat → Int32) (xl d : Nat) (v1 : Int32) (v2 : Int32) (M : dp_M) : Option dp_Res := dp_lim true xs xl (dp_den true xs xl d) dp_m_X12_barAt (0, [some (.ref 114), some (.int v1), some (.int v2), none, none, none, none, none, none, none], [], M)
noncomputable def D_X12_barAt_5 (xs : Nat → Int32) (xl d : Nat) (v1 : Int32) (v2 : Int32) (v3 : Int32) (v4 : Int32) (M : dp_M) : Option dp_Res := dp_lim true xs xl (dp_den true xs xl d) dp_m_X12_barAt (5, [some (.ref 114), some (.int v1), some (.int v2), some (.int v3), some (.int v4), none, none, none, none, none], [], M)
noncomputable def D_X12_barAt_17 (xs : Nat → Int32) (xl d : Nat) (v1 : Int32) (v2 : Int32) (v3 : Int32) (v4 : Int32) (v5 : Int32) (M : dp_M) : Option dp_Res := dp_lim true xs xl (dp_den true xs xl d) dp_m_X12_barAt (17, [some (.ref 114), some (.int v1), some (.int v2), some (.int v3), some (.int v4), some (.int v5), none, none, none, none], [], M)
noncomputable def D_X12_barAt_5_a (xs : Nat → Int32) (xl d : Nat) (v1 : Int32) (v2 : Int32) (v3 : Int32) (v4 : Int32) (v5 : Int32) (M : dp_M) : Option dp_Res := dp_lim true xs xl (dp_den true xs xl d) dp_m_X12_barAt (5, [some (.ref 114), some (.int v1), some (.int v2), some (.int v3), some (.int v4), some (.int v5), none, none, none, none], [], M)
noncomputable def D_X12_barAt_113 (xs : Nat → Int32) (xl d : Nat) (v1 : Int32) (v2 : Int32) (v3 : Int32) (v4 : Int32) (v5 : Int32) (v6 : Int32) (v7 : Int32) (vs0 : Int32) (M : dp_M) : Option dp_Res := dp_lim true xs xl (dp_den true xs xl d) dp_m_X12_barAt (113, [some (.ref 114), some (.int v1), some (.int v2), some (.int v3), some (.int v4), some (.int v5), some (.int v6), some (.int v7), none, none], [.int vs0], M)
noncomputable def D_X12_barAt_150 (xs : Nat → Int32) (xl d : Nat) (v1 : Int32) (v2 : Int32) (v3 : Int32) (v4 : Int32) (v5 : Int32) (v6 : Int32) (v7 : Int32) (v8 : Int32) (vs0 : Int32) (M : dp_M) : Option dp_Res := dp_lim true xs xl (dp_den true xs xl d) dp_m_X12_barAt (150, [some (.ref 114), some (.int v1), some (.int v2), some (.int v3), some (.int v4), some (.int v5), some (.int v6), some (.int v7), some (.int v8), none], [.int vs0], M)
noncomputable def D_X12_barAt_17_a (xs : Nat → Int32) (xl d : Nat) (v1 : Int32) (v2 : Int32) (v3 : Int32) (v4 : Int32) (v5 : Int32) (v6 : Int32) (v7 : Int32) (v8 : Int32) (v9 : Int32) (M : dp_M) : Option dp_Res := dp_lim true xs xl (dp_den true xs xl d) dp_m_X12_barAt (17, [some (.ref 114), some (.int v1), some (.int v2), some (.int v3), some (.int v4), some (.int v5), some (.int v6), some (.int v7), some (.int v8), some (.int v9)], [], M)
noncomputable def D_X12_barAt_5_b (xs : Nat → Int32) (xl d : Nat) (v1 : Int32) (v2 : Int32) (v3 : Int32) (v4 : Int32) (v5 : Int32) (v6 : Int32) (v7 : Int32) (v8 : Int32) (v9 : Int32) (M : dp_M) : Option dp_Res := dp_lim true xs xl (dp_den true xs xl d) dp_m_X12_barAt (5, [some (.ref 114), some (.int v1), some (.int v2), some (.int v3), some (.int v4), some (.int v5), some (.int v6), some (.int v7), some (.int v8), some (.int v9)], [], M)
noncomputable def D_X12_barAt_113_a (xs : Nat → Int32) (xl d : Nat) (v1 : Int32) (v2 : Int32) (v3 : Int32) (v4 : Int32) (v5 : Int32) (v6 : Int32) (v7 : Int32) (v8 : Int32) (v9 : Int32) (vs0 : Int32) (M : dp_M) : Option dp_Res := dp_lim true xs xl (dp_den true xs xl d) dp_m_X12_barAt (113, [some (.ref 114), some (.int v1), some (.int v2), some (.int v3), some (.int v4), some (.int v5), some (.int v6), some (.int v7), some (.int v8), some (.int v9)], [.int vs0], M)
noncomputable def D_X12_barAt_150_a (xs : Nat → Int32) (xl d : Nat) (v1 : Int32) (v2 : Int32) (v3 : Int32) (v4 : Int32) (v5 : Int32) (v6 : Int32) (v7 : Int32) (v8 : Int32) (v9 : Int32) (vs0 : Int32) (M : dp_M) : Option dp_Res := dp_lim true xs xl (dp_den true xs xl d) dp_m_X12_barAt (150, [some (.ref 114), some (.int v1), some (.int v2), some (.int v3), some (.int v4), some (.int v5), some (.int v6), some (.int v7), some (.int v8), some (.int v9)], [.int vs0], M)
theorem D_X12_barAt_0_den (xs : Nat → Int32) (xl d : Nat) (a0 : Int32) (a1 : Int32) (M : dp_M) : dp_den true xs xl (d + 1) 433 [.ref 114, .int a0, .int a1] M = D_X12_barAt_0 xs xl d a0 a1 M := rfl
set_option maxRecDepth 20000 in
theorem D_X12_barAt_0_eq (xs : Nat → Int32) (xl d : Nat) (v1 : Int32) (v2 : Int32) (M : dp_M) : D_X12_barAt_0 xs xl d v1 v2 M = dp_w (0 : Int32) (fun y1 => D_X12_barAt_5 xs xl d v1 v2 v2 y1 M) := by
  have hF := dp_den_grow (md := true) (xs := xs) (xl := xl) d
  unfold D_X12_barAt_0
  refine dp_s1 hF (i := .iload_n 2) rfl (fun _ => rfl) ?_
  refine dp_s1 hF (i := .istore_n 3) rfl (fun _ => rfl) ?_
  refine dp_s1 hF (i := .iconst 0) rfl (fun _ => rfl) ?_
  refine dp_s1w (0 : Int32) (fun (y1 : Int32) => (5, [some (.ref 114), some (.int v1), some (.int v2), some (.int v2), some (.int y1), none, none, none, none, none], [], M)) hF (i := .istore 4) rfl (fun _ => rfl) (fun y1 => ?_)
  exact rfl
set_option maxRecDepth 20000 in
theorem D_X12_barAt_5_eq (xs : Nat → Int32) (xl d : Nat) (v1 : Int32) (v2 : Int32) (v3 : Int32) (v4 : Int32) (M : dp_M) : D_X12_barAt_5 xs xl d v1 v2 v3 v4 M = if (dp_I M 114 3) ≤ v4 then (some (.inl (some (.int (-1 : Int32))), M)) else (dp_w (0 : Int32) (fun y1 => D_X12_barAt_17 xs xl d v1 v2 v3 v4 y1 M)) := by
  have hF := dp_den_grow (md := true) (xs := xs) (xl := xl) d
  unfold D_X12_barAt_5
  refine dp_s1 hF (i := .iload 4) rfl (fun _ => rfl) ?_
  refine dp_s1 hF (i := .aload_n 0) rfl (fun _ => rfl) ?_
  refine dp_s1 hF (i := .getfield 437) rfl (fun _ => rfl) ?_
  refine dp_s2 hF (i := .if_icmp .ge 197) (a := (208, [some (.ref 114), some (.int v1), some (.int v2), some (.int v3), some (.int v4), none, none, none, none, none], [], M)) (b := (14, [some (.ref 114), some (.int v1), some (.int v2), some (.int v3), some (.int v4), none, none, none, none, none], [], M)) rfl (fun _ => rfl) ?_ ?_
  · refine dp_s1 hF (i := .iconst (-1)) rfl (fun _ => rfl) ?_
    exact dp_s0 hF (i := .ireturn) rfl (fun _ => rfl)
  refine dp_s1 hF (i := .iconst 0) rfl (fun _ => rfl) ?_
  refine dp_s1w (0 : Int32) (fun (y1 : Int32) => (17, [some (.ref 114), some (.int v1), some (.int v2), some (.int v3), some (.int v4), some (.int y1), none, none, none, none], [], M)) hF (i := .istore 5) rfl (fun _ => rfl) (fun y1 => ?_)
  exact rfl
set_option maxRecDepth 20000 in
theorem D_X12_barAt_17_eq (xs : Nat → Int32) (xl d : Nat) (v1 : Int32) (v2 : Int32) (v3 : Int32) (v4 : Int32) (v5 : Int32) (M : dp_M) : D_X12_barAt_17 xs xl d v1 v2 v3 v4 v5 M = if (45 : Int32) ≤ v5 then (dp_w (v4 + (1 : Int32)) (fun y1 => D_X12_barAt_5_a xs xl d v1 v2 v3 y1 v5 M)) else (if v4 < 0 ∨ 100 ≤ Int32.toNatClampNeg v4 then none else (if (dp_I M 146 (Int32.toNatClampNeg v4)) = v1 then (dp_w ((v5 - (1 : Int32)) / (11 : Int32)) (fun y2 => dp_w ((v5 - (1 : Int32)) - (v5 - (1 : Int32)) / (11 : Int32) * (11 : Int32)) (fun y3 => if v5 = 0 then (dp_bi (dp_den true xs xl d 427 [.ref 114, .int v4] M) (fun r5 M4 => D_X12_barAt_113 xs xl d v1 v2 v3 v4 v5 y2 y3 r5 M4)) else (if y3 = (10 : Int32) then (dp_bi (dp_den true xs xl d 432 [.ref 114, .int y2, .int v4] M) (fun r7 M6 => D_X12_barAt_113 xs xl d v1 v2 v3 v4 v5 y2 y3 r7 M6)) else (if ((((40 : Int32) * v4) + ((10 : Int32) * y2)) + y3) < 0 ∨ 4000 ≤ Int32.toNatClampNeg ((((40 : Int32) * v4) + ((10 : Int32) * y2)) + y3) then none else (if (dp_I M 149 (Int32.toNatClampNeg ((((40 : Int32) * v4) + ((10 : Int32) * y2)) + y3))) ≤ 0 then (D_X12_barAt_113 xs xl d v1 v2 v3 v4 v5 y2 y3 (-1 : Int32) M) else (D_X12_barAt_113 xs xl d v1 v2 v3 v4 v5 y2 y3 y3 M))))))) else (dp_w (v4 + (1 : Int32)) (fun y8 => D_X12_barAt_5_a xs xl d v1 v2 v3 y8 v5 M)))) := by
  have hF := dp_den_grow (md := true) (xs := xs) (xl := xl) d
  unfold D_X12_barAt_17
  refine dp_s1 hF (i := .iload 5) rfl (fun _ => rfl) ?_
  refine dp_s1 hF (i := .bipush 45) rfl (fun _ => rfl) ?_
  refine dp_s2 hF (i := .if_icmp .ge 181) (a := (202, [some (.ref 114), some (.int v1), some (.int v2), some (.int v3), some (.int v4), some (.int v5), none, none, none, none], [], M)) (b := (24, [some (.ref 114), some (.int v1), some (.int v2), some (.int v3), some (.int v4), some (.int v5), none, none, none, none], [], M)) rfl (fun _ => rfl) ?_ ?_
  · refine dp_s1w (v4 + (1 : Int32)) (fun (y1 : Int32) => (205, [some (.ref 114), some (.int v1), some (.int v2), some (.int v3), some (.int y1), some (.int v5), none, none, none, none], [], M)) hF (i := .iinc 4 1) rfl (fun _ => rfl) (fun y1 => ?_)
    refine dp_s1 hF (i := .goto (-200)) rfl (fun _ => rfl) ?_
    exact rfl
  refine dp_s1 hF (i := .aload_n 0) rfl (fun _ => rfl) ?_
  refine dp_s1 hF (i := .getfield 109) rfl (fun _ => rfl) ?_
  refine dp_s1 hF (i := .iload 4) rfl (fun _ => rfl) ?_
  refine dp_s3 hF (i := .iaload) rfl (fun _ => rfl) ?_
  refine dp_s1 hF (i := .iload_n 1) rfl (fun _ => rfl) ?_
  refine dp_s2 hF (i := .if_icmp .ne 170) (a := (35, [some (.ref 114), some (.int v1), some (.int v2), some (.int v3), some (.int v4), some (.int v5), none, none, none, none], [], M)) (b := (202, [some (.ref 114), some (.int v1), some (.int v2), some (.int v3), some (.int v4), some (.int v5), none, none, none, none], [], M)) rfl (fun _ => rfl) ?_ ?_
  · refine dp_s1 hF (i := .iload 5) rfl (fun _ => rfl) ?_
    refine dp_s1 hF (i := .iconst 1) rfl (fun _ => rfl) ?_
    refine dp_s1 hF (i := .isub) rfl (fun _ => rfl) ?_
    refine dp_s1 hF (i := .bipush 11) rfl (fun _ => rfl) ?_
    refine dp_s1 hF (i := .idiv) rfl (fun _ => rfl) ?_
    refine dp_s1w ((v5 - (1 : Int32)) / (11 : Int32)) (fun (y2 : Int32) => (44, [some (.ref 114), some (.int v1), some (.int v2), some (.int v3), some (.int v4), some (.int v5), some (.int y2), none, none, none], [], M)) hF (i := .istore 6) rfl (fun _ => rfl) (fun y2 => ?_)
    refine dp_s1 hF (i := .iload 5) rfl (fun _ => rfl) ?_
    refine dp_s1 hF (i := .iconst 1) rfl (fun _ => rfl) ?_
    refine dp_s1 hF (i := .isub) rfl (fun _ => rfl) ?_
    refine dp_s1 hF (i := .bipush 11) rfl (fun _ => rfl) ?_
    refine dp_s1 hF (i := .irem) rfl (fun _ => rfl) ?_
    refine dp_s1w ((v5 - (1 : Int32)) - (v5 - (1 : Int32)) / (11 : Int32) * (11 : Int32)) (fun (y3 : Int32) => (53, [some (.ref 114), some (.int v1), some (.int v2), some (.int v3), some (.int v4), some (.int v5), some (.int y2), some (.int y3), none, none], [], M)) hF (i := .istore 7) rfl (fun _ => rfl) (fun y3 => ?_)
    refine dp_s1 hF (i := .iload 5) rfl (fun _ => rfl) ?_
    refine dp_s2 hF (i := .ifCond .ne 12) (a := (58, [some (.ref 114), some (.int v1), some (.int v2), some (.int v3), some (.int v4), some (.int v5), some (.int y2), some (.int y3), none, none], [], M)) (b := (67, [some (.ref 114), some (.int v1), some (.int v2), some (.int v3), some (.int v4), some (.int v5), some (.int y2), some (.int y3), none, none], [], M)) rfl (fun _ => rfl) ?_ ?_
    · refine dp_s1 hF (i := .aload_n 0) rfl (fun _ => rfl) ?_
      refine dp_s1 hF (i := .iload 4) rfl (fun _ => rfl) ?_
      refine dp_si (mj := dp_m_X12_ownBar) (i := .invokevirtual 629) rfl rfl (Or.inl rfl) rfl (fun _ => rfl) (fun r5 M4 => ?_)
      refine dp_s1 hF (i := .goto 49) rfl (fun _ => rfl) ?_
      exact rfl
    refine dp_s1 hF (i := .iload 7) rfl (fun _ => rfl) ?_
    refine dp_s1 hF (i := .bipush 10) rfl (fun _ => rfl) ?_
    refine dp_s2 hF (i := .if_icmp .ne 14) (a := (74, [some (.ref 114), some (.int v1), some (.int v2), some (.int v3), some (.int v4), some (.int v5), some (.int y2), some (.int y3), none, none], [], M)) (b := (85, [some (.ref 114), some (.int v1), some (.int v2), some (.int v3), some (.int v4), some (.int v5), some (.int y2), some (.int y3), none, none], [], M)) rfl (fun _ => rfl) ?_ ?_
    · refine dp_s1 hF (i := .aload_n 0) rfl (fun _ => rfl) ?_
      refine dp_s1 hF (i := .iload 6) rfl (fun _ => rfl) ?_
      refine dp_s1 hF (i := .iload 4) rfl (fun _ => rfl) ?_
      refine dp_si (mj := dp_m_X12_ruled) (i := .invokevirtual 632) rfl rfl (Or.inl rfl) rfl (fun _ => rfl) (fun r7 M6 => ?_)
      refine dp_s1 hF (i := .goto 31) rfl (fun _ => rfl) ?_
      exact rfl
    refine dp_s1 hF (i := .aload_n 0) rfl (fun _ => rfl) ?_
    refine dp_s1 hF (i := .getfield 118) rfl (fun _ => rfl) ?_
    refine dp_s1 hF (i := .bipush 40) rfl (fun _ => rfl) ?_
    refine dp_s1 hF (i := .iload 4) rfl (fun _ => rfl) ?_
    refine dp_s1 hF (i := .imul) rfl (fun _ => rfl) ?_
    refine dp_s1 hF (i := .bipush 10) rfl (fun _ => rfl) ?_
    refine dp_s1 hF (i := .iload 6) rfl (fun _ => rfl) ?_
    refine dp_s1 hF (i := .imul) rfl (fun _ => rfl) ?_
    refine dp_s1 hF (i := .iadd) rfl (fun _ => rfl) ?_
    refine dp_s1 hF (i := .iload 7) rfl (fun _ => rfl) ?_
    refine dp_s1 hF (i := .iadd) rfl (fun _ => rfl) ?_
    refine dp_s3 hF (i := .iaload) rfl (fun _ => rfl) ?_
    refine dp_s2 hF (i := .ifCond .le 8) (a := (112, [some (.ref 114), some (.int v1), some (.int v2), some (.int v3), some (.int v4), some (.int v5), some (.int y2), some (.int y3), none, none], [], M)) (b := (107, [some (.ref 114), some (.int v1), some (.int v2), some (.int v3), some (.int v4), some (.int v5), some (.int y2), some (.int y3), none, none], [], M)) rfl (fun _ => rfl) ?_ ?_
    · refine dp_s1 hF (i := .iconst (-1)) rfl (fun _ => rfl) ?_
      exact rfl
    refine dp_s1 hF (i := .iload 7) rfl (fun _ => rfl) ?_
    refine dp_s1 hF (i := .goto 4) rfl (fun _ => rfl) ?_
    exact rfl
  refine dp_s1w (v4 + (1 : Int32)) (fun (y8 : Int32) => (205, [some (.ref 114), some (.int v1), some (.int v2), some (.int v3), some (.int y8), some (.int v5), none, none, none, none], [], M)) hF (i := .iinc 4 1) rfl (fun _ => rfl) (fun y8 => ?_)
  refine dp_s1 hF (i := .goto (-200)) rfl (fun _ => rfl) ?_
  exact rfl
set_option maxRecDepth 20000 in
theorem D_X12_barAt_5_a_eq (xs : Nat → Int32) (xl d : Nat) (v1 : Int32) (v2 : Int32) (v3 : Int32) (v4 : Int32) (v5 : Int32) (M : dp_M) : D_X12_barAt_5_a xs xl d v1 v2 v3 v4 v5 M = if (dp_I M 114 3) ≤ v4 then (some (.inl (some (.int (-1 : Int32))), M)) else (dp_w (0 : Int32) (fun y1 => D_X12_barAt_17 xs xl d v1 v2 v3 v4 y1 M)) := by
  have hF := dp_den_grow (md := true) (xs := xs) (xl := xl) d
  unfold D_X12_barAt_5_a
  refine dp_s1 hF (i := .iload 4) rfl (fun _ => rfl) ?_
  refine dp_s1 hF (i := .aload_n 0) rfl (fun _ => rfl) ?_
  refine dp_s1 hF (i := .getfield 437) rfl (fun _ => rfl) ?_
  refine dp_s2 hF (i := .if_icmp .ge 197) (a := (208, [some (.ref 114), some (.int v1), some (.int v2), some (.int v3), some (.int v4), some (.int v5), none, none, none, none], [], M)) (b := (14, [some (.ref 114), some (.int v1), some (.int v2), some (.int v3), some (.int v4), some (.int v5), none, none, none, none], [], M)) rfl (fun _ => rfl) ?_ ?_
  · refine dp_s1 hF (i := .iconst (-1)) rfl (fun _ => rfl) ?_
    exact dp_s0 hF (i := .ireturn) rfl (fun _ => rfl)
  refine dp_s1 hF (i := .iconst 0) rfl (fun _ => rfl) ?_
  refine dp_s1w (0 : Int32) (fun (y1 : Int32) => (17, [some (.ref 114), some (.int v1), some (.int v2), some (.int v3), some (.int v4), some (.int y1), none, none, none, none], [], M)) hF (i := .istore 5) rfl (fun _ => rfl) (fun y1 => ?_)
  exact rfl
set_option maxRecDepth 20000 in
theorem D_X12_barAt_113_eq (xs : Nat → Int32) (xl d : Nat) (v1 : Int32) (v2 : Int32) (v3 : Int32) (v4 : Int32) (v5 : Int32) (v6 : Int32) (v7 : Int32) (vs0 : Int32) (M : dp_M) : D_X12_barAt_113 xs xl d v1 v2 v3 v4 v5 v6 v7 vs0 M = if v5 = 0 then (if vs0 ≤ 0 then (D_X12_barAt_150 xs xl d v1 v2 v3 v4 v5 v6 v7 vs0 (0 : Int32) M) else (D_X12_barAt_150 xs xl d v1 v2 v3 v4 v5 v6 v7 vs0 (1 : Int32) M)) else (if v7 = (10 : Int32) then (if vs0 ≤ 0 then (D_X12_barAt_150 xs xl d v1 v2 v3 v4 v5 v6 v7 vs0 (0 : Int32) M) else (D_X12_barAt_150 xs xl d v1 v2 v3 v4 v5 v6 v7 vs0 (1 : Int32) M)) else (if vs0 < 0 then (D_X12_barAt_150 xs xl d v1 v2 v3 v4 v5 v6 v7 vs0 (0 : Int32) M) else (D_X12_barAt_150 xs xl d v1 v2 v3 v4 v5 v6 v7 vs0 (1 : Int32) M))) := by
  have hF := dp_den_grow (md := true) (xs := xs) (xl := xl) d
  unfold D_X12_barAt_113
  refine dp_s1 hF (i := .istore 8) rfl (fun _ => rfl) ?_
  refine dp_s1 hF (i := .iload 5) rfl (fun _ => rfl) ?_
  refine dp_s2 hF (i := .ifCond .eq 10) (a := (127, [some (.ref 114), some (.int v1), some (.int v2), some (.int v3), some (.int v4), some (.int v5), some (.int v6), some (.int v7), some (.int vs0), none], [], M)) (b := (120, [some (.ref 114), some (.int v1), some (.int v2), some (.int v3), some (.int v4), some (.int v5), some (.int v6), some (.int v7), some (.int vs0), none], [], M)) rfl (fun _ => rfl) ?_ ?_
  · refine dp_s1 hF (i := .iload 8) rfl (fun _ => rfl) ?_
    refine dp_s2 hF (i := .ifCond .le 7) (a := (136, [some (.ref 114), some (.int v1), some (.int v2), some (.int v3), some (.int v4), some (.int v5), some (.int v6), some (.int v7), some (.int vs0), none], [], M)) (b := (132, [some (.ref 114), some (.int v1), some (.int v2), some (.int v3), some (.int v4), some (.int v5), some (.int v6), some (.int v7), some (.int vs0), none], [], M)) rfl (fun _ => rfl) ?_ ?_
    · refine dp_s1 hF (i := .iconst 0) rfl (fun _ => rfl) ?_
      refine dp_s1 hF (i := .goto 13) rfl (fun _ => rfl) ?_
      exact rfl
    refine dp_s1 hF (i := .iconst 1) rfl (fun _ => rfl) ?_
    refine dp_s1 hF (i := .goto 17) rfl (fun _ => rfl) ?_
    exact rfl
  refine dp_s1 hF (i := .iload 7) rfl (fun _ => rfl) ?_
  refine dp_s1 hF (i := .bipush 10) rfl (fun _ => rfl) ?_
  refine dp_s2 hF (i := .if_icmp .ne 16) (a := (127, [some (.ref 114), some (.int v1), some (.int v2), some (.int v3), some (.int v4), some (.int v5), some (.int v6), some (.int v7), some (.int vs0), none], [], M)) (b := (140, [some (.ref 114), some (.int v1), some (.int v2), some (.int v3), some (.int v4), some (.int v5), some (.int v6), some (.int v7), some (.int vs0), none], [], M)) rfl (fun _ => rfl) ?_ ?_
  · refine dp_s1 hF (i := .iload 8) rfl (fun _ => rfl) ?_
    refine dp_s2 hF (i := .ifCond .le 7) (a := (136, [some (.ref 114), some (.int v1), some (.int v2), some (.int v3), some (.int v4), some (.int v5), some (.int v6), some (.int v7), some (.int vs0), none], [], M)) (b := (132, [some (.ref 114), some (.int v1), some (.int v2), some (.int v3), some (.int v4), some (.int v5), some (.int v6), some (.int v7), some (.int vs0), none], [], M)) rfl (fun _ => rfl) ?_ ?_
    · refine dp_s1 hF (i := .iconst 0) rfl (fun _ => rfl) ?_
      refine dp_s1 hF (i := .goto 13) rfl (fun _ => rfl) ?_
      exact rfl
    refine dp_s1 hF (i := .iconst 1) rfl (fun _ => rfl) ?_
    refine dp_s1 hF (i := .goto 17) rfl (fun _ => rfl) ?_
    exact rfl
  refine dp_s1 hF (i := .iload 8) rfl (fun _ => rfl) ?_
  refine dp_s2 hF (i := .ifCond .lt 7) (a := (149, [some (.ref 114), some (.int v1), some (.int v2), some (.int v3), some (.int v4), some (.int v5), some (.int v6), some (.int v7), some (.int vs0), none], [], M)) (b := (145, [some (.ref 114), some (.int v1), some (.int v2), some (.int v3), some (.int v4), some (.int v5), some (.int v6), some (.int v7), some (.int vs0), none], [], M)) rfl (fun _ => rfl) ?_ ?_
  · refine dp_s1 hF (i := .iconst 0) rfl (fun _ => rfl) ?_
    exact rfl
  refine dp_s1 hF (i := .iconst 1) rfl (fun _ => rfl) ?_
  refine dp_s1 hF (i := .goto 4) rfl (fun _ => rfl) ?_
  exact rfl
set_option maxRecDepth 20000 in
theorem D_X12_barAt_150_eq (xs : Nat → Int32) (xl d : Nat) (v1 : Int32) (v2 : Int32) (v3 : Int32) (v4 : Int32) (v5 : Int32) (v6 : Int32) (v7 : Int32) (v8 : Int32) (vs0 : Int32) (M : dp_M) : D_X12_barAt_150 xs xl d v1 v2 v3 v4 v5 v6 v7 v8 vs0 M = if vs0 = 0 then (if vs0 = 0 then (dp_w (v3 - (0 : Int32)) (fun y1 => dp_w (v5 + (1 : Int32)) (fun y2 => D_X12_barAt_17_a xs xl d v1 v2 y1 v4 y2 v6 v7 v8 vs0 M))) else (dp_w (v3 - (1 : Int32)) (fun y3 => dp_w (v5 + (1 : Int32)) (fun y4 => D_X12_barAt_17_a xs xl d v1 v2 y3 v4 y4 v6 v7 v8 vs0 M)))) else (if v3 = 0 then (if v5 = 0 then (some (.inl (some (.int v8)), M)) else (some (.inl (some (.int (((100 : Int32) + ((100 : Int32) * v6)) + v8))), M))) else (if vs0 = 0 then (dp_w (v3 - (0 : Int32)) (fun y5 => dp_w (v5 + (1 : Int32)) (fun y6 => D_X12_barAt_17_a xs xl d v1 v2 y5 v4 y6 v6 v7 v8 vs0 M))) else (dp_w (v3 - (1 : Int32)) (fun y7 => dp_w (v5 + (1 : Int32)) (fun y8 => D_X12_barAt_17_a xs xl d v1 v2 y7 v4 y8 v6 v7 v8 vs0 M))))) := by
  have hF := dp_den_grow (md := true) (xs := xs) (xl := xl) d
  unfold D_X12_barAt_150
  refine dp_s1 hF (i := .istore 9) rfl (fun _ => rfl) ?_
  refine dp_s1 hF (i := .iload 9) rfl (fun _ => rfl) ?_
  refine dp_s2 hF (i := .ifCond .eq 29) (a := (183, [some (.ref 114), some (.int v1), some (.int v2), some (.int v3), some (.int v4), some (.int v5), some (.int v6), some (.int v7), some (.int v8), some (.int vs0)], [], M)) (b := (157, [some (.ref 114), some (.int v1), some (.int v2), some (.int v3), some (.int v4), some (.int v5), some (.int v6), some (.int v7), some (.int v8), some (.int vs0)], [], M)) rfl (fun _ => rfl) ?_ ?_
  · refine dp_s1 hF (i := .iload_n 3) rfl (fun _ => rfl) ?_
    refine dp_s1 hF (i := .iload 9) rfl (fun _ => rfl) ?_
    refine dp_s2 hF (i := .ifCond .eq 7) (a := (193, [some (.ref 114), some (.int v1), some (.int v2), some (.int v3), some (.int v4), some (.int v5), some (.int v6), some (.int v7), some (.int v8), some (.int vs0)], [.int v3], M)) (b := (189, [some (.ref 114), some (.int v1), some (.int v2), some (.int v3), some (.int v4), some (.int v5), some (.int v6), some (.int v7), some (.int v8), some (.int vs0)], [.int v3], M)) rfl (fun _ => rfl) ?_ ?_
    · refine dp_s1 hF (i := .iconst 0) rfl (fun _ => rfl) ?_
      refine dp_s1 hF (i := .isub) rfl (fun _ => rfl) ?_
      refine dp_s1w (v3 - (0 : Int32)) (fun (y1 : Int32) => (196, [some (.ref 114), some (.int v1), some (.int v2), some (.int y1), some (.int v4), some (.int v5), some (.int v6), some (.int v7), some (.int v8), some (.int vs0)], [], M)) hF (i := .istore_n 3) rfl (fun _ => rfl) (fun y1 => ?_)
      refine dp_s1w (v5 + (1 : Int32)) (fun (y2 : Int32) => (199, [some (.ref 114), some (.int v1), some (.int v2), some (.int y1), some (.int v4), some (.int y2), some (.int v6), some (.int v7), some (.int v8), some (.int vs0)], [], M)) hF (i := .iinc 5 1) rfl (fun _ => rfl) (fun y2 => ?_)
      refine dp_s1 hF (i := .goto (-182)) rfl (fun _ => rfl) ?_
      exact rfl
    refine dp_s1 hF (i := .iconst 1) rfl (fun _ => rfl) ?_
    refine dp_s1 hF (i := .goto 4) rfl (fun _ => rfl) ?_
    refine dp_s1 hF (i := .isub) rfl (fun _ => rfl) ?_
    refine dp_s1w (v3 - (1 : Int32)) (fun (y3 : Int32) => (196, [some (.ref 114), some (.int v1), some (.int v2), some (.int y3), some (.int v4), some (.int v5), some (.int v6), some (.int v7), some (.int v8), some (.int vs0)], [], M)) hF (i := .istore_n 3) rfl (fun _ => rfl) (fun y3 => ?_)
    refine dp_s1w (v5 + (1 : Int32)) (fun (y4 : Int32) => (199, [some (.ref 114), some (.int v1), some (.int v2), some (.int y3), some (.int v4), some (.int y4), some (.int v6), some (.int v7), some (.int v8), some (.int vs0)], [], M)) hF (i := .iinc 5 1) rfl (fun _ => rfl) (fun y4 => ?_)
    refine dp_s1 hF (i := .goto (-182)) rfl (fun _ => rfl) ?_
    exact rfl
  refine dp_s1 hF (i := .iload_n 3) rfl (fun _ => rfl) ?_
  refine dp_s2 hF (i := .ifCond .ne 25) (a := (161, [some (.ref 114), some (.int v1), some (.int v2), some (.int v3), some (.int v4), some (.int v5), some (.int v6), some (.int v7), some (.int v8), some (.int vs0)], [], M)) (b := (183, [some (.ref 114), some (.int v1), some (.int v2), some (.int v3), some (.int v4), some (.int v5), some (.int v6), some (.int v7), some (.int v8), some (.int vs0)], [], M)) rfl (fun _ => rfl) ?_ ?_
  · refine dp_s1 hF (i := .iload 5) rfl (fun _ => rfl) ?_
    refine dp_s2 hF (i := .ifCond .ne 8) (a := (166, [some (.ref 114), some (.int v1), some (.int v2), some (.int v3), some (.int v4), some (.int v5), some (.int v6), some (.int v7), some (.int v8), some (.int vs0)], [], M)) (b := (171, [some (.ref 114), some (.int v1), some (.int v2), some (.int v3), some (.int v4), some (.int v5), some (.int v6), some (.int v7), some (.int v8), some (.int vs0)], [], M)) rfl (fun _ => rfl) ?_ ?_
    · refine dp_s1 hF (i := .iload 8) rfl (fun _ => rfl) ?_
      refine dp_s1 hF (i := .goto 14) rfl (fun _ => rfl) ?_
      exact dp_s0 hF (i := .ireturn) rfl (fun _ => rfl)
    refine dp_s1 hF (i := .bipush 100) rfl (fun _ => rfl) ?_
    refine dp_s1 hF (i := .bipush 100) rfl (fun _ => rfl) ?_
    refine dp_s1 hF (i := .iload 6) rfl (fun _ => rfl) ?_
    refine dp_s1 hF (i := .imul) rfl (fun _ => rfl) ?_
    refine dp_s1 hF (i := .iadd) rfl (fun _ => rfl) ?_
    refine dp_s1 hF (i := .iload 8) rfl (fun _ => rfl) ?_
    refine dp_s1 hF (i := .iadd) rfl (fun _ => rfl) ?_
    exact dp_s0 hF (i := .ireturn) rfl (fun _ => rfl)
  refine dp_s1 hF (i := .iload_n 3) rfl (fun _ => rfl) ?_
  refine dp_s1 hF (i := .iload 9) rfl (fun _ => rfl) ?_
  refine dp_s2 hF (i := .ifCond .eq 7) (a := (193, [some (.ref 114), some (.int v1), some (.int v2), some (.int v3), some (.int v4), some (.int v5), some (.int v6), some (.int v7), some (.int v8), some (.int vs0)], [.int v3], M)) (b := (189, [some (.ref 114), some (.int v1), some (.int v2), some (.int v3), some (.int v4), some (.int v5), some (.int v6), some (.int v7), some (.int v8), some (.int vs0)], [.int v3], M)) rfl (fun _ => rfl) ?_ ?_
  · refine dp_s1 hF (i := .iconst 0) rfl (fun _ => rfl) ?_
    refine dp_s1 hF (i := .isub) rfl (fun _ => rfl) ?_
    refine dp_s1w (v3 - (0 : Int32)) (fun (y5 : Int32) => (196, [some (.ref 114), some (.int v1), some (.int v2), some (.int y5), some (.int v4), some (.int v5), some (.int v6), some (.int v7), some (.int v8), some (.int vs0)], [], M)) hF (i := .istore_n 3) rfl (fun _ => rfl) (fun y5 => ?_)
    refine dp_s1w (v5 + (1 : Int32)) (fun (y6 : Int32) => (199, [some (.ref 114), some (.int v1), some (.int v2), some (.int y5), some (.int v4), some (.int y6), some (.int v6), some (.int v7), some (.int v8), some (.int vs0)], [], M)) hF (i := .iinc 5 1) rfl (fun _ => rfl) (fun y6 => ?_)
    refine dp_s1 hF (i := .goto (-182)) rfl (fun _ => rfl) ?_
    exact rfl
  refine dp_s1 hF (i := .iconst 1) rfl (fun _ => rfl) ?_
  refine dp_s1 hF (i := .goto 4) rfl (fun _ => rfl) ?_
  refine dp_s1 hF (i := .isub) rfl (fun _ => rfl) ?_
  refine dp_s1w (v3 - (1 : Int32)) (fun (y7 : Int32) => (196, [some (.ref 114), some (.int v1), some (.int v2), some (.int y7), some (.int v4), some (.int v5), some (.int v6), some (.int v7), some (.int v8), some (.int vs0)], [], M)) hF (i := .istore_n 3) rfl (fun _ => rfl) (fun y7 => ?_)
  refine dp_s1w (v5 + (1 : Int32)) (fun (y8 : Int32) => (199, [some (.ref 114), some (.int v1), some (.int v2), some (.int y7), some (.int v4), some (.int y8), some (.int v6), some (.int v7), some (.int v8), some (.int vs0)], [], M)) hF (i := .iinc 5 1) rfl (fun _ => rfl) (fun y8 => ?_)
  refine dp_s1 hF (i := .goto (-182)) rfl (fun _ => rfl) ?_
  exact rfl
set_option maxRecDepth 20000 in
theorem D_X12_barAt_17_a_eq (xs : Nat → Int32) (xl d : Nat) (v1 : Int32) (v2 : Int32) (v3 : Int32) (v4 : Int32) (v5 : Int32) (v6 : Int32) (v7 : Int32) (v8 : Int32) (v9 : Int32) (M : dp_M) : D_X12_barAt_17_a xs xl d v1 v2 v3 v4 v5 v6 v7 v8 v9 M = if (45 : Int32) ≤ v5 then (dp_w (v4 + (1 : Int32)) (fun y1 => D_X12_barAt_5_b xs xl d v1 v2 v3 y1 v5 v6 v7 v8 v9 M)) else (if v4 < 0 ∨ 100 ≤ Int32.toNatClampNeg v4 then none else (if (dp_I M 146 (Int32.toNatClampNeg v4)) = v1 then (dp_w ((v5 - (1 : Int32)) / (11 : Int32)) (fun y2 => dp_w ((v5 - (1 : Int32)) - (v5 - (1 : Int32)) / (11 : Int32) * (11 : Int32)) (fun y3 => if v5 = 0 then (dp_bi (dp_den true xs xl d 427 [.ref 114, .int v4] M) (fun r5 M4 => D_X12_barAt_113_a xs xl d v1 v2 v3 v4 v5 y2 y3 v8 v9 r5 M4)) else (if y3 = (10 : Int32) then (dp_bi (dp_den true xs xl d 432 [.ref 114, .int y2, .int v4] M) (fun r7 M6 => D_X12_barAt_113_a xs xl d v1 v2 v3 v4 v5 y2 y3 v8 v9 r7 M6)) else (if ((((40 : Int32) * v4) + ((10 : Int32) * y2)) + y3) < 0 ∨ 4000 ≤ Int32.toNatClampNeg ((((40 : Int32) * v4) + ((10 : Int32) * y2)) + y3) then none else (if (dp_I M 149 (Int32.toNatClampNeg ((((40 : Int32) * v4) + ((10 : Int32) * y2)) + y3))) ≤ 0 then (D_X12_barAt_113_a xs xl d v1 v2 v3 v4 v5 y2 y3 v8 v9 (-1 : Int32) M) else (D_X12_barAt_113_a xs xl d v1 v2 v3 v4 v5 y2 y3 v8 v9 y3 M))))))) else (dp_w (v4 + (1 : Int32)) (fun y8 => D_X12_barAt_5_b xs xl d v1 v2 v3 y8 v5 v6 v7 v8 v9 M)))) := by
  have hF := dp_den_grow (md := true) (xs := xs) (xl := xl) d
  unfold D_X12_barAt_17_a
  refine dp_s1 hF (i := .iload 5) rfl (fun _ => rfl) ?_
  refine dp_s1 hF (i := .bipush 45) rfl (fun _ => rfl) ?_
  refine dp_s2 hF (i := .if_icmp .ge 181) (a := (202, [some (.ref 114), some (.int v1), some (.int v2), some (.int v3), some (.int v4), some (.int v5), some (.int v6), some (.int v7), some (.int v8), some (.int v9)], [], M)) (b := (24, [some (.ref 114), some (.int v1), some (.int v2), some (.int v3), some (.int v4), some (.int v5), some (.int v6), some (.int v7), some (.int v8), some (.int v9)], [], M)) rfl (fun _ => rfl) ?_ ?_
  · refine dp_s1w (v4 + (1 : Int32)) (fun (y1 : Int32) => (205, [some (.ref 114), some (.int v1), some (.int v2), some (.int v3), some (.int y1), some (.int v5), some (.int v6), some (.int v7), some (.int v8), some (.int v9)], [], M)) hF (i := .iinc 4 1) rfl (fun _ => rfl) (fun y1 => ?_)
    refine dp_s1 hF (i := .goto (-200)) rfl (fun _ => rfl) ?_
    exact rfl
  refine dp_s1 hF (i := .aload_n 0) rfl (fun _ => rfl) ?_
  refine dp_s1 hF (i := .getfield 109) rfl (fun _ => rfl) ?_
  refine dp_s1 hF (i := .iload 4) rfl (fun _ => rfl) ?_
  refine dp_s3 hF (i := .iaload) rfl (fun _ => rfl) ?_
  refine dp_s1 hF (i := .iload_n 1) rfl (fun _ => rfl) ?_
  refine dp_s2 hF (i := .if_icmp .ne 170) (a := (35, [some (.ref 114), some (.int v1), some (.int v2), some (.int v3), some (.int v4), some (.int v5), some (.int v6), some (.int v7), some (.int v8), some (.int v9)], [], M)) (b := (202, [some (.ref 114), some (.int v1), some (.int v2), some (.int v3), some (.int v4), some (.int v5), some (.int v6), some (.int v7), some (.int v8), some (.int v9)], [], M)) rfl (fun _ => rfl) ?_ ?_
  · refine dp_s1 hF (i := .iload 5) rfl (fun _ => rfl) ?_
    refine dp_s1 hF (i := .iconst 1) rfl (fun _ => rfl) ?_
    refine dp_s1 hF (i := .isub) rfl (fun _ => rfl) ?_
    refine dp_s1 hF (i := .bipush 11) rfl (fun _ => rfl) ?_
    refine dp_s1 hF (i := .idiv) rfl (fun _ => rfl) ?_
    refine dp_s1w ((v5 - (1 : Int32)) / (11 : Int32)) (fun (y2 : Int32) => (44, [some (.ref 114), some (.int v1), some (.int v2), some (.int v3), some (.int v4), some (.int v5), some (.int y2), some (.int v7), some (.int v8), some (.int v9)], [], M)) hF (i := .istore 6) rfl (fun _ => rfl) (fun y2 => ?_)
    refine dp_s1 hF (i := .iload 5) rfl (fun _ => rfl) ?_
    refine dp_s1 hF (i := .iconst 1) rfl (fun _ => rfl) ?_
    refine dp_s1 hF (i := .isub) rfl (fun _ => rfl) ?_
    refine dp_s1 hF (i := .bipush 11) rfl (fun _ => rfl) ?_
    refine dp_s1 hF (i := .irem) rfl (fun _ => rfl) ?_
    refine dp_s1w ((v5 - (1 : Int32)) - (v5 - (1 : Int32)) / (11 : Int32) * (11 : Int32)) (fun (y3 : Int32) => (53, [some (.ref 114), some (.int v1), some (.int v2), some (.int v3), some (.int v4), some (.int v5), some (.int y2), some (.int y3), some (.int v8), some (.int v9)], [], M)) hF (i := .istore 7) rfl (fun _ => rfl) (fun y3 => ?_)
    refine dp_s1 hF (i := .iload 5) rfl (fun _ => rfl) ?_
    refine dp_s2 hF (i := .ifCond .ne 12) (a := (58, [some (.ref 114), some (.int v1), some (.int v2), some (.int v3), some (.int v4), some (.int v5), some (.int y2), some (.int y3), some (.int v8), some (.int v9)], [], M)) (b := (67, [some (.ref 114), some (.int v1), some (.int v2), some (.int v3), some (.int v4), some (.int v5), some (.int y2), some (.int y3), some (.int v8), some (.int v9)], [], M)) rfl (fun _ => rfl) ?_ ?_
    · refine dp_s1 hF (i := .aload_n 0) rfl (fun _ => rfl) ?_
      refine dp_s1 hF (i := .iload 4) rfl (fun _ => rfl) ?_
      refine dp_si (mj := dp_m_X12_ownBar) (i := .invokevirtual 629) rfl rfl (Or.inl rfl) rfl (fun _ => rfl) (fun r5 M4 => ?_)
      refine dp_s1 hF (i := .goto 49) rfl (fun _ => rfl) ?_
      exact rfl
    refine dp_s1 hF (i := .iload 7) rfl (fun _ => rfl) ?_
    refine dp_s1 hF (i := .bipush 10) rfl (fun _ => rfl) ?_
    refine dp_s2 hF (i := .if_icmp .ne 14) (a := (74, [some (.ref 114), some (.int v1), some (.int v2), some (.int v3), some (.int v4), some (.int v5), some (.int y2), some (.int y3), some (.int v8), some (.int v9)], [], M)) (b := (85, [some (.ref 114), some (.int v1), some (.int v2), some (.int v3), some (.int v4), some (.int v5), some (.int y2), some (.int y3), some (.int v8), some (.int v9)], [], M)) rfl (fun _ => rfl) ?_ ?_
    · refine dp_s1 hF (i := .aload_n 0) rfl (fun _ => rfl) ?_
      refine dp_s1 hF (i := .iload 6) rfl (fun _ => rfl) ?_
      refine dp_s1 hF (i := .iload 4) rfl (fun _ => rfl) ?_
      refine dp_si (mj := dp_m_X12_ruled) (i := .invokevirtual 632) rfl rfl (Or.inl rfl) rfl (fun _ => rfl) (fun r7 M6 => ?_)
      refine dp_s1 hF (i := .goto 31) rfl (fun _ => rfl) ?_
      exact rfl
    refine dp_s1 hF (i := .aload_n 0) rfl (fun _ => rfl) ?_
    refine dp_s1 hF (i := .getfield 118) rfl (fun _ => rfl) ?_
    refine dp_s1 hF (i := .bipush 40) rfl (fun _ => rfl) ?_
    refine dp_s1 hF (i := .iload 4) rfl (fun _ => rfl) ?_
    refine dp_s1 hF (i := .imul) rfl (fun _ => rfl) ?_
    refine dp_s1 hF (i := .bipush 10) rfl (fun _ => rfl) ?_
    refine dp_s1 hF (i := .iload 6) rfl (fun _ => rfl) ?_
    refine dp_s1 hF (i := .imul) rfl (fun _ => rfl) ?_
    refine dp_s1 hF (i := .iadd) rfl (fun _ => rfl) ?_
    refine dp_s1 hF (i := .iload 7) rfl (fun _ => rfl) ?_
    refine dp_s1 hF (i := .iadd) rfl (fun _ => rfl) ?_
    refine dp_s3 hF (i := .iaload) rfl (fun _ => rfl) ?_
    refine dp_s2 hF (i := .ifCond .le 8) (a := (112, [some (.ref 114), some (.int v1), some (.int v2), some (.int v3), some (.int v4), some (.int v5), some (.int y2), some (.int y3), some (.int v8), some (.int v9)], [], M)) (b := (107, [some (.ref 114), some (.int v1), some (.int v2), some (.int v3), some (.int v4), some (.int v5), some (.int y2), some (.int y3), some (.int v8), some (.int v9)], [], M)) rfl (fun _ => rfl) ?_ ?_
    · refine dp_s1 hF (i := .iconst (-1)) rfl (fun _ => rfl) ?_
      exact rfl
    refine dp_s1 hF (i := .iload 7) rfl (fun _ => rfl) ?_
    refine dp_s1 hF (i := .goto 4) rfl (fun _ => rfl) ?_
    exact rfl
  refine dp_s1w (v4 + (1 : Int32)) (fun (y8 : Int32) => (205, [some (.ref 114), some (.int v1), some (.int v2), some (.int v3), some (.int y8), some (.int v5), some (.int v6), some (.int v7), some (.int v8), some (.int v9)], [], M)) hF (i := .iinc 4 1) rfl (fun _ => rfl) (fun y8 => ?_)
  refine dp_s1 hF (i := .goto (-200)) rfl (fun _ => rfl) ?_
  exact rfl
set_option maxRecDepth 20000 in
theorem D_X12_barAt_5_b_eq (xs : Nat → Int32) (xl d : Nat) (v1 : Int32) (v2 : Int32) (v3 : Int32) (v4 : Int32) (v5 : Int32) (v6 : Int32) (v7 : Int32) (v8 : Int32) (v9 : Int32) (M : dp_M) : D_X12_barAt_5_b xs xl d v1 v2 v3 v4 v5 v6 v7 v8 v9 M = if (dp_I M 114 3) ≤ v4 then (some (.inl (some (.int (-1 : Int32))), M)) else (dp_w (0 : Int32) (fun y1 => D_X12_barAt_17_a xs xl d v1 v2 v3 v4 y1 v6 v7 v8 v9 M)) := by
  have hF := dp_den_grow (md := true) (xs := xs) (xl := xl) d
  unfold D_X12_barAt_5_b
  refine dp_s1 hF (i := .iload 4) rfl (fun _ => rfl) ?_
  refine dp_s1 hF (i := .aload_n 0) rfl (fun _ => rfl) ?_
  refine dp_s1 hF (i := .getfield 437) rfl (fun _ => rfl) ?_
  refine dp_s2 hF (i := .if_icmp .ge 197) (a := (208, [some (.ref 114), some (.int v1), some (.int v2), some (.int v3), some (.int v4), some (.int v5), some (.int v6), some (.int v7), some (.int v8), some (.int v9)], [], M)) (b := (14, [some (.ref 114), some (.int v1), some (.int v2), some (.int v3), some (.int v4), some (.int v5), some (.int v6), some (.int v7), some (.int v8), some (.int v9)], [], M)) rfl (fun _ => rfl) ?_ ?_
  · refine dp_s1 hF (i := .iconst (-1)) rfl (fun _ => rfl) ?_
    exact dp_s0 hF (i := .ireturn) rfl (fun _ => rfl)
  refine dp_s1 hF (i := .iconst 0) rfl (fun _ => rfl) ?_
  refine dp_s1w (0 : Int32) (fun (y1 : Int32) => (17, [some (.ref 114), some (.int v1), some (.int v2), some (.int v3), some (.int v4), some (.int y1), some (.int v6), some (.int v7), some (.int v8), some (.int v9)], [], M)) hF (i := .istore 5) rfl (fun _ => rfl) (fun y1 => ?_)
  exact rfl
set_option maxRecDepth 20000 in
theorem D_X12_barAt_113_a_eq (xs : Nat → Int32) (xl d : Nat) (v1 : Int32) (v2 : Int32) (v3 : Int32) (v4 : Int32) (v5 : Int32) (v6 : Int32) (v7 : Int32) (v8 : Int32) (v9 : Int32) (vs0 : Int32) (M : dp_M) : D_X12_barAt_113_a xs xl d v1 v2 v3 v4 v5 v6 v7 v8 v9 vs0 M = if v5 = 0 then (if vs0 ≤ 0 then (D_X12_barAt_150_a xs xl d v1 v2 v3 v4 v5 v6 v7 vs0 v9 (0 : Int32) M) else (D_X12_barAt_150_a xs xl d v1 v2 v3 v4 v5 v6 v7 vs0 v9 (1 : Int32) M)) else (if v7 = (10 : Int32) then (if vs0 ≤ 0 then (D_X12_barAt_150_a xs xl d v1 v2 v3 v4 v5 v6 v7 vs0 v9 (0 : Int32) M) else (D_X12_barAt_150_a xs xl d v1 v2 v3 v4 v5 v6 v7 vs0 v9 (1 : Int32) M)) else (if vs0 < 0 then (D_X12_barAt_150_a xs xl d v1 v2 v3 v4 v5 v6 v7 vs0 v9 (0 : Int32) M) else (D_X12_barAt_150_a xs xl d v1 v2 v3 v4 v5 v6 v7 vs0 v9 (1 : Int32) M))) := by
  have hF := dp_den_grow (md := true) (xs := xs) (xl := xl) d
  unfold D_X12_barAt_113_a
  refine dp_s1 hF (i := .istore 8) rfl (fun _ => rfl) ?_
  refine dp_s1 hF (i := .iload 5) rfl (fun _ => rfl) ?_
  refine dp_s2 hF (i := .ifCond .eq 10) (a := (127, [some (.ref 114), some (.int v1), some (.int v2), some (.int v3), some (.int v4), some (.int v5), some (.int v6), some (.int v7), some (.int vs0), some (.int v9)], [], M)) (b := (120, [some (.ref 114), some (.int v1), some (.int v2), some (.int v3), some (.int v4), some (.int v5), some (.int v6), some (.int v7), some (.int vs0), some (.int v9)], [], M)) rfl (fun _ => rfl) ?_ ?_
  · refine dp_s1 hF (i := .iload 8) rfl (fun _ => rfl) ?_
    refine dp_s2 hF (i := .ifCond .le 7) (a := (136, [some (.ref 114), some (.int v1), some (.int v2), some (.int v3), some (.int v4), some (.int v5), some (.int v6), some (.int v7), some (.int vs0), some (.int v9)], [], M)) (b := (132, [some (.ref 114), some (.int v1), some (.int v2), some (.int v3), some (.int v4), some (.int v5), some (.int v6), some (.int v7), some (.int vs0), some (.int v9)], [], M)) rfl (fun _ => rfl) ?_ ?_
    · refine dp_s1 hF (i := .iconst 0) rfl (fun _ => rfl) ?_
      refine dp_s1 hF (i := .goto 13) rfl (fun _ => rfl) ?_
      exact rfl
    refine dp_s1 hF (i := .iconst 1) rfl (fun _ => rfl) ?_
    refine dp_s1 hF (i := .goto 17) rfl (fun _ => rfl) ?_
    exact rfl
  refine dp_s1 hF (i := .iload 7) rfl (fun _ => rfl) ?_
  refine dp_s1 hF (i := .bipush 10) rfl (fun _ => rfl) ?_
  refine dp_s2 hF (i := .if_icmp .ne 16) (a := (127, [some (.ref 114), some (.int v1), some (.int v2), some (.int v3), some (.int v4), some (.int v5), some (.int v6), some (.int v7), some (.int vs0), some (.int v9)], [], M)) (b := (140, [some (.ref 114), some (.int v1), some (.int v2), some (.int v3), some (.int v4), some (.int v5), some (.int v6), some (.int v7), some (.int vs0), some (.int v9)], [], M)) rfl (fun _ => rfl) ?_ ?_
  · refine dp_s1 hF (i := .iload 8) rfl (fun _ => rfl) ?_
    refine dp_s2 hF (i := .ifCond .le 7) (a := (136, [some (.ref 114), some (.int v1), some (.int v2), some (.int v3), some (.int v4), some (.int v5), some (.int v6), some (.int v7), some (.int vs0), some (.int v9)], [], M)) (b := (132, [some (.ref 114), some (.int v1), some (.int v2), some (.int v3), some (.int v4), some (.int v5), some (.int v6), some (.int v7), some (.int vs0), some (.int v9)], [], M)) rfl (fun _ => rfl) ?_ ?_
    · refine dp_s1 hF (i := .iconst 0) rfl (fun _ => rfl) ?_
      refine dp_s1 hF (i := .goto 13) rfl (fun _ => rfl) ?_
      exact rfl
    refine dp_s1 hF (i := .iconst 1) rfl (fun _ => rfl) ?_
    refine dp_s1 hF (i := .goto 17) rfl (fun _ => rfl) ?_
    exact rfl
  refine dp_s1 hF (i := .iload 8) rfl (fun _ => rfl) ?_
  refine dp_s2 hF (i := .ifCond .lt 7) (a := (149, [some (.ref 114), some (.int v1), some (.int v2), some (.int v3), some (.int v4), some (.int v5), some (.int v6), some (.int v7), some (.int vs0), some (.int v9)], [], M)) (b := (145, [some (.ref 114), some (.int v1), some (.int v2), some (.int v3), some (.int v4), some (.int v5), some (.int v6), some (.int v7), some (.int vs0), some (.int v9)], [], M)) rfl (fun _ => rfl) ?_ ?_
  · refine dp_s1 hF (i := .iconst 0) rfl (fun _ => rfl) ?_
    exact rfl
  refine dp_s1 hF (i := .iconst 1) rfl (fun _ => rfl) ?_
  refine dp_s1 hF (i := .goto 4) rfl (fun _ => rfl) ?_
  exact rfl
set_option maxRecDepth 20000 in
theorem D_X12_barAt_150_a_eq (xs : Nat → Int32) (xl d : Nat) (v1 : Int32) (v2 : Int32) (v3 : Int32) (v4 : Int32) (v5 : Int32) (v6 : Int32) (v7 : Int32) (v8 : Int32) (v9 : Int32) (vs0 : Int32) (M : dp_M) : D_X12_barAt_150_a xs xl d v1 v2 v3 v4 v5 v6 v7 v8 v9 vs0 M = if vs0 = 0 then (if vs0 = 0 then (dp_w (v3 - (0 : Int32)) (fun y1 => dp_w (v5 + (1 : Int32)) (fun y2 => D_X12_barAt_17_a xs xl d v1 v2 y1 v4 y2 v6 v7 v8 vs0 M))) else (dp_w (v3 - (1 : Int32)) (fun y3 => dp_w (v5 + (1 : Int32)) (fun y4 => D_X12_barAt_17_a xs xl d v1 v2 y3 v4 y4 v6 v7 v8 vs0 M)))) else (if v3 = 0 then (if v5 = 0 then (some (.inl (some (.int v8)), M)) else (some (.inl (some (.int (((100 : Int32) + ((100 : Int32) * v6)) + v8))), M))) else (if vs0 = 0 then (dp_w (v3 - (0 : Int32)) (fun y5 => dp_w (v5 + (1 : Int32)) (fun y6 => D_X12_barAt_17_a xs xl d v1 v2 y5 v4 y6 v6 v7 v8 vs0 M))) else (dp_w (v3 - (1 : Int32)) (fun y7 => dp_w (v5 + (1 : Int32)) (fun y8 => D_X12_barAt_17_a xs xl d v1 v2 y7 v4 y8 v6 v7 v8 vs0 M))))) := by
  have hF := dp_den_grow (md := true) (xs := xs) (xl := xl) d
  unfold D_X12_barAt_150_a
  refine dp_s1 hF (i := .istore 9) rfl (fun _ => rfl) ?_
  refine dp_s1 hF (i := .iload 9) rfl (fun _ => rfl) ?_
  refine dp_s2 hF (i := .ifCond .eq 29) (a := (183, [some (.ref 114), some (.int v1), some (.int v2), some (.int v3), some (.int v4), some (.int v5), some (.int v6), some (.int v7), some (.int v8), some (.int vs0)], [], M)) (b := (157, [some (.ref 114), some (.int v1), some (.int v2), some (.int v3), some (.int v4), some (.int v5), some (.int v6), some (.int v7), some (.int v8), some (.int vs0)], [], M)) rfl (fun _ => rfl) ?_ ?_
  · refine dp_s1 hF (i := .iload_n 3) rfl (fun _ => rfl) ?_
    refine dp_s1 hF (i := .iload 9) rfl (fun _ => rfl) ?_
    refine dp_s2 hF (i := .ifCond .eq 7) (a := (193, [some (.ref 114), some (.int v1), some (.int v2), some (.int v3), some (.int v4), some (.int v5), some (.int v6), some (.int v7), some (.int v8), some (.int vs0)], [.int v3], M)) (b := (189, [some (.ref 114), some (.int v1), some (.int v2), some (.int v3), some (.int v4), some (.int v5), some (.int v6), some (.int v7), some (.int v8), some (.int vs0)], [.int v3], M)) rfl (fun _ => rfl) ?_ ?_
    · refine dp_s1 hF (i := .iconst 0) rfl (fun _ => rfl) ?_
      refine dp_s1 hF (i := .isub) rfl (fun _ => rfl) ?_
      refine dp_s1w (v3 - (0 : Int32)) (fun (y1 : Int32) => (196, [some (.ref 114), some (.int v1), some (.int v2), some (.int y1), some (.int v4), some (.int v5), some (.int v6), some (.int v7), some (.int v8), some (.int vs0)], [], M)) hF (i := .istore_n 3) rfl (fun _ => rfl) (fun y1 => ?_)
      refine dp_s1w (v5 + (1 : Int32)) (fun (y2 : Int32) => (199, [some (.ref 114), some (.int v1), some (.int v2), some (.int y1), some (.int v4), some (.int y2), some (.int v6), some (.int v7), some (.int v8), some (.int vs0)], [], M)) hF (i := .iinc 5 1) rfl (fun _ => rfl) (fun y2 => ?_)
      refine dp_s1 hF (i := .goto (-182)) rfl (fun _ => rfl) ?_
      exact rfl
    refine dp_s1 hF (i := .iconst 1) rfl (fun _ => rfl) ?_
    refine dp_s1 hF (i := .goto 4) rfl (fun _ => rfl) ?_
    refine dp_s1 hF (i := .isub) rfl (fun _ => rfl) ?_
    refine dp_s1w (v3 - (1 : Int32)) (fun (y3 : Int32) => (196, [some (.ref 114), some (.int v1), some (.int v2), some (.int y3), some (.int v4), some (.int v5), some (.int v6), some (.int v7), some (.int v8), some (.int vs0)], [], M)) hF (i := .istore_n 3) rfl (fun _ => rfl) (fun y3 => ?_)
    refine dp_s1w (v5 + (1 : Int32)) (fun (y4 : Int32) => (199, [some (.ref 114), some (.int v1), some (.int v2), some (.int y3), some (.int v4), some (.int y4), some (.int v6), some (.int v7), some (.int v8), some (.int vs0)], [], M)) hF (i := .iinc 5 1) rfl (fun _ => rfl) (fun y4 => ?_)
    refine dp_s1 hF (i := .goto (-182)) rfl (fun _ => rfl) ?_
    exact rfl
  refine dp_s1 hF (i := .iload_n 3) rfl (fun _ => rfl) ?_
  refine dp_s2 hF (i := .ifCond .ne 25) (a := (161, [some (.ref 114), some (.int v1), some (.int v2), some (.int v3), some (.int v4), some (.int v5), some (.int v6), some (.int v7), some (.int v8), some (.int vs0)], [], M)) (b := (183, [some (.ref 114), some (.int v1), some (.int v2), some (.int v3), some (.int v4), some (.int v5), some (.int v6), some (.int v7), some (.int v8), some (.int vs0)], [], M)) rfl (fun _ => rfl) ?_ ?_
  · refine dp_s1 hF (i := .iload 5) rfl (fun _ => rfl) ?_
    refine dp_s2 hF (i := .ifCond .ne 8) (a := (166, [some (.ref 114), some (.int v1), some (.int v2), some (.int v3), some (.int v4), some (.int v5), some (.int v6), some (.int v7), some (.int v8), some (.int vs0)], [], M)) (b := (171, [some (.ref 114), some (.int v1), some (.int v2), some (.int v3), some (.int v4), some (.int v5), some (.int v6), some (.int v7), some (.int v8), some (.int vs0)], [], M)) rfl (fun _ => rfl) ?_ ?_
    · refine dp_s1 hF (i := .iload 8) rfl (fun _ => rfl) ?_
      refine dp_s1 hF (i := .goto 14) rfl (fun _ => rfl) ?_
      exact dp_s0 hF (i := .ireturn) rfl (fun _ => rfl)
    refine dp_s1 hF (i := .bipush 100) rfl (fun _ => rfl) ?_
    refine dp_s1 hF (i := .bipush 100) rfl (fun _ => rfl) ?_
    refine dp_s1 hF (i := .iload 6) rfl (fun _ => rfl) ?_
    refine dp_s1 hF (i := .imul) rfl (fun _ => rfl) ?_
    refine dp_s1 hF (i := .iadd) rfl (fun _ => rfl) ?_
    refine dp_s1 hF (i := .iload 8) rfl (fun _ => rfl) ?_
    refine dp_s1 hF (i := .iadd) rfl (fun _ => rfl) ?_
    exact dp_s0 hF (i := .ireturn) rfl (fun _ => rfl)
  refine dp_s1 hF (i := .iload_n 3) rfl (fun _ => rfl) ?_
  refine dp_s1 hF (i := .iload 9) rfl (fun _ => rfl) ?_
  refine dp_s2 hF (i := .ifCond .eq 7) (a := (193, [some (.ref 114), some (.int v1), some (.int v2), some (.int v3), some (.int v4), some (.int v5), some (.int v6), some (.int v7), some (.int v8), some (.int vs0)], [.int v3], M)) (b := (189, [some (.ref 114), some (.int v1), some (.int v2), some (.int v3), some (.int v4), some (.int v5), some (.int v6), some (.int v7), some (.int v8), some (.int vs0)], [.int v3], M)) rfl (fun _ => rfl) ?_ ?_
  · refine dp_s1 hF (i := .iconst 0) rfl (fun _ => rfl) ?_
    refine dp_s1 hF (i := .isub) rfl (fun _ => rfl) ?_
    refine dp_s1w (v3 - (0 : Int32)) (fun (y5 : Int32) => (196, [some (.ref 114), some (.int v1), some (.int v2), some (.int y5), some (.int v4), some (.int v5), some (.int v6), some (.int v7), some (.int v8), some (.int vs0)], [], M)) hF (i := .istore_n 3) rfl (fun _ => rfl) (fun y5 => ?_)
    refine dp_s1w (v5 + (1 : Int32)) (fun (y6 : Int32) => (199, [some (.ref 114), some (.int v1), some (.int v2), some (.int y5), some (.int v4), some (.int y6), some (.int v6), some (.int v7), some (.int v8), some (.int vs0)], [], M)) hF (i := .iinc 5 1) rfl (fun _ => rfl) (fun y6 => ?_)
    refine dp_s1 hF (i := .goto (-182)) rfl (fun _ => rfl) ?_
    exact rfl
  refine dp_s1 hF (i := .iconst 1) rfl (fun _ => rfl) ?_
  refine dp_s1 hF (i := .goto 4) rfl (fun _ => rfl) ?_
  refine dp_s1 hF (i := .isub) rfl (fun _ => rfl) ?_
  refine dp_s1w (v3 - (1 : Int32)) (fun (y7 : Int32) => (196, [some (.ref 114), some (.int v1), some (.int v2), some (.int y7), some (.int v4), some (.int v5), some (.int v6), some (.int v7), some (.int v8), some (.int vs0)], [], M)) hF (i := .istore_n 3) rfl (fun _ => rfl) (fun y7 => ?_)
  refine dp_s1w (v5 + (1 : Int32)) (fun (y8 : Int32) => (199, [some (.ref 114), some (.int v1), some (.int v2), some (.int y7), some (.int v4), some (.int y8), some (.int v6), some (.int v7), some (.int v8), some (.int vs0)], [], M)) hF (i := .iinc 5 1) rfl (fun _ => rfl) (fun y8 => ?_)
  refine dp_s1 hF (i := .goto (-182)) rfl (fun _ => rfl) ?_
  exact rfl
noncomputable def D_X12_isReleased_0 (xs : Nat → Int32) (xl d : Nat) (v1 : Int32) (M : dp_M) : Option dp_Res := dp_lim true xs xl (dp_den true xs xl d) dp_m_X12_isReleased (0, [some (.ref 114), some (.int v1), none, none], [], M)
noncomputable def D_X12_isReleased_2 (xs : Nat → Int32) (xl d : Nat) (v1 : Int32) (v2 : Int32) (M : dp_M) : Option dp_Res := dp_lim true xs xl (dp_den true xs xl d) dp_m_X12_isReleased (2, [some (.ref 114), some (.int v1), some (.int v2), none], [], M)
noncomputable def D_X12_isReleased_12 (xs : Nat → Int32) (xl d : Nat) (v1 : Int32) (v2 : Int32) (v3 : Int32) (M : dp_M) : Option dp_Res := dp_lim true xs xl (dp_den true xs xl d) dp_m_X12_isReleased (12, [some (.ref 114), some (.int v1), some (.int v2), some (.int v3)], [], M)
noncomputable def D_X12_isReleased_2_a (xs : Nat → Int32) (xl d : Nat) (v1 : Int32) (v2 : Int32) (v3 : Int32) (M : dp_M) : Option dp_Res := dp_lim true xs xl (dp_den true xs xl d) dp_m_X12_isReleased (2, [some (.ref 114), some (.int v1), some (.int v2), some (.int v3)], [], M)
theorem D_X12_isReleased_0_den (xs : Nat → Int32) (xl d : Nat) (a0 : Int32) (M : dp_M) : dp_den true xs xl (d + 1) 434 [.ref 114, .int a0] M = D_X12_isReleased_0 xs xl d a0 M := rfl
set_option maxRecDepth 20000 in
theorem D_X12_isReleased_0_eq (xs : Nat → Int32) (xl d : Nat) (v1 : Int32) (M : dp_M) : D_X12_isReleased_0 xs xl d v1 M = dp_w (0 : Int32) (fun y1 => D_X12_isReleased_2 xs xl d v1 y1 M) := by
  have hF := dp_den_grow (md := true) (xs := xs) (xl := xl) d
  unfold D_X12_isReleased_0
  refine dp_s1 hF (i := .iconst 0) rfl (fun _ => rfl) ?_
  refine dp_s1w (0 : Int32) (fun (y1 : Int32) => (2, [some (.ref 114), some (.int v1), some (.int y1), none], [], M)) hF (i := .istore_n 2) rfl (fun _ => rfl) (fun y1 => ?_)
  exact rfl
set_option maxRecDepth 20000 in
theorem D_X12_isReleased_2_eq (xs : Nat → Int32) (xl d : Nat) (v1 : Int32) (v2 : Int32) (M : dp_M) : D_X12_isReleased_2 xs xl d v1 v2 M = if (dp_I M 114 3) ≤ v2 then (if v1 < 0 ∨ 100 ≤ Int32.toNatClampNeg v1 then none else (dp_bi (dp_den true xs xl d 433 [.ref 114, .int (dp_I M 146 (Int32.toNatClampNeg v1)), .int (0 : Int32)] M) (fun r2 M1 => if r2 = (-1 : Int32) then (some (.inl (some (.int (1 : Int32))), M1)) else (some (.inl (some (.int (0 : Int32))), M1))))) else (dp_w (0 : Int32) (fun y3 => D_X12_isReleased_12 xs xl d v1 v2 y3 M)) := by
  have hF := dp_den_grow (md := true) (xs := xs) (xl := xl) d
  unfold D_X12_isReleased_2
  refine dp_s1 hF (i := .iload_n 2) rfl (fun _ => rfl) ?_
  refine dp_s1 hF (i := .aload_n 0) rfl (fun _ => rfl) ?_
  refine dp_s1 hF (i := .getfield 437) rfl (fun _ => rfl) ?_
  refine dp_s2 hF (i := .if_icmp .ge 62) (a := (69, [some (.ref 114), some (.int v1), some (.int v2), none], [], M)) (b := (10, [some (.ref 114), some (.int v1), some (.int v2), none], [], M)) rfl (fun _ => rfl) ?_ ?_
  · refine dp_s1 hF (i := .aload_n 0) rfl (fun _ => rfl) ?_
    refine dp_s1 hF (i := .aload_n 0) rfl (fun _ => rfl) ?_
    refine dp_s1 hF (i := .getfield 109) rfl (fun _ => rfl) ?_
    refine dp_s1 hF (i := .iload_n 1) rfl (fun _ => rfl) ?_
    refine dp_s3 hF (i := .iaload) rfl (fun _ => rfl) ?_
    refine dp_s1 hF (i := .iconst 0) rfl (fun _ => rfl) ?_
    refine dp_si (mj := dp_m_X12_barAt) (i := .invokevirtual 635) rfl rfl (Or.inl rfl) rfl (fun _ => rfl) (fun r2 M1 => ?_)
    refine dp_s1 hF (i := .iconst (-1)) rfl (fun _ => rfl) ?_
    refine dp_s2 hF (i := .if_icmp .ne 7) (a := (84, [some (.ref 114), some (.int v1), some (.int v2), none], [], M1)) (b := (88, [some (.ref 114), some (.int v1), some (.int v2), none], [], M1)) rfl (fun _ => rfl) ?_ ?_
    · refine dp_s1 hF (i := .iconst 1) rfl (fun _ => rfl) ?_
      refine dp_s1 hF (i := .goto 4) rfl (fun _ => rfl) ?_
      exact dp_s0 hF (i := .ireturn) rfl (fun _ => rfl)
    refine dp_s1 hF (i := .iconst 0) rfl (fun _ => rfl) ?_
    exact dp_s0 hF (i := .ireturn) rfl (fun _ => rfl)
  refine dp_s1 hF (i := .iconst 0) rfl (fun _ => rfl) ?_
  refine dp_s1w (0 : Int32) (fun (y3 : Int32) => (12, [some (.ref 114), some (.int v1), some (.int v2), some (.int y3)], [], M)) hF (i := .istore_n 3) rfl (fun _ => rfl) (fun y3 => ?_)
  exact rfl
set_option maxRecDepth 20000 in
theorem D_X12_isReleased_12_eq (xs : Nat → Int32) (xl d : Nat) (v1 : Int32) (v2 : Int32) (v3 : Int32) (M : dp_M) : D_X12_isReleased_12 xs xl d v1 v2 v3 M = if (4 : Int32) ≤ v3 then (dp_w (v2 + (1 : Int32)) (fun y1 => D_X12_isReleased_2_a xs xl d v1 y1 v3 M)) else (if v2 < 0 ∨ 100 ≤ Int32.toNatClampNeg v2 then none else (if v1 < 0 ∨ 100 ≤ Int32.toNatClampNeg v1 then none else (if (dp_I M 146 (Int32.toNatClampNeg v2)) = (dp_I M 146 (Int32.toNatClampNeg v1)) then (if v3 < 0 ∨ 4 ≤ Int32.toNatClampNeg v3 then none else (dp_bi (dp_den true xs xl d 432 [.ref 114, .int v3, .int v2] M) (fun r3 M2 => if r3 = (14 : Int32) then (if v3 < 0 ∨ 4 ≤ Int32.toNatClampNeg v3 then none else dp_w (dp_setI M2 153 (Int32.toNatClampNeg v3) ((dp_I M 153 (Int32.toNatClampNeg v3)) + (1 : Int32))) (fun M4 => dp_w (v3 + (1 : Int32)) (fun y5 => D_X12_isReleased_12 xs xl d v1 v2 y5 M4))) else (if v3 < 0 ∨ 4 ≤ Int32.toNatClampNeg v3 then none else dp_w (dp_setI M2 153 (Int32.toNatClampNeg v3) ((dp_I M 153 (Int32.toNatClampNeg v3)) + (0 : Int32))) (fun M6 => dp_w (v3 + (1 : Int32)) (fun y7 => D_X12_isReleased_12 xs xl d v1 v2 y7 M6)))))) else (dp_w (v2 + (1 : Int32)) (fun y8 => D_X12_isReleased_2_a xs xl d v1 y8 v3 M))))) := by
  have hF := dp_den_grow (md := true) (xs := xs) (xl := xl) d
  unfold D_X12_isReleased_12
  refine dp_s1 hF (i := .iload_n 3) rfl (fun _ => rfl) ?_
  refine dp_s1 hF (i := .iconst 4) rfl (fun _ => rfl) ?_
  refine dp_s2 hF (i := .if_icmp .ge 49) (a := (63, [some (.ref 114), some (.int v1), some (.int v2), some (.int v3)], [], M)) (b := (17, [some (.ref 114), some (.int v1), some (.int v2), some (.int v3)], [], M)) rfl (fun _ => rfl) ?_ ?_
  · refine dp_s1w (v2 + (1 : Int32)) (fun (y1 : Int32) => (66, [some (.ref 114), some (.int v1), some (.int y1), some (.int v3)], [], M)) hF (i := .iinc 2 1) rfl (fun _ => rfl) (fun y1 => ?_)
    refine dp_s1 hF (i := .goto (-64)) rfl (fun _ => rfl) ?_
    exact rfl
  refine dp_s1 hF (i := .aload_n 0) rfl (fun _ => rfl) ?_
  refine dp_s1 hF (i := .getfield 109) rfl (fun _ => rfl) ?_
  refine dp_s1 hF (i := .iload_n 2) rfl (fun _ => rfl) ?_
  refine dp_s3 hF (i := .iaload) rfl (fun _ => rfl) ?_
  refine dp_s1 hF (i := .aload_n 0) rfl (fun _ => rfl) ?_
  refine dp_s1 hF (i := .getfield 109) rfl (fun _ => rfl) ?_
  refine dp_s1 hF (i := .iload_n 1) rfl (fun _ => rfl) ?_
  refine dp_s3 hF (i := .iaload) rfl (fun _ => rfl) ?_
  refine dp_s2 hF (i := .if_icmp .ne 34) (a := (32, [some (.ref 114), some (.int v1), some (.int v2), some (.int v3)], [], M)) (b := (63, [some (.ref 114), some (.int v1), some (.int v2), some (.int v3)], [], M)) rfl (fun _ => rfl) ?_ ?_
  · refine dp_s1 hF (i := .aload_n 0) rfl (fun _ => rfl) ?_
    refine dp_s1 hF (i := .getfield 130) rfl (fun _ => rfl) ?_
    refine dp_s1 hF (i := .iload_n 3) rfl (fun _ => rfl) ?_
    refine dp_s1 hF (i := .dup2) rfl (fun _ => rfl) ?_
    refine dp_s3 hF (i := .iaload) rfl (fun _ => rfl) ?_
    refine dp_s1 hF (i := .aload_n 0) rfl (fun _ => rfl) ?_
    refine dp_s1 hF (i := .iload_n 3) rfl (fun _ => rfl) ?_
    refine dp_s1 hF (i := .iload_n 2) rfl (fun _ => rfl) ?_
    refine dp_si (mj := dp_m_X12_ruled) (i := .invokevirtual 632) rfl rfl (Or.inl rfl) rfl (fun _ => rfl) (fun r3 M2 => ?_)
    refine dp_s1 hF (i := .bipush 14) rfl (fun _ => rfl) ?_
    refine dp_s2 hF (i := .if_icmp .ne 7) (a := (50, [some (.ref 114), some (.int v1), some (.int v2), some (.int v3)], [.int (dp_I M 153 (Int32.toNatClampNeg v3)), .int v3, .ref 153], M2)) (b := (54, [some (.ref 114), some (.int v1), some (.int v2), some (.int v3)], [.int (dp_I M 153 (Int32.toNatClampNeg v3)), .int v3, .ref 153], M2)) rfl (fun _ => rfl) ?_ ?_
    · refine dp_s1 hF (i := .iconst 1) rfl (fun _ => rfl) ?_
      refine dp_s1 hF (i := .goto 4) rfl (fun _ => rfl) ?_
      refine dp_s1 hF (i := .iadd) rfl (fun _ => rfl) ?_
      refine dp_s3w (dp_setI M2 153 (Int32.toNatClampNeg v3) ((dp_I M 153 (Int32.toNatClampNeg v3)) + (1 : Int32))) (fun (M4 : dp_M) => (57, [some (.ref 114), some (.int v1), some (.int v2), some (.int v3)], [], M4)) hF (i := .iastore) rfl (fun _ => rfl) (fun M4 => ?_)
      refine dp_s1w (v3 + (1 : Int32)) (fun (y5 : Int32) => (60, [some (.ref 114), some (.int v1), some (.int v2), some (.int y5)], [], M4)) hF (i := .iinc 3 1) rfl (fun _ => rfl) (fun y5 => ?_)
      refine dp_s1 hF (i := .goto (-48)) rfl (fun _ => rfl) ?_
      exact rfl
    refine dp_s1 hF (i := .iconst 0) rfl (fun _ => rfl) ?_
    refine dp_s1 hF (i := .iadd) rfl (fun _ => rfl) ?_
    refine dp_s3w (dp_setI M2 153 (Int32.toNatClampNeg v3) ((dp_I M 153 (Int32.toNatClampNeg v3)) + (0 : Int32))) (fun (M6 : dp_M) => (57, [some (.ref 114), some (.int v1), some (.int v2), some (.int v3)], [], M6)) hF (i := .iastore) rfl (fun _ => rfl) (fun M6 => ?_)
    refine dp_s1w (v3 + (1 : Int32)) (fun (y7 : Int32) => (60, [some (.ref 114), some (.int v1), some (.int v2), some (.int y7)], [], M6)) hF (i := .iinc 3 1) rfl (fun _ => rfl) (fun y7 => ?_)
    refine dp_s1 hF (i := .goto (-48)) rfl (fun _ => rfl) ?_
    exact rfl
  refine dp_s1w (v2 + (1 : Int32)) (fun (y8 : Int32) => (66, [some (.ref 114), some (.int v1), some (.int y8), some (.int v3)], [], M)) hF (i := .iinc 2 1) rfl (fun _ => rfl) (fun y8 => ?_)
  refine dp_s1 hF (i := .goto (-64)) rfl (fun _ => rfl) ?_
  exact rfl
set_option maxRecDepth 20000 in
theorem D_X12_isReleased_2_a_eq (xs : Nat → Int32) (xl d : Nat) (v1 : Int32) (v2 : Int32) (v3 : Int32) (M : dp_M) : D_X12_isReleased_2_a xs xl d v1 v2 v3 M = if (dp_I M 114 3) ≤ v2 then (if v1 < 0 ∨ 100 ≤ Int32.toNatClampNeg v1 then none else (dp_bi (dp_den true xs xl d 433 [.ref 114, .int (dp_I M 146 (Int32.toNatClampNeg v1)), .int (0 : Int32)] M) (fun r2 M1 => if r2 = (-1 : Int32) then (some (.inl (some (.int (1 : Int32))), M1)) else (some (.inl (some (.int (0 : Int32))), M1))))) else (dp_w (0 : Int32) (fun y3 => D_X12_isReleased_12 xs xl d v1 v2 y3 M)) := by
  have hF := dp_den_grow (md := true) (xs := xs) (xl := xl) d
  unfold D_X12_isReleased_2_a
  refine dp_s1 hF (i := .iload_n 2) rfl (fun _ => rfl) ?_
  refine dp_s1 hF (i := .aload_n 0) rfl (fun _ => rfl) ?_
  refine dp_s1 hF (i := .getfield 437) rfl (fun _ => rfl) ?_
  refine dp_s2 hF (i := .if_icmp .ge 62) (a := (69, [some (.ref 114), some (.int v1), some (.int v2), some (.int v3)], [], M)) (b := (10, [some (.ref 114), some (.int v1), some (.int v2), some (.int v3)], [], M)) rfl (fun _ => rfl) ?_ ?_
  · refine dp_s1 hF (i := .aload_n 0) rfl (fun _ => rfl) ?_
    refine dp_s1 hF (i := .aload_n 0) rfl (fun _ => rfl) ?_
    refine dp_s1 hF (i := .getfield 109) rfl (fun _ => rfl) ?_
    refine dp_s1 hF (i := .iload_n 1) rfl (fun _ => rfl) ?_
    refine dp_s3 hF (i := .iaload) rfl (fun _ => rfl) ?_
    refine dp_s1 hF (i := .iconst 0) rfl (fun _ => rfl) ?_
    refine dp_si (mj := dp_m_X12_barAt) (i := .invokevirtual 635) rfl rfl (Or.inl rfl) rfl (fun _ => rfl) (fun r2 M1 => ?_)
    refine dp_s1 hF (i := .iconst (-1)) rfl (fun _ => rfl) ?_
    refine dp_s2 hF (i := .if_icmp .ne 7) (a := (84, [some (.ref 114), some (.int v1), some (.int v2), some (.int v3)], [], M1)) (b := (88, [some (.ref 114), some (.int v1), some (.int v2), some (.int v3)], [], M1)) rfl (fun _ => rfl) ?_ ?_
    · refine dp_s1 hF (i := .iconst 1) rfl (fun _ => rfl) ?_
      refine dp_s1 hF (i := .goto 4) rfl (fun _ => rfl) ?_
      exact dp_s0 hF (i := .ireturn) rfl (fun _ => rfl)
    refine dp_s1 hF (i := .iconst 0) rfl (fun _ => rfl) ?_
    exact dp_s0 hF (i := .ireturn) rfl (fun _ => rfl)
  refine dp_s1 hF (i := .iconst 0) rfl (fun _ => rfl) ?_
  refine dp_s1w (0 : Int32) (fun (y3 : Int32) => (12, [some (.ref 114), some (.int v1), some (.int v2), some (.int y3)], [], M)) hF (i := .istore_n 3) rfl (fun _ => rfl) (fun y3 => ?_)
  exact rfl
noncomputable def D_X12_release_0 (xs : Nat → Int32) (xl d : Nat) (v1 : Int32) (M : dp_M) : Option dp_Res := dp_lim true xs xl (dp_den true xs xl d) dp_m_X12_release (0, [some (.ref 114), some (.int v1)], [], M)
noncomputable def D_X12_release_14 (xs : Nat → Int32) (xl d : Nat) (v1 : Int32) (vs0 : Int32) (M : dp_M) : Option dp_Res := dp_lim true xs xl (dp_den true xs xl d) dp_m_X12_release (14, [some (.ref 114), some (.int v1)], [.int vs0, .ref 114], M)
theorem D_X12_release_0_den (xs : Nat → Int32) (xl d : Nat) (a0 : Int32) (M : dp_M) : dp_den true xs xl (d + 1) 435 [.ref 114, .int a0] M = D_X12_release_0 xs xl d a0 M := rfl
set_option maxRecDepth 20000 in
theorem D_X12_release_0_eq (xs : Nat → Int32) (xl d : Nat) (v1 : Int32) (M : dp_M) : D_X12_release_0 xs xl d v1 M = dp_bi (dp_den true xs xl d 371 [.ref 114, .int v1] M) (fun r2 M1 => if r2 = 0 then (D_X12_release_14 xs xl d v1 (1 : Int32) M1) else (D_X12_release_14 xs xl d v1 (0 : Int32) M1)) := by
  have hF := dp_den_grow (md := true) (xs := xs) (xl := xl) d
  unfold D_X12_release_0
  refine dp_s1 hF (i := .aload_n 0) rfl (fun _ => rfl) ?_
  refine dp_s1 hF (i := .aload_n 0) rfl (fun _ => rfl) ?_
  refine dp_s1 hF (i := .iload_n 1) rfl (fun _ => rfl) ?_
  refine dp_si (mj := dp_m_X12_isBox) (i := .invokevirtual 470) rfl rfl (Or.inr rfl) rfl (fun _ => rfl) (fun r2 M1 => ?_)
  refine dp_s2 hF (i := .ifCond .eq 7) (a := (13, [some (.ref 114), some (.int v1)], [.ref 114], M1)) (b := (9, [some (.ref 114), some (.int v1)], [.ref 114], M1)) rfl (fun _ => rfl) ?_ ?_
  · refine dp_s1 hF (i := .iconst 1) rfl (fun _ => rfl) ?_
    exact rfl
  refine dp_s1 hF (i := .iconst 0) rfl (fun _ => rfl) ?_
  refine dp_s1 hF (i := .goto 4) rfl (fun _ => rfl) ?_
  exact rfl
set_option maxRecDepth 20000 in
theorem D_X12_release_14_eq (xs : Nat → Int32) (xl d : Nat) (v1 : Int32) (vs0 : Int32) (M : dp_M) : D_X12_release_14 xs xl d v1 vs0 M = dp_w (dp_setI M 114 0 vs0) (fun M1 => if (dp_I M1 114 0) = 0 then (dp_bi (dp_den true xs xl d 434 [.ref 114, .int v1] M1) (fun r3 M2 => if r3 = 0 then (some (.inl (some (.int (0 : Int32))), M2)) else (some (.inl (some (.int (1 : Int32))), M2)))) else (some (.inl (some (.int (0 : Int32))), M1))) := by
  have hF := dp_den_grow (md := true) (xs := xs) (xl := xl) d
  unfold D_X12_release_14
  refine dp_s1w (dp_setI M 114 0 vs0) (fun (M1 : dp_M) => (17, [some (.ref 114), some (.int v1)], [], M1)) hF (i := .putfield 1) rfl (fun _ => rfl) (fun M1 => ?_)
  refine dp_s1 hF (i := .aload_n 0) rfl (fun _ => rfl) ?_
  refine dp_s1 hF (i := .getfield 1) rfl (fun _ => rfl) ?_
  refine dp_s2 hF (i := .ifCond .ne 15) (a := (24, [some (.ref 114), some (.int v1)], [], M1)) (b := (36, [some (.ref 114), some (.int v1)], [], M1)) rfl (fun _ => rfl) ?_ ?_
  · refine dp_s1 hF (i := .aload_n 0) rfl (fun _ => rfl) ?_
    refine dp_s1 hF (i := .iload_n 1) rfl (fun _ => rfl) ?_
    refine dp_si (mj := dp_m_X12_isReleased) (i := .invokevirtual 638) rfl rfl (Or.inr rfl) rfl (fun _ => rfl) (fun r3 M2 => ?_)
    refine dp_s2 hF (i := .ifCond .eq 7) (a := (36, [some (.ref 114), some (.int v1)], [], M2)) (b := (32, [some (.ref 114), some (.int v1)], [], M2)) rfl (fun _ => rfl) ?_ ?_
    · refine dp_s1 hF (i := .iconst 0) rfl (fun _ => rfl) ?_
      exact dp_s0 hF (i := .ireturn) rfl (fun _ => rfl)
    refine dp_s1 hF (i := .iconst 1) rfl (fun _ => rfl) ?_
    refine dp_s1 hF (i := .goto 4) rfl (fun _ => rfl) ?_
    exact dp_s0 hF (i := .ireturn) rfl (fun _ => rfl)
  refine dp_s1 hF (i := .iconst 0) rfl (fun _ => rfl) ?_
  exact dp_s0 hF (i := .ireturn) rfl (fun _ => rfl)
noncomputable def D_X12_bars_0 (xs : Nat → Int32) (xl d : Nat) (v1 : Int32) (v2 : Int32) (M : dp_M) : Option dp_Res := dp_lim true xs xl (dp_den true xs xl d) dp_m_X12_bars (0, [some (.ref 114), some (.int v1), some (.int v2)], [], M)
noncomputable def D_X12_bars_14 (xs : Nat → Int32) (xl d : Nat) (v1 : Int32) (v2 : Int32) (vs0 : Int32) (M : dp_M) : Option dp_Res := dp_lim true xs xl (dp_den true xs xl d) dp_m_X12_bars (14, [some (.ref 114), some (.int v1), some (.int v2)], [.int vs0, .ref 114], M)
theorem D_X12_bars_0_den (xs : Nat → Int32) (xl d : Nat) (a0 : Int32) (a1 : Int32) (M : dp_M) : dp_den true xs xl (d + 1) 436 [.ref 114, .int a0, .int a1] M = D_X12_bars_0 xs xl d a0 a1 M := rfl
set_option maxRecDepth 20000 in
theorem D_X12_bars_0_eq (xs : Nat → Int32) (xl d : Nat) (v1 : Int32) (v2 : Int32) (M : dp_M) : D_X12_bars_0 xs xl d v1 v2 M = dp_bi (dp_den true xs xl d 371 [.ref 114, .int v1] M) (fun r2 M1 => if r2 = 0 then (D_X12_bars_14 xs xl d v1 v2 (1 : Int32) M1) else (D_X12_bars_14 xs xl d v1 v2 (0 : Int32) M1)) := by
  have hF := dp_den_grow (md := true) (xs := xs) (xl := xl) d
  unfold D_X12_bars_0
  refine dp_s1 hF (i := .aload_n 0) rfl (fun _ => rfl) ?_
  refine dp_s1 hF (i := .aload_n 0) rfl (fun _ => rfl) ?_
  refine dp_s1 hF (i := .iload_n 1) rfl (fun _ => rfl) ?_
  refine dp_si (mj := dp_m_X12_isBox) (i := .invokevirtual 470) rfl rfl (Or.inr rfl) rfl (fun _ => rfl) (fun r2 M1 => ?_)
  refine dp_s2 hF (i := .ifCond .eq 7) (a := (13, [some (.ref 114), some (.int v1), some (.int v2)], [.ref 114], M1)) (b := (9, [some (.ref 114), some (.int v1), some (.int v2)], [.ref 114], M1)) rfl (fun _ => rfl) ?_ ?_
  · refine dp_s1 hF (i := .iconst 1) rfl (fun _ => rfl) ?_
    exact rfl
  refine dp_s1 hF (i := .iconst 0) rfl (fun _ => rfl) ?_
  refine dp_s1 hF (i := .goto 4) rfl (fun _ => rfl) ?_
  exact rfl
set_option maxRecDepth 20000 in
theorem D_X12_bars_14_eq (xs : Nat → Int32) (xl d : Nat) (v1 : Int32) (v2 : Int32) (vs0 : Int32) (M : dp_M) : D_X12_bars_14 xs xl d v1 v2 vs0 M = dp_w (dp_setI M 114 0 vs0) (fun M1 => if (dp_I M1 114 0) ≤ 0 then (if 0 ≤ v2 then (if v1 < 0 ∨ 100 ≤ Int32.toNatClampNeg v1 then none else (dp_bi (dp_den true xs xl d 433 [.ref 114, .int (dp_I M1 146 (Int32.toNatClampNeg v1)), .int v2] M1) (fun r3 M2 => some (.inl (some (.int r3)), M2)))) else (some (.inl (some (.int (-1 : Int32))), M1))) else (some (.inl (some (.int (0 : Int32))), M1))) := by
  have hF := dp_den_grow (md := true) (xs := xs) (xl := xl) d
  unfold D_X12_bars_14
  refine dp_s1w (dp_setI M 114 0 vs0) (fun (M1 : dp_M) => (17, [some (.ref 114), some (.int v1), some (.int v2)], [], M1)) hF (i := .putfield 1) rfl (fun _ => rfl) (fun M1 => ?_)
  refine dp_s1 hF (i := .aload_n 0) rfl (fun _ => rfl) ?_
  refine dp_s1 hF (i := .getfield 1) rfl (fun _ => rfl) ?_
  refine dp_s2 hF (i := .ifCond .le 7) (a := (28, [some (.ref 114), some (.int v1), some (.int v2)], [], M1)) (b := (24, [some (.ref 114), some (.int v1), some (.int v2)], [], M1)) rfl (fun _ => rfl) ?_ ?_
  · refine dp_s1 hF (i := .iload_n 2) rfl (fun _ => rfl) ?_
    refine dp_s2 hF (i := .ifCond .ge 7) (a := (36, [some (.ref 114), some (.int v1), some (.int v2)], [], M1)) (b := (32, [some (.ref 114), some (.int v1), some (.int v2)], [], M1)) rfl (fun _ => rfl) ?_ ?_
    · refine dp_s1 hF (i := .aload_n 0) rfl (fun _ => rfl) ?_
      refine dp_s1 hF (i := .aload_n 0) rfl (fun _ => rfl) ?_
      refine dp_s1 hF (i := .getfield 109) rfl (fun _ => rfl) ?_
      refine dp_s1 hF (i := .iload_n 1) rfl (fun _ => rfl) ?_
      refine dp_s3 hF (i := .iaload) rfl (fun _ => rfl) ?_
      refine dp_s1 hF (i := .iload_n 2) rfl (fun _ => rfl) ?_
      refine dp_si (mj := dp_m_X12_barAt) (i := .invokevirtual 635) rfl rfl (Or.inl rfl) rfl (fun _ => rfl) (fun r3 M2 => ?_)
      exact dp_s0 hF (i := .ireturn) rfl (fun _ => rfl)
    refine dp_s1 hF (i := .iconst (-1)) rfl (fun _ => rfl) ?_
    refine dp_s1 hF (i := .goto 14) rfl (fun _ => rfl) ?_
    exact dp_s0 hF (i := .ireturn) rfl (fun _ => rfl)
  refine dp_s1 hF (i := .iconst 0) rfl (fun _ => rfl) ?_
  refine dp_s1 hF (i := .goto 22) rfl (fun _ => rfl) ?_
  exact dp_s0 hF (i := .ireturn) rfl (fun _ => rfl)
noncomputable def D_X12_part_0 (xs : Nat → Int32) (xl d : Nat) (v1 : Int32) (v2 : Int32) (M : dp_M) : Option dp_Res := dp_lim true xs xl (dp_den true xs xl d) dp_m_X12_part (0, [some (.ref 114), some (.int v1), some (.int v2), none], [], M)
theorem D_X12_part_0_den (xs : Nat → Int32) (xl d : Nat) (a0 : Int32) (a1 : Int32) (M : dp_M) : dp_den true xs xl (d + 1) 437 [.ref 114, .int a0, .int a1] M = D_X12_part_0 xs xl d a0 a1 M := rfl
set_option maxRecDepth 20000 in
theorem D_X12_part_0_eq (xs : Nat → Int32) (xl d : Nat) (v1 : Int32) (v2 : Int32) (M : dp_M) : D_X12_part_0 xs xl d v1 v2 M = dp_bi (dp_den true xs xl d 371 [.ref 114, .int v1] M) (fun r2 M1 => if r2 = 0 then (dp_bi (dp_den true xs xl d 366 [.ref 114, .int (1 : Int32)] M1) (fun r4 M3 => some (.inl (some (.int r4)), M3))) else (if (1 : Int32) ≤ v2 then (dp_w (dp_setI M1 114 0 (0 : Int32)) (fun M5 => dp_bi (dp_den true xs xl d 434 [.ref 114, .int v1] M5) (fun r7 M6 => if r7 = 0 then (some (.inl (some (.int (-1 : Int32))), M6)) else (if v1 < 0 ∨ 100 ≤ Int32.toNatClampNeg v1 then none else (if (dp_I M6 144 (Int32.toNatClampNeg v1)) = 0 then (dp_bi (dp_den true xs xl d 421 [.ref 114, .int v1] M6) (fun r9 M8 => if v1 < 0 ∨ 100 ≤ Int32.toNatClampNeg v1 then none else (if v2 ≤ (r9 - (dp_I M8 145 (Int32.toNatClampNeg v1))) then (if v1 < 0 ∨ 100 ≤ Int32.toNatClampNeg v1 then none else (if v1 < 0 ∨ 100 ≤ Int32.toNatClampNeg v1 then none else dp_w (dp_setI M8 145 (Int32.toNatClampNeg v1) ((dp_I M8 145 (Int32.toNatClampNeg v1)) + v2)) (fun M10 => dp_bv (dp_den true xs xl d 422 [.ref 114, .int v1, .int (2 : Int32)] M10) (fun M11 => if v1 < 0 ∨ 100 ≤ Int32.toNatClampNeg v1 then none else (some (.inl (some (.int (dp_I M11 145 (Int32.toNatClampNeg v1)))), M11)))))) else (some (.inl (some (.int (-1 : Int32))), M8))))) else (some (.inl (some (.int (-1 : Int32))), M6))))))) else (dp_bi (dp_den true xs xl d 366 [.ref 114, .int (1 : Int32)] M1) (fun r13 M12 => some (.inl (some (.int r13)), M12))))) := by
  have hF := dp_den_grow (md := true) (xs := xs) (xl := xl) d
  unfold D_X12_part_0
  refine dp_s1 hF (i := .aload_n 0) rfl (fun _ => rfl) ?_
  refine dp_s1 hF (i := .iload_n 1) rfl (fun _ => rfl) ?_
  refine dp_si (mj := dp_m_X12_isBox) (i := .invokevirtual 470) rfl rfl (Or.inr rfl) rfl (fun _ => rfl) (fun r2 M1 => ?_)
  refine dp_s2 hF (i := .ifCond .eq 8) (a := (13, [some (.ref 114), some (.int v1), some (.int v2), none], [], M1)) (b := (8, [some (.ref 114), some (.int v1), some (.int v2), none], [], M1)) rfl (fun _ => rfl) ?_ ?_
  · refine dp_s1 hF (i := .aload_n 0) rfl (fun _ => rfl) ?_
    refine dp_s1 hF (i := .iconst 1) rfl (fun _ => rfl) ?_
    refine dp_si (mj := dp_m_X12_refuse) (i := .invokevirtual 460) rfl rfl (Or.inl rfl) rfl (fun _ => rfl) (fun r4 M3 => ?_)
    exact dp_s0 hF (i := .ireturn) rfl (fun _ => rfl)
  refine dp_s1 hF (i := .iload_n 2) rfl (fun _ => rfl) ?_
  refine dp_s1 hF (i := .iconst 1) rfl (fun _ => rfl) ?_
  refine dp_s2 hF (i := .if_icmp .ge 9) (a := (19, [some (.ref 114), some (.int v1), some (.int v2), none], [], M1)) (b := (13, [some (.ref 114), some (.int v1), some (.int v2), none], [], M1)) rfl (fun _ => rfl) ?_ ?_
  · refine dp_s1 hF (i := .aload_n 0) rfl (fun _ => rfl) ?_
    refine dp_s1 hF (i := .iconst 0) rfl (fun _ => rfl) ?_
    refine dp_s1w (dp_setI M1 114 0 (0 : Int32)) (fun (M5 : dp_M) => (24, [some (.ref 114), some (.int v1), some (.int v2), none], [], M5)) hF (i := .putfield 1) rfl (fun _ => rfl) (fun M5 => ?_)
    refine dp_s1 hF (i := .aload_n 0) rfl (fun _ => rfl) ?_
    refine dp_s1 hF (i := .iload_n 1) rfl (fun _ => rfl) ?_
    refine dp_si (mj := dp_m_X12_isReleased) (i := .invokevirtual 638) rfl rfl (Or.inr rfl) rfl (fun _ => rfl) (fun r7 M6 => ?_)
    refine dp_s1 hF (i := .istore_n 3) rfl (fun _ => rfl) ?_
    refine dp_s1 hF (i := .iload_n 3) rfl (fun _ => rfl) ?_
    refine dp_s2 hF (i := .ifCond .eq 28) (a := (59, [some (.ref 114), some (.int v1), some (.int v2), some (.int r7)], [], M6)) (b := (34, [some (.ref 114), some (.int v1), some (.int v2), some (.int r7)], [], M6)) rfl (fun _ => rfl) ?_ ?_
    · refine dp_s1 hF (i := .iconst (-1)) rfl (fun _ => rfl) ?_
      exact dp_s0 hF (i := .ireturn) rfl (fun _ => rfl)
    refine dp_s1 hF (i := .aload_n 0) rfl (fun _ => rfl) ?_
    refine dp_s1 hF (i := .getfield 103) rfl (fun _ => rfl) ?_
    refine dp_s1 hF (i := .iload_n 1) rfl (fun _ => rfl) ?_
    refine dp_s3 hF (i := .iaload) rfl (fun _ => rfl) ?_
    refine dp_s2 hF (i := .ifCond .ne 19) (a := (43, [some (.ref 114), some (.int v1), some (.int v2), some (.int r7)], [], M6)) (b := (59, [some (.ref 114), some (.int v1), some (.int v2), some (.int r7)], [], M6)) rfl (fun _ => rfl) ?_ ?_
    · refine dp_s1 hF (i := .iload_n 2) rfl (fun _ => rfl) ?_
      refine dp_s1 hF (i := .aload_n 0) rfl (fun _ => rfl) ?_
      refine dp_s1 hF (i := .iload_n 1) rfl (fun _ => rfl) ?_
      refine dp_si (mj := dp_m_X12_kilograms) (i := .invokevirtual 605) rfl rfl (Or.inl rfl) rfl (fun _ => rfl) (fun r9 M8 => ?_)
      refine dp_s1 hF (i := .aload_n 0) rfl (fun _ => rfl) ?_
      refine dp_s1 hF (i := .getfield 106) rfl (fun _ => rfl) ?_
      refine dp_s1 hF (i := .iload_n 1) rfl (fun _ => rfl) ?_
      refine dp_s3 hF (i := .iaload) rfl (fun _ => rfl) ?_
      refine dp_s1 hF (i := .isub) rfl (fun _ => rfl) ?_
      refine dp_s2 hF (i := .if_icmp .le 5) (a := (61, [some (.ref 114), some (.int v1), some (.int v2), some (.int r7)], [], M8)) (b := (59, [some (.ref 114), some (.int v1), some (.int v2), some (.int r7)], [], M8)) rfl (fun _ => rfl) ?_ ?_
      · refine dp_s1 hF (i := .aload_n 0) rfl (fun _ => rfl) ?_
        refine dp_s1 hF (i := .getfield 106) rfl (fun _ => rfl) ?_
        refine dp_s1 hF (i := .iload_n 1) rfl (fun _ => rfl) ?_
        refine dp_s1 hF (i := .dup2) rfl (fun _ => rfl) ?_
        refine dp_s3 hF (i := .iaload) rfl (fun _ => rfl) ?_
        refine dp_s1 hF (i := .iload_n 2) rfl (fun _ => rfl) ?_
        refine dp_s1 hF (i := .iadd) rfl (fun _ => rfl) ?_
        refine dp_s3w (dp_setI M8 145 (Int32.toNatClampNeg v1) ((dp_I M8 145 (Int32.toNatClampNeg v1)) + v2)) (fun (M10 : dp_M) => (71, [some (.ref 114), some (.int v1), some (.int v2), some (.int r7)], [], M10)) hF (i := .iastore) rfl (fun _ => rfl) (fun M10 => ?_)
        refine dp_s1 hF (i := .aload_n 0) rfl (fun _ => rfl) ?_
        refine dp_s1 hF (i := .iload_n 1) rfl (fun _ => rfl) ?_
        refine dp_s1 hF (i := .iconst 2) rfl (fun _ => rfl) ?_
        refine dp_sv (mj := dp_m_X12_tells) (i := .invokevirtual 620) rfl rfl rfl rfl (fun _ => rfl) (fun M11 => ?_)
        refine dp_s1 hF (i := .aload_n 0) rfl (fun _ => rfl) ?_
        refine dp_s1 hF (i := .getfield 106) rfl (fun _ => rfl) ?_
        refine dp_s1 hF (i := .iload_n 1) rfl (fun _ => rfl) ?_
        refine dp_s3 hF (i := .iaload) rfl (fun _ => rfl) ?_
        exact dp_s0 hF (i := .ireturn) rfl (fun _ => rfl)
      refine dp_s1 hF (i := .iconst (-1)) rfl (fun _ => rfl) ?_
      exact dp_s0 hF (i := .ireturn) rfl (fun _ => rfl)
    refine dp_s1 hF (i := .iconst (-1)) rfl (fun _ => rfl) ?_
    exact dp_s0 hF (i := .ireturn) rfl (fun _ => rfl)
  refine dp_s1 hF (i := .aload_n 0) rfl (fun _ => rfl) ?_
  refine dp_s1 hF (i := .iconst 1) rfl (fun _ => rfl) ?_
  refine dp_si (mj := dp_m_X12_refuse) (i := .invokevirtual 460) rfl rfl (Or.inl rfl) rfl (fun _ => rfl) (fun r13 M12 => ?_)
  exact dp_s0 hF (i := .ireturn) rfl (fun _ => rfl)
noncomputable def D_X12_withdraw_0 (xs : Nat → Int32) (xl d : Nat) (v1 : Int32) (M : dp_M) : Option dp_Res := dp_lim true xs xl (dp_den true xs xl d) dp_m_X12_withdraw (0, [some (.ref 114), some (.int v1)], [], M)
theorem D_X12_withdraw_0_den (xs : Nat → Int32) (xl d : Nat) (a0 : Int32) (M : dp_M) : dp_den true xs xl (d + 1) 438 [.ref 114, .int a0] M = D_X12_withdraw_0 xs xl d a0 M := rfl
set_option maxRecDepth 20000 in
theorem D_X12_withdraw_0_eq (xs : Nat → Int32) (xl d : Nat) (v1 : Int32) (M : dp_M) : D_X12_withdraw_0 xs xl d v1 M = dp_bi (dp_den true xs xl d 371 [.ref 114, .int v1] M) (fun r2 M1 => if r2 = 0 then (dp_bi (dp_den true xs xl d 366 [.ref 114, .int (1 : Int32)] M1) (fun r4 M3 => some (.inl (some (.int r4)), M3))) else (dp_w (dp_setI M1 114 0 (0 : Int32)) (fun M5 => if v1 < 0 ∨ 100 ≤ Int32.toNatClampNeg v1 then none else (if (dp_I M5 144 (Int32.toNatClampNeg v1)) = (1 : Int32) then (dp_bv (dp_den true xs xl d 422 [.ref 114, .int v1, .int (5 : Int32)] M5) (fun M6 => some (.inl (some (.int (0 : Int32))), M6))) else (if v1 < 0 ∨ 100 ≤ Int32.toNatClampNeg v1 then none else (if (dp_I M5 145 (Int32.toNatClampNeg v1)) = 0 then (some (.inl (some (.int (2 : Int32))), M5)) else (if v1 < 0 ∨ 100 ≤ Int32.toNatClampNeg v1 then none else dp_w (dp_setI M5 145 (Int32.toNatClampNeg v1) (0 : Int32)) (fun M7 => dp_bv (dp_den true xs xl d 422 [.ref 114, .int v1, .int (4 : Int32)] M7) (fun M8 => some (.inl (some (.int (1 : Int32))), M8)))))))))) := by
  have hF := dp_den_grow (md := true) (xs := xs) (xl := xl) d
  unfold D_X12_withdraw_0
  refine dp_s1 hF (i := .aload_n 0) rfl (fun _ => rfl) ?_
  refine dp_s1 hF (i := .iload_n 1) rfl (fun _ => rfl) ?_
  refine dp_si (mj := dp_m_X12_isBox) (i := .invokevirtual 470) rfl rfl (Or.inr rfl) rfl (fun _ => rfl) (fun r2 M1 => ?_)
  refine dp_s2 hF (i := .ifCond .ne 9) (a := (8, [some (.ref 114), some (.int v1)], [], M1)) (b := (14, [some (.ref 114), some (.int v1)], [], M1)) rfl (fun _ => rfl) ?_ ?_
  · refine dp_s1 hF (i := .aload_n 0) rfl (fun _ => rfl) ?_
    refine dp_s1 hF (i := .iconst 1) rfl (fun _ => rfl) ?_
    refine dp_si (mj := dp_m_X12_refuse) (i := .invokevirtual 460) rfl rfl (Or.inl rfl) rfl (fun _ => rfl) (fun r4 M3 => ?_)
    exact dp_s0 hF (i := .ireturn) rfl (fun _ => rfl)
  refine dp_s1 hF (i := .aload_n 0) rfl (fun _ => rfl) ?_
  refine dp_s1 hF (i := .iconst 0) rfl (fun _ => rfl) ?_
  refine dp_s1w (dp_setI M1 114 0 (0 : Int32)) (fun (M5 : dp_M) => (19, [some (.ref 114), some (.int v1)], [], M5)) hF (i := .putfield 1) rfl (fun _ => rfl) (fun M5 => ?_)
  refine dp_s1 hF (i := .aload_n 0) rfl (fun _ => rfl) ?_
  refine dp_s1 hF (i := .getfield 103) rfl (fun _ => rfl) ?_
  refine dp_s1 hF (i := .iload_n 1) rfl (fun _ => rfl) ?_
  refine dp_s3 hF (i := .iaload) rfl (fun _ => rfl) ?_
  refine dp_s1 hF (i := .iconst 1) rfl (fun _ => rfl) ?_
  refine dp_s2 hF (i := .if_icmp .ne 11) (a := (29, [some (.ref 114), some (.int v1)], [], M5)) (b := (37, [some (.ref 114), some (.int v1)], [], M5)) rfl (fun _ => rfl) ?_ ?_
  · refine dp_s1 hF (i := .aload_n 0) rfl (fun _ => rfl) ?_
    refine dp_s1 hF (i := .iload_n 1) rfl (fun _ => rfl) ?_
    refine dp_s1 hF (i := .iconst 5) rfl (fun _ => rfl) ?_
    refine dp_sv (mj := dp_m_X12_tells) (i := .invokevirtual 620) rfl rfl rfl rfl (fun _ => rfl) (fun M6 => ?_)
    refine dp_s1 hF (i := .iconst 0) rfl (fun _ => rfl) ?_
    exact dp_s0 hF (i := .ireturn) rfl (fun _ => rfl)
  refine dp_s1 hF (i := .aload_n 0) rfl (fun _ => rfl) ?_
  refine dp_s1 hF (i := .getfield 106) rfl (fun _ => rfl) ?_
  refine dp_s1 hF (i := .iload_n 1) rfl (fun _ => rfl) ?_
  refine dp_s3 hF (i := .iaload) rfl (fun _ => rfl) ?_
  refine dp_s2 hF (i := .ifCond .ne 5) (a := (46, [some (.ref 114), some (.int v1)], [], M5)) (b := (48, [some (.ref 114), some (.int v1)], [], M5)) rfl (fun _ => rfl) ?_ ?_
  · refine dp_s1 hF (i := .iconst 2) rfl (fun _ => rfl) ?_
    exact dp_s0 hF (i := .ireturn) rfl (fun _ => rfl)
  refine dp_s1 hF (i := .aload_n 0) rfl (fun _ => rfl) ?_
  refine dp_s1 hF (i := .getfield 106) rfl (fun _ => rfl) ?_
  refine dp_s1 hF (i := .iload_n 1) rfl (fun _ => rfl) ?_
  refine dp_s1 hF (i := .iconst 0) rfl (fun _ => rfl) ?_
  refine dp_s3w (dp_setI M5 145 (Int32.toNatClampNeg v1) (0 : Int32)) (fun (M7 : dp_M) => (55, [some (.ref 114), some (.int v1)], [], M7)) hF (i := .iastore) rfl (fun _ => rfl) (fun M7 => ?_)
  refine dp_s1 hF (i := .aload_n 0) rfl (fun _ => rfl) ?_
  refine dp_s1 hF (i := .iload_n 1) rfl (fun _ => rfl) ?_
  refine dp_s1 hF (i := .iconst 4) rfl (fun _ => rfl) ?_
  refine dp_sv (mj := dp_m_X12_tells) (i := .invokevirtual 620) rfl rfl rfl rfl (fun _ => rfl) (fun M8 => ?_)
  refine dp_s1 hF (i := .iconst 1) rfl (fun _ => rfl) ?_
  exact dp_s0 hF (i := .ireturn) rfl (fun _ => rfl)
noncomputable def D_X12_gate_0 (xs : Nat → Int32) (xl d : Nat) (v1 : Int32) (M : dp_M) : Option dp_Res := dp_lim true xs xl (dp_den true xs xl d) dp_m_X12_gate (0, [some (.ref 114), some (.int v1), none], [], M)
theorem D_X12_gate_0_den (xs : Nat → Int32) (xl d : Nat) (a0 : Int32) (M : dp_M) : dp_den true xs xl (d + 1) 439 [.ref 114, .int a0] M = D_X12_gate_0 xs xl d a0 M := rfl
set_option maxRecDepth 20000 in
theorem D_X12_gate_0_eq (xs : Nat → Int32) (xl d : Nat) (v1 : Int32) (M : dp_M) : D_X12_gate_0 xs xl d v1 M = dp_bi (dp_den true xs xl d 371 [.ref 114, .int v1] M) (fun r2 M1 => if r2 = 0 then (dp_bi (dp_den true xs xl d 366 [.ref 114, .int (1 : Int32)] M1) (fun r4 M3 => some (.inl (some (.int r4)), M3))) else (dp_w (dp_setI M1 114 0 (0 : Int32)) (fun M5 => dp_bi (dp_den true xs xl d 402 [.ref 114, .int v1] M5) (fun r7 M6 => if r7 = 0 then (some (.inl (some (.int (0 : Int32))), M6)) else (if v1 < 0 ∨ 100 ≤ Int32.toNatClampNeg v1 then none else (if (dp_I M6 140 (Int32.toNatClampNeg v1)) < 0 then (dp_bi (dp_den true xs xl d 434 [.ref 114, .int v1] M6) (fun r9 M8 => if r9 = 0 then (some (.inl (some (.int (0 : Int32))), M8)) else (if v1 < 0 ∨ 100 ≤ Int32.toNatClampNeg v1 then none else (dp_bi (dp_den true xs xl d 421 [.ref 114, .int v1] M8) (fun r11 M10 => if (dp_I M8 145 (Int32.toNatClampNeg v1)) = r11 then (if v1 < 0 ∨ 100 ≤ Int32.toNatClampNeg v1 then none else dp_w (dp_setI M10 144 (Int32.toNatClampNeg v1) (1 : Int32)) (fun M12 => dp_bv (dp_den true xs xl d 422 [.ref 114, .int v1, .int (3 : Int32)] M12) (fun M13 => some (.inl (some (.int (1 : Int32))), M13)))) else (some (.inl (some (.int (0 : Int32))), M10))))))) else (some (.inl (some (.int (0 : Int32))), M6)))))))) := by
  have hF := dp_den_grow (md := true) (xs := xs) (xl := xl) d
  unfold D_X12_gate_0
  refine dp_s1 hF (i := .aload_n 0) rfl (fun _ => rfl) ?_
  refine dp_s1 hF (i := .iload_n 1) rfl (fun _ => rfl) ?_
  refine dp_si (mj := dp_m_X12_isBox) (i := .invokevirtual 470) rfl rfl (Or.inr rfl) rfl (fun _ => rfl) (fun r2 M1 => ?_)
  refine dp_s2 hF (i := .ifCond .ne 9) (a := (8, [some (.ref 114), some (.int v1), none], [], M1)) (b := (14, [some (.ref 114), some (.int v1), none], [], M1)) rfl (fun _ => rfl) ?_ ?_
  · refine dp_s1 hF (i := .aload_n 0) rfl (fun _ => rfl) ?_
    refine dp_s1 hF (i := .iconst 1) rfl (fun _ => rfl) ?_
    refine dp_si (mj := dp_m_X12_refuse) (i := .invokevirtual 460) rfl rfl (Or.inl rfl) rfl (fun _ => rfl) (fun r4 M3 => ?_)
    exact dp_s0 hF (i := .ireturn) rfl (fun _ => rfl)
  refine dp_s1 hF (i := .aload_n 0) rfl (fun _ => rfl) ?_
  refine dp_s1 hF (i := .iconst 0) rfl (fun _ => rfl) ?_
  refine dp_s1w (dp_setI M1 114 0 (0 : Int32)) (fun (M5 : dp_M) => (19, [some (.ref 114), some (.int v1), none], [], M5)) hF (i := .putfield 1) rfl (fun _ => rfl) (fun M5 => ?_)
  refine dp_s1 hF (i := .aload_n 0) rfl (fun _ => rfl) ?_
  refine dp_s1 hF (i := .iload_n 1) rfl (fun _ => rfl) ?_
  refine dp_si (mj := dp_m_X12_isHere) (i := .invokevirtual 581) rfl rfl (Or.inr rfl) rfl (fun _ => rfl) (fun r7 M6 => ?_)
  refine dp_s2 hF (i := .ifCond .eq 12) (a := (36, [some (.ref 114), some (.int v1), none], [], M6)) (b := (27, [some (.ref 114), some (.int v1), none], [], M6)) rfl (fun _ => rfl) ?_ ?_
  · refine dp_s1 hF (i := .iconst 0) rfl (fun _ => rfl) ?_
    exact dp_s0 hF (i := .ireturn) rfl (fun _ => rfl)
  refine dp_s1 hF (i := .aload_n 0) rfl (fun _ => rfl) ?_
  refine dp_s1 hF (i := .getfield 91) rfl (fun _ => rfl) ?_
  refine dp_s1 hF (i := .iload_n 1) rfl (fun _ => rfl) ?_
  refine dp_s3 hF (i := .iaload) rfl (fun _ => rfl) ?_
  refine dp_s2 hF (i := .ifCond .lt 5) (a := (38, [some (.ref 114), some (.int v1), none], [], M6)) (b := (36, [some (.ref 114), some (.int v1), none], [], M6)) rfl (fun _ => rfl) ?_ ?_
  · refine dp_s1 hF (i := .aload_n 0) rfl (fun _ => rfl) ?_
    refine dp_s1 hF (i := .iload_n 1) rfl (fun _ => rfl) ?_
    refine dp_si (mj := dp_m_X12_isReleased) (i := .invokevirtual 638) rfl rfl (Or.inr rfl) rfl (fun _ => rfl) (fun r9 M8 => ?_)
    refine dp_s1 hF (i := .istore_n 2) rfl (fun _ => rfl) ?_
    refine dp_s1 hF (i := .iload_n 2) rfl (fun _ => rfl) ?_
    refine dp_s2 hF (i := .ifCond .eq 17) (a := (62, [some (.ref 114), some (.int v1), some (.int r9)], [], M8)) (b := (48, [some (.ref 114), some (.int v1), some (.int r9)], [], M8)) rfl (fun _ => rfl) ?_ ?_
    · refine dp_s1 hF (i := .iconst 0) rfl (fun _ => rfl) ?_
      exact dp_s0 hF (i := .ireturn) rfl (fun _ => rfl)
    refine dp_s1 hF (i := .aload_n 0) rfl (fun _ => rfl) ?_
    refine dp_s1 hF (i := .getfield 106) rfl (fun _ => rfl) ?_
    refine dp_s1 hF (i := .iload_n 1) rfl (fun _ => rfl) ?_
    refine dp_s3 hF (i := .iaload) rfl (fun _ => rfl) ?_
    refine dp_s1 hF (i := .aload_n 0) rfl (fun _ => rfl) ?_
    refine dp_s1 hF (i := .iload_n 1) rfl (fun _ => rfl) ?_
    refine dp_si (mj := dp_m_X12_kilograms) (i := .invokevirtual 605) rfl rfl (Or.inl rfl) rfl (fun _ => rfl) (fun r11 M10 => ?_)
    refine dp_s2 hF (i := .if_icmp .eq 5) (a := (64, [some (.ref 114), some (.int v1), some (.int r9)], [], M10)) (b := (62, [some (.ref 114), some (.int v1), some (.int r9)], [], M10)) rfl (fun _ => rfl) ?_ ?_
    · refine dp_s1 hF (i := .aload_n 0) rfl (fun _ => rfl) ?_
      refine dp_s1 hF (i := .getfield 103) rfl (fun _ => rfl) ?_
      refine dp_s1 hF (i := .iload_n 1) rfl (fun _ => rfl) ?_
      refine dp_s1 hF (i := .iconst 1) rfl (fun _ => rfl) ?_
      refine dp_s3w (dp_setI M10 144 (Int32.toNatClampNeg v1) (1 : Int32)) (fun (M12 : dp_M) => (71, [some (.ref 114), some (.int v1), some (.int r9)], [], M12)) hF (i := .iastore) rfl (fun _ => rfl) (fun M12 => ?_)
      refine dp_s1 hF (i := .aload_n 0) rfl (fun _ => rfl) ?_
      refine dp_s1 hF (i := .iload_n 1) rfl (fun _ => rfl) ?_
      refine dp_s1 hF (i := .iconst 3) rfl (fun _ => rfl) ?_
      refine dp_sv (mj := dp_m_X12_tells) (i := .invokevirtual 620) rfl rfl rfl rfl (fun _ => rfl) (fun M13 => ?_)
      refine dp_s1 hF (i := .iconst 1) rfl (fun _ => rfl) ?_
      exact dp_s0 hF (i := .ireturn) rfl (fun _ => rfl)
    refine dp_s1 hF (i := .iconst 0) rfl (fun _ => rfl) ?_
    exact dp_s0 hF (i := .ireturn) rfl (fun _ => rfl)
  refine dp_s1 hF (i := .iconst 0) rfl (fun _ => rfl) ?_
  exact dp_s0 hF (i := .ireturn) rfl (fun _ => rfl)
noncomputable def D_X12_away_0 (xs : Nat → Int32) (xl d : Nat) (v1 : Int32) (v2 : Int32) (v3 : Int32) (M : dp_M) : Option dp_Res := dp_lim true xs xl (dp_den true xs xl d) dp_m_X12_away (0, [some (.ref 114), some (.int v1), some (.int v2), some (.int v3)], [], M)
theorem D_X12_away_0_den (xs : Nat → Int32) (xl d : Nat) (a0 : Int32) (a1 : Int32) (a2 : Int32) (M : dp_M) : dp_den true xs xl (d + 1) 440 [.ref 114, .int a0, .int a1, .int a2] M = D_X12_away_0 xs xl d a0 a1 a2 M := rfl
set_option maxRecDepth 20000 in
theorem D_X12_away_0_eq (xs : Nat → Int32) (xl d : Nat) (v1 : Int32) (v2 : Int32) (v3 : Int32) (M : dp_M) : D_X12_away_0 xs xl d v1 v2 v3 M = dp_w (dp_setI M 114 0 (0 : Int32)) (fun M1 => dp_bi (dp_den true xs xl d 371 [.ref 114, .int v1] M1) (fun r3 M2 => if r3 = 0 then (some (.inl (some (.int (0 : Int32))), M2)) else (if ((v2 >>> ((15 : Int32) &&& 31)) &&& (1 : Int32)) = 0 then (some (.inl (some (.int (0 : Int32))), M2)) else (if v3 = 0 then (if v1 < 0 ∨ 100 ≤ Int32.toNatClampNeg v1 then none else (if (dp_I M2 144 (Int32.toNatClampNeg v1)) = (2 : Int32) then (if v3 = 0 then (if v1 < 0 ∨ 100 ≤ Int32.toNatClampNeg v1 then none else dp_w (dp_setI M2 144 (Int32.toNatClampNeg v1) (0 : Int32)) (fun M4 => some (.inl (some (.int (1 : Int32))), M4))) else (if v1 < 0 ∨ 100 ≤ Int32.toNatClampNeg v1 then none else dp_w (dp_setI M2 144 (Int32.toNatClampNeg v1) (2 : Int32)) (fun M5 => some (.inl (some (.int (1 : Int32))), M5)))) else (some (.inl (some (.int (0 : Int32))), M2)))) else (dp_bi (dp_den true xs xl d 402 [.ref 114, .int v1] M2) (fun r7 M6 => if r7 = 0 then (some (.inl (some (.int (0 : Int32))), M6)) else (if v1 < 0 ∨ 100 ≤ Int32.toNatClampNeg v1 then none else (if (dp_I M6 140 (Int32.toNatClampNeg v1)) < 0 then (if v3 = 0 then (if v1 < 0 ∨ 100 ≤ Int32.toNatClampNeg v1 then none else dp_w (dp_setI M6 144 (Int32.toNatClampNeg v1) (0 : Int32)) (fun M8 => some (.inl (some (.int (1 : Int32))), M8))) else (if v1 < 0 ∨ 100 ≤ Int32.toNatClampNeg v1 then none else dp_w (dp_setI M6 144 (Int32.toNatClampNeg v1) (2 : Int32)) (fun M9 => some (.inl (some (.int (1 : Int32))), M9)))) else (some (.inl (some (.int (0 : Int32))), M6)))))))))) := by
  have hF := dp_den_grow (md := true) (xs := xs) (xl := xl) d
  unfold D_X12_away_0
  refine dp_s1 hF (i := .aload_n 0) rfl (fun _ => rfl) ?_
  refine dp_s1 hF (i := .iconst 0) rfl (fun _ => rfl) ?_
  refine dp_s1w (dp_setI M 114 0 (0 : Int32)) (fun (M1 : dp_M) => (5, [some (.ref 114), some (.int v1), some (.int v2), some (.int v3)], [], M1)) hF (i := .putfield 1) rfl (fun _ => rfl) (fun M1 => ?_)
  refine dp_s1 hF (i := .aload_n 0) rfl (fun _ => rfl) ?_
  refine dp_s1 hF (i := .iload_n 1) rfl (fun _ => rfl) ?_
  refine dp_si (mj := dp_m_X12_isBox) (i := .invokevirtual 470) rfl rfl (Or.inr rfl) rfl (fun _ => rfl) (fun r3 M2 => ?_)
  refine dp_s2 hF (i := .ifCond .eq 46) (a := (56, [some (.ref 114), some (.int v1), some (.int v2), some (.int v3)], [], M2)) (b := (13, [some (.ref 114), some (.int v1), some (.int v2), some (.int v3)], [], M2)) rfl (fun _ => rfl) ?_ ?_
  · refine dp_s1 hF (i := .iconst 0) rfl (fun _ => rfl) ?_
    exact dp_s0 hF (i := .ireturn) rfl (fun _ => rfl)
  refine dp_s1 hF (i := .iload_n 2) rfl (fun _ => rfl) ?_
  refine dp_s1 hF (i := .bipush 15) rfl (fun _ => rfl) ?_
  refine dp_s1 hF (i := .ishr) rfl (fun _ => rfl) ?_
  refine dp_s1 hF (i := .iconst 1) rfl (fun _ => rfl) ?_
  refine dp_s1 hF (i := .iand) rfl (fun _ => rfl) ?_
  refine dp_s2 hF (i := .ifCond .eq 37) (a := (56, [some (.ref 114), some (.int v1), some (.int v2), some (.int v3)], [], M2)) (b := (22, [some (.ref 114), some (.int v1), some (.int v2), some (.int v3)], [], M2)) rfl (fun _ => rfl) ?_ ?_
  · refine dp_s1 hF (i := .iconst 0) rfl (fun _ => rfl) ?_
    exact dp_s0 hF (i := .ireturn) rfl (fun _ => rfl)
  refine dp_s1 hF (i := .iload_n 3) rfl (fun _ => rfl) ?_
  refine dp_s2 hF (i := .ifCond .eq 23) (a := (46, [some (.ref 114), some (.int v1), some (.int v2), some (.int v3)], [], M2)) (b := (26, [some (.ref 114), some (.int v1), some (.int v2), some (.int v3)], [], M2)) rfl (fun _ => rfl) ?_ ?_
  · refine dp_s1 hF (i := .aload_n 0) rfl (fun _ => rfl) ?_
    refine dp_s1 hF (i := .getfield 103) rfl (fun _ => rfl) ?_
    refine dp_s1 hF (i := .iload_n 1) rfl (fun _ => rfl) ?_
    refine dp_s3 hF (i := .iaload) rfl (fun _ => rfl) ?_
    refine dp_s1 hF (i := .iconst 2) rfl (fun _ => rfl) ?_
    refine dp_s2 hF (i := .if_icmp .eq 5) (a := (58, [some (.ref 114), some (.int v1), some (.int v2), some (.int v3)], [], M2)) (b := (56, [some (.ref 114), some (.int v1), some (.int v2), some (.int v3)], [], M2)) rfl (fun _ => rfl) ?_ ?_
    · refine dp_s1 hF (i := .aload_n 0) rfl (fun _ => rfl) ?_
      refine dp_s1 hF (i := .getfield 103) rfl (fun _ => rfl) ?_
      refine dp_s1 hF (i := .iload_n 1) rfl (fun _ => rfl) ?_
      refine dp_s1 hF (i := .iload_n 3) rfl (fun _ => rfl) ?_
      refine dp_s2 hF (i := .ifCond .eq 7) (a := (71, [some (.ref 114), some (.int v1), some (.int v2), some (.int v3)], [.int v1, .ref 144], M2)) (b := (67, [some (.ref 114), some (.int v1), some (.int v2), some (.int v3)], [.int v1, .ref 144], M2)) rfl (fun _ => rfl) ?_ ?_
      · refine dp_s1 hF (i := .iconst 0) rfl (fun _ => rfl) ?_
        refine dp_s3w (dp_setI M2 144 (Int32.toNatClampNeg v1) (0 : Int32)) (fun (M4 : dp_M) => (73, [some (.ref 114), some (.int v1), some (.int v2), some (.int v3)], [], M4)) hF (i := .iastore) rfl (fun _ => rfl) (fun M4 => ?_)
        refine dp_s1 hF (i := .iconst 1) rfl (fun _ => rfl) ?_
        exact dp_s0 hF (i := .ireturn) rfl (fun _ => rfl)
      refine dp_s1 hF (i := .iconst 2) rfl (fun _ => rfl) ?_
      refine dp_s1 hF (i := .goto 4) rfl (fun _ => rfl) ?_
      refine dp_s3w (dp_setI M2 144 (Int32.toNatClampNeg v1) (2 : Int32)) (fun (M5 : dp_M) => (73, [some (.ref 114), some (.int v1), some (.int v2), some (.int v3)], [], M5)) hF (i := .iastore) rfl (fun _ => rfl) (fun M5 => ?_)
      refine dp_s1 hF (i := .iconst 1) rfl (fun _ => rfl) ?_
      exact dp_s0 hF (i := .ireturn) rfl (fun _ => rfl)
    refine dp_s1 hF (i := .iconst 0) rfl (fun _ => rfl) ?_
    exact dp_s0 hF (i := .ireturn) rfl (fun _ => rfl)
  refine dp_s1 hF (i := .aload_n 0) rfl (fun _ => rfl) ?_
  refine dp_s1 hF (i := .iload_n 1) rfl (fun _ => rfl) ?_
  refine dp_si (mj := dp_m_X12_isHere) (i := .invokevirtual 581) rfl rfl (Or.inr rfl) rfl (fun _ => rfl) (fun r7 M6 => ?_)
  refine dp_s2 hF (i := .ifCond .eq 25) (a := (56, [some (.ref 114), some (.int v1), some (.int v2), some (.int v3)], [], M6)) (b := (34, [some (.ref 114), some (.int v1), some (.int v2), some (.int v3)], [], M6)) rfl (fun _ => rfl) ?_ ?_
  · refine dp_s1 hF (i := .iconst 0) rfl (fun _ => rfl) ?_
    exact dp_s0 hF (i := .ireturn) rfl (fun _ => rfl)
  refine dp_s1 hF (i := .aload_n 0) rfl (fun _ => rfl) ?_
  refine dp_s1 hF (i := .getfield 91) rfl (fun _ => rfl) ?_
  refine dp_s1 hF (i := .iload_n 1) rfl (fun _ => rfl) ?_
  refine dp_s3 hF (i := .iaload) rfl (fun _ => rfl) ?_
  refine dp_s2 hF (i := .ifCond .lt 18) (a := (58, [some (.ref 114), some (.int v1), some (.int v2), some (.int v3)], [], M6)) (b := (43, [some (.ref 114), some (.int v1), some (.int v2), some (.int v3)], [], M6)) rfl (fun _ => rfl) ?_ ?_
  · refine dp_s1 hF (i := .aload_n 0) rfl (fun _ => rfl) ?_
    refine dp_s1 hF (i := .getfield 103) rfl (fun _ => rfl) ?_
    refine dp_s1 hF (i := .iload_n 1) rfl (fun _ => rfl) ?_
    refine dp_s1 hF (i := .iload_n 3) rfl (fun _ => rfl) ?_
    refine dp_s2 hF (i := .ifCond .eq 7) (a := (71, [some (.ref 114), some (.int v1), some (.int v2), some (.int v3)], [.int v1, .ref 144], M6)) (b := (67, [some (.ref 114), some (.int v1), some (.int v2), some (.int v3)], [.int v1, .ref 144], M6)) rfl (fun _ => rfl) ?_ ?_
    · refine dp_s1 hF (i := .iconst 0) rfl (fun _ => rfl) ?_
      refine dp_s3w (dp_setI M6 144 (Int32.toNatClampNeg v1) (0 : Int32)) (fun (M8 : dp_M) => (73, [some (.ref 114), some (.int v1), some (.int v2), some (.int v3)], [], M8)) hF (i := .iastore) rfl (fun _ => rfl) (fun M8 => ?_)
      refine dp_s1 hF (i := .iconst 1) rfl (fun _ => rfl) ?_
      exact dp_s0 hF (i := .ireturn) rfl (fun _ => rfl)
    refine dp_s1 hF (i := .iconst 2) rfl (fun _ => rfl) ?_
    refine dp_s1 hF (i := .goto 4) rfl (fun _ => rfl) ?_
    refine dp_s3w (dp_setI M6 144 (Int32.toNatClampNeg v1) (2 : Int32)) (fun (M9 : dp_M) => (73, [some (.ref 114), some (.int v1), some (.int v2), some (.int v3)], [], M9)) hF (i := .iastore) rfl (fun _ => rfl) (fun M9 => ?_)
    refine dp_s1 hF (i := .iconst 1) rfl (fun _ => rfl) ?_
    exact dp_s0 hF (i := .ireturn) rfl (fun _ => rfl)
  refine dp_s1 hF (i := .goto 13) rfl (fun _ => rfl) ?_
  refine dp_s1 hF (i := .iconst 0) rfl (fun _ => rfl) ?_
  exact dp_s0 hF (i := .ireturn) rfl (fun _ => rfl)
