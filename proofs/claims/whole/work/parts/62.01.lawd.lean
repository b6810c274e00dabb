set_option maxRecDepth 20000 in
theorem D_L_law_1460_eq (xs : Nat → Int32) (xl d : Nat) (v4 : Int32) (u5 : Option Value) (u6 : Option Value) (u7 : Option Value) (M : dp_M) : D_L_law_1460 xs xl d v4 u5 u6 u7 M = if (v4 + (1 : Int32)) < 0 ∨ xl ≤ Int32.toNatClampNeg (v4 + (1 : Int32)) then none else (if (v4 + (2 : Int32)) < 0 ∨ xl ≤ Int32.toNatClampNeg (v4 + (2 : Int32)) then none else (dp_bi (dp_den true xs xl d 608 [.ref 0, .int (xs (Int32.toNatClampNeg (v4 + (1 : Int32)))), .int (xs (Int32.toNatClampNeg (v4 + (2 : Int32)))), .ref 245] M) (fun r2 M1 => if (v4 + (1 : Int32)) < 0 ∨ xl ≤ Int32.toNatClampNeg (v4 + (1 : Int32)) then none else (if (v4 + (2 : Int32)) < 0 ∨ xl ≤ Int32.toNatClampNeg (v4 + (2 : Int32)) then none else (dp_bi (dp_den true xs xl d 420 [.ref 114, .int (xs (Int32.toNatClampNeg (v4 + (1 : Int32)))), .int (xs (Int32.toNatClampNeg (v4 + (2 : Int32))))] M1) (fun r4 M3 => dp_bi (dp_den true xs xl d 365 [.ref 114] M3) (fun r6 M5 => if r6 = r2 then (if r2 = 0 then (if (0 : Int32) < 0 ∨ 1 ≤ Int32.toNatClampNeg (0 : Int32) then none else (if (lg_cmp (dp_J M5 245 (Int32.toNatClampNeg (0 : Int32))) (Int32.toInt64 r4)) = 0 then (D_L_law_6132 xs xl d v4 (some (.int r2)) (some (.int r4)) u7 M5) else (some (.inl (some (.int (0 : Int32))), M5)))) else (D_L_law_6132 xs xl d v4 (some (.int r2)) (some (.int r4)) u7 M5)) else (some (.inl (some (.int (0 : Int32))), M5))))))))) := by
  have hF := dp_den_grow (md := true) (xs := xs) (xl := xl) d
  unfold D_L_law_1460
  refine dp_s1 hF (i := .aload_n 1) rfl (fun _ => rfl) ?_
  refine dp_s1 hF (i := .aload_n 0) rfl (fun _ => rfl) ?_
  refine dp_s1 hF (i := .iload 4) rfl (fun _ => rfl) ?_
  refine dp_s1 hF (i := .iconst 1) rfl (fun _ => rfl) ?_
  refine dp_s1 hF (i := .iadd) rfl (fun _ => rfl) ?_
  refine dp_s3 hF (i := .iaload) rfl (fun _ => rfl) ?_
  refine dp_s1 hF (i := .aload_n 0) rfl (fun _ => rfl) ?_
  refine dp_s1 hF (i := .iload 4) rfl (fun _ => rfl) ?_
  refine dp_s1 hF (i := .iconst 2) rfl (fun _ => rfl) ?_
  refine dp_s1 hF (i := .iadd) rfl (fun _ => rfl) ?_
  refine dp_s3 hF (i := .iaload) rfl (fun _ => rfl) ?_
  refine dp_s1 hF (i := .aload_n 3) rfl (fun _ => rfl) ?_
  refine dp_si (mj := dp_m_L_at) (i := .invokestatic 289) rfl rfl (Or.inl rfl) rfl (fun _ => rfl) (fun r2 M1 => ?_)
  refine dp_s1 hF (i := .istore 5) rfl (fun _ => rfl) ?_
  refine dp_s1 hF (i := .aload_n 2) rfl (fun _ => rfl) ?_
  refine dp_s1 hF (i := .aload_n 0) rfl (fun _ => rfl) ?_
  refine dp_s1 hF (i := .iload 4) rfl (fun _ => rfl) ?_
  refine dp_s1 hF (i := .iconst 1) rfl (fun _ => rfl) ?_
  refine dp_s1 hF (i := .iadd) rfl (fun _ => rfl) ?_
  refine dp_s3 hF (i := .iaload) rfl (fun _ => rfl) ?_
  refine dp_s1 hF (i := .aload_n 0) rfl (fun _ => rfl) ?_
  refine dp_s1 hF (i := .iload 4) rfl (fun _ => rfl) ?_
  refine dp_s1 hF (i := .iconst 2) rfl (fun _ => rfl) ?_
  refine dp_s1 hF (i := .iadd) rfl (fun _ => rfl) ?_
  refine dp_s3 hF (i := .iaload) rfl (fun _ => rfl) ?_
  refine dp_si (mj := dp_m_X12_at) (i := .invokevirtual 291) rfl rfl (Or.inl rfl) rfl (fun _ => rfl) (fun r4 M3 => ?_)
  refine dp_s1 hF (i := .istore 6) rfl (fun _ => rfl) ?_
  refine dp_s1 hF (i := .aload_n 2) rfl (fun _ => rfl) ?_
  refine dp_si (mj := dp_m_X12_thrown) (i := .invokevirtual 229) rfl rfl (Or.inl rfl) rfl (fun _ => rfl) (fun r6 M5 => ?_)
  refine dp_s1 hF (i := .iload 5) rfl (fun _ => rfl) ?_
  refine dp_s2 hF (i := .if_icmp .eq 5) (a := (1508, [some (.retAddr 0), some (.ref 0), some (.ref 114), some (.ref 245), some (.int v4), some (.int r2), some (.int r4), u7], [], M5)) (b := (1506, [some (.retAddr 0), some (.ref 0), some (.ref 114), some (.ref 245), some (.int v4), some (.int r2), some (.int r4), u7], [], M5)) rfl (fun _ => rfl) ?_ ?_
  · refine dp_s1 hF (i := .iload 5) rfl (fun _ => rfl) ?_
    refine dp_s2 hF (i := .ifCond .ne 15) (a := (1513, [some (.retAddr 0), some (.ref 0), some (.ref 114), some (.ref 245), some (.int v4), some (.int r2), some (.int r4), u7], [], M5)) (b := (1525, [some (.retAddr 0), some (.ref 0), some (.ref 114), some (.ref 245), some (.int v4), some (.int r2), some (.int r4), u7], [], M5)) rfl (fun _ => rfl) ?_ ?_
    · refine dp_s1 hF (i := .aload_n 3) rfl (fun _ => rfl) ?_
      refine dp_s1 hF (i := .iconst 0) rfl (fun _ => rfl) ?_
      refine dp_s3 hF (i := .laload) rfl (fun _ => rfl) ?_
      refine dp_s1 hF (i := .iload 6) rfl (fun _ => rfl) ?_
      refine dp_s1 hF (i := .i2l) rfl (fun _ => rfl) ?_
      refine dp_s1 hF (i := .lcmp) rfl (fun _ => rfl) ?_
      refine dp_s2 hF (i := .ifCond .eq 5) (a := (1525, [some (.retAddr 0), some (.ref 0), some (.ref 114), some (.ref 245), some (.int v4), some (.int r2), some (.int r4), u7], [], M5)) (b := (1523, [some (.retAddr 0), some (.ref 0), some (.ref 114), some (.ref 245), some (.int v4), some (.int r2), some (.int r4), u7], [], M5)) rfl (fun _ => rfl) ?_ ?_
      · refine dp_s1 hF (i := .goto 4607) rfl (fun _ => rfl) ?_
        exact rfl
      refine dp_s1 hF (i := .iconst 0) rfl (fun _ => rfl) ?_
      exact dp_s0 hF (i := .ireturn) rfl (fun _ => rfl)
    refine dp_s1 hF (i := .goto 4607) rfl (fun _ => rfl) ?_
    exact rfl
  refine dp_s1 hF (i := .iconst 0) rfl (fun _ => rfl) ?_
  exact dp_s0 hF (i := .ireturn) rfl (fun _ => rfl)
set_option maxRecDepth 20000 in
theorem D_L_law_1528_eq (xs : Nat → Int32) (xl d : Nat) (v4 : Int32) (u5 : Option Value) (u6 : Option Value) (u7 : Option Value) (M : dp_M) : D_L_law_1528 xs xl d v4 u5 u6 u7 M = if (v4 + (1 : Int32)) < 0 ∨ xl ≤ Int32.toNatClampNeg (v4 + (1 : Int32)) then none else (if (v4 + (2 : Int32)) < 0 ∨ xl ≤ Int32.toNatClampNeg (v4 + (2 : Int32)) then none else (dp_bi (dp_den true xs xl d 609 [.ref 0, .int (xs (Int32.toNatClampNeg (v4 + (1 : Int32)))), .int (xs (Int32.toNatClampNeg (v4 + (2 : Int32)))), .ref 245] M) (fun r2 M1 => if (v4 + (1 : Int32)) < 0 ∨ xl ≤ Int32.toNatClampNeg (v4 + (1 : Int32)) then none else (if (v4 + (2 : Int32)) < 0 ∨ xl ≤ Int32.toNatClampNeg (v4 + (2 : Int32)) then none else (dp_bi (dp_den true xs xl d 424 [.ref 114, .int (xs (Int32.toNatClampNeg (v4 + (1 : Int32)))), .int (xs (Int32.toNatClampNeg (v4 + (2 : Int32))))] M1) (fun r4 M3 => dp_bi (dp_den true xs xl d 365 [.ref 114] M3) (fun r6 M5 => if r6 = r2 then (if r2 = 0 then (if (0 : Int32) < 0 ∨ 1 ≤ Int32.toNatClampNeg (0 : Int32) then none else (if (lg_cmp (dp_J M5 245 (Int32.toNatClampNeg (0 : Int32))) (Int32.toInt64 r4)) = 0 then (D_L_law_6132 xs xl d v4 (some (.int r2)) (some (.int r4)) u7 M5) else (some (.inl (some (.int (0 : Int32))), M5)))) else (D_L_law_6132 xs xl d v4 (some (.int r2)) (some (.int r4)) u7 M5)) else (some (.inl (some (.int (0 : Int32))), M5))))))))) := by
  have hF := dp_den_grow (md := true) (xs := xs) (xl := xl) d
  unfold D_L_law_1528
  refine dp_s1 hF (i := .aload_n 1) rfl (fun _ => rfl) ?_
  refine dp_s1 hF (i := .aload_n 0) rfl (fun _ => rfl) ?_
  refine dp_s1 hF (i := .iload 4) rfl (fun _ => rfl) ?_
  refine dp_s1 hF (i := .iconst 1) rfl (fun _ => rfl) ?_
  refine dp_s1 hF (i := .iadd) rfl (fun _ => rfl) ?_
  refine dp_s3 hF (i := .iaload) rfl (fun _ => rfl) ?_
  refine dp_s1 hF (i := .aload_n 0) rfl (fun _ => rfl) ?_
  refine dp_s1 hF (i := .iload 4) rfl (fun _ => rfl) ?_
  refine dp_s1 hF (i := .iconst 2) rfl (fun _ => rfl) ?_
  refine dp_s1 hF (i := .iadd) rfl (fun _ => rfl) ?_
  refine dp_s3 hF (i := .iaload) rfl (fun _ => rfl) ?_
  refine dp_s1 hF (i := .aload_n 3) rfl (fun _ => rfl) ?_
  refine dp_si (mj := dp_m_L_goods) (i := .invokestatic 292) rfl rfl (Or.inl rfl) rfl (fun _ => rfl) (fun r2 M1 => ?_)
  refine dp_s1 hF (i := .istore 5) rfl (fun _ => rfl) ?_
  refine dp_s1 hF (i := .aload_n 2) rfl (fun _ => rfl) ?_
  refine dp_s1 hF (i := .aload_n 0) rfl (fun _ => rfl) ?_
  refine dp_s1 hF (i := .iload 4) rfl (fun _ => rfl) ?_
  refine dp_s1 hF (i := .iconst 1) rfl (fun _ => rfl) ?_
  refine dp_s1 hF (i := .iadd) rfl (fun _ => rfl) ?_
  refine dp_s3 hF (i := .iaload) rfl (fun _ => rfl) ?_
  refine dp_s1 hF (i := .aload_n 0) rfl (fun _ => rfl) ?_
  refine dp_s1 hF (i := .iload 4) rfl (fun _ => rfl) ?_
  refine dp_s1 hF (i := .iconst 2) rfl (fun _ => rfl) ?_
  refine dp_s1 hF (i := .iadd) rfl (fun _ => rfl) ?_
  refine dp_s3 hF (i := .iaload) rfl (fun _ => rfl) ?_
  refine dp_si (mj := dp_m_X12_goods) (i := .invokevirtual 294) rfl rfl (Or.inl rfl) rfl (fun _ => rfl) (fun r4 M3 => ?_)
  refine dp_s1 hF (i := .istore 6) rfl (fun _ => rfl) ?_
  refine dp_s1 hF (i := .aload_n 2) rfl (fun _ => rfl) ?_
  refine dp_si (mj := dp_m_X12_thrown) (i := .invokevirtual 229) rfl rfl (Or.inl rfl) rfl (fun _ => rfl) (fun r6 M5 => ?_)
  refine dp_s1 hF (i := .iload 5) rfl (fun _ => rfl) ?_
  refine dp_s2 hF (i := .if_icmp .eq 5) (a := (1576, [some (.retAddr 0), some (.ref 0), some (.ref 114), some (.ref 245), some (.int v4), some (.int r2), some (.int r4), u7], [], M5)) (b := (1574, [some (.retAddr 0), some (.ref 0), some (.ref 114), some (.ref 245), some (.int v4), some (.int r2), some (.int r4), u7], [], M5)) rfl (fun _ => rfl) ?_ ?_
  · refine dp_s1 hF (i := .iload 5) rfl (fun _ => rfl) ?_
    refine dp_s2 hF (i := .ifCond .ne 15) (a := (1581, [some (.retAddr 0), some (.ref 0), some (.ref 114), some (.ref 245), some (.int v4), some (.int r2), some (.int r4), u7], [], M5)) (b := (1593, [some (.retAddr 0), some (.ref 0), some (.ref 114), some (.ref 245), some (.int v4), some (.int r2), some (.int r4), u7], [], M5)) rfl (fun _ => rfl) ?_ ?_
    · refine dp_s1 hF (i := .aload_n 3) rfl (fun _ => rfl) ?_
      refine dp_s1 hF (i := .iconst 0) rfl (fun _ => rfl) ?_
      refine dp_s3 hF (i := .laload) rfl (fun _ => rfl) ?_
      refine dp_s1 hF (i := .iload 6) rfl (fun _ => rfl) ?_
      refine dp_s1 hF (i := .i2l) rfl (fun _ => rfl) ?_
      refine dp_s1 hF (i := .lcmp) rfl (fun _ => rfl) ?_
      refine dp_s2 hF (i := .ifCond .eq 5) (a := (1593, [some (.retAddr 0), some (.ref 0), some (.ref 114), some (.ref 245), some (.int v4), some (.int r2), some (.int r4), u7], [], M5)) (b := (1591, [some (.retAddr 0), some (.ref 0), some (.ref 114), some (.ref 245), some (.int v4), some (.int r2), some (.int r4), u7], [], M5)) rfl (fun _ => rfl) ?_ ?_
      · refine dp_s1 hF (i := .goto 4539) rfl (fun _ => rfl) ?_
        exact rfl
      refine dp_s1 hF (i := .iconst 0) rfl (fun _ => rfl) ?_
      exact dp_s0 hF (i := .ireturn) rfl (fun _ => rfl)
    refine dp_s1 hF (i := .goto 4539) rfl (fun _ => rfl) ?_
    exact rfl
  refine dp_s1 hF (i := .iconst 0) rfl (fun _ => rfl) ?_
  exact dp_s0 hF (i := .ireturn) rfl (fun _ => rfl)
set_option maxRecDepth 20000 in
theorem D_L_law_1596_eq (xs : Nat → Int32) (xl d : Nat) (v4 : Int32) (u5 : Option Value) (u6 : Option Value) (u7 : Option Value) (M : dp_M) : D_L_law_1596 xs xl d v4 u5 u6 u7 M = if (v4 + (1 : Int32)) < 0 ∨ xl ≤ Int32.toNatClampNeg (v4 + (1 : Int32)) then none else (if (v4 + (2 : Int32)) < 0 ∨ xl ≤ Int32.toNatClampNeg (v4 + (2 : Int32)) then none else (if (v4 + (3 : Int32)) < 0 ∨ xl ≤ Int32.toNatClampNeg (v4 + (3 : Int32)) then none else (if (v4 + (4 : Int32)) < 0 ∨ xl ≤ Int32.toNatClampNeg (v4 + (4 : Int32)) then none else (dp_bi (dp_den true xs xl d 610 [.ref 0, .int (xs (Int32.toNatClampNeg (v4 + (1 : Int32)))), .int (xs (Int32.toNatClampNeg (v4 + (2 : Int32)))), .int (xs (Int32.toNatClampNeg (v4 + (3 : Int32)))), .int (xs (Int32.toNatClampNeg (v4 + (4 : Int32)))), .ref 245] M) (fun r2 M1 => if (v4 + (1 : Int32)) < 0 ∨ xl ≤ Int32.toNatClampNeg (v4 + (1 : Int32)) then none else (if (v4 + (2 : Int32)) < 0 ∨ xl ≤ Int32.toNatClampNeg (v4 + (2 : Int32)) then none else (if (v4 + (3 : Int32)) < 0 ∨ xl ≤ Int32.toNatClampNeg (v4 + (3 : Int32)) then none else (if (v4 + (4 : Int32)) < 0 ∨ xl ≤ Int32.toNatClampNeg (v4 + (4 : Int32)) then none else (dp_bi (dp_den true xs xl d 428 [.ref 114, .int (xs (Int32.toNatClampNeg (v4 + (1 : Int32)))), .int (xs (Int32.toNatClampNeg (v4 + (2 : Int32)))), .int (xs (Int32.toNatClampNeg (v4 + (3 : Int32)))), .int (xs (Int32.toNatClampNeg (v4 + (4 : Int32))))] M1) (fun r4 M3 => dp_bi (dp_den true xs xl d 365 [.ref 114] M3) (fun r6 M5 => if r6 = r2 then (if r2 = 0 then (if (0 : Int32) < 0 ∨ 1 ≤ Int32.toNatClampNeg (0 : Int32) then none else (if (lg_cmp (dp_J M5 245 (Int32.toNatClampNeg (0 : Int32))) (Int32.toInt64 r4)) = 0 then (D_L_law_6132 xs xl d v4 (some (.int r2)) (some (.int r4)) u7 M5) else (some (.inl (some (.int (0 : Int32))), M5)))) else (D_L_law_6132 xs xl d v4 (some (.int r2)) (some (.int r4)) u7 M5)) else (some (.inl (some (.int (0 : Int32))), M5))))))))))))) := by
  have hF := dp_den_grow (md := true) (xs := xs) (xl := xl) d
  unfold D_L_law_1596
  refine dp_s1 hF (i := .aload_n 1) rfl (fun _ => rfl) ?_
  refine dp_s1 hF (i := .aload_n 0) rfl (fun _ => rfl) ?_
  refine dp_s1 hF (i := .iload 4) rfl (fun _ => rfl) ?_
  refine dp_s1 hF (i := .iconst 1) rfl (fun _ => rfl) ?_
  refine dp_s1 hF (i := .iadd) rfl (fun _ => rfl) ?_
  refine dp_s3 hF (i := .iaload) rfl (fun _ => rfl) ?_
  refine dp_s1 hF (i := .aload_n 0) rfl (fun _ => rfl) ?_
  refine dp_s1 hF (i := .iload 4) rfl (fun _ => rfl) ?_
  refine dp_s1 hF (i := .iconst 2) rfl (fun _ => rfl) ?_
  refine dp_s1 hF (i := .iadd) rfl (fun _ => rfl) ?_
  refine dp_s3 hF (i := .iaload) rfl (fun _ => rfl) ?_
  refine dp_s1 hF (i := .aload_n 0) rfl (fun _ => rfl) ?_
  refine dp_s1 hF (i := .iload 4) rfl (fun _ => rfl) ?_
  refine dp_s1 hF (i := .iconst 3) rfl (fun _ => rfl) ?_
  refine dp_s1 hF (i := .iadd) rfl (fun _ => rfl) ?_
  refine dp_s3 hF (i := .iaload) rfl (fun _ => rfl) ?_
  refine dp_s1 hF (i := .aload_n 0) rfl (fun _ => rfl) ?_
  refine dp_s1 hF (i := .iload 4) rfl (fun _ => rfl) ?_
  refine dp_s1 hF (i := .iconst 4) rfl (fun _ => rfl) ?_
  refine dp_s1 hF (i := .iadd) rfl (fun _ => rfl) ?_
  refine dp_s3 hF (i := .iaload) rfl (fun _ => rfl) ?_
  refine dp_s1 hF (i := .aload_n 3) rfl (fun _ => rfl) ?_
  refine dp_si (mj := dp_m_L_bar) (i := .invokestatic 295) rfl rfl (Or.inl rfl) rfl (fun _ => rfl) (fun r2 M1 => ?_)
  refine dp_s1 hF (i := .istore 5) rfl (fun _ => rfl) ?_
  refine dp_s1 hF (i := .aload_n 2) rfl (fun _ => rfl) ?_
  refine dp_s1 hF (i := .aload_n 0) rfl (fun _ => rfl) ?_
  refine dp_s1 hF (i := .iload 4) rfl (fun _ => rfl) ?_
  refine dp_s1 hF (i := .iconst 1) rfl (fun _ => rfl) ?_
  refine dp_s1 hF (i := .iadd) rfl (fun _ => rfl) ?_
  refine dp_s3 hF (i := .iaload) rfl (fun _ => rfl) ?_
  refine dp_s1 hF (i := .aload_n 0) rfl (fun _ => rfl) ?_
  refine dp_s1 hF (i := .iload 4) rfl (fun _ => rfl) ?_
  refine dp_s1 hF (i := .iconst 2) rfl (fun _ => rfl) ?_
  refine dp_s1 hF (i := .iadd) rfl (fun _ => rfl) ?_
  refine dp_s3 hF (i := .iaload) rfl (fun _ => rfl) ?_
  refine dp_s1 hF (i := .aload_n 0) rfl (fun _ => rfl) ?_
  refine dp_s1 hF (i := .iload 4) rfl (fun _ => rfl) ?_
  refine dp_s1 hF (i := .iconst 3) rfl (fun _ => rfl) ?_
  refine dp_s1 hF (i := .iadd) rfl (fun _ => rfl) ?_
  refine dp_s3 hF (i := .iaload) rfl (fun _ => rfl) ?_
  refine dp_s1 hF (i := .aload_n 0) rfl (fun _ => rfl) ?_
  refine dp_s1 hF (i := .iload 4) rfl (fun _ => rfl) ?_
  refine dp_s1 hF (i := .iconst 4) rfl (fun _ => rfl) ?_
  refine dp_s1 hF (i := .iadd) rfl (fun _ => rfl) ?_
  refine dp_s3 hF (i := .iaload) rfl (fun _ => rfl) ?_
  refine dp_si (mj := dp_m_X12_bar) (i := .invokevirtual 298) rfl rfl (Or.inl rfl) rfl (fun _ => rfl) (fun r4 M3 => ?_)
  refine dp_s1 hF (i := .istore 6) rfl (fun _ => rfl) ?_
  refine dp_s1 hF (i := .aload_n 2) rfl (fun _ => rfl) ?_
  refine dp_si (mj := dp_m_X12_thrown) (i := .invokevirtual 229) rfl rfl (Or.inl rfl) rfl (fun _ => rfl) (fun r6 M5 => ?_)
  refine dp_s1 hF (i := .iload 5) rfl (fun _ => rfl) ?_
  refine dp_s2 hF (i := .if_icmp .eq 5) (a := (1668, [some (.retAddr 0), some (.ref 0), some (.ref 114), some (.ref 245), some (.int v4), some (.int r2), some (.int r4), u7], [], M5)) (b := (1666, [some (.retAddr 0), some (.ref 0), some (.ref 114), some (.ref 245), some (.int v4), some (.int r2), some (.int r4), u7], [], M5)) rfl (fun _ => rfl) ?_ ?_
  · refine dp_s1 hF (i := .iload 5) rfl (fun _ => rfl) ?_
    refine dp_s2 hF (i := .ifCond .ne 15) (a := (1673, [some (.retAddr 0), some (.ref 0), some (.ref 114), some (.ref 245), some (.int v4), some (.int r2), some (.int r4), u7], [], M5)) (b := (1685, [some (.retAddr 0), some (.ref 0), some (.ref 114), some (.ref 245), some (.int v4), some (.int r2), some (.int r4), u7], [], M5)) rfl (fun _ => rfl) ?_ ?_
    · refine dp_s1 hF (i := .aload_n 3) rfl (fun _ => rfl) ?_
      refine dp_s1 hF (i := .iconst 0) rfl (fun _ => rfl) ?_
      refine dp_s3 hF (i := .laload) rfl (fun _ => rfl) ?_
      refine dp_s1 hF (i := .iload 6) rfl (fun _ => rfl) ?_
      refine dp_s1 hF (i := .i2l) rfl (fun _ => rfl) ?_
      refine dp_s1 hF (i := .lcmp) rfl (fun _ => rfl) ?_
      refine dp_s2 hF (i := .ifCond .eq 5) (a := (1685, [some (.retAddr 0), some (.ref 0), some (.ref 114), some (.ref 245), some (.int v4), some (.int r2), some (.int r4), u7], [], M5)) (b := (1683, [some (.retAddr 0), some (.ref 0), some (.ref 114), some (.ref 245), some (.int v4), some (.int r2), some (.int r4), u7], [], M5)) rfl (fun _ => rfl) ?_ ?_
      · refine dp_s1 hF (i := .goto 4447) rfl (fun _ => rfl) ?_
        exact rfl
      refine dp_s1 hF (i := .iconst 0) rfl (fun _ => rfl) ?_
      exact dp_s0 hF (i := .ireturn) rfl (fun _ => rfl)
    refine dp_s1 hF (i := .goto 4447) rfl (fun _ => rfl) ?_
    exact rfl
  refine dp_s1 hF (i := .iconst 0) rfl (fun _ => rfl) ?_
  exact dp_s0 hF (i := .ireturn) rfl (fun _ => rfl)
set_option maxRecDepth 20000 in
theorem D_L_law_1688_eq (xs : Nat → Int32) (xl d : Nat) (v4 : Int32) (u5 : Option Value) (u6 : Option Value) (u7 : Option Value) (M : dp_M) : D_L_law_1688 xs xl d v4 u5 u6 u7 M = if (v4 + (1 : Int32)) < 0 ∨ xl ≤ Int32.toNatClampNeg (v4 + (1 : Int32)) then none else (if (v4 + (2 : Int32)) < 0 ∨ xl ≤ Int32.toNatClampNeg (v4 + (2 : Int32)) then none else (if (v4 + (3 : Int32)) < 0 ∨ xl ≤ Int32.toNatClampNeg (v4 + (3 : Int32)) then none else (if (v4 + (4 : Int32)) < 0 ∨ xl ≤ Int32.toNatClampNeg (v4 + (4 : Int32)) then none else (dp_bi (dp_den true xs xl d 611 [.ref 0, .int (xs (Int32.toNatClampNeg (v4 + (1 : Int32)))), .int (xs (Int32.toNatClampNeg (v4 + (2 : Int32)))), .int (xs (Int32.toNatClampNeg (v4 + (3 : Int32)))), .int (xs (Int32.toNatClampNeg (v4 + (4 : Int32)))), .ref 245] M) (fun r2 M1 => if (v4 + (1 : Int32)) < 0 ∨ xl ≤ Int32.toNatClampNeg (v4 + (1 : Int32)) then none else (if (v4 + (2 : Int32)) < 0 ∨ xl ≤ Int32.toNatClampNeg (v4 + (2 : Int32)) then none else (if (v4 + (3 : Int32)) < 0 ∨ xl ≤ Int32.toNatClampNeg (v4 + (3 : Int32)) then none else (if (v4 + (4 : Int32)) < 0 ∨ xl ≤ Int32.toNatClampNeg (v4 + (4 : Int32)) then none else (dp_bi (dp_den true xs xl d 429 [.ref 114, .int (xs (Int32.toNatClampNeg (v4 + (1 : Int32)))), .int (xs (Int32.toNatClampNeg (v4 + (2 : Int32)))), .int (xs (Int32.toNatClampNeg (v4 + (3 : Int32)))), .int (xs (Int32.toNatClampNeg (v4 + (4 : Int32))))] M1) (fun r4 M3 => dp_bi (dp_den true xs xl d 365 [.ref 114] M3) (fun r6 M5 => if r6 = r2 then (if r2 = 0 then (if (0 : Int32) < 0 ∨ 1 ≤ Int32.toNatClampNeg (0 : Int32) then none else (if (lg_cmp (dp_J M5 245 (Int32.toNatClampNeg (0 : Int32))) (Int32.toInt64 r4)) = 0 then (D_L_law_6132 xs xl d v4 (some (.int r2)) (some (.int r4)) u7 M5) else (some (.inl (some (.int (0 : Int32))), M5)))) else (D_L_law_6132 xs xl d v4 (some (.int r2)) (some (.int r4)) u7 M5)) else (some (.inl (some (.int (0 : Int32))), M5))))))))))))) := by
  have hF := dp_den_grow (md := true) (xs := xs) (xl := xl) d
  unfold D_L_law_1688
  refine dp_s1 hF (i := .aload_n 1) rfl (fun _ => rfl) ?_
  refine dp_s1 hF (i := .aload_n 0) rfl (fun _ => rfl) ?_
  refine dp_s1 hF (i := .iload 4) rfl (fun _ => rfl) ?_
  refine dp_s1 hF (i := .iconst 1) rfl (fun _ => rfl) ?_
  refine dp_s1 hF (i := .iadd) rfl (fun _ => rfl) ?_
  refine dp_s3 hF (i := .iaload) rfl (fun _ => rfl) ?_
  refine dp_s1 hF (i := .aload_n 0) rfl (fun _ => rfl) ?_
  refine dp_s1 hF (i := .iload 4) rfl (fun _ => rfl) ?_
  refine dp_s1 hF (i := .iconst 2) rfl (fun _ => rfl) ?_
  refine dp_s1 hF (i := .iadd) rfl (fun _ => rfl) ?_
  refine dp_s3 hF (i := .iaload) rfl (fun _ => rfl) ?_
  refine dp_s1 hF (i := .aload_n 0) rfl (fun _ => rfl) ?_
  refine dp_s1 hF (i := .iload 4) rfl (fun _ => rfl) ?_
  refine dp_s1 hF (i := .iconst 3) rfl (fun _ => rfl) ?_
  refine dp_s1 hF (i := .iadd) rfl (fun _ => rfl) ?_
  refine dp_s3 hF (i := .iaload) rfl (fun _ => rfl) ?_
  refine dp_s1 hF (i := .aload_n 0) rfl (fun _ => rfl) ?_
  refine dp_s1 hF (i := .iload 4) rfl (fun _ => rfl) ?_
  refine dp_s1 hF (i := .iconst 4) rfl (fun _ => rfl) ?_
  refine dp_s1 hF (i := .iadd) rfl (fun _ => rfl) ?_
  refine dp_s3 hF (i := .iaload) rfl (fun _ => rfl) ?_
  refine dp_s1 hF (i := .aload_n 3) rfl (fun _ => rfl) ?_
  refine dp_si (mj := dp_m_L_lift) (i := .invokestatic 299) rfl rfl (Or.inl rfl) rfl (fun _ => rfl) (fun r2 M1 => ?_)
  refine dp_s1 hF (i := .istore 5) rfl (fun _ => rfl) ?_
  refine dp_s1 hF (i := .aload_n 2) rfl (fun _ => rfl) ?_
  refine dp_s1 hF (i := .aload_n 0) rfl (fun _ => rfl) ?_
  refine dp_s1 hF (i := .iload 4) rfl (fun _ => rfl) ?_
  refine dp_s1 hF (i := .iconst 1) rfl (fun _ => rfl) ?_
  refine dp_s1 hF (i := .iadd) rfl (fun _ => rfl) ?_
  refine dp_s3 hF (i := .iaload) rfl (fun _ => rfl) ?_
  refine dp_s1 hF (i := .aload_n 0) rfl (fun _ => rfl) ?_
  refine dp_s1 hF (i := .iload 4) rfl (fun _ => rfl) ?_
  refine dp_s1 hF (i := .iconst 2) rfl (fun _ => rfl) ?_
  refine dp_s1 hF (i := .iadd) rfl (fun _ => rfl) ?_
  refine dp_s3 hF (i := .iaload) rfl (fun _ => rfl) ?_
  refine dp_s1 hF (i := .aload_n 0) rfl (fun _ => rfl) ?_
  refine dp_s1 hF (i := .iload 4) rfl (fun _ => rfl) ?_
  refine dp_s1 hF (i := .iconst 3) rfl (fun _ => rfl) ?_
  refine dp_s1 hF (i := .iadd) rfl (fun _ => rfl) ?_
  refine dp_s3 hF (i := .iaload) rfl (fun _ => rfl) ?_
  refine dp_s1 hF (i := .aload_n 0) rfl (fun _ => rfl) ?_
  refine dp_s1 hF (i := .iload 4) rfl (fun _ => rfl) ?_
  refine dp_s1 hF (i := .iconst 4) rfl (fun _ => rfl) ?_
  refine dp_s1 hF (i := .iadd) rfl (fun _ => rfl) ?_
  refine dp_s3 hF (i := .iaload) rfl (fun _ => rfl) ?_
  refine dp_si (mj := dp_m_X12_lift) (i := .invokevirtual 301) rfl rfl (Or.inl rfl) rfl (fun _ => rfl) (fun r4 M3 => ?_)
  refine dp_s1 hF (i := .istore 6) rfl (fun _ => rfl) ?_
  refine dp_s1 hF (i := .aload_n 2) rfl (fun _ => rfl) ?_
  refine dp_si (mj := dp_m_X12_thrown) (i := .invokevirtual 229) rfl rfl (Or.inl rfl) rfl (fun _ => rfl) (fun r6 M5 => ?_)
  refine dp_s1 hF (i := .iload 5) rfl (fun _ => rfl) ?_
  refine dp_s2 hF (i := .if_icmp .eq 5) (a := (1760, [some (.retAddr 0), some (.ref 0), some (.ref 114), some (.ref 245), some (.int v4), some (.int r2), some (.int r4), u7], [], M5)) (b := (1758, [some (.retAddr 0), some (.ref 0), some (.ref 114), some (.ref 245), some (.int v4), some (.int r2), some (.int r4), u7], [], M5)) rfl (fun _ => rfl) ?_ ?_
  · refine dp_s1 hF (i := .iload 5) rfl (fun _ => rfl) ?_
    refine dp_s2 hF (i := .ifCond .ne 15) (a := (1765, [some (.retAddr 0), some (.ref 0), some (.ref 114), some (.ref 245), some (.int v4), some (.int r2), some (.int r4), u7], [], M5)) (b := (1777, [some (.retAddr 0), some (.ref 0), some (.ref 114), some (.ref 245), some (.int v4), some (.int r2), some (.int r4), u7], [], M5)) rfl (fun _ => rfl) ?_ ?_
    · refine dp_s1 hF (i := .aload_n 3) rfl (fun _ => rfl) ?_
      refine dp_s1 hF (i := .iconst 0) rfl (fun _ => rfl) ?_
      refine dp_s3 hF (i := .laload) rfl (fun _ => rfl) ?_
      refine dp_s1 hF (i := .iload 6) rfl (fun _ => rfl) ?_
      refine dp_s1 hF (i := .i2l) rfl (fun _ => rfl) ?_
      refine dp_s1 hF (i := .lcmp) rfl (fun _ => rfl) ?_
      refine dp_s2 hF (i := .ifCond .eq 5) (a := (1777, [some (.retAddr 0), some (.ref 0), some (.ref 114), some (.ref 245), some (.int v4), some (.int r2), some (.int r4), u7], [], M5)) (b := (1775, [some (.retAddr 0), some (.ref 0), some (.ref 114), some (.ref 245), some (.int v4), some (.int r2), some (.int r4), u7], [], M5)) rfl (fun _ => rfl) ?_ ?_
      · refine dp_s1 hF (i := .goto 4355) rfl (fun _ => rfl) ?_
        exact rfl
      refine dp_s1 hF (i := .iconst 0) rfl (fun _ => rfl) ?_
      exact dp_s0 hF (i := .ireturn) rfl (fun _ => rfl)
    refine dp_s1 hF (i := .goto 4355) rfl (fun _ => rfl) ?_
    exact rfl
  refine dp_s1 hF (i := .iconst 0) rfl (fun _ => rfl) ?_
  exact dp_s0 hF (i := .ireturn) rfl (fun _ => rfl)
set_option maxRecDepth 20000 in
theorem D_L_law_1780_eq (xs : Nat → Int32) (xl d : Nat) (v4 : Int32) (u5 : Option Value) (u6 : Option Value) (u7 : Option Value) (M : dp_M) : D_L_law_1780 xs xl d v4 u5 u6 u7 M = if (v4 + (1 : Int32)) < 0 ∨ xl ≤ Int32.toNatClampNeg (v4 + (1 : Int32)) then none else (if (v4 + (2 : Int32)) < 0 ∨ xl ≤ Int32.toNatClampNeg (v4 + (2 : Int32)) then none else (dp_bi (dp_den true xs xl d 612 [.ref 0, .int (xs (Int32.toNatClampNeg (v4 + (1 : Int32)))), .int (xs (Int32.toNatClampNeg (v4 + (2 : Int32)))), .ref 245] M) (fun r2 M1 => if (v4 + (1 : Int32)) < 0 ∨ xl ≤ Int32.toNatClampNeg (v4 + (1 : Int32)) then none else (if (v4 + (2 : Int32)) < 0 ∨ xl ≤ Int32.toNatClampNeg (v4 + (2 : Int32)) then none else (dp_bi (dp_den true xs xl d 430 [.ref 114, .int (xs (Int32.toNatClampNeg (v4 + (1 : Int32)))), .int (xs (Int32.toNatClampNeg (v4 + (2 : Int32))))] M1) (fun r4 M3 => dp_bi (dp_den true xs xl d 365 [.ref 114] M3) (fun r6 M5 => if r6 = r2 then (if r2 = 0 then (if (0 : Int32) < 0 ∨ 1 ≤ Int32.toNatClampNeg (0 : Int32) then none else (if (lg_cmp (dp_J M5 245 (Int32.toNatClampNeg (0 : Int32))) (Int32.toInt64 r4)) = 0 then (D_L_law_6132 xs xl d v4 (some (.int r2)) (some (.int r4)) u7 M5) else (some (.inl (some (.int (0 : Int32))), M5)))) else (D_L_law_6132 xs xl d v4 (some (.int r2)) (some (.int r4)) u7 M5)) else (some (.inl (some (.int (0 : Int32))), M5))))))))) := by
  have hF := dp_den_grow (md := true) (xs := xs) (xl := xl) d
  unfold D_L_law_1780
  refine dp_s1 hF (i := .aload_n 1) rfl (fun _ => rfl) ?_
  refine dp_s1 hF (i := .aload_n 0) rfl (fun _ => rfl) ?_
  refine dp_s1 hF (i := .iload 4) rfl (fun _ => rfl) ?_
  refine dp_s1 hF (i := .iconst 1) rfl (fun _ => rfl) ?_
  refine dp_s1 hF (i := .iadd) rfl (fun _ => rfl) ?_
  refine dp_s3 hF (i := .iaload) rfl (fun _ => rfl) ?_
  refine dp_s1 hF (i := .aload_n 0) rfl (fun _ => rfl) ?_
  refine dp_s1 hF (i := .iload 4) rfl (fun _ => rfl) ?_
  refine dp_s1 hF (i := .iconst 2) rfl (fun _ => rfl) ?_
  refine dp_s1 hF (i := .iadd) rfl (fun _ => rfl) ?_
  refine dp_s3 hF (i := .iaload) rfl (fun _ => rfl) ?_
  refine dp_s1 hF (i := .aload_n 3) rfl (fun _ => rfl) ?_
  refine dp_si (mj := dp_m_L_join) (i := .invokestatic 302) rfl rfl (Or.inl rfl) rfl (fun _ => rfl) (fun r2 M1 => ?_)
  refine dp_s1 hF (i := .istore 5) rfl (fun _ => rfl) ?_
  refine dp_s1 hF (i := .aload_n 2) rfl (fun _ => rfl) ?_
  refine dp_s1 hF (i := .aload_n 0) rfl (fun _ => rfl) ?_
  refine dp_s1 hF (i := .iload 4) rfl (fun _ => rfl) ?_
  refine dp_s1 hF (i := .iconst 1) rfl (fun _ => rfl) ?_
  refine dp_s1 hF (i := .iadd) rfl (fun _ => rfl) ?_
  refine dp_s3 hF (i := .iaload) rfl (fun _ => rfl) ?_
  refine dp_s1 hF (i := .aload_n 0) rfl (fun _ => rfl) ?_
  refine dp_s1 hF (i := .iload 4) rfl (fun _ => rfl) ?_
  refine dp_s1 hF (i := .iconst 2) rfl (fun _ => rfl) ?_
  refine dp_s1 hF (i := .iadd) rfl (fun _ => rfl) ?_
  refine dp_s3 hF (i := .iaload) rfl (fun _ => rfl) ?_
  refine dp_si (mj := dp_m_X12_join) (i := .invokevirtual 304) rfl rfl (Or.inl rfl) rfl (fun _ => rfl) (fun r4 M3 => ?_)
  refine dp_s1 hF (i := .istore 6) rfl (fun _ => rfl) ?_
  refine dp_s1 hF (i := .aload_n 2) rfl (fun _ => rfl) ?_
  refine dp_si (mj := dp_m_X12_thrown) (i := .invokevirtual 229) rfl rfl (Or.inl rfl) rfl (fun _ => rfl) (fun r6 M5 => ?_)
  refine dp_s1 hF (i := .iload 5) rfl (fun _ => rfl) ?_
  refine dp_s2 hF (i := .if_icmp .eq 5) (a := (1828, [some (.retAddr 0), some (.ref 0), some (.ref 114), some (.ref 245), some (.int v4), some (.int r2), some (.int r4), u7], [], M5)) (b := (1826, [some (.retAddr 0), some (.ref 0), some (.ref 114), some (.ref 245), some (.int v4), some (.int r2), some (.int r4), u7], [], M5)) rfl (fun _ => rfl) ?_ ?_
  · refine dp_s1 hF (i := .iload 5) rfl (fun _ => rfl) ?_
    refine dp_s2 hF (i := .ifCond .ne 15) (a := (1833, [some (.retAddr 0), some (.ref 0), some (.ref 114), some (.ref 245), some (.int v4), some (.int r2), some (.int r4), u7], [], M5)) (b := (1845, [some (.retAddr 0), some (.ref 0), some (.ref 114), some (.ref 245), some (.int v4), some (.int r2), some (.int r4), u7], [], M5)) rfl (fun _ => rfl) ?_ ?_
    · refine dp_s1 hF (i := .aload_n 3) rfl (fun _ => rfl) ?_
      refine dp_s1 hF (i := .iconst 0) rfl (fun _ => rfl) ?_
      refine dp_s3 hF (i := .laload) rfl (fun _ => rfl) ?_
      refine dp_s1 hF (i := .iload 6) rfl (fun _ => rfl) ?_
      refine dp_s1 hF (i := .i2l) rfl (fun _ => rfl) ?_
      refine dp_s1 hF (i := .lcmp) rfl (fun _ => rfl) ?_
      refine dp_s2 hF (i := .ifCond .eq 5) (a := (1845, [some (.retAddr 0), some (.ref 0), some (.ref 114), some (.ref 245), some (.int v4), some (.int r2), some (.int r4), u7], [], M5)) (b := (1843, [some (.retAddr 0), some (.ref 0), some (.ref 114), some (.ref 245), some (.int v4), some (.int r2), some (.int r4), u7], [], M5)) rfl (fun _ => rfl) ?_ ?_
      · refine dp_s1 hF (i := .goto 4287) rfl (fun _ => rfl) ?_
        exact rfl
      refine dp_s1 hF (i := .iconst 0) rfl (fun _ => rfl) ?_
      exact dp_s0 hF (i := .ireturn) rfl (fun _ => rfl)
    refine dp_s1 hF (i := .goto 4287) rfl (fun _ => rfl) ?_
    exact rfl
  refine dp_s1 hF (i := .iconst 0) rfl (fun _ => rfl) ?_
  exact dp_s0 hF (i := .ireturn) rfl (fun _ => rfl)
set_option maxRecDepth 20000 in
theorem D_L_law_1848_eq (xs : Nat → Int32) (xl d : Nat) (v4 : Int32) (u5 : Option Value) (u6 : Option Value) (u7 : Option Value) (M : dp_M) : D_L_law_1848 xs xl d v4 u5 u6 u7 M = if (v4 + (1 : Int32)) < 0 ∨ xl ≤ Int32.toNatClampNeg (v4 + (1 : Int32)) then none else (if (v4 + (2 : Int32)) < 0 ∨ xl ≤ Int32.toNatClampNeg (v4 + (2 : Int32)) then none else (if (v4 + (3 : Int32)) < 0 ∨ xl ≤ Int32.toNatClampNeg (v4 + (3 : Int32)) then none else (dp_bi (dp_den true xs xl d 287 [.ref 0, .int (xs (Int32.toNatClampNeg (v4 + (1 : Int32)))), .int (xs (Int32.toNatClampNeg (v4 + (2 : Int32)))), .int (xs (Int32.toNatClampNeg (v4 + (3 : Int32))))] M) (fun r2 M1 => if (v4 + (1 : Int32)) < 0 ∨ xl ≤ Int32.toNatClampNeg (v4 + (1 : Int32)) then none else (if (v4 + (2 : Int32)) < 0 ∨ xl ≤ Int32.toNatClampNeg (v4 + (2 : Int32)) then none else (if (v4 + (3 : Int32)) < 0 ∨ xl ≤ Int32.toNatClampNeg (v4 + (3 : Int32)) then none else (dp_bi (dp_den true xs xl d 431 [.ref 114, .int (xs (Int32.toNatClampNeg (v4 + (1 : Int32)))), .int (xs (Int32.toNatClampNeg (v4 + (2 : Int32)))), .int (xs (Int32.toNatClampNeg (v4 + (3 : Int32))))] M1) (fun r4 M3 => if r2 = r4 then (D_L_law_6132 xs xl d v4 u5 u6 u7 M3) else (some (.inl (some (.int (0 : Int32))), M3)))))))))) := by
  have hF := dp_den_grow (md := true) (xs := xs) (xl := xl) d
  unfold D_L_law_1848
  refine dp_s1 hF (i := .aload_n 1) rfl (fun _ => rfl) ?_
  refine dp_s1 hF (i := .aload_n 0) rfl (fun _ => rfl) ?_
  refine dp_s1 hF (i := .iload 4) rfl (fun _ => rfl) ?_
  refine dp_s1 hF (i := .iconst 1) rfl (fun _ => rfl) ?_
  refine dp_s1 hF (i := .iadd) rfl (fun _ => rfl) ?_
  refine dp_s3 hF (i := .iaload) rfl (fun _ => rfl) ?_
  refine dp_s1 hF (i := .aload_n 0) rfl (fun _ => rfl) ?_
  refine dp_s1 hF (i := .iload 4) rfl (fun _ => rfl) ?_
  refine dp_s1 hF (i := .iconst 2) rfl (fun _ => rfl) ?_
  refine dp_s1 hF (i := .iadd) rfl (fun _ => rfl) ?_
  refine dp_s3 hF (i := .iaload) rfl (fun _ => rfl) ?_
  refine dp_s1 hF (i := .aload_n 0) rfl (fun _ => rfl) ?_
  refine dp_s1 hF (i := .iload 4) rfl (fun _ => rfl) ?_
  refine dp_s1 hF (i := .iconst 3) rfl (fun _ => rfl) ?_
  refine dp_s1 hF (i := .iadd) rfl (fun _ => rfl) ?_
  refine dp_s3 hF (i := .iaload) rfl (fun _ => rfl) ?_
  refine dp_si (mj := dp_m_X11_rule) (i := .invokevirtual 305) rfl rfl (Or.inr rfl) rfl (fun _ => rfl) (fun r2 M1 => ?_)
  refine dp_s1 hF (i := .aload_n 2) rfl (fun _ => rfl) ?_
  refine dp_s1 hF (i := .aload_n 0) rfl (fun _ => rfl) ?_
  refine dp_s1 hF (i := .iload 4) rfl (fun _ => rfl) ?_
  refine dp_s1 hF (i := .iconst 1) rfl (fun _ => rfl) ?_
  refine dp_s1 hF (i := .iadd) rfl (fun _ => rfl) ?_
  refine dp_s3 hF (i := .iaload) rfl (fun _ => rfl) ?_
  refine dp_s1 hF (i := .aload_n 0) rfl (fun _ => rfl) ?_
  refine dp_s1 hF (i := .iload 4) rfl (fun _ => rfl) ?_
  refine dp_s1 hF (i := .iconst 2) rfl (fun _ => rfl) ?_
  refine dp_s1 hF (i := .iadd) rfl (fun _ => rfl) ?_
  refine dp_s3 hF (i := .iaload) rfl (fun _ => rfl) ?_
  refine dp_s1 hF (i := .aload_n 0) rfl (fun _ => rfl) ?_
  refine dp_s1 hF (i := .iload 4) rfl (fun _ => rfl) ?_
  refine dp_s1 hF (i := .iconst 3) rfl (fun _ => rfl) ?_
  refine dp_s1 hF (i := .iadd) rfl (fun _ => rfl) ?_
  refine dp_s3 hF (i := .iaload) rfl (fun _ => rfl) ?_
  refine dp_si (mj := dp_m_X12_rule) (i := .invokevirtual 309) rfl rfl (Or.inr rfl) rfl (fun _ => rfl) (fun r4 M3 => ?_)
  refine dp_s2 hF (i := .if_icmp .eq 4240) (a := (6132, [some (.retAddr 0), some (.ref 0), some (.ref 114), some (.ref 245), some (.int v4), u5, u6, u7], [], M3)) (b := (1895, [some (.retAddr 0), some (.ref 0), some (.ref 114), some (.ref 245), some (.int v4), u5, u6, u7], [], M3)) rfl (fun _ => rfl) ?_ ?_
  · exact rfl
  refine dp_s1 hF (i := .iconst 0) rfl (fun _ => rfl) ?_
  exact dp_s0 hF (i := .ireturn) rfl (fun _ => rfl)
set_option maxRecDepth 20000 in
theorem D_L_law_1897_eq (xs : Nat → Int32) (xl d : Nat) (v4 : Int32) (u5 : Option Value) (u6 : Option Value) (u7 : Option Value) (M : dp_M) : D_L_law_1897 xs xl d v4 u5 u6 u7 M = if (v4 + (1 : Int32)) < 0 ∨ xl ≤ Int32.toNatClampNeg (v4 + (1 : Int32)) then none else (dp_bi (dp_den true xs xl d 613 [.ref 0, .int (xs (Int32.toNatClampNeg (v4 + (1 : Int32)))), .ref 245] M) (fun r2 M1 => if (v4 + (1 : Int32)) < 0 ∨ xl ≤ Int32.toNatClampNeg (v4 + (1 : Int32)) then none else (dp_bi (dp_den true xs xl d 435 [.ref 114, .int (xs (Int32.toNatClampNeg (v4 + (1 : Int32))))] M1) (fun r4 M3 => dp_bi (dp_den true xs xl d 365 [.ref 114] M3) (fun r6 M5 => if r6 = r2 then (if r2 = 0 then (if (0 : Int32) < 0 ∨ 1 ≤ Int32.toNatClampNeg (0 : Int32) then none else (if (lg_cmp (dp_J M5 245 (Int32.toNatClampNeg (0 : Int32))) (Int32.toInt64 r4)) = 0 then (D_L_law_6132 xs xl d v4 (some (.int r2)) (some (.int r4)) u7 M5) else (some (.inl (some (.int (0 : Int32))), M5)))) else (D_L_law_6132 xs xl d v4 (some (.int r2)) (some (.int r4)) u7 M5)) else (some (.inl (some (.int (0 : Int32))), M5))))))) := by
  have hF := dp_den_grow (md := true) (xs := xs) (xl := xl) d
  unfold D_L_law_1897
  refine dp_s1 hF (i := .aload_n 1) rfl (fun _ => rfl) ?_
  refine dp_s1 hF (i := .aload_n 0) rfl (fun _ => rfl) ?_
  refine dp_s1 hF (i := .iload 4) rfl (fun _ => rfl) ?_
  refine dp_s1 hF (i := .iconst 1) rfl (fun _ => rfl) ?_
  refine dp_s1 hF (i := .iadd) rfl (fun _ => rfl) ?_
  refine dp_s3 hF (i := .iaload) rfl (fun _ => rfl) ?_
  refine dp_s1 hF (i := .aload_n 3) rfl (fun _ => rfl) ?_
  refine dp_si (mj := dp_m_L_release) (i := .invokestatic 310) rfl rfl (Or.inl rfl) rfl (fun _ => rfl) (fun r2 M1 => ?_)
  refine dp_s1 hF (i := .istore 5) rfl (fun _ => rfl) ?_
  refine dp_s1 hF (i := .aload_n 2) rfl (fun _ => rfl) ?_
  refine dp_s1 hF (i := .aload_n 0) rfl (fun _ => rfl) ?_
  refine dp_s1 hF (i := .iload 4) rfl (fun _ => rfl) ?_
  refine dp_s1 hF (i := .iconst 1) rfl (fun _ => rfl) ?_
  refine dp_s1 hF (i := .iadd) rfl (fun _ => rfl) ?_
  refine dp_s3 hF (i := .iaload) rfl (fun _ => rfl) ?_
  refine dp_si (mj := dp_m_X12_release) (i := .invokevirtual 312) rfl rfl (Or.inl rfl) rfl (fun _ => rfl) (fun r4 M3 => ?_)
  refine dp_s1 hF (i := .istore 6) rfl (fun _ => rfl) ?_
  refine dp_s1 hF (i := .aload_n 2) rfl (fun _ => rfl) ?_
  refine dp_si (mj := dp_m_X12_thrown) (i := .invokevirtual 229) rfl rfl (Or.inl rfl) rfl (fun _ => rfl) (fun r6 M5 => ?_)
  refine dp_s1 hF (i := .iload 5) rfl (fun _ => rfl) ?_
  refine dp_s2 hF (i := .if_icmp .eq 5) (a := (1933, [some (.retAddr 0), some (.ref 0), some (.ref 114), some (.ref 245), some (.int v4), some (.int r2), some (.int r4), u7], [], M5)) (b := (1931, [some (.retAddr 0), some (.ref 0), some (.ref 114), some (.ref 245), some (.int v4), some (.int r2), some (.int r4), u7], [], M5)) rfl (fun _ => rfl) ?_ ?_
  · refine dp_s1 hF (i := .iload 5) rfl (fun _ => rfl) ?_
    refine dp_s2 hF (i := .ifCond .ne 15) (a := (1938, [some (.retAddr 0), some (.ref 0), some (.ref 114), some (.ref 245), some (.int v4), some (.int r2), some (.int r4), u7], [], M5)) (b := (1950, [some (.retAddr 0), some (.ref 0), some (.ref 114), some (.ref 245), some (.int v4), some (.int r2), some (.int r4), u7], [], M5)) rfl (fun _ => rfl) ?_ ?_
    · refine dp_s1 hF (i := .aload_n 3) rfl (fun _ => rfl) ?_
      refine dp_s1 hF (i := .iconst 0) rfl (fun _ => rfl) ?_
      refine dp_s3 hF (i := .laload) rfl (fun _ => rfl) ?_
      refine dp_s1 hF (i := .iload 6) rfl (fun _ => rfl) ?_
      refine dp_s1 hF (i := .i2l) rfl (fun _ => rfl) ?_
      refine dp_s1 hF (i := .lcmp) rfl (fun _ => rfl) ?_
      refine dp_s2 hF (i := .ifCond .eq 5) (a := (1950, [some (.retAddr 0), some (.ref 0), some (.ref 114), some (.ref 245), some (.int v4), some (.int r2), some (.int r4), u7], [], M5)) (b := (1948, [some (.retAddr 0), some (.ref 0), some (.ref 114), some (.ref 245), some (.int v4), some (.int r2), some (.int r4), u7], [], M5)) rfl (fun _ => rfl) ?_ ?_
      · refine dp_s1 hF (i := .goto 4182) rfl (fun _ => rfl) ?_
        exact rfl
      refine dp_s1 hF (i := .iconst 0) rfl (fun _ => rfl) ?_
      exact dp_s0 hF (i := .ireturn) rfl (fun _ => rfl)
    refine dp_s1 hF (i := .goto 4182) rfl (fun _ => rfl) ?_
    exact rfl
  refine dp_s1 hF (i := .iconst 0) rfl (fun _ => rfl) ?_
  exact dp_s0 hF (i := .ireturn) rfl (fun _ => rfl)
set_option maxRecDepth 20000 in
theorem D_L_law_1953_eq (xs : Nat → Int32) (xl d : Nat) (v4 : Int32) (u5 : Option Value) (u6 : Option Value) (u7 : Option Value) (M : dp_M) : D_L_law_1953 xs xl d v4 u5 u6 u7 M = if (v4 + (1 : Int32)) < 0 ∨ xl ≤ Int32.toNatClampNeg (v4 + (1 : Int32)) then none else (if (v4 + (2 : Int32)) < 0 ∨ xl ≤ Int32.toNatClampNeg (v4 + (2 : Int32)) then none else (dp_bi (dp_den true xs xl d 614 [.ref 0, .int (xs (Int32.toNatClampNeg (v4 + (1 : Int32)))), .int (xs (Int32.toNatClampNeg (v4 + (2 : Int32)))), .ref 245] M) (fun r2 M1 => if (v4 + (1 : Int32)) < 0 ∨ xl ≤ Int32.toNatClampNeg (v4 + (1 : Int32)) then none else (if (v4 + (2 : Int32)) < 0 ∨ xl ≤ Int32.toNatClampNeg (v4 + (2 : Int32)) then none else (dp_bi (dp_den true xs xl d 436 [.ref 114, .int (xs (Int32.toNatClampNeg (v4 + (1 : Int32)))), .int (xs (Int32.toNatClampNeg (v4 + (2 : Int32))))] M1) (fun r4 M3 => dp_bi (dp_den true xs xl d 365 [.ref 114] M3) (fun r6 M5 => if r6 = r2 then (if r2 = 0 then (if (0 : Int32) < 0 ∨ 1 ≤ Int32.toNatClampNeg (0 : Int32) then none else (if (lg_cmp (dp_J M5 245 (Int32.toNatClampNeg (0 : Int32))) (Int32.toInt64 r4)) = 0 then (D_L_law_6132 xs xl d v4 (some (.int r2)) (some (.int r4)) u7 M5) else (some (.inl (some (.int (0 : Int32))), M5)))) else (D_L_law_6132 xs xl d v4 (some (.int r2)) (some (.int r4)) u7 M5)) else (some (.inl (some (.int (0 : Int32))), M5))))))))) := by
  have hF := dp_den_grow (md := true) (xs := xs) (xl := xl) d
  unfold D_L_law_1953
  refine dp_s1 hF (i := .aload_n 1) rfl (fun _ => rfl) ?_
  refine dp_s1 hF (i := .aload_n 0) rfl (fun _ => rfl) ?_
  refine dp_s1 hF (i := .iload 4) rfl (fun _ => rfl) ?_
  refine dp_s1 hF (i := .iconst 1) rfl (fun _ => rfl) ?_
  refine dp_s1 hF (i := .iadd) rfl (fun _ => rfl) ?_
  refine dp_s3 hF (i := .iaload) rfl (fun _ => rfl) ?_
  refine dp_s1 hF (i := .aload_n 0) rfl (fun _ => rfl) ?_
  refine dp_s1 hF (i := .iload 4) rfl (fun _ => rfl) ?_
  refine dp_s1 hF (i := .iconst 2) rfl (fun _ => rfl) ?_
  refine dp_s1 hF (i := .iadd) rfl (fun _ => rfl) ?_
  refine dp_s3 hF (i := .iaload) rfl (fun _ => rfl) ?_
  refine dp_s1 hF (i := .aload_n 3) rfl (fun _ => rfl) ?_
  refine dp_si (mj := dp_m_L_bars) (i := .invokestatic 313) rfl rfl (Or.inl rfl) rfl (fun _ => rfl) (fun r2 M1 => ?_)
  refine dp_s1 hF (i := .istore 5) rfl (fun _ => rfl) ?_
  refine dp_s1 hF (i := .aload_n 2) rfl (fun _ => rfl) ?_
  refine dp_s1 hF (i := .aload_n 0) rfl (fun _ => rfl) ?_
  refine dp_s1 hF (i := .iload 4) rfl (fun _ => rfl) ?_
  refine dp_s1 hF (i := .iconst 1) rfl (fun _ => rfl) ?_
  refine dp_s1 hF (i := .iadd) rfl (fun _ => rfl) ?_
  refine dp_s3 hF (i := .iaload) rfl (fun _ => rfl) ?_
  refine dp_s1 hF (i := .aload_n 0) rfl (fun _ => rfl) ?_
  refine dp_s1 hF (i := .iload 4) rfl (fun _ => rfl) ?_
  refine dp_s1 hF (i := .iconst 2) rfl (fun _ => rfl) ?_
  refine dp_s1 hF (i := .iadd) rfl (fun _ => rfl) ?_
  refine dp_s3 hF (i := .iaload) rfl (fun _ => rfl) ?_
  refine dp_si (mj := dp_m_X12_bars) (i := .invokevirtual 315) rfl rfl (Or.inl rfl) rfl (fun _ => rfl) (fun r4 M3 => ?_)
  refine dp_s1 hF (i := .istore 6) rfl (fun _ => rfl) ?_
  refine dp_s1 hF (i := .aload_n 2) rfl (fun _ => rfl) ?_
  refine dp_si (mj := dp_m_X12_thrown) (i := .invokevirtual 229) rfl rfl (Or.inl rfl) rfl (fun _ => rfl) (fun r6 M5 => ?_)
  refine dp_s1 hF (i := .iload 5) rfl (fun _ => rfl) ?_
  refine dp_s2 hF (i := .if_icmp .eq 5) (a := (2001, [some (.retAddr 0), some (.ref 0), some (.ref 114), some (.ref 245), some (.int v4), some (.int r2), some (.int r4), u7], [], M5)) (b := (1999, [some (.retAddr 0), some (.ref 0), some (.ref 114), some (.ref 245), some (.int v4), some (.int r2), some (.int r4), u7], [], M5)) rfl (fun _ => rfl) ?_ ?_
  · refine dp_s1 hF (i := .iload 5) rfl (fun _ => rfl) ?_
    refine dp_s2 hF (i := .ifCond .ne 15) (a := (2006, [some (.retAddr 0), some (.ref 0), some (.ref 114), some (.ref 245), some (.int v4), some (.int r2), some (.int r4), u7], [], M5)) (b := (2018, [some (.retAddr 0), some (.ref 0), some (.ref 114), some (.ref 245), some (.int v4), some (.int r2), some (.int r4), u7], [], M5)) rfl (fun _ => rfl) ?_ ?_
    · refine dp_s1 hF (i := .aload_n 3) rfl (fun _ => rfl) ?_
      refine dp_s1 hF (i := .iconst 0) rfl (fun _ => rfl) ?_
      refine dp_s3 hF (i := .laload) rfl (fun _ => rfl) ?_
      refine dp_s1 hF (i := .iload 6) rfl (fun _ => rfl) ?_
      refine dp_s1 hF (i := .i2l) rfl (fun _ => rfl) ?_
      refine dp_s1 hF (i := .lcmp) rfl (fun _ => rfl) ?_
      refine dp_s2 hF (i := .ifCond .eq 5) (a := (2018, [some (.retAddr 0), some (.ref 0), some (.ref 114), some (.ref 245), some (.int v4), some (.int r2), some (.int r4), u7], [], M5)) (b := (2016, [some (.retAddr 0), some (.ref 0), some (.ref 114), some (.ref 245), some (.int v4), some (.int r2), some (.int r4), u7], [], M5)) rfl (fun _ => rfl) ?_ ?_
      · refine dp_s1 hF (i := .goto 4114) rfl (fun _ => rfl) ?_
        exact rfl
      refine dp_s1 hF (i := .iconst 0) rfl (fun _ => rfl) ?_
      exact dp_s0 hF (i := .ireturn) rfl (fun _ => rfl)
    refine dp_s1 hF (i := .goto 4114) rfl (fun _ => rfl) ?_
    exact rfl
  refine dp_s1 hF (i := .iconst 0) rfl (fun _ => rfl) ?_
  exact dp_s0 hF (i := .ireturn) rfl (fun _ => rfl)
set_option maxRecDepth 20000 in
theorem D_L_law_2021_eq (xs : Nat → Int32) (xl d : Nat) (v4 : Int32) (u5 : Option Value) (u6 : Option Value) (u7 : Option Value) (M : dp_M) : D_L_law_2021 xs xl d v4 u5 u6 u7 M = if (v4 + (1 : Int32)) < 0 ∨ xl ≤ Int32.toNatClampNeg (v4 + (1 : Int32)) then none else (if (v4 + (2 : Int32)) < 0 ∨ xl ≤ Int32.toNatClampNeg (v4 + (2 : Int32)) then none else (dp_bi (dp_den true xs xl d 615 [.ref 0, .int (xs (Int32.toNatClampNeg (v4 + (1 : Int32)))), .int (xs (Int32.toNatClampNeg (v4 + (2 : Int32)))), .ref 245] M) (fun r2 M1 => if (v4 + (1 : Int32)) < 0 ∨ xl ≤ Int32.toNatClampNeg (v4 + (1 : Int32)) then none else (if (v4 + (2 : Int32)) < 0 ∨ xl ≤ Int32.toNatClampNeg (v4 + (2 : Int32)) then none else (dp_bi (dp_den true xs xl d 437 [.ref 114, .int (xs (Int32.toNatClampNeg (v4 + (1 : Int32)))), .int (xs (Int32.toNatClampNeg (v4 + (2 : Int32))))] M1) (fun r4 M3 => dp_bi (dp_den true xs xl d 365 [.ref 114] M3) (fun r6 M5 => if r6 = r2 then (if r2 = 0 then (if (0 : Int32) < 0 ∨ 1 ≤ Int32.toNatClampNeg (0 : Int32) then none else (if (lg_cmp (dp_J M5 245 (Int32.toNatClampNeg (0 : Int32))) (Int32.toInt64 r4)) = 0 then (D_L_law_6132 xs xl d v4 (some (.int r2)) (some (.int r4)) u7 M5) else (some (.inl (some (.int (0 : Int32))), M5)))) else (D_L_law_6132 xs xl d v4 (some (.int r2)) (some (.int r4)) u7 M5)) else (some (.inl (some (.int (0 : Int32))), M5))))))))) := by
  have hF := dp_den_grow (md := true) (xs := xs) (xl := xl) d
  unfold D_L_law_2021
  refine dp_s1 hF (i := .aload_n 1) rfl (fun _ => rfl) ?_
  refine dp_s1 hF (i := .aload_n 0) rfl (fun _ => rfl) ?_
  refine dp_s1 hF (i := .iload 4) rfl (fun _ => rfl) ?_
  refine dp_s1 hF (i := .iconst 1) rfl (fun _ => rfl) ?_
  refine dp_s1 hF (i := .iadd) rfl (fun _ => rfl) ?_
  refine dp_s3 hF (i := .iaload) rfl (fun _ => rfl) ?_
  refine dp_s1 hF (i := .aload_n 0) rfl (fun _ => rfl) ?_
  refine dp_s1 hF (i := .iload 4) rfl (fun _ => rfl) ?_
  refine dp_s1 hF (i := .iconst 2) rfl (fun _ => rfl) ?_
  refine dp_s1 hF (i := .iadd) rfl (fun _ => rfl) ?_
  refine dp_s3 hF (i := .iaload) rfl (fun _ => rfl) ?_
  refine dp_s1 hF (i := .aload_n 3) rfl (fun _ => rfl) ?_
  refine dp_si (mj := dp_m_L_part) (i := .invokestatic 316) rfl rfl (Or.inl rfl) rfl (fun _ => rfl) (fun r2 M1 => ?_)
  refine dp_s1 hF (i := .istore 5) rfl (fun _ => rfl) ?_
  refine dp_s1 hF (i := .aload_n 2) rfl (fun _ => rfl) ?_
  refine dp_s1 hF (i := .aload_n 0) rfl (fun _ => rfl) ?_
  refine dp_s1 hF (i := .iload 4) rfl (fun _ => rfl) ?_
  refine dp_s1 hF (i := .iconst 1) rfl (fun _ => rfl) ?_
  refine dp_s1 hF (i := .iadd) rfl (fun _ => rfl) ?_
  refine dp_s3 hF (i := .iaload) rfl (fun _ => rfl) ?_
  refine dp_s1 hF (i := .aload_n 0) rfl (fun _ => rfl) ?_
  refine dp_s1 hF (i := .iload 4) rfl (fun _ => rfl) ?_
  refine dp_s1 hF (i := .iconst 2) rfl (fun _ => rfl) ?_
  refine dp_s1 hF (i := .iadd) rfl (fun _ => rfl) ?_
  refine dp_s3 hF (i := .iaload) rfl (fun _ => rfl) ?_
  refine dp_si (mj := dp_m_X12_part) (i := .invokevirtual 318) rfl rfl (Or.inl rfl) rfl (fun _ => rfl) (fun r4 M3 => ?_)
  refine dp_s1 hF (i := .istore 6) rfl (fun _ => rfl) ?_
  refine dp_s1 hF (i := .aload_n 2) rfl (fun _ => rfl) ?_
  refine dp_si (mj := dp_m_X12_thrown) (i := .invokevirtual 229) rfl rfl (Or.inl rfl) rfl (fun _ => rfl) (fun r6 M5 => ?_)
  refine dp_s1 hF (i := .iload 5) rfl (fun _ => rfl) ?_
  refine dp_s2 hF (i := .if_icmp .eq 5) (a := (2069, [some (.retAddr 0), some (.ref 0), some (.ref 114), some (.ref 245), some (.int v4), some (.int r2), some (.int r4), u7], [], M5)) (b := (2067, [some (.retAddr 0), some (.ref 0), some (.ref 114), some (.ref 245), some (.int v4), some (.int r2), some (.int r4), u7], [], M5)) rfl (fun _ => rfl) ?_ ?_
  · refine dp_s1 hF (i := .iload 5) rfl (fun _ => rfl) ?_
    refine dp_s2 hF (i := .ifCond .ne 15) (a := (2074, [some (.retAddr 0), some (.ref 0), some (.ref 114), some (.ref 245), some (.int v4), some (.int r2), some (.int r4), u7], [], M5)) (b := (2086, [some (.retAddr 0), some (.ref 0), some (.ref 114), some (.ref 245), some (.int v4), some (.int r2), some (.int r4), u7], [], M5)) rfl (fun _ => rfl) ?_ ?_
    · refine dp_s1 hF (i := .aload_n 3) rfl (fun _ => rfl) ?_
      refine dp_s1 hF (i := .iconst 0) rfl (fun _ => rfl) ?_
      refine dp_s3 hF (i := .laload) rfl (fun _ => rfl) ?_
      refine dp_s1 hF (i := .iload 6) rfl (fun _ => rfl) ?_
      refine dp_s1 hF (i := .i2l) rfl (fun _ => rfl) ?_
      refine dp_s1 hF (i := .lcmp) rfl (fun _ => rfl) ?_
      refine dp_s2 hF (i := .ifCond .eq 5) (a := (2086, [some (.retAddr 0), some (.ref 0), some (.ref 114), some (.ref 245), some (.int v4), some (.int r2), some (.int r4), u7], [], M5)) (b := (2084, [some (.retAddr 0), some (.ref 0), some (.ref 114), some (.ref 245), some (.int v4), some (.int r2), some (.int r4), u7], [], M5)) rfl (fun _ => rfl) ?_ ?_
      · refine dp_s1 hF (i := .goto 4046) rfl (fun _ => rfl) ?_
        exact rfl
      refine dp_s1 hF (i := .iconst 0) rfl (fun _ => rfl) ?_
      exact dp_s0 hF (i := .ireturn) rfl (fun _ => rfl)
    refine dp_s1 hF (i := .goto 4046) rfl (fun _ => rfl) ?_
    exact rfl
  refine dp_s1 hF (i := .iconst 0) rfl (fun _ => rfl) ?_
  exact dp_s0 hF (i := .ireturn) rfl (fun _ => rfl)
set_option maxRecDepth 20000 in
theorem D_L_law_2089_eq (xs : Nat → Int32) (xl d : Nat) (v4 : Int32) (u5 : Option Value) (u6 : Option Value) (u7 : Option Value) (M : dp_M) : D_L_law_2089 xs xl d v4 u5 u6 u7 M = if (v4 + (1 : Int32)) < 0 ∨ xl ≤ Int32.toNatClampNeg (v4 + (1 : Int32)) then none else (dp_bi (dp_den true xs xl d 616 [.ref 0, .int (xs (Int32.toNatClampNeg (v4 + (1 : Int32)))), .ref 245] M) (fun r2 M1 => if (v4 + (1 : Int32)) < 0 ∨ xl ≤ Int32.toNatClampNeg (v4 + (1 : Int32)) then none else (dp_bi (dp_den true xs xl d 438 [.ref 114, .int (xs (Int32.toNatClampNeg (v4 + (1 : Int32))))] M1) (fun r4 M3 => dp_bi (dp_den true xs xl d 365 [.ref 114] M3) (fun r6 M5 => if r6 = r2 then (if r2 = 0 then (if (0 : Int32) < 0 ∨ 1 ≤ Int32.toNatClampNeg (0 : Int32) then none else (if (lg_cmp (dp_J M5 245 (Int32.toNatClampNeg (0 : Int32))) (Int32.toInt64 r4)) = 0 then (D_L_law_6132 xs xl d v4 (some (.int r2)) (some (.int r4)) u7 M5) else (some (.inl (some (.int (0 : Int32))), M5)))) else (D_L_law_6132 xs xl d v4 (some (.int r2)) (some (.int r4)) u7 M5)) else (some (.inl (some (.int (0 : Int32))), M5))))))) := by
  have hF := dp_den_grow (md := true) (xs := xs) (xl := xl) d
  unfold D_L_law_2089
  refine dp_s1 hF (i := .aload_n 1) rfl (fun _ => rfl) ?_
  refine dp_s1 hF (i := .aload_n 0) rfl (fun _ => rfl) ?_
  refine dp_s1 hF (i := .iload 4) rfl (fun _ => rfl) ?_
  refine dp_s1 hF (i := .iconst 1) rfl (fun _ => rfl) ?_
  refine dp_s1 hF (i := .iadd) rfl (fun _ => rfl) ?_
  refine dp_s3 hF (i := .iaload) rfl (fun _ => rfl) ?_
  refine dp_s1 hF (i := .aload_n 3) rfl (fun _ => rfl) ?_
  refine dp_si (mj := dp_m_L_withdraw) (i := .invokestatic 319) rfl rfl (Or.inl rfl) rfl (fun _ => rfl) (fun r2 M1 => ?_)
  refine dp_s1 hF (i := .istore 5) rfl (fun _ => rfl) ?_
  refine dp_s1 hF (i := .aload_n 2) rfl (fun _ => rfl) ?_
  refine dp_s1 hF (i := .aload_n 0) rfl (fun _ => rfl) ?_
  refine dp_s1 hF (i := .iload 4) rfl (fun _ => rfl) ?_
  refine dp_s1 hF (i := .iconst 1) rfl (fun _ => rfl) ?_
  refine dp_s1 hF (i := .iadd) rfl (fun _ => rfl) ?_
  refine dp_s3 hF (i := .iaload) rfl (fun _ => rfl) ?_
  refine dp_si (mj := dp_m_X12_withdraw) (i := .invokevirtual 321) rfl rfl (Or.inl rfl) rfl (fun _ => rfl) (fun r4 M3 => ?_)
  refine dp_s1 hF (i := .istore 6) rfl (fun _ => rfl) ?_
  refine dp_s1 hF (i := .aload_n 2) rfl (fun _ => rfl) ?_
  refine dp_si (mj := dp_m_X12_thrown) (i := .invokevirtual 229) rfl rfl (Or.inl rfl) rfl (fun _ => rfl) (fun r6 M5 => ?_)
  refine dp_s1 hF (i := .iload 5) rfl (fun _ => rfl) ?_
  refine dp_s2 hF (i := .if_icmp .eq 5) (a := (2125, [some (.retAddr 0), some (.ref 0), some (.ref 114), some (.ref 245), some (.int v4), some (.int r2), some (.int r4), u7], [], M5)) (b := (2123, [some (.retAddr 0), some (.ref 0), some (.ref 114), some (.ref 245), some (.int v4), some (.int r2), some (.int r4), u7], [], M5)) rfl (fun _ => rfl) ?_ ?_
  · refine dp_s1 hF (i := .iload 5) rfl (fun _ => rfl) ?_
    refine dp_s2 hF (i := .ifCond .ne 15) (a := (2130, [some (.retAddr 0), some (.ref 0), some (.ref 114), some (.ref 245), some (.int v4), some (.int r2), some (.int r4), u7], [], M5)) (b := (2142, [some (.retAddr 0), some (.ref 0), some (.ref 114), some (.ref 245), some (.int v4), some (.int r2), some (.int r4), u7], [], M5)) rfl (fun _ => rfl) ?_ ?_
    · refine dp_s1 hF (i := .aload_n 3) rfl (fun _ => rfl) ?_
      refine dp_s1 hF (i := .iconst 0) rfl (fun _ => rfl) ?_
      refine dp_s3 hF (i := .laload) rfl (fun _ => rfl) ?_
      refine dp_s1 hF (i := .iload 6) rfl (fun _ => rfl) ?_
      refine dp_s1 hF (i := .i2l) rfl (fun _ => rfl) ?_
      refine dp_s1 hF (i := .lcmp) rfl (fun _ => rfl) ?_
      refine dp_s2 hF (i := .ifCond .eq 5) (a := (2142, [some (.retAddr 0), some (.ref 0), some (.ref 114), some (.ref 245), some (.int v4), some (.int r2), some (.int r4), u7], [], M5)) (b := (2140, [some (.retAddr 0), some (.ref 0), some (.ref 114), some (.ref 245), some (.int v4), some (.int r2), some (.int r4), u7], [], M5)) rfl (fun _ => rfl) ?_ ?_
      · refine dp_s1 hF (i := .goto 3990) rfl (fun _ => rfl) ?_
        exact rfl
      refine dp_s1 hF (i := .iconst 0) rfl (fun _ => rfl) ?_
      exact dp_s0 hF (i := .ireturn) rfl (fun _ => rfl)
    refine dp_s1 hF (i := .goto 3990) rfl (fun _ => rfl) ?_
    exact rfl
  refine dp_s1 hF (i := .iconst 0) rfl (fun _ => rfl) ?_
  exact dp_s0 hF (i := .ireturn) rfl (fun _ => rfl)
set_option maxRecDepth 20000 in
theorem D_L_law_2145_eq (xs : Nat → Int32) (xl d : Nat) (v4 : Int32) (u5 : Option Value) (u6 : Option Value) (u7 : Option Value) (M : dp_M) : D_L_law_2145 xs xl d v4 u5 u6 u7 M = if (v4 + (1 : Int32)) < 0 ∨ xl ≤ Int32.toNatClampNeg (v4 + (1 : Int32)) then none else (dp_bi (dp_den true xs xl d 617 [.ref 0, .int (xs (Int32.toNatClampNeg (v4 + (1 : Int32)))), .ref 245] M) (fun r2 M1 => if (v4 + (1 : Int32)) < 0 ∨ xl ≤ Int32.toNatClampNeg (v4 + (1 : Int32)) then none else (dp_bi (dp_den true xs xl d 439 [.ref 114, .int (xs (Int32.toNatClampNeg (v4 + (1 : Int32))))] M1) (fun r4 M3 => dp_bi (dp_den true xs xl d 365 [.ref 114] M3) (fun r6 M5 => if r6 = r2 then (if r2 = 0 then (if (0 : Int32) < 0 ∨ 1 ≤ Int32.toNatClampNeg (0 : Int32) then none else (if (lg_cmp (dp_J M5 245 (Int32.toNatClampNeg (0 : Int32))) (Int32.toInt64 r4)) = 0 then (D_L_law_6132 xs xl d v4 (some (.int r2)) (some (.int r4)) u7 M5) else (some (.inl (some (.int (0 : Int32))), M5)))) else (D_L_law_6132 xs xl d v4 (some (.int r2)) (some (.int r4)) u7 M5)) else (some (.inl (some (.int (0 : Int32))), M5))))))) := by
  have hF := dp_den_grow (md := true) (xs := xs) (xl := xl) d
  unfold D_L_law_2145
  refine dp_s1 hF (i := .aload_n 1) rfl (fun _ => rfl) ?_
  refine dp_s1 hF (i := .aload_n 0) rfl (fun _ => rfl) ?_
  refine dp_s1 hF (i := .iload 4) rfl (fun _ => rfl) ?_
  refine dp_s1 hF (i := .iconst 1) rfl (fun _ => rfl) ?_
  refine dp_s1 hF (i := .iadd) rfl (fun _ => rfl) ?_
  refine dp_s3 hF (i := .iaload) rfl (fun _ => rfl) ?_
  refine dp_s1 hF (i := .aload_n 3) rfl (fun _ => rfl) ?_
  refine dp_si (mj := dp_m_L_gate) (i := .invokestatic 322) rfl rfl (Or.inl rfl) rfl (fun _ => rfl) (fun r2 M1 => ?_)
  refine dp_s1 hF (i := .istore 5) rfl (fun _ => rfl) ?_
  refine dp_s1 hF (i := .aload_n 2) rfl (fun _ => rfl) ?_
  refine dp_s1 hF (i := .aload_n 0) rfl (fun _ => rfl) ?_
  refine dp_s1 hF (i := .iload 4) rfl (fun _ => rfl) ?_
  refine dp_s1 hF (i := .iconst 1) rfl (fun _ => rfl) ?_
  refine dp_s1 hF (i := .iadd) rfl (fun _ => rfl) ?_
  refine dp_s3 hF (i := .iaload) rfl (fun _ => rfl) ?_
  refine dp_si (mj := dp_m_X12_gate) (i := .invokevirtual 324) rfl rfl (Or.inl rfl) rfl (fun _ => rfl) (fun r4 M3 => ?_)
  refine dp_s1 hF (i := .istore 6) rfl (fun _ => rfl) ?_
  refine dp_s1 hF (i := .aload_n 2) rfl (fun _ => rfl) ?_
  refine dp_si (mj := dp_m_X12_thrown) (i := .invokevirtual 229) rfl rfl (Or.inl rfl) rfl (fun _ => rfl) (fun r6 M5 => ?_)
  refine dp_s1 hF (i := .iload 5) rfl (fun _ => rfl) ?_
  refine dp_s2 hF (i := .if_icmp .eq 5) (a := (2181, [some (.retAddr 0), some (.ref 0), some (.ref 114), some (.ref 245), some (.int v4), some (.int r2), some (.int r4), u7], [], M5)) (b := (2179, [some (.retAddr 0), some (.ref 0), some (.ref 114), some (.ref 245), some (.int v4), some (.int r2), some (.int r4), u7], [], M5)) rfl (fun _ => rfl) ?_ ?_
  · refine dp_s1 hF (i := .iload 5) rfl (fun _ => rfl) ?_
    refine dp_s2 hF (i := .ifCond .ne 15) (a := (2186, [some (.retAddr 0), some (.ref 0), some (.ref 114), some (.ref 245), some (.int v4), some (.int r2), some (.int r4), u7], [], M5)) (b := (2198, [some (.retAddr 0), some (.ref 0), some (.ref 114), some (.ref 245), some (.int v4), some (.int r2), some (.int r4), u7], [], M5)) rfl (fun _ => rfl) ?_ ?_
    · refine dp_s1 hF (i := .aload_n 3) rfl (fun _ => rfl) ?_
      refine dp_s1 hF (i := .iconst 0) rfl (fun _ => rfl) ?_
      refine dp_s3 hF (i := .laload) rfl (fun _ => rfl) ?_
      refine dp_s1 hF (i := .iload 6) rfl (fun _ => rfl) ?_
      refine dp_s1 hF (i := .i2l) rfl (fun _ => rfl) ?_
      refine dp_s1 hF (i := .lcmp) rfl (fun _ => rfl) ?_
      refine dp_s2 hF (i := .ifCond .eq 5) (a := (2198, [some (.retAddr 0), some (.ref 0), some (.ref 114), some (.ref 245), some (.int v4), some (.int r2), some (.int r4), u7], [], M5)) (b := (2196, [some (.retAddr 0), some (.ref 0), some (.ref 114), some (.ref 245), some (.int v4), some (.int r2), some (.int r4), u7], [], M5)) rfl (fun _ => rfl) ?_ ?_
      · refine dp_s1 hF (i := .goto 3934) rfl (fun _ => rfl) ?_
        exact rfl
      refine dp_s1 hF (i := .iconst 0) rfl (fun _ => rfl) ?_
      exact dp_s0 hF (i := .ireturn) rfl (fun _ => rfl)
    refine dp_s1 hF (i := .goto 3934) rfl (fun _ => rfl) ?_
    exact rfl
  refine dp_s1 hF (i := .iconst 0) rfl (fun _ => rfl) ?_
  exact dp_s0 hF (i := .ireturn) rfl (fun _ => rfl)
set_option maxRecDepth 20000 in
theorem D_L_law_2201_eq (xs : Nat → Int32) (xl d : Nat) (v4 : Int32) (u5 : Option Value) (u6 : Option Value) (u7 : Option Value) (M : dp_M) : D_L_law_2201 xs xl d v4 u5 u6 u7 M = if (v4 + (1 : Int32)) < 0 ∨ xl ≤ Int32.toNatClampNeg (v4 + (1 : Int32)) then none else (if (v4 + (2 : Int32)) < 0 ∨ xl ≤ Int32.toNatClampNeg (v4 + (2 : Int32)) then none else (if (v4 + (3 : Int32)) < 0 ∨ xl ≤ Int32.toNatClampNeg (v4 + (3 : Int32)) then none else (if (xs (Int32.toNatClampNeg (v4 + (3 : Int32)))) = 0 then (dp_bi (dp_den true xs xl d 293 [.ref 0, .int (xs (Int32.toNatClampNeg (v4 + (1 : Int32)))), .int (xs (Int32.toNatClampNeg (v4 + (2 : Int32)))), .int (0 : Int32)] M) (fun r2 M1 => if (v4 + (1 : Int32)) < 0 ∨ xl ≤ Int32.toNatClampNeg (v4 + (1 : Int32)) then none else (if (v4 + (2 : Int32)) < 0 ∨ xl ≤ Int32.toNatClampNeg (v4 + (2 : Int32)) then none else (if (v4 + (3 : Int32)) < 0 ∨ xl ≤ Int32.toNatClampNeg (v4 + (3 : Int32)) then none else (if (xs (Int32.toNatClampNeg (v4 + (3 : Int32)))) = 0 then (dp_bi (dp_den true xs xl d 440 [.ref 114, .int (xs (Int32.toNatClampNeg (v4 + (1 : Int32)))), .int (xs (Int32.toNatClampNeg (v4 + (2 : Int32)))), .int (0 : Int32)] M1) (fun r4 M3 => if r2 = r4 then (D_L_law_6132 xs xl d v4 u5 u6 u7 M3) else (some (.inl (some (.int (0 : Int32))), M3)))) else (dp_bi (dp_den true xs xl d 440 [.ref 114, .int (xs (Int32.toNatClampNeg (v4 + (1 : Int32)))), .int (xs (Int32.toNatClampNeg (v4 + (2 : Int32)))), .int (1 : Int32)] M1) (fun r6 M5 => if r2 = r6 then (D_L_law_6132 xs xl d v4 u5 u6 u7 M5) else (some (.inl (some (.int (0 : Int32))), M5))))))))) else (dp_bi (dp_den true xs xl d 293 [.ref 0, .int (xs (Int32.toNatClampNeg (v4 + (1 : Int32)))), .int (xs (Int32.toNatClampNeg (v4 + (2 : Int32)))), .int (1 : Int32)] M) (fun r8 M7 => if (v4 + (1 : Int32)) < 0 ∨ xl ≤ Int32.toNatClampNeg (v4 + (1 : Int32)) then none else (if (v4 + (2 : Int32)) < 0 ∨ xl ≤ Int32.toNatClampNeg (v4 + (2 : Int32)) then none else (if (v4 + (3 : Int32)) < 0 ∨ xl ≤ Int32.toNatClampNeg (v4 + (3 : Int32)) then none else (if (xs (Int32.toNatClampNeg (v4 + (3 : Int32)))) = 0 then (dp_bi (dp_den true xs xl d 440 [.ref 114, .int (xs (Int32.toNatClampNeg (v4 + (1 : Int32)))), .int (xs (Int32.toNatClampNeg (v4 + (2 : Int32)))), .int (0 : Int32)] M7) (fun r10 M9 => if r8 = r10 then (D_L_law_6132 xs xl d v4 u5 u6 u7 M9) else (some (.inl (some (.int (0 : Int32))), M9)))) else (dp_bi (dp_den true xs xl d 440 [.ref 114, .int (xs (Int32.toNatClampNeg (v4 + (1 : Int32)))), .int (xs (Int32.toNatClampNeg (v4 + (2 : Int32)))), .int (1 : Int32)] M7) (fun r12 M11 => if r8 = r12 then (D_L_law_6132 xs xl d v4 u5 u6 u7 M11) else (some (.inl (some (.int (0 : Int32))), M11)))))))))))) := by
  have hF := dp_den_grow (md := true) (xs := xs) (xl := xl) d
  unfold D_L_law_2201
  refine dp_s1 hF (i := .aload_n 1) rfl (fun _ => rfl) ?_
  refine dp_s1 hF (i := .aload_n 0) rfl (fun _ => rfl) ?_
  refine dp_s1 hF (i := .iload 4) rfl (fun _ => rfl) ?_
  refine dp_s1 hF (i := .iconst 1) rfl (fun _ => rfl) ?_
  refine dp_s1 hF (i := .iadd) rfl (fun _ => rfl) ?_
  refine dp_s3 hF (i := .iaload) rfl (fun _ => rfl) ?_
  refine dp_s1 hF (i := .aload_n 0) rfl (fun _ => rfl) ?_
  refine dp_s1 hF (i := .iload 4) rfl (fun _ => rfl) ?_
  refine dp_s1 hF (i := .iconst 2) rfl (fun _ => rfl) ?_
  refine dp_s1 hF (i := .iadd) rfl (fun _ => rfl) ?_
  refine dp_s3 hF (i := .iaload) rfl (fun _ => rfl) ?_
  refine dp_s1 hF (i := .aload_n 0) rfl (fun _ => rfl) ?_
  refine dp_s1 hF (i := .iload 4) rfl (fun _ => rfl) ?_
  refine dp_s1 hF (i := .iconst 3) rfl (fun _ => rfl) ?_
  refine dp_s1 hF (i := .iadd) rfl (fun _ => rfl) ?_
  refine dp_s3 hF (i := .iaload) rfl (fun _ => rfl) ?_
  refine dp_s2 hF (i := .ifCond .eq 7) (a := (2227, [some (.retAddr 0), some (.ref 0), some (.ref 114), some (.ref 245), some (.int v4), u5, u6, u7], [.int (xs (Int32.toNatClampNeg (v4 + (2 : Int32)))), .int (xs (Int32.toNatClampNeg (v4 + (1 : Int32)))), .ref 0], M)) (b := (2223, [some (.retAddr 0), some (.ref 0), some (.ref 114), some (.ref 245), some (.int v4), u5, u6, u7], [.int (xs (Int32.toNatClampNeg (v4 + (2 : Int32)))), .int (xs (Int32.toNatClampNeg (v4 + (1 : Int32)))), .ref 0], M)) rfl (fun _ => rfl) ?_ ?_
  · refine dp_s1 hF (i := .iconst 0) rfl (fun _ => rfl) ?_
    refine dp_si (mj := dp_m_X11_away) (i := .invokevirtual 325) rfl rfl (Or.inr rfl) rfl (fun _ => rfl) (fun r2 M1 => ?_)
    refine dp_s1 hF (i := .aload_n 2) rfl (fun _ => rfl) ?_
    refine dp_s1 hF (i := .aload_n 0) rfl (fun _ => rfl) ?_
    refine dp_s1 hF (i := .iload 4) rfl (fun _ => rfl) ?_
    refine dp_s1 hF (i := .iconst 1) rfl (fun _ => rfl) ?_
    refine dp_s1 hF (i := .iadd) rfl (fun _ => rfl) ?_
    refine dp_s3 hF (i := .iaload) rfl (fun _ => rfl) ?_
    refine dp_s1 hF (i := .aload_n 0) rfl (fun _ => rfl) ?_
    refine dp_s1 hF (i := .iload 4) rfl (fun _ => rfl) ?_
    refine dp_s1 hF (i := .iconst 2) rfl (fun _ => rfl) ?_
    refine dp_s1 hF (i := .iadd) rfl (fun _ => rfl) ?_
    refine dp_s3 hF (i := .iaload) rfl (fun _ => rfl) ?_
    refine dp_s1 hF (i := .aload_n 0) rfl (fun _ => rfl) ?_
    refine dp_s1 hF (i := .iload 4) rfl (fun _ => rfl) ?_
    refine dp_s1 hF (i := .iconst 3) rfl (fun _ => rfl) ?_
    refine dp_s1 hF (i := .iadd) rfl (fun _ => rfl) ?_
    refine dp_s3 hF (i := .iaload) rfl (fun _ => rfl) ?_
    refine dp_s2 hF (i := .ifCond .eq 7) (a := (2257, [some (.retAddr 0), some (.ref 0), some (.ref 114), some (.ref 245), some (.int v4), u5, u6, u7], [.int (xs (Int32.toNatClampNeg (v4 + (2 : Int32)))), .int (xs (Int32.toNatClampNeg (v4 + (1 : Int32)))), .ref 114, .int r2], M1)) (b := (2253, [some (.retAddr 0), some (.ref 0), some (.ref 114), some (.ref 245), some (.int v4), u5, u6, u7], [.int (xs (Int32.toNatClampNeg (v4 + (2 : Int32)))), .int (xs (Int32.toNatClampNeg (v4 + (1 : Int32)))), .ref 114, .int r2], M1)) rfl (fun _ => rfl) ?_ ?_
    · refine dp_s1 hF (i := .iconst 0) rfl (fun _ => rfl) ?_
      refine dp_si (mj := dp_m_X12_away) (i := .invokevirtual 328) rfl rfl (Or.inr rfl) rfl (fun _ => rfl) (fun r4 M3 => ?_)
      refine dp_s2 hF (i := .if_icmp .eq 3871) (a := (6132, [some (.retAddr 0), some (.ref 0), some (.ref 114), some (.ref 245), some (.int v4), u5, u6, u7], [], M3)) (b := (2264, [some (.retAddr 0), some (.ref 0), some (.ref 114), some (.ref 245), some (.int v4), u5, u6, u7], [], M3)) rfl (fun _ => rfl) ?_ ?_
      · exact rfl
      refine dp_s1 hF (i := .iconst 0) rfl (fun _ => rfl) ?_
      exact dp_s0 hF (i := .ireturn) rfl (fun _ => rfl)
    refine dp_s1 hF (i := .iconst 1) rfl (fun _ => rfl) ?_
    refine dp_s1 hF (i := .goto 4) rfl (fun _ => rfl) ?_
    refine dp_si (mj := dp_m_X12_away) (i := .invokevirtual 328) rfl rfl (Or.inr rfl) rfl (fun _ => rfl) (fun r6 M5 => ?_)
    refine dp_s2 hF (i := .if_icmp .eq 3871) (a := (6132, [some (.retAddr 0), some (.ref 0), some (.ref 114), some (.ref 245), some (.int v4), u5, u6, u7], [], M5)) (b := (2264, [some (.retAddr 0), some (.ref 0), some (.ref 114), some (.ref 245), some (.int v4), u5, u6, u7], [], M5)) rfl (fun _ => rfl) ?_ ?_
    · exact rfl
    refine dp_s1 hF (i := .iconst 0) rfl (fun _ => rfl) ?_
    exact dp_s0 hF (i := .ireturn) rfl (fun _ => rfl)
  refine dp_s1 hF (i := .iconst 1) rfl (fun _ => rfl) ?_
  refine dp_s1 hF (i := .goto 4) rfl (fun _ => rfl) ?_
  refine dp_si (mj := dp_m_X11_away) (i := .invokevirtual 325) rfl rfl (Or.inr rfl) rfl (fun _ => rfl) (fun r8 M7 => ?_)
  refine dp_s1 hF (i := .aload_n 2) rfl (fun _ => rfl) ?_
  refine dp_s1 hF (i := .aload_n 0) rfl (fun _ => rfl) ?_
  refine dp_s1 hF (i := .iload 4) rfl (fun _ => rfl) ?_
  refine dp_s1 hF (i := .iconst 1) rfl (fun _ => rfl) ?_
  refine dp_s1 hF (i := .iadd) rfl (fun _ => rfl) ?_
  refine dp_s3 hF (i := .iaload) rfl (fun _ => rfl) ?_
  refine dp_s1 hF (i := .aload_n 0) rfl (fun _ => rfl) ?_
  refine dp_s1 hF (i := .iload 4) rfl (fun _ => rfl) ?_
  refine dp_s1 hF (i := .iconst 2) rfl (fun _ => rfl) ?_
  refine dp_s1 hF (i := .iadd) rfl (fun _ => rfl) ?_
  refine dp_s3 hF (i := .iaload) rfl (fun _ => rfl) ?_
  refine dp_s1 hF (i := .aload_n 0) rfl (fun _ => rfl) ?_
  refine dp_s1 hF (i := .iload 4) rfl (fun _ => rfl) ?_
  refine dp_s1 hF (i := .iconst 3) rfl (fun _ => rfl) ?_
  refine dp_s1 hF (i := .iadd) rfl (fun _ => rfl) ?_
  refine dp_s3 hF (i := .iaload) rfl (fun _ => rfl) ?_
  refine dp_s2 hF (i := .ifCond .eq 7) (a := (2257, [some (.retAddr 0), some (.ref 0), some (.ref 114), some (.ref 245), some (.int v4), u5, u6, u7], [.int (xs (Int32.toNatClampNeg (v4 + (2 : Int32)))), .int (xs (Int32.toNatClampNeg (v4 + (1 : Int32)))), .ref 114, .int r8], M7)) (b := (2253, [some (.retAddr 0), some (.ref 0), some (.ref 114), some (.ref 245), some (.int v4), u5, u6, u7], [.int (xs (Int32.toNatClampNeg (v4 + (2 : Int32)))), .int (xs (Int32.toNatClampNeg (v4 + (1 : Int32)))), .ref 114, .int r8], M7)) rfl (fun _ => rfl) ?_ ?_
  · refine dp_s1 hF (i := .iconst 0) rfl (fun _ => rfl) ?_
    refine dp_si (mj := dp_m_X12_away) (i := .invokevirtual 328) rfl rfl (Or.inr rfl) rfl (fun _ => rfl) (fun r10 M9 => ?_)
    refine dp_s2 hF (i := .if_icmp .eq 3871) (a := (6132, [some (.retAddr 0), some (.ref 0), some (.ref 114), some (.ref 245), some (.int v4), u5, u6, u7], [], M9)) (b := (2264, [some (.retAddr 0), some (.ref 0), some (.ref 114), some (.ref 245), some (.int v4), u5, u6, u7], [], M9)) rfl (fun _ => rfl) ?_ ?_
    · exact rfl
    refine dp_s1 hF (i := .iconst 0) rfl (fun _ => rfl) ?_
    exact dp_s0 hF (i := .ireturn) rfl (fun _ => rfl)
  refine dp_s1 hF (i := .iconst 1) rfl (fun _ => rfl) ?_
  refine dp_s1 hF (i := .goto 4) rfl (fun _ => rfl) ?_
  refine dp_si (mj := dp_m_X12_away) (i := .invokevirtual 328) rfl rfl (Or.inr rfl) rfl (fun _ => rfl) (fun r12 M11 => ?_)
  refine dp_s2 hF (i := .if_icmp .eq 3871) (a := (6132, [some (.retAddr 0), some (.ref 0), some (.ref 114), some (.ref 245), some (.int v4), u5, u6, u7], [], M11)) (b := (2264, [some (.retAddr 0), some (.ref 0), some (.ref 114), some (.ref 245), some (.int v4), u5, u6, u7], [], M11)) rfl (fun _ => rfl) ?_ ?_
  · exact rfl
  refine dp_s1 hF (i := .iconst 0) rfl (fun _ => rfl) ?_
  exact dp_s0 hF (i := .ireturn) rfl (fun _ => rfl)
set_option maxRecDepth 20000 in
theorem D_L_law_2266_eq (xs : Nat → Int32) (xl d : Nat) (v4 : Int32) (u5 : Option Value) (u6 : Option Value) (u7 : Option Value) (M : dp_M) : D_L_law_2266 xs xl d v4 u5 u6 u7 M = if (v4 + (1 : Int32)) < 0 ∨ xl ≤ Int32.toNatClampNeg (v4 + (1 : Int32)) then none else (dp_bi (dp_den true xs xl d 294 [.ref 0, .int (xs (Int32.toNatClampNeg (v4 + (1 : Int32))))] M) (fun r2 M1 => if (v4 + (1 : Int32)) < 0 ∨ xl ≤ Int32.toNatClampNeg (v4 + (1 : Int32)) then none else (dp_bi (dp_den true xs xl d 441 [.ref 114, .int (xs (Int32.toNatClampNeg (v4 + (1 : Int32))))] M1) (fun r4 M3 => if r2 = r4 then (D_L_law_6132 xs xl d v4 u5 u6 u7 M3) else (some (.inl (some (.int (0 : Int32))), M3)))))) := by
  have hF := dp_den_grow (md := true) (xs := xs) (xl := xl) d
  unfold D_L_law_2266
  refine dp_s1 hF (i := .aload_n 1) rfl (fun _ => rfl) ?_
  refine dp_s1 hF (i := .aload_n 0) rfl (fun _ => rfl) ?_
  refine dp_s1 hF (i := .iload 4) rfl (fun _ => rfl) ?_
  refine dp_s1 hF (i := .iconst 1) rfl (fun _ => rfl) ?_
  refine dp_s1 hF (i := .iadd) rfl (fun _ => rfl) ?_
  refine dp_s3 hF (i := .iaload) rfl (fun _ => rfl) ?_
  refine dp_si (mj := dp_m_X11_notice) (i := .invokevirtual 329) rfl rfl (Or.inl rfl) rfl (fun _ => rfl) (fun r2 M1 => ?_)
  refine dp_s1 hF (i := .aload_n 2) rfl (fun _ => rfl) ?_
  refine dp_s1 hF (i := .aload_n 0) rfl (fun _ => rfl) ?_
  refine dp_s1 hF (i := .iload 4) rfl (fun _ => rfl) ?_
  refine dp_s1 hF (i := .iconst 1) rfl (fun _ => rfl) ?_
  refine dp_s1 hF (i := .iadd) rfl (fun _ => rfl) ?_
  refine dp_s3 hF (i := .iaload) rfl (fun _ => rfl) ?_
  refine dp_si (mj := dp_m_X12_notice) (i := .invokevirtual 332) rfl rfl (Or.inl rfl) rfl (fun _ => rfl) (fun r4 M3 => ?_)
  refine dp_s2 hF (i := .if_icmp .eq 3846) (a := (6132, [some (.retAddr 0), some (.ref 0), some (.ref 114), some (.ref 245), some (.int v4), u5, u6, u7], [], M3)) (b := (2289, [some (.retAddr 0), some (.ref 0), some (.ref 114), some (.ref 245), some (.int v4), u5, u6, u7], [], M3)) rfl (fun _ => rfl) ?_ ?_
  · exact rfl
  refine dp_s1 hF (i := .iconst 0) rfl (fun _ => rfl) ?_
  exact dp_s0 hF (i := .ireturn) rfl (fun _ => rfl)
set_option maxRecDepth 20000 in
theorem D_L_law_2291_eq (xs : Nat → Int32) (xl d : Nat) (v4 : Int32) (u5 : Option Value) (u6 : Option Value) (u7 : Option Value) (M : dp_M) : D_L_law_2291 xs xl d v4 u5 u6 u7 M = if (v4 + (1 : Int32)) < 0 ∨ xl ≤ Int32.toNatClampNeg (v4 + (1 : Int32)) then none else (if (v4 + (2 : Int32)) < 0 ∨ xl ≤ Int32.toNatClampNeg (v4 + (2 : Int32)) then none else (dp_bi (dp_den true xs xl d 618 [.ref 0, .int (xs (Int32.toNatClampNeg (v4 + (1 : Int32)))), .int (xs (Int32.toNatClampNeg (v4 + (2 : Int32)))), .ref 245] M) (fun r2 M1 => if (v4 + (1 : Int32)) < 0 ∨ xl ≤ Int32.toNatClampNeg (v4 + (1 : Int32)) then none else (if (v4 + (2 : Int32)) < 0 ∨ xl ≤ Int32.toNatClampNeg (v4 + (2 : Int32)) then none else (dp_bi (dp_den true xs xl d 442 [.ref 114, .int (xs (Int32.toNatClampNeg (v4 + (1 : Int32)))), .int (xs (Int32.toNatClampNeg (v4 + (2 : Int32))))] M1) (fun r4 M3 => dp_bi (dp_den true xs xl d 365 [.ref 114] M3) (fun r6 M5 => if r6 = r2 then (if r2 = 0 then (if (0 : Int32) < 0 ∨ 1 ≤ Int32.toNatClampNeg (0 : Int32) then none else (if (lg_cmp (dp_J M5 245 (Int32.toNatClampNeg (0 : Int32))) (Int32.toInt64 r4)) = 0 then (D_L_law_6132 xs xl d v4 (some (.int r2)) (some (.int r4)) u7 M5) else (some (.inl (some (.int (0 : Int32))), M5)))) else (D_L_law_6132 xs xl d v4 (some (.int r2)) (some (.int r4)) u7 M5)) else (some (.inl (some (.int (0 : Int32))), M5))))))))) := by
  have hF := dp_den_grow (md := true) (xs := xs) (xl := xl) d
  unfold D_L_law_2291
  refine dp_s1 hF (i := .aload_n 1) rfl (fun _ => rfl) ?_
  refine dp_s1 hF (i := .aload_n 0) rfl (fun _ => rfl) ?_
  refine dp_s1 hF (i := .iload 4) rfl (fun _ => rfl) ?_
  refine dp_s1 hF (i := .iconst 1) rfl (fun _ => rfl) ?_
  refine dp_s1 hF (i := .iadd) rfl (fun _ => rfl) ?_
  refine dp_s3 hF (i := .iaload) rfl (fun _ => rfl) ?_
  refine dp_s1 hF (i := .aload_n 0) rfl (fun _ => rfl) ?_
  refine dp_s1 hF (i := .iload 4) rfl (fun _ => rfl) ?_
  refine dp_s1 hF (i := .iconst 2) rfl (fun _ => rfl) ?_
  refine dp_s1 hF (i := .iadd) rfl (fun _ => rfl) ?_
  refine dp_s3 hF (i := .iaload) rfl (fun _ => rfl) ?_
  refine dp_s1 hF (i := .aload_n 3) rfl (fun _ => rfl) ?_
  refine dp_si (mj := dp_m_L_look) (i := .invokestatic 333) rfl rfl (Or.inl rfl) rfl (fun _ => rfl) (fun r2 M1 => ?_)
  refine dp_s1 hF (i := .istore 5) rfl (fun _ => rfl) ?_
  refine dp_s1 hF (i := .aload_n 2) rfl (fun _ => rfl) ?_
  refine dp_s1 hF (i := .aload_n 0) rfl (fun _ => rfl) ?_
  refine dp_s1 hF (i := .iload 4) rfl (fun _ => rfl) ?_
  refine dp_s1 hF (i := .iconst 1) rfl (fun _ => rfl) ?_
  refine dp_s1 hF (i := .iadd) rfl (fun _ => rfl) ?_
  refine dp_s3 hF (i := .iaload) rfl (fun _ => rfl) ?_
  refine dp_s1 hF (i := .aload_n 0) rfl (fun _ => rfl) ?_
  refine dp_s1 hF (i := .iload 4) rfl (fun _ => rfl) ?_
  refine dp_s1 hF (i := .iconst 2) rfl (fun _ => rfl) ?_
  refine dp_s1 hF (i := .iadd) rfl (fun _ => rfl) ?_
  refine dp_s3 hF (i := .iaload) rfl (fun _ => rfl) ?_
  refine dp_si (mj := dp_m_X12_look) (i := .invokevirtual 335) rfl rfl (Or.inl rfl) rfl (fun _ => rfl) (fun r4 M3 => ?_)
  refine dp_s1 hF (i := .istore 6) rfl (fun _ => rfl) ?_
  refine dp_s1 hF (i := .aload_n 2) rfl (fun _ => rfl) ?_
  refine dp_si (mj := dp_m_X12_thrown) (i := .invokevirtual 229) rfl rfl (Or.inl rfl) rfl (fun _ => rfl) (fun r6 M5 => ?_)
  refine dp_s1 hF (i := .iload 5) rfl (fun _ => rfl) ?_
  refine dp_s2 hF (i := .if_icmp .eq 5) (a := (2339, [some (.retAddr 0), some (.ref 0), some (.ref 114), some (.ref 245), some (.int v4), some (.int r2), some (.int r4), u7], [], M5)) (b := (2337, [some (.retAddr 0), some (.ref 0), some (.ref 114), some (.ref 245), some (.int v4), some (.int r2), some (.int r4), u7], [], M5)) rfl (fun _ => rfl) ?_ ?_
  · refine dp_s1 hF (i := .iload 5) rfl (fun _ => rfl) ?_
    refine dp_s2 hF (i := .ifCond .ne 15) (a := (2344, [some (.retAddr 0), some (.ref 0), some (.ref 114), some (.ref 245), some (.int v4), some (.int r2), some (.int r4), u7], [], M5)) (b := (2356, [some (.retAddr 0), some (.ref 0), some (.ref 114), some (.ref 245), some (.int v4), some (.int r2), some (.int r4), u7], [], M5)) rfl (fun _ => rfl) ?_ ?_
    · refine dp_s1 hF (i := .aload_n 3) rfl (fun _ => rfl) ?_
      refine dp_s1 hF (i := .iconst 0) rfl (fun _ => rfl) ?_
      refine dp_s3 hF (i := .laload) rfl (fun _ => rfl) ?_
      refine dp_s1 hF (i := .iload 6) rfl (fun _ => rfl) ?_
      refine dp_s1 hF (i := .i2l) rfl (fun _ => rfl) ?_
      refine dp_s1 hF (i := .lcmp) rfl (fun _ => rfl) ?_
      refine dp_s2 hF (i := .ifCond .eq 5) (a := (2356, [some (.retAddr 0), some (.ref 0), some (.ref 114), some (.ref 245), some (.int v4), some (.int r2), some (.int r4), u7], [], M5)) (b := (2354, [some (.retAddr 0), some (.ref 0), some (.ref 114), some (.ref 245), some (.int v4), some (.int r2), some (.int r4), u7], [], M5)) rfl (fun _ => rfl) ?_ ?_
      · refine dp_s1 hF (i := .goto 3776) rfl (fun _ => rfl) ?_
        exact rfl
      refine dp_s1 hF (i := .iconst 0) rfl (fun _ => rfl) ?_
      exact dp_s0 hF (i := .ireturn) rfl (fun _ => rfl)
    refine dp_s1 hF (i := .goto 3776) rfl (fun _ => rfl) ?_
    exact rfl
  refine dp_s1 hF (i := .iconst 0) rfl (fun _ => rfl) ?_
  exact dp_s0 hF (i := .ireturn) rfl (fun _ => rfl)
set_option maxRecDepth 20000 in
theorem D_L_law_2359_eq (xs : Nat → Int32) (xl d : Nat) (v4 : Int32) (u5 : Option Value) (u6 : Option Value) (u7 : Option Value) (M : dp_M) : D_L_law_2359 xs xl d v4 u5 u6 u7 M = if (v4 + (1 : Int32)) < 0 ∨ xl ≤ Int32.toNatClampNeg (v4 + (1 : Int32)) then none else (if (v4 + (2 : Int32)) < 0 ∨ xl ≤ Int32.toNatClampNeg (v4 + (2 : Int32)) then none else (dp_bi (dp_den true xs xl d 299 [.ref 0, .int (xs (Int32.toNatClampNeg (v4 + (1 : Int32)))), .int (xs (Int32.toNatClampNeg (v4 + (2 : Int32))))] M) (fun r2 M1 => if (v4 + (1 : Int32)) < 0 ∨ xl ≤ Int32.toNatClampNeg (v4 + (1 : Int32)) then none else (if (v4 + (2 : Int32)) < 0 ∨ xl ≤ Int32.toNatClampNeg (v4 + (2 : Int32)) then none else (dp_bi (dp_den true xs xl d 450 [.ref 114, .int (xs (Int32.toNatClampNeg (v4 + (1 : Int32)))), .int (xs (Int32.toNatClampNeg (v4 + (2 : Int32))))] M1) (fun r4 M3 => if r2 = r4 then (D_L_law_6132 xs xl d v4 u5 u6 u7 M3) else (some (.inl (some (.int (0 : Int32))), M3)))))))) := by
  have hF := dp_den_grow (md := true) (xs := xs) (xl := xl) d
  unfold D_L_law_2359
  refine dp_s1 hF (i := .aload_n 1) rfl (fun _ => rfl) ?_
  refine dp_s1 hF (i := .aload_n 0) rfl (fun _ => rfl) ?_
  refine dp_s1 hF (i := .iload 4) rfl (fun _ => rfl) ?_
  refine dp_s1 hF (i := .iconst 1) rfl (fun _ => rfl) ?_
  refine dp_s1 hF (i := .iadd) rfl (fun _ => rfl) ?_
  refine dp_s3 hF (i := .iaload) rfl (fun _ => rfl) ?_
  refine dp_s1 hF (i := .aload_n 0) rfl (fun _ => rfl) ?_
  refine dp_s1 hF (i := .iload 4) rfl (fun _ => rfl) ?_
  refine dp_s1 hF (i := .iconst 2) rfl (fun _ => rfl) ?_
  refine dp_s1 hF (i := .iadd) rfl (fun _ => rfl) ?_
  refine dp_s3 hF (i := .iaload) rfl (fun _ => rfl) ?_
  refine dp_si (mj := dp_m_X11_member) (i := .invokevirtual 336) rfl rfl (Or.inr rfl) rfl (fun _ => rfl) (fun r2 M1 => ?_)
  refine dp_s1 hF (i := .aload_n 2) rfl (fun _ => rfl) ?_
  refine dp_s1 hF (i := .aload_n 0) rfl (fun _ => rfl) ?_
  refine dp_s1 hF (i := .iload 4) rfl (fun _ => rfl) ?_
  refine dp_s1 hF (i := .iconst 1) rfl (fun _ => rfl) ?_
  refine dp_s1 hF (i := .iadd) rfl (fun _ => rfl) ?_
  refine dp_s3 hF (i := .iaload) rfl (fun _ => rfl) ?_
  refine dp_s1 hF (i := .aload_n 0) rfl (fun _ => rfl) ?_
  refine dp_s1 hF (i := .iload 4) rfl (fun _ => rfl) ?_
  refine dp_s1 hF (i := .iconst 2) rfl (fun _ => rfl) ?_
  refine dp_s1 hF (i := .iadd) rfl (fun _ => rfl) ?_
  refine dp_s3 hF (i := .iaload) rfl (fun _ => rfl) ?_
  refine dp_si (mj := dp_m_X12_member) (i := .invokevirtual 339) rfl rfl (Or.inr rfl) rfl (fun _ => rfl) (fun r4 M3 => ?_)
  refine dp_s2 hF (i := .if_icmp .eq 3741) (a := (6132, [some (.retAddr 0), some (.ref 0), some (.ref 114), some (.ref 245), some (.int v4), u5, u6, u7], [], M3)) (b := (2394, [some (.retAddr 0), some (.ref 0), some (.ref 114), some (.ref 245), some (.int v4), u5, u6, u7], [], M3)) rfl (fun _ => rfl) ?_ ?_
  · exact rfl
  refine dp_s1 hF (i := .iconst 0) rfl (fun _ => rfl) ?_
  exact dp_s0 hF (i := .ireturn) rfl (fun _ => rfl)
set_option maxRecDepth 20000 in
theorem D_L_law_2396_eq (xs : Nat → Int32) (xl d : Nat) (v4 : Int32) (u5 : Option Value) (u6 : Option Value) (u7 : Option Value) (M : dp_M) : D_L_law_2396 xs xl d v4 u5 u6 u7 M = if (v4 + (1 : Int32)) < 0 ∨ xl ≤ Int32.toNatClampNeg (v4 + (1 : Int32)) then none else (if (v4 + (2 : Int32)) < 0 ∨ xl ≤ Int32.toNatClampNeg (v4 + (2 : Int32)) then none else (if (v4 + (3 : Int32)) < 0 ∨ xl ≤ Int32.toNatClampNeg (v4 + (3 : Int32)) then none else (if (v4 + (4 : Int32)) < 0 ∨ xl ≤ Int32.toNatClampNeg (v4 + (4 : Int32)) then none else (if (v4 + (5 : Int32)) < 0 ∨ xl ≤ Int32.toNatClampNeg (v4 + (5 : Int32)) then none else (if (v4 + (6 : Int32)) < 0 ∨ xl ≤ Int32.toNatClampNeg (v4 + (6 : Int32)) then none else (if (v4 + (7 : Int32)) < 0 ∨ xl ≤ Int32.toNatClampNeg (v4 + (7 : Int32)) then none else (dp_bi (dp_den true xs xl d 619 [.ref 0, .int (xs (Int32.toNatClampNeg (v4 + (1 : Int32)))), .int (xs (Int32.toNatClampNeg (v4 + (2 : Int32)))), .int (xs (Int32.toNatClampNeg (v4 + (3 : Int32)))), .int (xs (Int32.toNatClampNeg (v4 + (4 : Int32)))), .int (xs (Int32.toNatClampNeg (v4 + (5 : Int32)))), .int (xs (Int32.toNatClampNeg (v4 + (6 : Int32)))), .int (xs (Int32.toNatClampNeg (v4 + (7 : Int32)))), .ref 245] M) (fun r2 M1 => if (v4 + (1 : Int32)) < 0 ∨ xl ≤ Int32.toNatClampNeg (v4 + (1 : Int32)) then none else (if (v4 + (2 : Int32)) < 0 ∨ xl ≤ Int32.toNatClampNeg (v4 + (2 : Int32)) then none else (if (v4 + (3 : Int32)) < 0 ∨ xl ≤ Int32.toNatClampNeg (v4 + (3 : Int32)) then none else (if (v4 + (4 : Int32)) < 0 ∨ xl ≤ Int32.toNatClampNeg (v4 + (4 : Int32)) then none else (if (v4 + (5 : Int32)) < 0 ∨ xl ≤ Int32.toNatClampNeg (v4 + (5 : Int32)) then none else (if (v4 + (6 : Int32)) < 0 ∨ xl ≤ Int32.toNatClampNeg (v4 + (6 : Int32)) then none else (if (v4 + (7 : Int32)) < 0 ∨ xl ≤ Int32.toNatClampNeg (v4 + (7 : Int32)) then none else (dp_bi (dp_den true xs xl d 453 [.ref 114, .int (xs (Int32.toNatClampNeg (v4 + (1 : Int32)))), .int (xs (Int32.toNatClampNeg (v4 + (2 : Int32)))), .int (xs (Int32.toNatClampNeg (v4 + (3 : Int32)))), .int (xs (Int32.toNatClampNeg (v4 + (4 : Int32)))), .int (xs (Int32.toNatClampNeg (v4 + (5 : Int32)))), .int (xs (Int32.toNatClampNeg (v4 + (6 : Int32)))), .int (xs (Int32.toNatClampNeg (v4 + (7 : Int32))))] M1) (fun r4 M3 => dp_bi (dp_den true xs xl d 365 [.ref 114] M3) (fun r6 M5 => if r6 = r2 then (if r2 = 0 then (if (0 : Int32) < 0 ∨ 1 ≤ Int32.toNatClampNeg (0 : Int32) then none else (if (lg_cmp (dp_J M5 245 (Int32.toNatClampNeg (0 : Int32))) (Int32.toInt64 r4)) = 0 then (D_L_law_6132 xs xl d v4 (some (.int r2)) (some (.int r4)) u7 M5) else (some (.inl (some (.int (0 : Int32))), M5)))) else (D_L_law_6132 xs xl d v4 (some (.int r2)) (some (.int r4)) u7 M5)) else (some (.inl (some (.int (0 : Int32))), M5))))))))))))))))))) := by
  have hF := dp_den_grow (md := true) (xs := xs) (xl := xl) d
  unfold D_L_law_2396
  refine dp_s1 hF (i := .aload_n 1) rfl (fun _ => rfl) ?_
  refine dp_s1 hF (i := .aload_n 0) rfl (fun _ => rfl) ?_
  refine dp_s1 hF (i := .iload 4) rfl (fun _ => rfl) ?_
  refine dp_s1 hF (i := .iconst 1) rfl (fun _ => rfl) ?_
  refine dp_s1 hF (i := .iadd) rfl (fun _ => rfl) ?_
  refine dp_s3 hF (i := .iaload) rfl (fun _ => rfl) ?_
  refine dp_s1 hF (i := .aload_n 0) rfl (fun _ => rfl) ?_
  refine dp_s1 hF (i := .iload 4) rfl (fun _ => rfl) ?_
  refine dp_s1 hF (i := .iconst 2) rfl (fun _ => rfl) ?_
  refine dp_s1 hF (i := .iadd) rfl (fun _ => rfl) ?_
  refine dp_s3 hF (i := .iaload) rfl (fun _ => rfl) ?_
  refine dp_s1 hF (i := .aload_n 0) rfl (fun _ => rfl) ?_
  refine dp_s1 hF (i := .iload 4) rfl (fun _ => rfl) ?_
  refine dp_s1 hF (i := .iconst 3) rfl (fun _ => rfl) ?_
  refine dp_s1 hF (i := .iadd) rfl (fun _ => rfl) ?_
  refine dp_s3 hF (i := .iaload) rfl (fun _ => rfl) ?_
  refine dp_s1 hF (i := .aload_n 0) rfl (fun _ => rfl) ?_
  refine dp_s1 hF (i := .iload 4) rfl (fun _ => rfl) ?_
  refine dp_s1 hF (i := .iconst 4) rfl (fun _ => rfl) ?_
  refine dp_s1 hF (i := .iadd) rfl (fun _ => rfl) ?_
  refine dp_s3 hF (i := .iaload) rfl (fun _ => rfl) ?_
  refine dp_s1 hF (i := .aload_n 0) rfl (fun _ => rfl) ?_
  refine dp_s1 hF (i := .iload 4) rfl (fun _ => rfl) ?_
  refine dp_s1 hF (i := .iconst 5) rfl (fun _ => rfl) ?_
  refine dp_s1 hF (i := .iadd) rfl (fun _ => rfl) ?_
  refine dp_s3 hF (i := .iaload) rfl (fun _ => rfl) ?_
  refine dp_s1 hF (i := .aload_n 0) rfl (fun _ => rfl) ?_
  refine dp_s1 hF (i := .iload 4) rfl (fun _ => rfl) ?_
  refine dp_s1 hF (i := .bipush 6) rfl (fun _ => rfl) ?_
  refine dp_s1 hF (i := .iadd) rfl (fun _ => rfl) ?_
  refine dp_s3 hF (i := .iaload) rfl (fun _ => rfl) ?_
  refine dp_s1 hF (i := .aload_n 0) rfl (fun _ => rfl) ?_
  refine dp_s1 hF (i := .iload 4) rfl (fun _ => rfl) ?_
  refine dp_s1 hF (i := .bipush 7) rfl (fun _ => rfl) ?_
  refine dp_s1 hF (i := .iadd) rfl (fun _ => rfl) ?_
  refine dp_s3 hF (i := .iaload) rfl (fun _ => rfl) ?_
  refine dp_s1 hF (i := .aload_n 3) rfl (fun _ => rfl) ?_
  refine dp_si (mj := dp_m_L_row) (i := .invokestatic 340) rfl rfl (Or.inl rfl) rfl (fun _ => rfl) (fun r2 M1 => ?_)
  refine dp_s1 hF (i := .istore 5) rfl (fun _ => rfl) ?_
  refine dp_s1 hF (i := .aload_n 2) rfl (fun _ => rfl) ?_
  refine dp_s1 hF (i := .aload_n 0) rfl (fun _ => rfl) ?_
  refine dp_s1 hF (i := .iload 4) rfl (fun _ => rfl) ?_
  refine dp_s1 hF (i := .iconst 1) rfl (fun _ => rfl) ?_
  refine dp_s1 hF (i := .iadd) rfl (fun _ => rfl) ?_
  refine dp_s3 hF (i := .iaload) rfl (fun _ => rfl) ?_
  refine dp_s1 hF (i := .aload_n 0) rfl (fun _ => rfl) ?_
  refine dp_s1 hF (i := .iload 4) rfl (fun _ => rfl) ?_
  refine dp_s1 hF (i := .iconst 2) rfl (fun _ => rfl) ?_
  refine dp_s1 hF (i := .iadd) rfl (fun _ => rfl) ?_
  refine dp_s3 hF (i := .iaload) rfl (fun _ => rfl) ?_
  refine dp_s1 hF (i := .aload_n 0) rfl (fun _ => rfl) ?_
  refine dp_s1 hF (i := .iload 4) rfl (fun _ => rfl) ?_
  refine dp_s1 hF (i := .iconst 3) rfl (fun _ => rfl) ?_
  refine dp_s1 hF (i := .iadd) rfl (fun _ => rfl) ?_
  refine dp_s3 hF (i := .iaload) rfl (fun _ => rfl) ?_
  refine dp_s1 hF (i := .aload_n 0) rfl (fun _ => rfl) ?_
  refine dp_s1 hF (i := .iload 4) rfl (fun _ => rfl) ?_
  refine dp_s1 hF (i := .iconst 4) rfl (fun _ => rfl) ?_
  refine dp_s1 hF (i := .iadd) rfl (fun _ => rfl) ?_
  refine dp_s3 hF (i := .iaload) rfl (fun _ => rfl) ?_
  refine dp_s1 hF (i := .aload_n 0) rfl (fun _ => rfl) ?_
  refine dp_s1 hF (i := .iload 4) rfl (fun _ => rfl) ?_
  refine dp_s1 hF (i := .iconst 5) rfl (fun _ => rfl) ?_
  refine dp_s1 hF (i := .iadd) rfl (fun _ => rfl) ?_
  refine dp_s3 hF (i := .iaload) rfl (fun _ => rfl) ?_
  refine dp_s1 hF (i := .aload_n 0) rfl (fun _ => rfl) ?_
  refine dp_s1 hF (i := .iload 4) rfl (fun _ => rfl) ?_
  refine dp_s1 hF (i := .bipush 6) rfl (fun _ => rfl) ?_
  refine dp_s1 hF (i := .iadd) rfl (fun _ => rfl) ?_
  refine dp_s3 hF (i := .iaload) rfl (fun _ => rfl) ?_
  refine dp_s1 hF (i := .aload_n 0) rfl (fun _ => rfl) ?_
  refine dp_s1 hF (i := .iload 4) rfl (fun _ => rfl) ?_
  refine dp_s1 hF (i := .bipush 7) rfl (fun _ => rfl) ?_
  refine dp_s1 hF (i := .iadd) rfl (fun _ => rfl) ?_
  refine dp_s3 hF (i := .iaload) rfl (fun _ => rfl) ?_
  refine dp_si (mj := dp_m_X12_row) (i := .invokevirtual 342) rfl rfl (Or.inl rfl) rfl (fun _ => rfl) (fun r4 M3 => ?_)
  refine dp_s1 hF (i := .istore 6) rfl (fun _ => rfl) ?_
  refine dp_s1 hF (i := .aload_n 2) rfl (fun _ => rfl) ?_
  refine dp_si (mj := dp_m_X12_thrown) (i := .invokevirtual 229) rfl rfl (Or.inl rfl) rfl (fun _ => rfl) (fun r6 M5 => ?_)
  refine dp_s1 hF (i := .iload 5) rfl (fun _ => rfl) ?_
  refine dp_s2 hF (i := .if_icmp .eq 5) (a := (2508, [some (.retAddr 0), some (.ref 0), some (.ref 114), some (.ref 245), some (.int v4), some (.int r2), some (.int r4), u7], [], M5)) (b := (2506, [some (.retAddr 0), some (.ref 0), some (.ref 114), some (.ref 245), some (.int v4), some (.int r2), some (.int r4), u7], [], M5)) rfl (fun _ => rfl) ?_ ?_
  · refine dp_s1 hF (i := .iload 5) rfl (fun _ => rfl) ?_
    refine dp_s2 hF (i := .ifCond .ne 15) (a := (2513, [some (.retAddr 0), some (.ref 0), some (.ref 114), some (.ref 245), some (.int v4), some (.int r2), some (.int r4), u7], [], M5)) (b := (2525, [some (.retAddr 0), some (.ref 0), some (.ref 114), some (.ref 245), some (.int v4), some (.int r2), some (.int r4), u7], [], M5)) rfl (fun _ => rfl) ?_ ?_
    · refine dp_s1 hF (i := .aload_n 3) rfl (fun _ => rfl) ?_
      refine dp_s1 hF (i := .iconst 0) rfl (fun _ => rfl) ?_
      refine dp_s3 hF (i := .laload) rfl (fun _ => rfl) ?_
      refine dp_s1 hF (i := .iload 6) rfl (fun _ => rfl) ?_
      refine dp_s1 hF (i := .i2l) rfl (fun _ => rfl) ?_
      refine dp_s1 hF (i := .lcmp) rfl (fun _ => rfl) ?_
      refine dp_s2 hF (i := .ifCond .eq 5) (a := (2525, [some (.retAddr 0), some (.ref 0), some (.ref 114), some (.ref 245), some (.int v4), some (.int r2), some (.int r4), u7], [], M5)) (b := (2523, [some (.retAddr 0), some (.ref 0), some (.ref 114), some (.ref 245), some (.int v4), some (.int r2), some (.int r4), u7], [], M5)) rfl (fun _ => rfl) ?_ ?_
      · refine dp_s1 hF (i := .goto 3607) rfl (fun _ => rfl) ?_
        exact rfl
      refine dp_s1 hF (i := .iconst 0) rfl (fun _ => rfl) ?_
      exact dp_s0 hF (i := .ireturn) rfl (fun _ => rfl)
    refine dp_s1 hF (i := .goto 3607) rfl (fun _ => rfl) ?_
    exact rfl
  refine dp_s1 hF (i := .iconst 0) rfl (fun _ => rfl) ?_
  exact dp_s0 hF (i := .ireturn) rfl (fun _ => rfl)
set_option maxRecDepth 20000 in
theorem D_L_law_2528_eq (xs : Nat → Int32) (xl d : Nat) (v4 : Int32) (u5 : Option Value) (u6 : Option Value) (u7 : Option Value) (M : dp_M) : D_L_law_2528 xs xl d v4 u5 u6 u7 M = if (v4 + (1 : Int32)) < 0 ∨ xl ≤ Int32.toNatClampNeg (v4 + (1 : Int32)) then none else (if (v4 + (2 : Int32)) < 0 ∨ xl ≤ Int32.toNatClampNeg (v4 + (2 : Int32)) then none else (dp_bi (dp_den true xs xl d 301 [.ref 0, .int (xs (Int32.toNatClampNeg (v4 + (1 : Int32)))), .int (xs (Int32.toNatClampNeg (v4 + (2 : Int32))))] M) (fun r2 M1 => if (v4 + (1 : Int32)) < 0 ∨ xl ≤ Int32.toNatClampNeg (v4 + (1 : Int32)) then none else (if (v4 + (2 : Int32)) < 0 ∨ xl ≤ Int32.toNatClampNeg (v4 + (2 : Int32)) then none else (dp_bi (dp_den true xs xl d 454 [.ref 114, .int (xs (Int32.toNatClampNeg (v4 + (1 : Int32)))), .int (xs (Int32.toNatClampNeg (v4 + (2 : Int32))))] M1) (fun r4 M3 => if r2 = r4 then (D_L_law_6132 xs xl d v4 u5 u6 u7 M3) else (some (.inl (some (.int (0 : Int32))), M3)))))))) := by
  have hF := dp_den_grow (md := true) (xs := xs) (xl := xl) d
  unfold D_L_law_2528
  refine dp_s1 hF (i := .aload_n 1) rfl (fun _ => rfl) ?_
  refine dp_s1 hF (i := .aload_n 0) rfl (fun _ => rfl) ?_
  refine dp_s1 hF (i := .iload 4) rfl (fun _ => rfl) ?_
  refine dp_s1 hF (i := .iconst 1) rfl (fun _ => rfl) ?_
  refine dp_s1 hF (i := .iadd) rfl (fun _ => rfl) ?_
  refine dp_s3 hF (i := .iaload) rfl (fun _ => rfl) ?_
  refine dp_s1 hF (i := .aload_n 0) rfl (fun _ => rfl) ?_
  refine dp_s1 hF (i := .iload 4) rfl (fun _ => rfl) ?_
  refine dp_s1 hF (i := .iconst 2) rfl (fun _ => rfl) ?_
  refine dp_s1 hF (i := .iadd) rfl (fun _ => rfl) ?_
  refine dp_s3 hF (i := .iaload) rfl (fun _ => rfl) ?_
  refine dp_si (mj := dp_m_X11_exclude) (i := .invokevirtual 343) rfl rfl (Or.inr rfl) rfl (fun _ => rfl) (fun r2 M1 => ?_)
  refine dp_s1 hF (i := .aload_n 2) rfl (fun _ => rfl) ?_
  refine dp_s1 hF (i := .aload_n 0) rfl (fun _ => rfl) ?_
  refine dp_s1 hF (i := .iload 4) rfl (fun _ => rfl) ?_
  refine dp_s1 hF (i := .iconst 1) rfl (fun _ => rfl) ?_
  refine dp_s1 hF (i := .iadd) rfl (fun _ => rfl) ?_
  refine dp_s3 hF (i := .iaload) rfl (fun _ => rfl) ?_
  refine dp_s1 hF (i := .aload_n 0) rfl (fun _ => rfl) ?_
  refine dp_s1 hF (i := .iload 4) rfl (fun _ => rfl) ?_
  refine dp_s1 hF (i := .iconst 2) rfl (fun _ => rfl) ?_
  refine dp_s1 hF (i := .iadd) rfl (fun _ => rfl) ?_
  refine dp_s3 hF (i := .iaload) rfl (fun _ => rfl) ?_
  refine dp_si (mj := dp_m_X12_exclude) (i := .invokevirtual 346) rfl rfl (Or.inr rfl) rfl (fun _ => rfl) (fun r4 M3 => ?_)
  refine dp_s2 hF (i := .if_icmp .eq 3572) (a := (6132, [some (.retAddr 0), some (.ref 0), some (.ref 114), some (.ref 245), some (.int v4), u5, u6, u7], [], M3)) (b := (2563, [some (.retAddr 0), some (.ref 0), some (.ref 114), some (.ref 245), some (.int v4), u5, u6, u7], [], M3)) rfl (fun _ => rfl) ?_ ?_
  · exact rfl
  refine dp_s1 hF (i := .iconst 0) rfl (fun _ => rfl) ?_
  exact dp_s0 hF (i := .ireturn) rfl (fun _ => rfl)
set_option maxRecDepth 20000 in
theorem D_L_law_2565_eq (xs : Nat → Int32) (xl d : Nat) (v4 : Int32) (u5 : Option Value) (u6 : Option Value) (u7 : Option Value) (M : dp_M) : D_L_law_2565 xs xl d v4 u5 u6 u7 M = if (v4 + (1 : Int32)) < 0 ∨ xl ≤ Int32.toNatClampNeg (v4 + (1 : Int32)) then none else (if (v4 + (2 : Int32)) < 0 ∨ xl ≤ Int32.toNatClampNeg (v4 + (2 : Int32)) then none else (dp_bi (dp_den true xs xl d 302 [.ref 0, .int (xs (Int32.toNatClampNeg (v4 + (1 : Int32)))), .int (xs (Int32.toNatClampNeg (v4 + (2 : Int32))))] M) (fun r2 M1 => if (v4 + (1 : Int32)) < 0 ∨ xl ≤ Int32.toNatClampNeg (v4 + (1 : Int32)) then none else (if (v4 + (2 : Int32)) < 0 ∨ xl ≤ Int32.toNatClampNeg (v4 + (2 : Int32)) then none else (dp_bi (dp_den true xs xl d 455 [.ref 114, .int (xs (Int32.toNatClampNeg (v4 + (1 : Int32)))), .int (xs (Int32.toNatClampNeg (v4 + (2 : Int32))))] M1) (fun r4 M3 => if r2 = r4 then (D_L_law_6132 xs xl d v4 u5 u6 u7 M3) else (some (.inl (some (.int (0 : Int32))), M3)))))))) := by
  have hF := dp_den_grow (md := true) (xs := xs) (xl := xl) d
  unfold D_L_law_2565
  refine dp_s1 hF (i := .aload_n 1) rfl (fun _ => rfl) ?_
  refine dp_s1 hF (i := .aload_n 0) rfl (fun _ => rfl) ?_
  refine dp_s1 hF (i := .iload 4) rfl (fun _ => rfl) ?_
  refine dp_s1 hF (i := .iconst 1) rfl (fun _ => rfl) ?_
  refine dp_s1 hF (i := .iadd) rfl (fun _ => rfl) ?_
  refine dp_s3 hF (i := .iaload) rfl (fun _ => rfl) ?_
  refine dp_s1 hF (i := .aload_n 0) rfl (fun _ => rfl) ?_
  refine dp_s1 hF (i := .iload 4) rfl (fun _ => rfl) ?_
  refine dp_s1 hF (i := .iconst 2) rfl (fun _ => rfl) ?_
  refine dp_s1 hF (i := .iadd) rfl (fun _ => rfl) ?_
  refine dp_s3 hF (i := .iaload) rfl (fun _ => rfl) ?_
  refine dp_si (mj := dp_m_X11_condition) (i := .invokevirtual 347) rfl rfl (Or.inr rfl) rfl (fun _ => rfl) (fun r2 M1 => ?_)
  refine dp_s1 hF (i := .aload_n 2) rfl (fun _ => rfl) ?_
  refine dp_s1 hF (i := .aload_n 0) rfl (fun _ => rfl) ?_
  refine dp_s1 hF (i := .iload 4) rfl (fun _ => rfl) ?_
  refine dp_s1 hF (i := .iconst 1) rfl (fun _ => rfl) ?_
  refine dp_s1 hF (i := .iadd) rfl (fun _ => rfl) ?_
  refine dp_s3 hF (i := .iaload) rfl (fun _ => rfl) ?_
  refine dp_s1 hF (i := .aload_n 0) rfl (fun _ => rfl) ?_
  refine dp_s1 hF (i := .iload 4) rfl (fun _ => rfl) ?_
  refine dp_s1 hF (i := .iconst 2) rfl (fun _ => rfl) ?_
  refine dp_s1 hF (i := .iadd) rfl (fun _ => rfl) ?_
  refine dp_s3 hF (i := .iaload) rfl (fun _ => rfl) ?_
  refine dp_si (mj := dp_m_X12_condition) (i := .invokevirtual 350) rfl rfl (Or.inr rfl) rfl (fun _ => rfl) (fun r4 M3 => ?_)
  refine dp_s2 hF (i := .if_icmp .eq 3535) (a := (6132, [some (.retAddr 0), some (.ref 0), some (.ref 114), some (.ref 245), some (.int v4), u5, u6, u7], [], M3)) (b := (2600, [some (.retAddr 0), some (.ref 0), some (.ref 114), some (.ref 245), some (.int v4), u5, u6, u7], [], M3)) rfl (fun _ => rfl) ?_ ?_
  · exact rfl
  refine dp_s1 hF (i := .iconst 0) rfl (fun _ => rfl) ?_
  exact dp_s0 hF (i := .ireturn) rfl (fun _ => rfl)
set_option maxRecDepth 20000 in
theorem D_L_law_2602_eq (xs : Nat → Int32) (xl d : Nat) (v4 : Int32) (u5 : Option Value) (u6 : Option Value) (u7 : Option Value) (M : dp_M) : D_L_law_2602 xs xl d v4 u5 u6 u7 M = if (v4 + (1 : Int32)) < 0 ∨ xl ≤ Int32.toNatClampNeg (v4 + (1 : Int32)) then none else (if (v4 + (2 : Int32)) < 0 ∨ xl ≤ Int32.toNatClampNeg (v4 + (2 : Int32)) then none else (if (v4 + (3 : Int32)) < 0 ∨ xl ≤ Int32.toNatClampNeg (v4 + (3 : Int32)) then none else (dp_bi (dp_den true xs xl d 620 [.ref 0, .int (xs (Int32.toNatClampNeg (v4 + (1 : Int32)))), .int (xs (Int32.toNatClampNeg (v4 + (2 : Int32)))), .int (xs (Int32.toNatClampNeg (v4 + (3 : Int32)))), .ref 245] M) (fun r2 M1 => if (v4 + (1 : Int32)) < 0 ∨ xl ≤ Int32.toNatClampNeg (v4 + (1 : Int32)) then none else (if (v4 + (2 : Int32)) < 0 ∨ xl ≤ Int32.toNatClampNeg (v4 + (2 : Int32)) then none else (if (v4 + (3 : Int32)) < 0 ∨ xl ≤ Int32.toNatClampNeg (v4 + (3 : Int32)) then none else (dp_bi (dp_den true xs xl d 456 [.ref 114, .int (xs (Int32.toNatClampNeg (v4 + (1 : Int32)))), .int (xs (Int32.toNatClampNeg (v4 + (2 : Int32)))), .int (xs (Int32.toNatClampNeg (v4 + (3 : Int32))))] M1) (fun r4 M3 => dp_bi (dp_den true xs xl d 365 [.ref 114] M3) (fun r6 M5 => if r6 = r2 then (if r2 = 0 then (if (0 : Int32) < 0 ∨ 1 ≤ Int32.toNatClampNeg (0 : Int32) then none else (if (lg_cmp (dp_J M5 245 (Int32.toNatClampNeg (0 : Int32))) (Int32.toInt64 r4)) = 0 then (D_L_law_6132 xs xl d v4 (some (.int r2)) (some (.int r4)) u7 M5) else (some (.inl (some (.int (0 : Int32))), M5)))) else (D_L_law_6132 xs xl d v4 (some (.int r2)) (some (.int r4)) u7 M5)) else (some (.inl (some (.int (0 : Int32))), M5))))))))))) := by
  have hF := dp_den_grow (md := true) (xs := xs) (xl := xl) d
  unfold D_L_law_2602
  refine dp_s1 hF (i := .aload_n 1) rfl (fun _ => rfl) ?_
  refine dp_s1 hF (i := .aload_n 0) rfl (fun _ => rfl) ?_
  refine dp_s1 hF (i := .iload 4) rfl (fun _ => rfl) ?_
  refine dp_s1 hF (i := .iconst 1) rfl (fun _ => rfl) ?_
  refine dp_s1 hF (i := .iadd) rfl (fun _ => rfl) ?_
  refine dp_s3 hF (i := .iaload) rfl (fun _ => rfl) ?_
  refine dp_s1 hF (i := .aload_n 0) rfl (fun _ => rfl) ?_
  refine dp_s1 hF (i := .iload 4) rfl (fun _ => rfl) ?_
  refine dp_s1 hF (i := .iconst 2) rfl (fun _ => rfl) ?_
  refine dp_s1 hF (i := .iadd) rfl (fun _ => rfl) ?_
  refine dp_s3 hF (i := .iaload) rfl (fun _ => rfl) ?_
  refine dp_s1 hF (i := .aload_n 0) rfl (fun _ => rfl) ?_
  refine dp_s1 hF (i := .iload 4) rfl (fun _ => rfl) ?_
  refine dp_s1 hF (i := .iconst 3) rfl (fun _ => rfl) ?_
  refine dp_s1 hF (i := .iadd) rfl (fun _ => rfl) ?_
  refine dp_s3 hF (i := .iaload) rfl (fun _ => rfl) ?_
  refine dp_s1 hF (i := .aload_n 3) rfl (fun _ => rfl) ?_
  refine dp_si (mj := dp_m_L_end) (i := .invokestatic 351) rfl rfl (Or.inl rfl) rfl (fun _ => rfl) (fun r2 M1 => ?_)
  refine dp_s1 hF (i := .istore 5) rfl (fun _ => rfl) ?_
  refine dp_s1 hF (i := .aload_n 2) rfl (fun _ => rfl) ?_
  refine dp_s1 hF (i := .aload_n 0) rfl (fun _ => rfl) ?_
  refine dp_s1 hF (i := .iload 4) rfl (fun _ => rfl) ?_
  refine dp_s1 hF (i := .iconst 1) rfl (fun _ => rfl) ?_
  refine dp_s1 hF (i := .iadd) rfl (fun _ => rfl) ?_
  refine dp_s3 hF (i := .iaload) rfl (fun _ => rfl) ?_
  refine dp_s1 hF (i := .aload_n 0) rfl (fun _ => rfl) ?_
  refine dp_s1 hF (i := .iload 4) rfl (fun _ => rfl) ?_
  refine dp_s1 hF (i := .iconst 2) rfl (fun _ => rfl) ?_
  refine dp_s1 hF (i := .iadd) rfl (fun _ => rfl) ?_
  refine dp_s3 hF (i := .iaload) rfl (fun _ => rfl) ?_
  refine dp_s1 hF (i := .aload_n 0) rfl (fun _ => rfl) ?_
  refine dp_s1 hF (i := .iload 4) rfl (fun _ => rfl) ?_
  refine dp_s1 hF (i := .iconst 3) rfl (fun _ => rfl) ?_
  refine dp_s1 hF (i := .iadd) rfl (fun _ => rfl) ?_
  refine dp_s3 hF (i := .iaload) rfl (fun _ => rfl) ?_
  refine dp_si (mj := dp_m_X12_end) (i := .invokevirtual 353) rfl rfl (Or.inl rfl) rfl (fun _ => rfl) (fun r4 M3 => ?_)
  refine dp_s1 hF (i := .istore 6) rfl (fun _ => rfl) ?_
  refine dp_s1 hF (i := .aload_n 2) rfl (fun _ => rfl) ?_
  refine dp_si (mj := dp_m_X12_thrown) (i := .invokevirtual 229) rfl rfl (Or.inl rfl) rfl (fun _ => rfl) (fun r6 M5 => ?_)
  refine dp_s1 hF (i := .iload 5) rfl (fun _ => rfl) ?_
  refine dp_s2 hF (i := .if_icmp .eq 5) (a := (2662, [some (.retAddr 0), some (.ref 0), some (.ref 114), some (.ref 245), some (.int v4), some (.int r2), some (.int r4), u7], [], M5)) (b := (2660, [some (.retAddr 0), some (.ref 0), some (.ref 114), some (.ref 245), some (.int v4), some (.int r2), some (.int r4), u7], [], M5)) rfl (fun _ => rfl) ?_ ?_
  · refine dp_s1 hF (i := .iload 5) rfl (fun _ => rfl) ?_
    refine dp_s2 hF (i := .ifCond .ne 15) (a := (2667, [some (.retAddr 0), some (.ref 0), some (.ref 114), some (.ref 245), some (.int v4), some (.int r2), some (.int r4), u7], [], M5)) (b := (2679, [some (.retAddr 0), some (.ref 0), some (.ref 114), some (.ref 245), some (.int v4), some (.int r2), some (.int r4), u7], [], M5)) rfl (fun _ => rfl) ?_ ?_
    · refine dp_s1 hF (i := .aload_n 3) rfl (fun _ => rfl) ?_
      refine dp_s1 hF (i := .iconst 0) rfl (fun _ => rfl) ?_
      refine dp_s3 hF (i := .laload) rfl (fun _ => rfl) ?_
      refine dp_s1 hF (i := .iload 6) rfl (fun _ => rfl) ?_
      refine dp_s1 hF (i := .i2l) rfl (fun _ => rfl) ?_
      refine dp_s1 hF (i := .lcmp) rfl (fun _ => rfl) ?_
      refine dp_s2 hF (i := .ifCond .eq 5) (a := (2679, [some (.retAddr 0), some (.ref 0), some (.ref 114), some (.ref 245), some (.int v4), some (.int r2), some (.int r4), u7], [], M5)) (b := (2677, [some (.retAddr 0), some (.ref 0), some (.ref 114), some (.ref 245), some (.int v4), some (.int r2), some (.int r4), u7], [], M5)) rfl (fun _ => rfl) ?_ ?_
      · refine dp_s1 hF (i := .goto 3453) rfl (fun _ => rfl) ?_
        exact rfl
      refine dp_s1 hF (i := .iconst 0) rfl (fun _ => rfl) ?_
      exact dp_s0 hF (i := .ireturn) rfl (fun _ => rfl)
    refine dp_s1 hF (i := .goto 3453) rfl (fun _ => rfl) ?_
    exact rfl
  refine dp_s1 hF (i := .iconst 0) rfl (fun _ => rfl) ?_
  exact dp_s0 hF (i := .ireturn) rfl (fun _ => rfl)
set_option maxRecDepth 20000 in
theorem D_L_law_2682_eq (xs : Nat → Int32) (xl d : Nat) (v4 : Int32) (u5 : Option Value) (u6 : Option Value) (u7 : Option Value) (M : dp_M) : D_L_law_2682 xs xl d v4 u5 u6 u7 M = if (v4 + (1 : Int32)) < 0 ∨ xl ≤ Int32.toNatClampNeg (v4 + (1 : Int32)) then none else (dp_bv (dp_den true xs xl d 304 [.ref 0, .int (xs (Int32.toNatClampNeg (v4 + (1 : Int32))))] M) (fun M1 => if (v4 + (1 : Int32)) < 0 ∨ xl ≤ Int32.toNatClampNeg (v4 + (1 : Int32)) then none else (dp_bv (dp_den true xs xl d 457 [.ref 114, .int (xs (Int32.toNatClampNeg (v4 + (1 : Int32))))] M1) (fun M2 => D_L_law_6132 xs xl d v4 u5 u6 u7 M2)))) := by
  have hF := dp_den_grow (md := true) (xs := xs) (xl := xl) d
  unfold D_L_law_2682
  refine dp_s1 hF (i := .aload_n 1) rfl (fun _ => rfl) ?_
  refine dp_s1 hF (i := .aload_n 0) rfl (fun _ => rfl) ?_
  refine dp_s1 hF (i := .iload 4) rfl (fun _ => rfl) ?_
  refine dp_s1 hF (i := .iconst 1) rfl (fun _ => rfl) ?_
  refine dp_s1 hF (i := .iadd) rfl (fun _ => rfl) ?_
  refine dp_s3 hF (i := .iaload) rfl (fun _ => rfl) ?_
  refine dp_sv (mj := dp_m_X11_papers) (i := .invokevirtual 354) rfl rfl rfl rfl (fun _ => rfl) (fun M1 => ?_)
  refine dp_s1 hF (i := .aload_n 2) rfl (fun _ => rfl) ?_
  refine dp_s1 hF (i := .aload_n 0) rfl (fun _ => rfl) ?_
  refine dp_s1 hF (i := .iload 4) rfl (fun _ => rfl) ?_
  refine dp_s1 hF (i := .iconst 1) rfl (fun _ => rfl) ?_
  refine dp_s1 hF (i := .iadd) rfl (fun _ => rfl) ?_
  refine dp_s3 hF (i := .iaload) rfl (fun _ => rfl) ?_
  refine dp_sv (mj := dp_m_X12_papers) (i := .invokevirtual 358) rfl rfl rfl rfl (fun _ => rfl) (fun M2 => ?_)
  refine dp_s1 hF (i := .goto 3430) rfl (fun _ => rfl) ?_
  exact rfl
set_option maxRecDepth 20000 in
theorem D_L_law_2705_eq (xs : Nat → Int32) (xl d : Nat) (v4 : Int32) (u5 : Option Value) (u6 : Option Value) (u7 : Option Value) (M : dp_M) : D_L_law_2705 xs xl d v4 u5 u6 u7 M = if (v4 + (1 : Int32)) < 0 ∨ xl ≤ Int32.toNatClampNeg (v4 + (1 : Int32)) then none else (if (v4 + (2 : Int32)) < 0 ∨ xl ≤ Int32.toNatClampNeg (v4 + (2 : Int32)) then none else (if (v4 + (3 : Int32)) < 0 ∨ xl ≤ Int32.toNatClampNeg (v4 + (3 : Int32)) then none else (if (v4 + (4 : Int32)) < 0 ∨ xl ≤ Int32.toNatClampNeg (v4 + (4 : Int32)) then none else (dp_bi (dp_den true xs xl d 621 [.ref 0, .int (xs (Int32.toNatClampNeg (v4 + (1 : Int32)))), .int (xs (Int32.toNatClampNeg (v4 + (2 : Int32)))), .int (xs (Int32.toNatClampNeg (v4 + (3 : Int32)))), .int (xs (Int32.toNatClampNeg (v4 + (4 : Int32)))), .ref 245] M) (fun r2 M1 => if (v4 + (1 : Int32)) < 0 ∨ xl ≤ Int32.toNatClampNeg (v4 + (1 : Int32)) then none else (if (v4 + (2 : Int32)) < 0 ∨ xl ≤ Int32.toNatClampNeg (v4 + (2 : Int32)) then none else (if (v4 + (3 : Int32)) < 0 ∨ xl ≤ Int32.toNatClampNeg (v4 + (3 : Int32)) then none else (if (v4 + (4 : Int32)) < 0 ∨ xl ≤ Int32.toNatClampNeg (v4 + (4 : Int32)) then none else (dp_bi (dp_den true xs xl d 463 [.ref 114, .int (xs (Int32.toNatClampNeg (v4 + (1 : Int32)))), .int (xs (Int32.toNatClampNeg (v4 + (2 : Int32)))), .int (xs (Int32.toNatClampNeg (v4 + (3 : Int32)))), .int (xs (Int32.toNatClampNeg (v4 + (4 : Int32))))] M1) (fun r4 M3 => dp_bi (dp_den true xs xl d 365 [.ref 114] M3) (fun r6 M5 => if r6 = r2 then (if r2 = 0 then (if (0 : Int32) < 0 ∨ 1 ≤ Int32.toNatClampNeg (0 : Int32) then none else (if (lg_cmp (dp_J M5 245 (Int32.toNatClampNeg (0 : Int32))) (Int32.toInt64 r4)) = 0 then (D_L_law_6132 xs xl d v4 (some (.int r2)) (some (.int r4)) u7 M5) else (some (.inl (some (.int (0 : Int32))), M5)))) else (D_L_law_6132 xs xl d v4 (some (.int r2)) (some (.int r4)) u7 M5)) else (some (.inl (some (.int (0 : Int32))), M5))))))))))))) := by
  have hF := dp_den_grow (md := true) (xs := xs) (xl := xl) d
  unfold D_L_law_2705
  refine dp_s1 hF (i := .aload_n 1) rfl (fun _ => rfl) ?_
  refine dp_s1 hF (i := .aload_n 0) rfl (fun _ => rfl) ?_
  refine dp_s1 hF (i := .iload 4) rfl (fun _ => rfl) ?_
  refine dp_s1 hF (i := .iconst 1) rfl (fun _ => rfl) ?_
  refine dp_s1 hF (i := .iadd) rfl (fun _ => rfl) ?_
  refine dp_s3 hF (i := .iaload) rfl (fun _ => rfl) ?_
  refine dp_s1 hF (i := .aload_n 0) rfl (fun _ => rfl) ?_
  refine dp_s1 hF (i := .iload 4) rfl (fun _ => rfl) ?_
  refine dp_s1 hF (i := .iconst 2) rfl (fun _ => rfl) ?_
  refine dp_s1 hF (i := .iadd) rfl (fun _ => rfl) ?_
  refine dp_s3 hF (i := .iaload) rfl (fun _ => rfl) ?_
  refine dp_s1 hF (i := .aload_n 0) rfl (fun _ => rfl) ?_
  refine dp_s1 hF (i := .iload 4) rfl (fun _ => rfl) ?_
  refine dp_s1 hF (i := .iconst 3) rfl (fun _ => rfl) ?_
  refine dp_s1 hF (i := .iadd) rfl (fun _ => rfl) ?_
  refine dp_s3 hF (i := .iaload) rfl (fun _ => rfl) ?_
  refine dp_s1 hF (i := .aload_n 0) rfl (fun _ => rfl) ?_
  refine dp_s1 hF (i := .iload 4) rfl (fun _ => rfl) ?_
  refine dp_s1 hF (i := .iconst 4) rfl (fun _ => rfl) ?_
  refine dp_s1 hF (i := .iadd) rfl (fun _ => rfl) ?_
  refine dp_s3 hF (i := .iaload) rfl (fun _ => rfl) ?_
  refine dp_s1 hF (i := .aload_n 3) rfl (fun _ => rfl) ?_
  refine dp_si (mj := dp_m_L_apply) (i := .invokestatic 359) rfl rfl (Or.inl rfl) rfl (fun _ => rfl) (fun r2 M1 => ?_)
  refine dp_s1 hF (i := .istore 5) rfl (fun _ => rfl) ?_
  refine dp_s1 hF (i := .aload_n 2) rfl (fun _ => rfl) ?_
  refine dp_s1 hF (i := .aload_n 0) rfl (fun _ => rfl) ?_
  refine dp_s1 hF (i := .iload 4) rfl (fun _ => rfl) ?_
  refine dp_s1 hF (i := .iconst 1) rfl (fun _ => rfl) ?_
  refine dp_s1 hF (i := .iadd) rfl (fun _ => rfl) ?_
  refine dp_s3 hF (i := .iaload) rfl (fun _ => rfl) ?_
  refine dp_s1 hF (i := .aload_n 0) rfl (fun _ => rfl) ?_
  refine dp_s1 hF (i := .iload 4) rfl (fun _ => rfl) ?_
  refine dp_s1 hF (i := .iconst 2) rfl (fun _ => rfl) ?_
  refine dp_s1 hF (i := .iadd) rfl (fun _ => rfl) ?_
  refine dp_s3 hF (i := .iaload) rfl (fun _ => rfl) ?_
  refine dp_s1 hF (i := .aload_n 0) rfl (fun _ => rfl) ?_
  refine dp_s1 hF (i := .iload 4) rfl (fun _ => rfl) ?_
  refine dp_s1 hF (i := .iconst 3) rfl (fun _ => rfl) ?_
  refine dp_s1 hF (i := .iadd) rfl (fun _ => rfl) ?_
  refine dp_s3 hF (i := .iaload) rfl (fun _ => rfl) ?_
  refine dp_s1 hF (i := .aload_n 0) rfl (fun _ => rfl) ?_
  refine dp_s1 hF (i := .iload 4) rfl (fun _ => rfl) ?_
  refine dp_s1 hF (i := .iconst 4) rfl (fun _ => rfl) ?_
  refine dp_s1 hF (i := .iadd) rfl (fun _ => rfl) ?_
  refine dp_s3 hF (i := .iaload) rfl (fun _ => rfl) ?_
  refine dp_si (mj := dp_m_X12_apply) (i := .invokevirtual 361) rfl rfl (Or.inl rfl) rfl (fun _ => rfl) (fun r4 M3 => ?_)
  refine dp_s1 hF (i := .istore 6) rfl (fun _ => rfl) ?_
  refine dp_s1 hF (i := .aload_n 2) rfl (fun _ => rfl) ?_
  refine dp_si (mj := dp_m_X12_thrown) (i := .invokevirtual 229) rfl rfl (Or.inl rfl) rfl (fun _ => rfl) (fun r6 M5 => ?_)
  refine dp_s1 hF (i := .iload 5) rfl (fun _ => rfl) ?_
  refine dp_s2 hF (i := .if_icmp .eq 5) (a := (2777, [some (.retAddr 0), some (.ref 0), some (.ref 114), some (.ref 245), some (.int v4), some (.int r2), some (.int r4), u7], [], M5)) (b := (2775, [some (.retAddr 0), some (.ref 0), some (.ref 114), some (.ref 245), some (.int v4), some (.int r2), some (.int r4), u7], [], M5)) rfl (fun _ => rfl) ?_ ?_
  · refine dp_s1 hF (i := .iload 5) rfl (fun _ => rfl) ?_
    refine dp_s2 hF (i := .ifCond .ne 15) (a := (2782, [some (.retAddr 0), some (.ref 0), some (.ref 114), some (.ref 245), some (.int v4), some (.int r2), some (.int r4), u7], [], M5)) (b := (2794, [some (.retAddr 0), some (.ref 0), some (.ref 114), some (.ref 245), some (.int v4), some (.int r2), some (.int r4), u7], [], M5)) rfl (fun _ => rfl) ?_ ?_
    · refine dp_s1 hF (i := .aload_n 3) rfl (fun _ => rfl) ?_
      refine dp_s1 hF (i := .iconst 0) rfl (fun _ => rfl) ?_
      refine dp_s3 hF (i := .laload) rfl (fun _ => rfl) ?_
      refine dp_s1 hF (i := .iload 6) rfl (fun _ => rfl) ?_
      refine dp_s1 hF (i := .i2l) rfl (fun _ => rfl) ?_
      refine dp_s1 hF (i := .lcmp) rfl (fun _ => rfl) ?_
      refine dp_s2 hF (i := .ifCond .eq 5) (a := (2794, [some (.retAddr 0), some (.ref 0), some (.ref 114), some (.ref 245), some (.int v4), some (.int r2), some (.int r4), u7], [], M5)) (b := (2792, [some (.retAddr 0), some (.ref 0), some (.ref 114), some (.ref 245), some (.int v4), some (.int r2), some (.int r4), u7], [], M5)) rfl (fun _ => rfl) ?_ ?_
      · refine dp_s1 hF (i := .goto 3338) rfl (fun _ => rfl) ?_
        exact rfl
      refine dp_s1 hF (i := .iconst 0) rfl (fun _ => rfl) ?_
      exact dp_s0 hF (i := .ireturn) rfl (fun _ => rfl)
    refine dp_s1 hF (i := .goto 3338) rfl (fun _ => rfl) ?_
    exact rfl
  refine dp_s1 hF (i := .iconst 0) rfl (fun _ => rfl) ?_
  exact dp_s0 hF (i := .ireturn) rfl (fun _ => rfl)
set_option maxRecDepth 20000 in
theorem D_L_law_2797_eq (xs : Nat → Int32) (xl d : Nat) (v4 : Int32) (u5 : Option Value) (u6 : Option Value) (u7 : Option Value) (M : dp_M) : D_L_law_2797 xs xl d v4 u5 u6 u7 M = if (v4 + (1 : Int32)) < 0 ∨ xl ≤ Int32.toNatClampNeg (v4 + (1 : Int32)) then none else (dp_bi (dp_den true xs xl d 306 [.ref 0, .int (xs (Int32.toNatClampNeg (v4 + (1 : Int32))))] M) (fun r2 M1 => if (v4 + (1 : Int32)) < 0 ∨ xl ≤ Int32.toNatClampNeg (v4 + (1 : Int32)) then none else (dp_bi (dp_den true xs xl d 464 [.ref 114, .int (xs (Int32.toNatClampNeg (v4 + (1 : Int32))))] M1) (fun r4 M3 => if r2 = r4 then (D_L_law_6132 xs xl d v4 u5 u6 u7 M3) else (some (.inl (some (.int (0 : Int32))), M3)))))) := by
  have hF := dp_den_grow (md := true) (xs := xs) (xl := xl) d
  unfold D_L_law_2797
  refine dp_s1 hF (i := .aload_n 1) rfl (fun _ => rfl) ?_
  refine dp_s1 hF (i := .aload_n 0) rfl (fun _ => rfl) ?_
  refine dp_s1 hF (i := .iload 4) rfl (fun _ => rfl) ?_
  refine dp_s1 hF (i := .iconst 1) rfl (fun _ => rfl) ?_
  refine dp_s1 hF (i := .iadd) rfl (fun _ => rfl) ?_
  refine dp_s3 hF (i := .iaload) rfl (fun _ => rfl) ?_
  refine dp_si (mj := dp_m_X11_listed) (i := .invokevirtual 362) rfl rfl (Or.inl rfl) rfl (fun _ => rfl) (fun r2 M1 => ?_)
  refine dp_s1 hF (i := .aload_n 2) rfl (fun _ => rfl) ?_
  refine dp_s1 hF (i := .aload_n 0) rfl (fun _ => rfl) ?_
  refine dp_s1 hF (i := .iload 4) rfl (fun _ => rfl) ?_
  refine dp_s1 hF (i := .iconst 1) rfl (fun _ => rfl) ?_
  refine dp_s1 hF (i := .iadd) rfl (fun _ => rfl) ?_
  refine dp_s3 hF (i := .iaload) rfl (fun _ => rfl) ?_
  refine dp_si (mj := dp_m_X12_listed) (i := .invokevirtual 365) rfl rfl (Or.inl rfl) rfl (fun _ => rfl) (fun r4 M3 => ?_)
  refine dp_s2 hF (i := .if_icmp .eq 3315) (a := (6132, [some (.retAddr 0), some (.ref 0), some (.ref 114), some (.ref 245), some (.int v4), u5, u6, u7], [], M3)) (b := (2820, [some (.retAddr 0), some (.ref 0), some (.ref 114), some (.ref 245), some (.int v4), u5, u6, u7], [], M3)) rfl (fun _ => rfl) ?_ ?_
  · exact rfl
  refine dp_s1 hF (i := .iconst 0) rfl (fun _ => rfl) ?_
  exact dp_s0 hF (i := .ireturn) rfl (fun _ => rfl)
set_option maxRecDepth 20000 in
theorem D_L_law_2822_eq (xs : Nat → Int32) (xl d : Nat) (v4 : Int32) (u5 : Option Value) (u6 : Option Value) (u7 : Option Value) (M : dp_M) : D_L_law_2822 xs xl d v4 u5 u6 u7 M = if (v4 + (1 : Int32)) < 0 ∨ xl ≤ Int32.toNatClampNeg (v4 + (1 : Int32)) then none else (if (v4 + (2 : Int32)) < 0 ∨ xl ≤ Int32.toNatClampNeg (v4 + (2 : Int32)) then none else (if (v4 + (3 : Int32)) < 0 ∨ xl ≤ Int32.toNatClampNeg (v4 + (3 : Int32)) then none else (dp_bi (dp_den true xs xl d 307 [.ref 0, .long (((Int32.toInt64 (xs (Int32.toNatClampNeg (v4 + (1 : Int32))))) <<< (Int32.toInt64 (32 : Int32) &&& 63)) ||| ((Int32.toInt64 (xs (Int32.toNatClampNeg (v4 + (2 : Int32))))) &&& (4294967295 : Int64))), .int (xs (Int32.toNatClampNeg (v4 + (3 : Int32))))] M) (fun r2 M1 => if (v4 + (1 : Int32)) < 0 ∨ xl ≤ Int32.toNatClampNeg (v4 + (1 : Int32)) then none else (if (v4 + (2 : Int32)) < 0 ∨ xl ≤ Int32.toNatClampNeg (v4 + (2 : Int32)) then none else (if (v4 + (3 : Int32)) < 0 ∨ xl ≤ Int32.toNatClampNeg (v4 + (3 : Int32)) then none else (dp_bi (dp_den true xs xl d 465 [.ref 114, .long (((Int32.toInt64 (xs (Int32.toNatClampNeg (v4 + (1 : Int32))))) <<< (Int32.toInt64 (32 : Int32) &&& 63)) ||| ((Int32.toInt64 (xs (Int32.toNatClampNeg (v4 + (2 : Int32))))) &&& (4294967295 : Int64))), .int (xs (Int32.toNatClampNeg (v4 + (3 : Int32))))] M1) (fun r4 M3 => if r2 = r4 then (D_L_law_6132 xs xl d v4 u5 u6 u7 M3) else (some (.inl (some (.int (0 : Int32))), M3)))))))))) := by
  have hF := dp_den_grow (md := true) (xs := xs) (xl := xl) d
  unfold D_L_law_2822
  refine dp_s1 hF (i := .aload_n 1) rfl (fun _ => rfl) ?_
  refine dp_s1 hF (i := .aload_n 0) rfl (fun _ => rfl) ?_
  refine dp_s1 hF (i := .iload 4) rfl (fun _ => rfl) ?_
  refine dp_s1 hF (i := .iconst 1) rfl (fun _ => rfl) ?_
  refine dp_s1 hF (i := .iadd) rfl (fun _ => rfl) ?_
  refine dp_s3 hF (i := .iaload) rfl (fun _ => rfl) ?_
  refine dp_s1 hF (i := .i2l) rfl (fun _ => rfl) ?_
  refine dp_s1 hF (i := .bipush 32) rfl (fun _ => rfl) ?_
  refine dp_s1 hF (i := .lshl) rfl (fun _ => rfl) ?_
  refine dp_s1 hF (i := .aload_n 0) rfl (fun _ => rfl) ?_
  refine dp_s1 hF (i := .iload 4) rfl (fun _ => rfl) ?_
  refine dp_s1 hF (i := .iconst 2) rfl (fun _ => rfl) ?_
  refine dp_s1 hF (i := .iadd) rfl (fun _ => rfl) ?_
  refine dp_s3 hF (i := .iaload) rfl (fun _ => rfl) ?_
  refine dp_s1 hF (i := .i2l) rfl (fun _ => rfl) ?_
  refine dp_s1 hF (i := .ldc2_w 366) rfl (fun _ => rfl) ?_
  refine dp_s1 hF (i := .land) rfl (fun _ => rfl) ?_
  refine dp_s1 hF (i := .lor) rfl (fun _ => rfl) ?_
  refine dp_s1 hF (i := .aload_n 0) rfl (fun _ => rfl) ?_
  refine dp_s1 hF (i := .iload 4) rfl (fun _ => rfl) ?_
  refine dp_s1 hF (i := .iconst 3) rfl (fun _ => rfl) ?_
  refine dp_s1 hF (i := .iadd) rfl (fun _ => rfl) ?_
  refine dp_s3 hF (i := .iaload) rfl (fun _ => rfl) ?_
  refine dp_si (mj := dp_m_X11_type) (i := .invokevirtual 368) rfl rfl (Or.inr rfl) rfl (fun _ => rfl) (fun r2 M1 => ?_)
  refine dp_s1 hF (i := .aload_n 2) rfl (fun _ => rfl) ?_
  refine dp_s1 hF (i := .aload_n 0) rfl (fun _ => rfl) ?_
  refine dp_s1 hF (i := .iload 4) rfl (fun _ => rfl) ?_
  refine dp_s1 hF (i := .iconst 1) rfl (fun _ => rfl) ?_
  refine dp_s1 hF (i := .iadd) rfl (fun _ => rfl) ?_
  refine dp_s3 hF (i := .iaload) rfl (fun _ => rfl) ?_
  refine dp_s1 hF (i := .i2l) rfl (fun _ => rfl) ?_
  refine dp_s1 hF (i := .bipush 32) rfl (fun _ => rfl) ?_
  refine dp_s1 hF (i := .lshl) rfl (fun _ => rfl) ?_
  refine dp_s1 hF (i := .aload_n 0) rfl (fun _ => rfl) ?_
  refine dp_s1 hF (i := .iload 4) rfl (fun _ => rfl) ?_
  refine dp_s1 hF (i := .iconst 2) rfl (fun _ => rfl) ?_
  refine dp_s1 hF (i := .iadd) rfl (fun _ => rfl) ?_
  refine dp_s3 hF (i := .iaload) rfl (fun _ => rfl) ?_
  refine dp_s1 hF (i := .i2l) rfl (fun _ => rfl) ?_
  refine dp_s1 hF (i := .ldc2_w 366) rfl (fun _ => rfl) ?_
  refine dp_s1 hF (i := .land) rfl (fun _ => rfl) ?_
  refine dp_s1 hF (i := .lor) rfl (fun _ => rfl) ?_
  refine dp_s1 hF (i := .aload_n 0) rfl (fun _ => rfl) ?_
  refine dp_s1 hF (i := .iload 4) rfl (fun _ => rfl) ?_
  refine dp_s1 hF (i := .iconst 3) rfl (fun _ => rfl) ?_
  refine dp_s1 hF (i := .iadd) rfl (fun _ => rfl) ?_
  refine dp_s3 hF (i := .iaload) rfl (fun _ => rfl) ?_
  refine dp_si (mj := dp_m_X12_type) (i := .invokevirtual 372) rfl rfl (Or.inr rfl) rfl (fun _ => rfl) (fun r4 M3 => ?_)
  refine dp_s2 hF (i := .if_icmp .eq 3246) (a := (6132, [some (.retAddr 0), some (.ref 0), some (.ref 114), some (.ref 245), some (.int v4), u5, u6, u7], [], M3)) (b := (2889, [some (.retAddr 0), some (.ref 0), some (.ref 114), some (.ref 245), some (.int v4), u5, u6, u7], [], M3)) rfl (fun _ => rfl) ?_ ?_
  · exact rfl
  refine dp_s1 hF (i := .iconst 0) rfl (fun _ => rfl) ?_
  exact dp_s0 hF (i := .ireturn) rfl (fun _ => rfl)
