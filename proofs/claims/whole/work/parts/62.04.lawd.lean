set_option maxRecDepth 20000 in
theorem D_L_law_5355_eq (xs : Nat → Int32) (xl d : Nat) (v4 : Int32) (u5 : Option Value) (u6 : Option Value) (u7 : Option Value) (M : dp_M) : D_L_law_5355 xs xl d v4 u5 u6 u7 M = if (v4 + (1 : Int32)) < 0 ∨ xl ≤ Int32.toNatClampNeg (v4 + (1 : Int32)) then none else (if (v4 + (2 : Int32)) < 0 ∨ xl ≤ Int32.toNatClampNeg (v4 + (2 : Int32)) then none else (if (v4 + (3 : Int32)) < 0 ∨ xl ≤ Int32.toNatClampNeg (v4 + (3 : Int32)) then none else (if (v4 + (4 : Int32)) < 0 ∨ xl ≤ Int32.toNatClampNeg (v4 + (4 : Int32)) then none else (dp_bi (dp_den true xs xl d 349 [.ref 0, .int (xs (Int32.toNatClampNeg (v4 + (1 : Int32)))), .int (xs (Int32.toNatClampNeg (v4 + (2 : Int32)))), .long (((Int32.toInt64 (xs (Int32.toNatClampNeg (v4 + (3 : Int32))))) <<< (Int32.toInt64 (32 : Int32) &&& 63)) ||| ((Int32.toInt64 (xs (Int32.toNatClampNeg (v4 + (4 : Int32))))) &&& (4294967295 : Int64)))] M) (fun r2 M1 => if (v4 + (1 : Int32)) < 0 ∨ xl ≤ Int32.toNatClampNeg (v4 + (1 : Int32)) then none else (if (v4 + (2 : Int32)) < 0 ∨ xl ≤ Int32.toNatClampNeg (v4 + (2 : Int32)) then none else (if (v4 + (3 : Int32)) < 0 ∨ xl ≤ Int32.toNatClampNeg (v4 + (3 : Int32)) then none else (if (v4 + (4 : Int32)) < 0 ∨ xl ≤ Int32.toNatClampNeg (v4 + (4 : Int32)) then none else (dp_bi (dp_den true xs xl d 569 [.ref 114, .int (xs (Int32.toNatClampNeg (v4 + (1 : Int32)))), .int (xs (Int32.toNatClampNeg (v4 + (2 : Int32)))), .long (((Int32.toInt64 (xs (Int32.toNatClampNeg (v4 + (3 : Int32))))) <<< (Int32.toInt64 (32 : Int32) &&& 63)) ||| ((Int32.toInt64 (xs (Int32.toNatClampNeg (v4 + (4 : Int32))))) &&& (4294967295 : Int64)))] M1) (fun r4 M3 => if r2 = r4 then (D_L_law_6132 xs xl d v4 u5 u6 u7 M3) else (some (.inl (some (.int (0 : Int32))), M3)))))))))))) := by
  have hF := dp_den_grow (md := true) (xs := xs) (xl := xl) d
  unfold D_L_law_5355
  refine dp_s1 hF (i := .aload_n 1) rfl (fun _ => rfl) ?_
  refine dp_s1 hF (i := .aload_n 0) rfl (fun _ => rfl) ?_
  refine dp_s1 hF (i := .iload 4) rfl (fun _ => rfl) ?_
  refine dp_s1 hF (i := .iconst 1) rfl (fun _ => rfl) ?_
  refine dp_s1 hF (i := .iadd) rfl (fun _ => rfl) ?_
  refine dp_s3 hF (i := .iaload) rfl (fun _ => rfl) ?_
  refine dp_s1 hF (i := .aload_n 0) rfl (fun _ => rfl) ?_
  refine dp_s1 hF (i := .iload 4) rfl (fun _ => rfl) ?_
  refine dp_s1 hF (i := .iconst 2) rfl (fun _ => rfl) ?_
  refine dp_s1 hF (i := .iadd) rfl (fun _ => rfl) ?_
  refine dp_s3 hF (i := .iaload) rfl (fun _ => rfl) ?_
  refine dp_s1 hF (i := .aload_n 0) rfl (fun _ => rfl) ?_
  refine dp_s1 hF (i := .iload 4) rfl (fun _ => rfl) ?_
  refine dp_s1 hF (i := .iconst 3) rfl (fun _ => rfl) ?_
  refine dp_s1 hF (i := .iadd) rfl (fun _ => rfl) ?_
  refine dp_s3 hF (i := .iaload) rfl (fun _ => rfl) ?_
  refine dp_s1 hF (i := .i2l) rfl (fun _ => rfl) ?_
  refine dp_s1 hF (i := .bipush 32) rfl (fun _ => rfl) ?_
  refine dp_s1 hF (i := .lshl) rfl (fun _ => rfl) ?_
  refine dp_s1 hF (i := .aload_n 0) rfl (fun _ => rfl) ?_
  refine dp_s1 hF (i := .iload 4) rfl (fun _ => rfl) ?_
  refine dp_s1 hF (i := .iconst 4) rfl (fun _ => rfl) ?_
  refine dp_s1 hF (i := .iadd) rfl (fun _ => rfl) ?_
  refine dp_s3 hF (i := .iaload) rfl (fun _ => rfl) ?_
  refine dp_s1 hF (i := .i2l) rfl (fun _ => rfl) ?_
  refine dp_s1 hF (i := .ldc2_w 366) rfl (fun _ => rfl) ?_
  refine dp_s1 hF (i := .land) rfl (fun _ => rfl) ?_
  refine dp_s1 hF (i := .lor) rfl (fun _ => rfl) ?_
  refine dp_si (mj := dp_m_X11_amount) (i := .invokevirtual 497) rfl rfl (Or.inr rfl) rfl (fun _ => rfl) (fun r2 M1 => ?_)
  refine dp_s1 hF (i := .aload_n 2) rfl (fun _ => rfl) ?_
  refine dp_s1 hF (i := .aload_n 0) rfl (fun _ => rfl) ?_
  refine dp_s1 hF (i := .iload 4) rfl (fun _ => rfl) ?_
  refine dp_s1 hF (i := .iconst 1) rfl (fun _ => rfl) ?_
  refine dp_s1 hF (i := .iadd) rfl (fun _ => rfl) ?_
  refine dp_s3 hF (i := .iaload) rfl (fun _ => rfl) ?_
  refine dp_s1 hF (i := .aload_n 0) rfl (fun _ => rfl) ?_
  refine dp_s1 hF (i := .iload 4) rfl (fun _ => rfl) ?_
  refine dp_s1 hF (i := .iconst 2) rfl (fun _ => rfl) ?_
  refine dp_s1 hF (i := .iadd) rfl (fun _ => rfl) ?_
  refine dp_s3 hF (i := .iaload) rfl (fun _ => rfl) ?_
  refine dp_s1 hF (i := .aload_n 0) rfl (fun _ => rfl) ?_
  refine dp_s1 hF (i := .iload 4) rfl (fun _ => rfl) ?_
  refine dp_s1 hF (i := .iconst 3) rfl (fun _ => rfl) ?_
  refine dp_s1 hF (i := .iadd) rfl (fun _ => rfl) ?_
  refine dp_s3 hF (i := .iaload) rfl (fun _ => rfl) ?_
  refine dp_s1 hF (i := .i2l) rfl (fun _ => rfl) ?_
  refine dp_s1 hF (i := .bipush 32) rfl (fun _ => rfl) ?_
  refine dp_s1 hF (i := .lshl) rfl (fun _ => rfl) ?_
  refine dp_s1 hF (i := .aload_n 0) rfl (fun _ => rfl) ?_
  refine dp_s1 hF (i := .iload 4) rfl (fun _ => rfl) ?_
  refine dp_s1 hF (i := .iconst 4) rfl (fun _ => rfl) ?_
  refine dp_s1 hF (i := .iadd) rfl (fun _ => rfl) ?_
  refine dp_s3 hF (i := .iaload) rfl (fun _ => rfl) ?_
  refine dp_s1 hF (i := .i2l) rfl (fun _ => rfl) ?_
  refine dp_s1 hF (i := .ldc2_w 366) rfl (fun _ => rfl) ?_
  refine dp_s1 hF (i := .land) rfl (fun _ => rfl) ?_
  refine dp_s1 hF (i := .lor) rfl (fun _ => rfl) ?_
  refine dp_si (mj := dp_m_X12_amount) (i := .invokevirtual 500) rfl rfl (Or.inr rfl) rfl (fun _ => rfl) (fun r4 M3 => ?_)
  refine dp_s2 hF (i := .if_icmp .eq 701) (a := (6132, [some (.retAddr 0), some (.ref 0), some (.ref 114), some (.ref 245), some (.int v4), u5, u6, u7], [], M3)) (b := (5434, [some (.retAddr 0), some (.ref 0), some (.ref 114), some (.ref 245), some (.int v4), u5, u6, u7], [], M3)) rfl (fun _ => rfl) ?_ ?_
  · exact rfl
  refine dp_s1 hF (i := .iconst 0) rfl (fun _ => rfl) ?_
  exact dp_s0 hF (i := .ireturn) rfl (fun _ => rfl)
set_option maxRecDepth 20000 in
theorem D_L_law_5436_eq (xs : Nat → Int32) (xl d : Nat) (v4 : Int32) (u5 : Option Value) (u6 : Option Value) (u7 : Option Value) (M : dp_M) : D_L_law_5436 xs xl d v4 u5 u6 u7 M = if (v4 + (1 : Int32)) < 0 ∨ xl ≤ Int32.toNatClampNeg (v4 + (1 : Int32)) then none else (if (v4 + (2 : Int32)) < 0 ∨ xl ≤ Int32.toNatClampNeg (v4 + (2 : Int32)) then none else (if (v4 + (3 : Int32)) < 0 ∨ xl ≤ Int32.toNatClampNeg (v4 + (3 : Int32)) then none else (if (v4 + (4 : Int32)) < 0 ∨ xl ≤ Int32.toNatClampNeg (v4 + (4 : Int32)) then none else (dp_bi (dp_den true xs xl d 646 [.ref 0, .int (xs (Int32.toNatClampNeg (v4 + (1 : Int32)))), .int (xs (Int32.toNatClampNeg (v4 + (2 : Int32)))), .long (((Int32.toInt64 (xs (Int32.toNatClampNeg (v4 + (3 : Int32))))) <<< (Int32.toInt64 (32 : Int32) &&& 63)) ||| ((Int32.toInt64 (xs (Int32.toNatClampNeg (v4 + (4 : Int32))))) &&& (4294967295 : Int64))), .ref 245] M) (fun r2 M1 => if (v4 + (1 : Int32)) < 0 ∨ xl ≤ Int32.toNatClampNeg (v4 + (1 : Int32)) then none else (if (v4 + (2 : Int32)) < 0 ∨ xl ≤ Int32.toNatClampNeg (v4 + (2 : Int32)) then none else (if (v4 + (3 : Int32)) < 0 ∨ xl ≤ Int32.toNatClampNeg (v4 + (3 : Int32)) then none else (if (v4 + (4 : Int32)) < 0 ∨ xl ≤ Int32.toNatClampNeg (v4 + (4 : Int32)) then none else (dp_bi (dp_den true xs xl d 572 [.ref 114, .int (xs (Int32.toNatClampNeg (v4 + (1 : Int32)))), .int (xs (Int32.toNatClampNeg (v4 + (2 : Int32)))), .long (((Int32.toInt64 (xs (Int32.toNatClampNeg (v4 + (3 : Int32))))) <<< (Int32.toInt64 (32 : Int32) &&& 63)) ||| ((Int32.toInt64 (xs (Int32.toNatClampNeg (v4 + (4 : Int32))))) &&& (4294967295 : Int64)))] M1) (fun r4 M3 => dp_bi (dp_den true xs xl d 365 [.ref 114] M3) (fun r6 M5 => if r6 = r2 then (if r2 = 0 then (if (0 : Int32) < 0 ∨ 1 ≤ Int32.toNatClampNeg (0 : Int32) then none else (if (lg_cmp (dp_J M5 245 (Int32.toNatClampNeg (0 : Int32))) (Int32.toInt64 r4)) = 0 then (D_L_law_6132 xs xl d v4 (some (.int r2)) (some (.int r4)) u7 M5) else (some (.inl (some (.int (0 : Int32))), M5)))) else (D_L_law_6132 xs xl d v4 (some (.int r2)) (some (.int r4)) u7 M5)) else (some (.inl (some (.int (0 : Int32))), M5))))))))))))) := by
  have hF := dp_den_grow (md := true) (xs := xs) (xl := xl) d
  unfold D_L_law_5436
  refine dp_s1 hF (i := .aload_n 1) rfl (fun _ => rfl) ?_
  refine dp_s1 hF (i := .aload_n 0) rfl (fun _ => rfl) ?_
  refine dp_s1 hF (i := .iload 4) rfl (fun _ => rfl) ?_
  refine dp_s1 hF (i := .iconst 1) rfl (fun _ => rfl) ?_
  refine dp_s1 hF (i := .iadd) rfl (fun _ => rfl) ?_
  refine dp_s3 hF (i := .iaload) rfl (fun _ => rfl) ?_
  refine dp_s1 hF (i := .aload_n 0) rfl (fun _ => rfl) ?_
  refine dp_s1 hF (i := .iload 4) rfl (fun _ => rfl) ?_
  refine dp_s1 hF (i := .iconst 2) rfl (fun _ => rfl) ?_
  refine dp_s1 hF (i := .iadd) rfl (fun _ => rfl) ?_
  refine dp_s3 hF (i := .iaload) rfl (fun _ => rfl) ?_
  refine dp_s1 hF (i := .aload_n 0) rfl (fun _ => rfl) ?_
  refine dp_s1 hF (i := .iload 4) rfl (fun _ => rfl) ?_
  refine dp_s1 hF (i := .iconst 3) rfl (fun _ => rfl) ?_
  refine dp_s1 hF (i := .iadd) rfl (fun _ => rfl) ?_
  refine dp_s3 hF (i := .iaload) rfl (fun _ => rfl) ?_
  refine dp_s1 hF (i := .i2l) rfl (fun _ => rfl) ?_
  refine dp_s1 hF (i := .bipush 32) rfl (fun _ => rfl) ?_
  refine dp_s1 hF (i := .lshl) rfl (fun _ => rfl) ?_
  refine dp_s1 hF (i := .aload_n 0) rfl (fun _ => rfl) ?_
  refine dp_s1 hF (i := .iload 4) rfl (fun _ => rfl) ?_
  refine dp_s1 hF (i := .iconst 4) rfl (fun _ => rfl) ?_
  refine dp_s1 hF (i := .iadd) rfl (fun _ => rfl) ?_
  refine dp_s3 hF (i := .iaload) rfl (fun _ => rfl) ?_
  refine dp_s1 hF (i := .i2l) rfl (fun _ => rfl) ?_
  refine dp_s1 hF (i := .ldc2_w 366) rfl (fun _ => rfl) ?_
  refine dp_s1 hF (i := .land) rfl (fun _ => rfl) ?_
  refine dp_s1 hF (i := .lor) rfl (fun _ => rfl) ?_
  refine dp_s1 hF (i := .aload_n 3) rfl (fun _ => rfl) ?_
  refine dp_si (mj := dp_m_L_ask) (i := .invokestatic 501) rfl rfl (Or.inl rfl) rfl (fun _ => rfl) (fun r2 M1 => ?_)
  refine dp_s1 hF (i := .istore 5) rfl (fun _ => rfl) ?_
  refine dp_s1 hF (i := .aload_n 2) rfl (fun _ => rfl) ?_
  refine dp_s1 hF (i := .aload_n 0) rfl (fun _ => rfl) ?_
  refine dp_s1 hF (i := .iload 4) rfl (fun _ => rfl) ?_
  refine dp_s1 hF (i := .iconst 1) rfl (fun _ => rfl) ?_
  refine dp_s1 hF (i := .iadd) rfl (fun _ => rfl) ?_
  refine dp_s3 hF (i := .iaload) rfl (fun _ => rfl) ?_
  refine dp_s1 hF (i := .aload_n 0) rfl (fun _ => rfl) ?_
  refine dp_s1 hF (i := .iload 4) rfl (fun _ => rfl) ?_
  refine dp_s1 hF (i := .iconst 2) rfl (fun _ => rfl) ?_
  refine dp_s1 hF (i := .iadd) rfl (fun _ => rfl) ?_
  refine dp_s3 hF (i := .iaload) rfl (fun _ => rfl) ?_
  refine dp_s1 hF (i := .aload_n 0) rfl (fun _ => rfl) ?_
  refine dp_s1 hF (i := .iload 4) rfl (fun _ => rfl) ?_
  refine dp_s1 hF (i := .iconst 3) rfl (fun _ => rfl) ?_
  refine dp_s1 hF (i := .iadd) rfl (fun _ => rfl) ?_
  refine dp_s3 hF (i := .iaload) rfl (fun _ => rfl) ?_
  refine dp_s1 hF (i := .i2l) rfl (fun _ => rfl) ?_
  refine dp_s1 hF (i := .bipush 32) rfl (fun _ => rfl) ?_
  refine dp_s1 hF (i := .lshl) rfl (fun _ => rfl) ?_
  refine dp_s1 hF (i := .aload_n 0) rfl (fun _ => rfl) ?_
  refine dp_s1 hF (i := .iload 4) rfl (fun _ => rfl) ?_
  refine dp_s1 hF (i := .iconst 4) rfl (fun _ => rfl) ?_
  refine dp_s1 hF (i := .iadd) rfl (fun _ => rfl) ?_
  refine dp_s3 hF (i := .iaload) rfl (fun _ => rfl) ?_
  refine dp_s1 hF (i := .i2l) rfl (fun _ => rfl) ?_
  refine dp_s1 hF (i := .ldc2_w 366) rfl (fun _ => rfl) ?_
  refine dp_s1 hF (i := .land) rfl (fun _ => rfl) ?_
  refine dp_s1 hF (i := .lor) rfl (fun _ => rfl) ?_
  refine dp_si (mj := dp_m_X12_ask) (i := .invokevirtual 503) rfl rfl (Or.inl rfl) rfl (fun _ => rfl) (fun r4 M3 => ?_)
  refine dp_s1 hF (i := .istore 6) rfl (fun _ => rfl) ?_
  refine dp_s1 hF (i := .aload_n 2) rfl (fun _ => rfl) ?_
  refine dp_si (mj := dp_m_X12_thrown) (i := .invokevirtual 229) rfl rfl (Or.inl rfl) rfl (fun _ => rfl) (fun r6 M5 => ?_)
  refine dp_s1 hF (i := .iload 5) rfl (fun _ => rfl) ?_
  refine dp_s2 hF (i := .if_icmp .eq 5) (a := (5528, [some (.retAddr 0), some (.ref 0), some (.ref 114), some (.ref 245), some (.int v4), some (.int r2), some (.int r4), u7], [], M5)) (b := (5526, [some (.retAddr 0), some (.ref 0), some (.ref 114), some (.ref 245), some (.int v4), some (.int r2), some (.int r4), u7], [], M5)) rfl (fun _ => rfl) ?_ ?_
  · refine dp_s1 hF (i := .iload 5) rfl (fun _ => rfl) ?_
    refine dp_s2 hF (i := .ifCond .ne 15) (a := (5533, [some (.retAddr 0), some (.ref 0), some (.ref 114), some (.ref 245), some (.int v4), some (.int r2), some (.int r4), u7], [], M5)) (b := (5545, [some (.retAddr 0), some (.ref 0), some (.ref 114), some (.ref 245), some (.int v4), some (.int r2), some (.int r4), u7], [], M5)) rfl (fun _ => rfl) ?_ ?_
    · refine dp_s1 hF (i := .aload_n 3) rfl (fun _ => rfl) ?_
      refine dp_s1 hF (i := .iconst 0) rfl (fun _ => rfl) ?_
      refine dp_s3 hF (i := .laload) rfl (fun _ => rfl) ?_
      refine dp_s1 hF (i := .iload 6) rfl (fun _ => rfl) ?_
      refine dp_s1 hF (i := .i2l) rfl (fun _ => rfl) ?_
      refine dp_s1 hF (i := .lcmp) rfl (fun _ => rfl) ?_
      refine dp_s2 hF (i := .ifCond .eq 5) (a := (5545, [some (.retAddr 0), some (.ref 0), some (.ref 114), some (.ref 245), some (.int v4), some (.int r2), some (.int r4), u7], [], M5)) (b := (5543, [some (.retAddr 0), some (.ref 0), some (.ref 114), some (.ref 245), some (.int v4), some (.int r2), some (.int r4), u7], [], M5)) rfl (fun _ => rfl) ?_ ?_
      · refine dp_s1 hF (i := .goto 587) rfl (fun _ => rfl) ?_
        exact rfl
      refine dp_s1 hF (i := .iconst 0) rfl (fun _ => rfl) ?_
      exact dp_s0 hF (i := .ireturn) rfl (fun _ => rfl)
    refine dp_s1 hF (i := .goto 587) rfl (fun _ => rfl) ?_
    exact rfl
  refine dp_s1 hF (i := .iconst 0) rfl (fun _ => rfl) ?_
  exact dp_s0 hF (i := .ireturn) rfl (fun _ => rfl)
set_option maxRecDepth 20000 in
theorem D_L_law_5548_eq (xs : Nat → Int32) (xl d : Nat) (v4 : Int32) (u5 : Option Value) (u6 : Option Value) (u7 : Option Value) (M : dp_M) : D_L_law_5548 xs xl d v4 u5 u6 u7 M = if (v4 + (1 : Int32)) < 0 ∨ xl ≤ Int32.toNatClampNeg (v4 + (1 : Int32)) then none else (if (v4 + (2 : Int32)) < 0 ∨ xl ≤ Int32.toNatClampNeg (v4 + (2 : Int32)) then none else (if (v4 + (3 : Int32)) < 0 ∨ xl ≤ Int32.toNatClampNeg (v4 + (3 : Int32)) then none else (dp_bi (dp_den true xs xl d 647 [.ref 0, .int (xs (Int32.toNatClampNeg (v4 + (1 : Int32)))), .long (((Int32.toInt64 (xs (Int32.toNatClampNeg (v4 + (2 : Int32))))) <<< (Int32.toInt64 (32 : Int32) &&& 63)) ||| ((Int32.toInt64 (xs (Int32.toNatClampNeg (v4 + (3 : Int32))))) &&& (4294967295 : Int64))), .ref 245] M) (fun r2 M1 => if (v4 + (1 : Int32)) < 0 ∨ xl ≤ Int32.toNatClampNeg (v4 + (1 : Int32)) then none else (if (v4 + (2 : Int32)) < 0 ∨ xl ≤ Int32.toNatClampNeg (v4 + (2 : Int32)) then none else (if (v4 + (3 : Int32)) < 0 ∨ xl ≤ Int32.toNatClampNeg (v4 + (3 : Int32)) then none else (dp_bi (dp_den true xs xl d 573 [.ref 114, .int (xs (Int32.toNatClampNeg (v4 + (1 : Int32)))), .long (((Int32.toInt64 (xs (Int32.toNatClampNeg (v4 + (2 : Int32))))) <<< (Int32.toInt64 (32 : Int32) &&& 63)) ||| ((Int32.toInt64 (xs (Int32.toNatClampNeg (v4 + (3 : Int32))))) &&& (4294967295 : Int64)))] M1) (fun r4 M3 => dp_bi (dp_den true xs xl d 365 [.ref 114] M3) (fun r6 M5 => if r6 = r2 then (if r2 = 0 then (if (0 : Int32) < 0 ∨ 1 ≤ Int32.toNatClampNeg (0 : Int32) then none else (if (lg_cmp (dp_J M5 245 (Int32.toNatClampNeg (0 : Int32))) (Int32.toInt64 r4)) = 0 then (D_L_law_6132 xs xl d v4 (some (.int r2)) (some (.int r4)) u7 M5) else (some (.inl (some (.int (0 : Int32))), M5)))) else (D_L_law_6132 xs xl d v4 (some (.int r2)) (some (.int r4)) u7 M5)) else (some (.inl (some (.int (0 : Int32))), M5))))))))))) := by
  have hF := dp_den_grow (md := true) (xs := xs) (xl := xl) d
  unfold D_L_law_5548
  refine dp_s1 hF (i := .aload_n 1) rfl (fun _ => rfl) ?_
  refine dp_s1 hF (i := .aload_n 0) rfl (fun _ => rfl) ?_
  refine dp_s1 hF (i := .iload 4) rfl (fun _ => rfl) ?_
  refine dp_s1 hF (i := .iconst 1) rfl (fun _ => rfl) ?_
  refine dp_s1 hF (i := .iadd) rfl (fun _ => rfl) ?_
  refine dp_s3 hF (i := .iaload) rfl (fun _ => rfl) ?_
  refine dp_s1 hF (i := .aload_n 0) rfl (fun _ => rfl) ?_
  refine dp_s1 hF (i := .iload 4) rfl (fun _ => rfl) ?_
  refine dp_s1 hF (i := .iconst 2) rfl (fun _ => rfl) ?_
  refine dp_s1 hF (i := .iadd) rfl (fun _ => rfl) ?_
  refine dp_s3 hF (i := .iaload) rfl (fun _ => rfl) ?_
  refine dp_s1 hF (i := .i2l) rfl (fun _ => rfl) ?_
  refine dp_s1 hF (i := .bipush 32) rfl (fun _ => rfl) ?_
  refine dp_s1 hF (i := .lshl) rfl (fun _ => rfl) ?_
  refine dp_s1 hF (i := .aload_n 0) rfl (fun _ => rfl) ?_
  refine dp_s1 hF (i := .iload 4) rfl (fun _ => rfl) ?_
  refine dp_s1 hF (i := .iconst 3) rfl (fun _ => rfl) ?_
  refine dp_s1 hF (i := .iadd) rfl (fun _ => rfl) ?_
  refine dp_s3 hF (i := .iaload) rfl (fun _ => rfl) ?_
  refine dp_s1 hF (i := .i2l) rfl (fun _ => rfl) ?_
  refine dp_s1 hF (i := .ldc2_w 366) rfl (fun _ => rfl) ?_
  refine dp_s1 hF (i := .land) rfl (fun _ => rfl) ?_
  refine dp_s1 hF (i := .lor) rfl (fun _ => rfl) ?_
  refine dp_s1 hF (i := .aload_n 3) rfl (fun _ => rfl) ?_
  refine dp_si (mj := dp_m_L_again) (i := .invokestatic 504) rfl rfl (Or.inl rfl) rfl (fun _ => rfl) (fun r2 M1 => ?_)
  refine dp_s1 hF (i := .istore 5) rfl (fun _ => rfl) ?_
  refine dp_s1 hF (i := .aload_n 2) rfl (fun _ => rfl) ?_
  refine dp_s1 hF (i := .aload_n 0) rfl (fun _ => rfl) ?_
  refine dp_s1 hF (i := .iload 4) rfl (fun _ => rfl) ?_
  refine dp_s1 hF (i := .iconst 1) rfl (fun _ => rfl) ?_
  refine dp_s1 hF (i := .iadd) rfl (fun _ => rfl) ?_
  refine dp_s3 hF (i := .iaload) rfl (fun _ => rfl) ?_
  refine dp_s1 hF (i := .aload_n 0) rfl (fun _ => rfl) ?_
  refine dp_s1 hF (i := .iload 4) rfl (fun _ => rfl) ?_
  refine dp_s1 hF (i := .iconst 2) rfl (fun _ => rfl) ?_
  refine dp_s1 hF (i := .iadd) rfl (fun _ => rfl) ?_
  refine dp_s3 hF (i := .iaload) rfl (fun _ => rfl) ?_
  refine dp_s1 hF (i := .i2l) rfl (fun _ => rfl) ?_
  refine dp_s1 hF (i := .bipush 32) rfl (fun _ => rfl) ?_
  refine dp_s1 hF (i := .lshl) rfl (fun _ => rfl) ?_
  refine dp_s1 hF (i := .aload_n 0) rfl (fun _ => rfl) ?_
  refine dp_s1 hF (i := .iload 4) rfl (fun _ => rfl) ?_
  refine dp_s1 hF (i := .iconst 3) rfl (fun _ => rfl) ?_
  refine dp_s1 hF (i := .iadd) rfl (fun _ => rfl) ?_
  refine dp_s3 hF (i := .iaload) rfl (fun _ => rfl) ?_
  refine dp_s1 hF (i := .i2l) rfl (fun _ => rfl) ?_
  refine dp_s1 hF (i := .ldc2_w 366) rfl (fun _ => rfl) ?_
  refine dp_s1 hF (i := .land) rfl (fun _ => rfl) ?_
  refine dp_s1 hF (i := .lor) rfl (fun _ => rfl) ?_
  refine dp_si (mj := dp_m_X12_again) (i := .invokevirtual 507) rfl rfl (Or.inl rfl) rfl (fun _ => rfl) (fun r4 M3 => ?_)
  refine dp_s1 hF (i := .istore 6) rfl (fun _ => rfl) ?_
  refine dp_s1 hF (i := .aload_n 2) rfl (fun _ => rfl) ?_
  refine dp_si (mj := dp_m_X12_thrown) (i := .invokevirtual 229) rfl rfl (Or.inl rfl) rfl (fun _ => rfl) (fun r6 M5 => ?_)
  refine dp_s1 hF (i := .iload 5) rfl (fun _ => rfl) ?_
  refine dp_s2 hF (i := .if_icmp .eq 5) (a := (5628, [some (.retAddr 0), some (.ref 0), some (.ref 114), some (.ref 245), some (.int v4), some (.int r2), some (.int r4), u7], [], M5)) (b := (5626, [some (.retAddr 0), some (.ref 0), some (.ref 114), some (.ref 245), some (.int v4), some (.int r2), some (.int r4), u7], [], M5)) rfl (fun _ => rfl) ?_ ?_
  · refine dp_s1 hF (i := .iload 5) rfl (fun _ => rfl) ?_
    refine dp_s2 hF (i := .ifCond .ne 15) (a := (5633, [some (.retAddr 0), some (.ref 0), some (.ref 114), some (.ref 245), some (.int v4), some (.int r2), some (.int r4), u7], [], M5)) (b := (5645, [some (.retAddr 0), some (.ref 0), some (.ref 114), some (.ref 245), some (.int v4), some (.int r2), some (.int r4), u7], [], M5)) rfl (fun _ => rfl) ?_ ?_
    · refine dp_s1 hF (i := .aload_n 3) rfl (fun _ => rfl) ?_
      refine dp_s1 hF (i := .iconst 0) rfl (fun _ => rfl) ?_
      refine dp_s3 hF (i := .laload) rfl (fun _ => rfl) ?_
      refine dp_s1 hF (i := .iload 6) rfl (fun _ => rfl) ?_
      refine dp_s1 hF (i := .i2l) rfl (fun _ => rfl) ?_
      refine dp_s1 hF (i := .lcmp) rfl (fun _ => rfl) ?_
      refine dp_s2 hF (i := .ifCond .eq 5) (a := (5645, [some (.retAddr 0), some (.ref 0), some (.ref 114), some (.ref 245), some (.int v4), some (.int r2), some (.int r4), u7], [], M5)) (b := (5643, [some (.retAddr 0), some (.ref 0), some (.ref 114), some (.ref 245), some (.int v4), some (.int r2), some (.int r4), u7], [], M5)) rfl (fun _ => rfl) ?_ ?_
      · refine dp_s1 hF (i := .goto 487) rfl (fun _ => rfl) ?_
        exact rfl
      refine dp_s1 hF (i := .iconst 0) rfl (fun _ => rfl) ?_
      exact dp_s0 hF (i := .ireturn) rfl (fun _ => rfl)
    refine dp_s1 hF (i := .goto 487) rfl (fun _ => rfl) ?_
    exact rfl
  refine dp_s1 hF (i := .iconst 0) rfl (fun _ => rfl) ?_
  exact dp_s0 hF (i := .ireturn) rfl (fun _ => rfl)
set_option maxRecDepth 20000 in
theorem D_L_law_5648_eq (xs : Nat → Int32) (xl d : Nat) (v4 : Int32) (u5 : Option Value) (u6 : Option Value) (u7 : Option Value) (M : dp_M) : D_L_law_5648 xs xl d v4 u5 u6 u7 M = if (v4 + (1 : Int32)) < 0 ∨ xl ≤ Int32.toNatClampNeg (v4 + (1 : Int32)) then none else (if (v4 + (2 : Int32)) < 0 ∨ xl ≤ Int32.toNatClampNeg (v4 + (2 : Int32)) then none else (dp_bi (dp_den true xs xl d 648 [.ref 0, .int (xs (Int32.toNatClampNeg (v4 + (1 : Int32)))), .int (xs (Int32.toNatClampNeg (v4 + (2 : Int32)))), .ref 245] M) (fun r2 M1 => if (v4 + (1 : Int32)) < 0 ∨ xl ≤ Int32.toNatClampNeg (v4 + (1 : Int32)) then none else (if (v4 + (2 : Int32)) < 0 ∨ xl ≤ Int32.toNatClampNeg (v4 + (2 : Int32)) then none else (dp_bl (dp_den true xs xl d 576 [.ref 114, .int (xs (Int32.toNatClampNeg (v4 + (1 : Int32)))), .int (xs (Int32.toNatClampNeg (v4 + (2 : Int32))))] M1) (fun r4 M3 => dp_bi (dp_den true xs xl d 365 [.ref 114] M3) (fun r6 M5 => if r6 = r2 then (if r2 = 0 then (if (0 : Int32) < 0 ∨ 1 ≤ Int32.toNatClampNeg (0 : Int32) then none else (if (lg_cmp (dp_J M5 245 (Int32.toNatClampNeg (0 : Int32))) r4) = 0 then (D_L_law_6132 xs xl d v4 (some (.int r2)) (some (.long r4)) none M5) else (some (.inl (some (.int (0 : Int32))), M5)))) else (D_L_law_6132 xs xl d v4 (some (.int r2)) (some (.long r4)) none M5)) else (some (.inl (some (.int (0 : Int32))), M5))))))))) := by
  have hF := dp_den_grow (md := true) (xs := xs) (xl := xl) d
  unfold D_L_law_5648
  refine dp_s1 hF (i := .aload_n 1) rfl (fun _ => rfl) ?_
  refine dp_s1 hF (i := .aload_n 0) rfl (fun _ => rfl) ?_
  refine dp_s1 hF (i := .iload 4) rfl (fun _ => rfl) ?_
  refine dp_s1 hF (i := .iconst 1) rfl (fun _ => rfl) ?_
  refine dp_s1 hF (i := .iadd) rfl (fun _ => rfl) ?_
  refine dp_s3 hF (i := .iaload) rfl (fun _ => rfl) ?_
  refine dp_s1 hF (i := .aload_n 0) rfl (fun _ => rfl) ?_
  refine dp_s1 hF (i := .iload 4) rfl (fun _ => rfl) ?_
  refine dp_s1 hF (i := .iconst 2) rfl (fun _ => rfl) ?_
  refine dp_s1 hF (i := .iadd) rfl (fun _ => rfl) ?_
  refine dp_s3 hF (i := .iaload) rfl (fun _ => rfl) ?_
  refine dp_s1 hF (i := .aload_n 3) rfl (fun _ => rfl) ?_
  refine dp_si (mj := dp_m_L_duty) (i := .invokestatic 508) rfl rfl (Or.inl rfl) rfl (fun _ => rfl) (fun r2 M1 => ?_)
  refine dp_s1 hF (i := .istore 5) rfl (fun _ => rfl) ?_
  refine dp_s1 hF (i := .aload_n 2) rfl (fun _ => rfl) ?_
  refine dp_s1 hF (i := .aload_n 0) rfl (fun _ => rfl) ?_
  refine dp_s1 hF (i := .iload 4) rfl (fun _ => rfl) ?_
  refine dp_s1 hF (i := .iconst 1) rfl (fun _ => rfl) ?_
  refine dp_s1 hF (i := .iadd) rfl (fun _ => rfl) ?_
  refine dp_s3 hF (i := .iaload) rfl (fun _ => rfl) ?_
  refine dp_s1 hF (i := .aload_n 0) rfl (fun _ => rfl) ?_
  refine dp_s1 hF (i := .iload 4) rfl (fun _ => rfl) ?_
  refine dp_s1 hF (i := .iconst 2) rfl (fun _ => rfl) ?_
  refine dp_s1 hF (i := .iadd) rfl (fun _ => rfl) ?_
  refine dp_s3 hF (i := .iaload) rfl (fun _ => rfl) ?_
  refine dp_sl9 (mj := dp_m_X12_duty) (i := .invokevirtual 510) rfl rfl rfl rfl (fun _ => rfl) (fun r4 M3 => ?_)
  refine dp_s1 hF (i := .lstore 6) rfl (fun _ => rfl) ?_
  refine dp_s1 hF (i := .aload_n 2) rfl (fun _ => rfl) ?_
  refine dp_si (mj := dp_m_X12_thrown) (i := .invokevirtual 229) rfl rfl (Or.inl rfl) rfl (fun _ => rfl) (fun r6 M5 => ?_)
  refine dp_s1 hF (i := .iload 5) rfl (fun _ => rfl) ?_
  refine dp_s2 hF (i := .if_icmp .eq 5) (a := (5696, [some (.retAddr 0), some (.ref 0), some (.ref 114), some (.ref 245), some (.int v4), some (.int r2), some (.long r4), none], [], M5)) (b := (5694, [some (.retAddr 0), some (.ref 0), some (.ref 114), some (.ref 245), some (.int v4), some (.int r2), some (.long r4), none], [], M5)) rfl (fun _ => rfl) ?_ ?_
  · refine dp_s1 hF (i := .iload 5) rfl (fun _ => rfl) ?_
    refine dp_s2 hF (i := .ifCond .ne 14) (a := (5701, [some (.retAddr 0), some (.ref 0), some (.ref 114), some (.ref 245), some (.int v4), some (.int r2), some (.long r4), none], [], M5)) (b := (5712, [some (.retAddr 0), some (.ref 0), some (.ref 114), some (.ref 245), some (.int v4), some (.int r2), some (.long r4), none], [], M5)) rfl (fun _ => rfl) ?_ ?_
    · refine dp_s1 hF (i := .aload_n 3) rfl (fun _ => rfl) ?_
      refine dp_s1 hF (i := .iconst 0) rfl (fun _ => rfl) ?_
      refine dp_s3 hF (i := .laload) rfl (fun _ => rfl) ?_
      refine dp_s1 hF (i := .lload 6) rfl (fun _ => rfl) ?_
      refine dp_s1 hF (i := .lcmp) rfl (fun _ => rfl) ?_
      refine dp_s2 hF (i := .ifCond .eq 5) (a := (5712, [some (.retAddr 0), some (.ref 0), some (.ref 114), some (.ref 245), some (.int v4), some (.int r2), some (.long r4), none], [], M5)) (b := (5710, [some (.retAddr 0), some (.ref 0), some (.ref 114), some (.ref 245), some (.int v4), some (.int r2), some (.long r4), none], [], M5)) rfl (fun _ => rfl) ?_ ?_
      · refine dp_s1 hF (i := .goto 420) rfl (fun _ => rfl) ?_
        exact rfl
      refine dp_s1 hF (i := .iconst 0) rfl (fun _ => rfl) ?_
      exact dp_s0 hF (i := .ireturn) rfl (fun _ => rfl)
    refine dp_s1 hF (i := .goto 420) rfl (fun _ => rfl) ?_
    exact rfl
  refine dp_s1 hF (i := .iconst 0) rfl (fun _ => rfl) ?_
  exact dp_s0 hF (i := .ireturn) rfl (fun _ => rfl)
set_option maxRecDepth 20000 in
theorem D_L_law_5715_eq (xs : Nat → Int32) (xl d : Nat) (v4 : Int32) (u5 : Option Value) (u6 : Option Value) (u7 : Option Value) (M : dp_M) : D_L_law_5715 xs xl d v4 u5 u6 u7 M = if (v4 + (1 : Int32)) < 0 ∨ xl ≤ Int32.toNatClampNeg (v4 + (1 : Int32)) then none else (if (v4 + (2 : Int32)) < 0 ∨ xl ≤ Int32.toNatClampNeg (v4 + (2 : Int32)) then none else (dp_bi (dp_den true xs xl d 649 [.ref 0, .int (xs (Int32.toNatClampNeg (v4 + (1 : Int32)))), .int (xs (Int32.toNatClampNeg (v4 + (2 : Int32)))), .ref 245] M) (fun r2 M1 => if (v4 + (1 : Int32)) < 0 ∨ xl ≤ Int32.toNatClampNeg (v4 + (1 : Int32)) then none else (if (v4 + (2 : Int32)) < 0 ∨ xl ≤ Int32.toNatClampNeg (v4 + (2 : Int32)) then none else (dp_bl (dp_den true xs xl d 577 [.ref 114, .int (xs (Int32.toNatClampNeg (v4 + (1 : Int32)))), .int (xs (Int32.toNatClampNeg (v4 + (2 : Int32))))] M1) (fun r4 M3 => dp_bi (dp_den true xs xl d 365 [.ref 114] M3) (fun r6 M5 => if r6 = r2 then (if r2 = 0 then (if (0 : Int32) < 0 ∨ 1 ≤ Int32.toNatClampNeg (0 : Int32) then none else (if (lg_cmp (dp_J M5 245 (Int32.toNatClampNeg (0 : Int32))) r4) = 0 then (D_L_law_6132 xs xl d v4 (some (.int r2)) (some (.long r4)) none M5) else (some (.inl (some (.int (0 : Int32))), M5)))) else (D_L_law_6132 xs xl d v4 (some (.int r2)) (some (.long r4)) none M5)) else (some (.inl (some (.int (0 : Int32))), M5))))))))) := by
  have hF := dp_den_grow (md := true) (xs := xs) (xl := xl) d
  unfold D_L_law_5715
  refine dp_s1 hF (i := .aload_n 1) rfl (fun _ => rfl) ?_
  refine dp_s1 hF (i := .aload_n 0) rfl (fun _ => rfl) ?_
  refine dp_s1 hF (i := .iload 4) rfl (fun _ => rfl) ?_
  refine dp_s1 hF (i := .iconst 1) rfl (fun _ => rfl) ?_
  refine dp_s1 hF (i := .iadd) rfl (fun _ => rfl) ?_
  refine dp_s3 hF (i := .iaload) rfl (fun _ => rfl) ?_
  refine dp_s1 hF (i := .aload_n 0) rfl (fun _ => rfl) ?_
  refine dp_s1 hF (i := .iload 4) rfl (fun _ => rfl) ?_
  refine dp_s1 hF (i := .iconst 2) rfl (fun _ => rfl) ?_
  refine dp_s1 hF (i := .iadd) rfl (fun _ => rfl) ?_
  refine dp_s3 hF (i := .iaload) rfl (fun _ => rfl) ?_
  refine dp_s1 hF (i := .aload_n 3) rfl (fun _ => rfl) ?_
  refine dp_si (mj := dp_m_L_assess) (i := .invokestatic 511) rfl rfl (Or.inl rfl) rfl (fun _ => rfl) (fun r2 M1 => ?_)
  refine dp_s1 hF (i := .istore 5) rfl (fun _ => rfl) ?_
  refine dp_s1 hF (i := .aload_n 2) rfl (fun _ => rfl) ?_
  refine dp_s1 hF (i := .aload_n 0) rfl (fun _ => rfl) ?_
  refine dp_s1 hF (i := .iload 4) rfl (fun _ => rfl) ?_
  refine dp_s1 hF (i := .iconst 1) rfl (fun _ => rfl) ?_
  refine dp_s1 hF (i := .iadd) rfl (fun _ => rfl) ?_
  refine dp_s3 hF (i := .iaload) rfl (fun _ => rfl) ?_
  refine dp_s1 hF (i := .aload_n 0) rfl (fun _ => rfl) ?_
  refine dp_s1 hF (i := .iload 4) rfl (fun _ => rfl) ?_
  refine dp_s1 hF (i := .iconst 2) rfl (fun _ => rfl) ?_
  refine dp_s1 hF (i := .iadd) rfl (fun _ => rfl) ?_
  refine dp_s3 hF (i := .iaload) rfl (fun _ => rfl) ?_
  refine dp_sl9 (mj := dp_m_X12_assess) (i := .invokevirtual 513) rfl rfl rfl rfl (fun _ => rfl) (fun r4 M3 => ?_)
  refine dp_s1 hF (i := .lstore 6) rfl (fun _ => rfl) ?_
  refine dp_s1 hF (i := .aload_n 2) rfl (fun _ => rfl) ?_
  refine dp_si (mj := dp_m_X12_thrown) (i := .invokevirtual 229) rfl rfl (Or.inl rfl) rfl (fun _ => rfl) (fun r6 M5 => ?_)
  refine dp_s1 hF (i := .iload 5) rfl (fun _ => rfl) ?_
  refine dp_s2 hF (i := .if_icmp .eq 5) (a := (5763, [some (.retAddr 0), some (.ref 0), some (.ref 114), some (.ref 245), some (.int v4), some (.int r2), some (.long r4), none], [], M5)) (b := (5761, [some (.retAddr 0), some (.ref 0), some (.ref 114), some (.ref 245), some (.int v4), some (.int r2), some (.long r4), none], [], M5)) rfl (fun _ => rfl) ?_ ?_
  · refine dp_s1 hF (i := .iload 5) rfl (fun _ => rfl) ?_
    refine dp_s2 hF (i := .ifCond .ne 14) (a := (5768, [some (.retAddr 0), some (.ref 0), some (.ref 114), some (.ref 245), some (.int v4), some (.int r2), some (.long r4), none], [], M5)) (b := (5779, [some (.retAddr 0), some (.ref 0), some (.ref 114), some (.ref 245), some (.int v4), some (.int r2), some (.long r4), none], [], M5)) rfl (fun _ => rfl) ?_ ?_
    · refine dp_s1 hF (i := .aload_n 3) rfl (fun _ => rfl) ?_
      refine dp_s1 hF (i := .iconst 0) rfl (fun _ => rfl) ?_
      refine dp_s3 hF (i := .laload) rfl (fun _ => rfl) ?_
      refine dp_s1 hF (i := .lload 6) rfl (fun _ => rfl) ?_
      refine dp_s1 hF (i := .lcmp) rfl (fun _ => rfl) ?_
      refine dp_s2 hF (i := .ifCond .eq 5) (a := (5779, [some (.retAddr 0), some (.ref 0), some (.ref 114), some (.ref 245), some (.int v4), some (.int r2), some (.long r4), none], [], M5)) (b := (5777, [some (.retAddr 0), some (.ref 0), some (.ref 114), some (.ref 245), some (.int v4), some (.int r2), some (.long r4), none], [], M5)) rfl (fun _ => rfl) ?_ ?_
      · refine dp_s1 hF (i := .goto 353) rfl (fun _ => rfl) ?_
        exact rfl
      refine dp_s1 hF (i := .iconst 0) rfl (fun _ => rfl) ?_
      exact dp_s0 hF (i := .ireturn) rfl (fun _ => rfl)
    refine dp_s1 hF (i := .goto 353) rfl (fun _ => rfl) ?_
    exact rfl
  refine dp_s1 hF (i := .iconst 0) rfl (fun _ => rfl) ?_
  exact dp_s0 hF (i := .ireturn) rfl (fun _ => rfl)
set_option maxRecDepth 20000 in
theorem D_L_law_5782_eq (xs : Nat → Int32) (xl d : Nat) (v4 : Int32) (u5 : Option Value) (u6 : Option Value) (u7 : Option Value) (M : dp_M) : D_L_law_5782 xs xl d v4 u5 u6 u7 M = if (v4 + (1 : Int32)) < 0 ∨ xl ≤ Int32.toNatClampNeg (v4 + (1 : Int32)) then none else (if (v4 + (2 : Int32)) < 0 ∨ xl ≤ Int32.toNatClampNeg (v4 + (2 : Int32)) then none else (dp_bi (dp_den true xs xl d 650 [.ref 0, .int (xs (Int32.toNatClampNeg (v4 + (1 : Int32)))), .int (xs (Int32.toNatClampNeg (v4 + (2 : Int32)))), .ref 245] M) (fun r2 M1 => if (v4 + (1 : Int32)) < 0 ∨ xl ≤ Int32.toNatClampNeg (v4 + (1 : Int32)) then none else (if (v4 + (2 : Int32)) < 0 ∨ xl ≤ Int32.toNatClampNeg (v4 + (2 : Int32)) then none else (dp_bi (dp_den true xs xl d 580 [.ref 114, .int (xs (Int32.toNatClampNeg (v4 + (1 : Int32)))), .int (xs (Int32.toNatClampNeg (v4 + (2 : Int32))))] M1) (fun r4 M3 => dp_bi (dp_den true xs xl d 365 [.ref 114] M3) (fun r6 M5 => if r6 = r2 then (if r2 = 0 then (if (0 : Int32) < 0 ∨ 1 ≤ Int32.toNatClampNeg (0 : Int32) then none else (if (lg_cmp (dp_J M5 245 (Int32.toNatClampNeg (0 : Int32))) (Int32.toInt64 r4)) = 0 then (D_L_law_6132 xs xl d v4 (some (.int r2)) (some (.int r4)) u7 M5) else (some (.inl (some (.int (0 : Int32))), M5)))) else (D_L_law_6132 xs xl d v4 (some (.int r2)) (some (.int r4)) u7 M5)) else (some (.inl (some (.int (0 : Int32))), M5))))))))) := by
  have hF := dp_den_grow (md := true) (xs := xs) (xl := xl) d
  unfold D_L_law_5782
  refine dp_s1 hF (i := .aload_n 1) rfl (fun _ => rfl) ?_
  refine dp_s1 hF (i := .aload_n 0) rfl (fun _ => rfl) ?_
  refine dp_s1 hF (i := .iload 4) rfl (fun _ => rfl) ?_
  refine dp_s1 hF (i := .iconst 1) rfl (fun _ => rfl) ?_
  refine dp_s1 hF (i := .iadd) rfl (fun _ => rfl) ?_
  refine dp_s3 hF (i := .iaload) rfl (fun _ => rfl) ?_
  refine dp_s1 hF (i := .aload_n 0) rfl (fun _ => rfl) ?_
  refine dp_s1 hF (i := .iload 4) rfl (fun _ => rfl) ?_
  refine dp_s1 hF (i := .iconst 2) rfl (fun _ => rfl) ?_
  refine dp_s1 hF (i := .iadd) rfl (fun _ => rfl) ?_
  refine dp_s3 hF (i := .iaload) rfl (fun _ => rfl) ?_
  refine dp_s1 hF (i := .aload_n 3) rfl (fun _ => rfl) ?_
  refine dp_si (mj := dp_m_L_pay) (i := .invokestatic 514) rfl rfl (Or.inl rfl) rfl (fun _ => rfl) (fun r2 M1 => ?_)
  refine dp_s1 hF (i := .istore 5) rfl (fun _ => rfl) ?_
  refine dp_s1 hF (i := .aload_n 2) rfl (fun _ => rfl) ?_
  refine dp_s1 hF (i := .aload_n 0) rfl (fun _ => rfl) ?_
  refine dp_s1 hF (i := .iload 4) rfl (fun _ => rfl) ?_
  refine dp_s1 hF (i := .iconst 1) rfl (fun _ => rfl) ?_
  refine dp_s1 hF (i := .iadd) rfl (fun _ => rfl) ?_
  refine dp_s3 hF (i := .iaload) rfl (fun _ => rfl) ?_
  refine dp_s1 hF (i := .aload_n 0) rfl (fun _ => rfl) ?_
  refine dp_s1 hF (i := .iload 4) rfl (fun _ => rfl) ?_
  refine dp_s1 hF (i := .iconst 2) rfl (fun _ => rfl) ?_
  refine dp_s1 hF (i := .iadd) rfl (fun _ => rfl) ?_
  refine dp_s3 hF (i := .iaload) rfl (fun _ => rfl) ?_
  refine dp_si (mj := dp_m_X12_pay) (i := .invokevirtual 516) rfl rfl (Or.inl rfl) rfl (fun _ => rfl) (fun r4 M3 => ?_)
  refine dp_s1 hF (i := .istore 6) rfl (fun _ => rfl) ?_
  refine dp_s1 hF (i := .aload_n 2) rfl (fun _ => rfl) ?_
  refine dp_si (mj := dp_m_X12_thrown) (i := .invokevirtual 229) rfl rfl (Or.inl rfl) rfl (fun _ => rfl) (fun r6 M5 => ?_)
  refine dp_s1 hF (i := .iload 5) rfl (fun _ => rfl) ?_
  refine dp_s2 hF (i := .if_icmp .eq 5) (a := (5830, [some (.retAddr 0), some (.ref 0), some (.ref 114), some (.ref 245), some (.int v4), some (.int r2), some (.int r4), u7], [], M5)) (b := (5828, [some (.retAddr 0), some (.ref 0), some (.ref 114), some (.ref 245), some (.int v4), some (.int r2), some (.int r4), u7], [], M5)) rfl (fun _ => rfl) ?_ ?_
  · refine dp_s1 hF (i := .iload 5) rfl (fun _ => rfl) ?_
    refine dp_s2 hF (i := .ifCond .ne 15) (a := (5835, [some (.retAddr 0), some (.ref 0), some (.ref 114), some (.ref 245), some (.int v4), some (.int r2), some (.int r4), u7], [], M5)) (b := (5847, [some (.retAddr 0), some (.ref 0), some (.ref 114), some (.ref 245), some (.int v4), some (.int r2), some (.int r4), u7], [], M5)) rfl (fun _ => rfl) ?_ ?_
    · refine dp_s1 hF (i := .aload_n 3) rfl (fun _ => rfl) ?_
      refine dp_s1 hF (i := .iconst 0) rfl (fun _ => rfl) ?_
      refine dp_s3 hF (i := .laload) rfl (fun _ => rfl) ?_
      refine dp_s1 hF (i := .iload 6) rfl (fun _ => rfl) ?_
      refine dp_s1 hF (i := .i2l) rfl (fun _ => rfl) ?_
      refine dp_s1 hF (i := .lcmp) rfl (fun _ => rfl) ?_
      refine dp_s2 hF (i := .ifCond .eq 5) (a := (5847, [some (.retAddr 0), some (.ref 0), some (.ref 114), some (.ref 245), some (.int v4), some (.int r2), some (.int r4), u7], [], M5)) (b := (5845, [some (.retAddr 0), some (.ref 0), some (.ref 114), some (.ref 245), some (.int v4), some (.int r2), some (.int r4), u7], [], M5)) rfl (fun _ => rfl) ?_ ?_
      · refine dp_s1 hF (i := .goto 285) rfl (fun _ => rfl) ?_
        exact rfl
      refine dp_s1 hF (i := .iconst 0) rfl (fun _ => rfl) ?_
      exact dp_s0 hF (i := .ireturn) rfl (fun _ => rfl)
    refine dp_s1 hF (i := .goto 285) rfl (fun _ => rfl) ?_
    exact rfl
  refine dp_s1 hF (i := .iconst 0) rfl (fun _ => rfl) ?_
  exact dp_s0 hF (i := .ireturn) rfl (fun _ => rfl)
set_option maxRecDepth 20000 in
theorem D_L_law_5850_eq (xs : Nat → Int32) (xl d : Nat) (v4 : Int32) (u5 : Option Value) (u6 : Option Value) (u7 : Option Value) (M : dp_M) : D_L_law_5850 xs xl d v4 u5 u6 u7 M = if (v4 + (1 : Int32)) < 0 ∨ xl ≤ Int32.toNatClampNeg (v4 + (1 : Int32)) then none else (if (v4 + (2 : Int32)) < 0 ∨ xl ≤ Int32.toNatClampNeg (v4 + (2 : Int32)) then none else (dp_bi (dp_den true xs xl d 651 [.ref 0, .int (xs (Int32.toNatClampNeg (v4 + (1 : Int32)))), .int (xs (Int32.toNatClampNeg (v4 + (2 : Int32)))), .ref 245] M) (fun r2 M1 => if (v4 + (1 : Int32)) < 0 ∨ xl ≤ Int32.toNatClampNeg (v4 + (1 : Int32)) then none else (if (v4 + (2 : Int32)) < 0 ∨ xl ≤ Int32.toNatClampNeg (v4 + (2 : Int32)) then none else (dp_bl (dp_den true xs xl d 581 [.ref 114, .int (xs (Int32.toNatClampNeg (v4 + (1 : Int32)))), .int (xs (Int32.toNatClampNeg (v4 + (2 : Int32))))] M1) (fun r4 M3 => dp_bi (dp_den true xs xl d 365 [.ref 114] M3) (fun r6 M5 => if r6 = r2 then (if r2 = 0 then (if (0 : Int32) < 0 ∨ 1 ≤ Int32.toNatClampNeg (0 : Int32) then none else (if (lg_cmp (dp_J M5 245 (Int32.toNatClampNeg (0 : Int32))) r4) = 0 then (D_L_law_6132 xs xl d v4 (some (.int r2)) (some (.long r4)) none M5) else (some (.inl (some (.int (0 : Int32))), M5)))) else (D_L_law_6132 xs xl d v4 (some (.int r2)) (some (.long r4)) none M5)) else (some (.inl (some (.int (0 : Int32))), M5))))))))) := by
  have hF := dp_den_grow (md := true) (xs := xs) (xl := xl) d
  unfold D_L_law_5850
  refine dp_s1 hF (i := .aload_n 1) rfl (fun _ => rfl) ?_
  refine dp_s1 hF (i := .aload_n 0) rfl (fun _ => rfl) ?_
  refine dp_s1 hF (i := .iload 4) rfl (fun _ => rfl) ?_
  refine dp_s1 hF (i := .iconst 1) rfl (fun _ => rfl) ?_
  refine dp_s1 hF (i := .iadd) rfl (fun _ => rfl) ?_
  refine dp_s3 hF (i := .iaload) rfl (fun _ => rfl) ?_
  refine dp_s1 hF (i := .aload_n 0) rfl (fun _ => rfl) ?_
  refine dp_s1 hF (i := .iload 4) rfl (fun _ => rfl) ?_
  refine dp_s1 hF (i := .iconst 2) rfl (fun _ => rfl) ?_
  refine dp_s1 hF (i := .iadd) rfl (fun _ => rfl) ?_
  refine dp_s3 hF (i := .iaload) rfl (fun _ => rfl) ?_
  refine dp_s1 hF (i := .aload_n 3) rfl (fun _ => rfl) ?_
  refine dp_si (mj := dp_m_L_claim) (i := .invokestatic 517) rfl rfl (Or.inl rfl) rfl (fun _ => rfl) (fun r2 M1 => ?_)
  refine dp_s1 hF (i := .istore 5) rfl (fun _ => rfl) ?_
  refine dp_s1 hF (i := .aload_n 2) rfl (fun _ => rfl) ?_
  refine dp_s1 hF (i := .aload_n 0) rfl (fun _ => rfl) ?_
  refine dp_s1 hF (i := .iload 4) rfl (fun _ => rfl) ?_
  refine dp_s1 hF (i := .iconst 1) rfl (fun _ => rfl) ?_
  refine dp_s1 hF (i := .iadd) rfl (fun _ => rfl) ?_
  refine dp_s3 hF (i := .iaload) rfl (fun _ => rfl) ?_
  refine dp_s1 hF (i := .aload_n 0) rfl (fun _ => rfl) ?_
  refine dp_s1 hF (i := .iload 4) rfl (fun _ => rfl) ?_
  refine dp_s1 hF (i := .iconst 2) rfl (fun _ => rfl) ?_
  refine dp_s1 hF (i := .iadd) rfl (fun _ => rfl) ?_
  refine dp_s3 hF (i := .iaload) rfl (fun _ => rfl) ?_
  refine dp_sl9 (mj := dp_m_X12_claim) (i := .invokevirtual 519) rfl rfl rfl rfl (fun _ => rfl) (fun r4 M3 => ?_)
  refine dp_s1 hF (i := .lstore 6) rfl (fun _ => rfl) ?_
  refine dp_s1 hF (i := .aload_n 2) rfl (fun _ => rfl) ?_
  refine dp_si (mj := dp_m_X12_thrown) (i := .invokevirtual 229) rfl rfl (Or.inl rfl) rfl (fun _ => rfl) (fun r6 M5 => ?_)
  refine dp_s1 hF (i := .iload 5) rfl (fun _ => rfl) ?_
  refine dp_s2 hF (i := .if_icmp .eq 5) (a := (5898, [some (.retAddr 0), some (.ref 0), some (.ref 114), some (.ref 245), some (.int v4), some (.int r2), some (.long r4), none], [], M5)) (b := (5896, [some (.retAddr 0), some (.ref 0), some (.ref 114), some (.ref 245), some (.int v4), some (.int r2), some (.long r4), none], [], M5)) rfl (fun _ => rfl) ?_ ?_
  · refine dp_s1 hF (i := .iload 5) rfl (fun _ => rfl) ?_
    refine dp_s2 hF (i := .ifCond .ne 14) (a := (5903, [some (.retAddr 0), some (.ref 0), some (.ref 114), some (.ref 245), some (.int v4), some (.int r2), some (.long r4), none], [], M5)) (b := (5914, [some (.retAddr 0), some (.ref 0), some (.ref 114), some (.ref 245), some (.int v4), some (.int r2), some (.long r4), none], [], M5)) rfl (fun _ => rfl) ?_ ?_
    · refine dp_s1 hF (i := .aload_n 3) rfl (fun _ => rfl) ?_
      refine dp_s1 hF (i := .iconst 0) rfl (fun _ => rfl) ?_
      refine dp_s3 hF (i := .laload) rfl (fun _ => rfl) ?_
      refine dp_s1 hF (i := .lload 6) rfl (fun _ => rfl) ?_
      refine dp_s1 hF (i := .lcmp) rfl (fun _ => rfl) ?_
      refine dp_s2 hF (i := .ifCond .eq 5) (a := (5914, [some (.retAddr 0), some (.ref 0), some (.ref 114), some (.ref 245), some (.int v4), some (.int r2), some (.long r4), none], [], M5)) (b := (5912, [some (.retAddr 0), some (.ref 0), some (.ref 114), some (.ref 245), some (.int v4), some (.int r2), some (.long r4), none], [], M5)) rfl (fun _ => rfl) ?_ ?_
      · refine dp_s1 hF (i := .goto 218) rfl (fun _ => rfl) ?_
        exact rfl
      refine dp_s1 hF (i := .iconst 0) rfl (fun _ => rfl) ?_
      exact dp_s0 hF (i := .ireturn) rfl (fun _ => rfl)
    refine dp_s1 hF (i := .goto 218) rfl (fun _ => rfl) ?_
    exact rfl
  refine dp_s1 hF (i := .iconst 0) rfl (fun _ => rfl) ?_
  exact dp_s0 hF (i := .ireturn) rfl (fun _ => rfl)
set_option maxRecDepth 20000 in
theorem D_L_law_5917_eq (xs : Nat → Int32) (xl d : Nat) (v4 : Int32) (u5 : Option Value) (u6 : Option Value) (u7 : Option Value) (M : dp_M) : D_L_law_5917 xs xl d v4 u5 u6 u7 M = if (v4 + (1 : Int32)) < 0 ∨ xl ≤ Int32.toNatClampNeg (v4 + (1 : Int32)) then none else (if (v4 + (2 : Int32)) < 0 ∨ xl ≤ Int32.toNatClampNeg (v4 + (2 : Int32)) then none else (dp_bi (dp_den true xs xl d 652 [.ref 0, .int (xs (Int32.toNatClampNeg (v4 + (1 : Int32)))), .int (xs (Int32.toNatClampNeg (v4 + (2 : Int32)))), .ref 245] M) (fun r2 M1 => if (v4 + (1 : Int32)) < 0 ∨ xl ≤ Int32.toNatClampNeg (v4 + (1 : Int32)) then none else (if (v4 + (2 : Int32)) < 0 ∨ xl ≤ Int32.toNatClampNeg (v4 + (2 : Int32)) then none else (dp_bl (dp_den true xs xl d 582 [.ref 114, .int (xs (Int32.toNatClampNeg (v4 + (1 : Int32)))), .int (xs (Int32.toNatClampNeg (v4 + (2 : Int32))))] M1) (fun r4 M3 => dp_bi (dp_den true xs xl d 365 [.ref 114] M3) (fun r6 M5 => if r6 = r2 then (if r2 = 0 then (if (0 : Int32) < 0 ∨ 1 ≤ Int32.toNatClampNeg (0 : Int32) then none else (if (lg_cmp (dp_J M5 245 (Int32.toNatClampNeg (0 : Int32))) r4) = 0 then (D_L_law_6132 xs xl d v4 (some (.int r2)) (some (.long r4)) none M5) else (some (.inl (some (.int (0 : Int32))), M5)))) else (D_L_law_6132 xs xl d v4 (some (.int r2)) (some (.long r4)) none M5)) else (some (.inl (some (.int (0 : Int32))), M5))))))))) := by
  have hF := dp_den_grow (md := true) (xs := xs) (xl := xl) d
  unfold D_L_law_5917
  refine dp_s1 hF (i := .aload_n 1) rfl (fun _ => rfl) ?_
  refine dp_s1 hF (i := .aload_n 0) rfl (fun _ => rfl) ?_
  refine dp_s1 hF (i := .iload 4) rfl (fun _ => rfl) ?_
  refine dp_s1 hF (i := .iconst 1) rfl (fun _ => rfl) ?_
  refine dp_s1 hF (i := .iadd) rfl (fun _ => rfl) ?_
  refine dp_s3 hF (i := .iaload) rfl (fun _ => rfl) ?_
  refine dp_s1 hF (i := .aload_n 0) rfl (fun _ => rfl) ?_
  refine dp_s1 hF (i := .iload 4) rfl (fun _ => rfl) ?_
  refine dp_s1 hF (i := .iconst 2) rfl (fun _ => rfl) ?_
  refine dp_s1 hF (i := .iadd) rfl (fun _ => rfl) ?_
  refine dp_s3 hF (i := .iaload) rfl (fun _ => rfl) ?_
  refine dp_s1 hF (i := .aload_n 3) rfl (fun _ => rfl) ?_
  refine dp_si (mj := dp_m_L_correct) (i := .invokestatic 520) rfl rfl (Or.inl rfl) rfl (fun _ => rfl) (fun r2 M1 => ?_)
  refine dp_s1 hF (i := .istore 5) rfl (fun _ => rfl) ?_
  refine dp_s1 hF (i := .aload_n 2) rfl (fun _ => rfl) ?_
  refine dp_s1 hF (i := .aload_n 0) rfl (fun _ => rfl) ?_
  refine dp_s1 hF (i := .iload 4) rfl (fun _ => rfl) ?_
  refine dp_s1 hF (i := .iconst 1) rfl (fun _ => rfl) ?_
  refine dp_s1 hF (i := .iadd) rfl (fun _ => rfl) ?_
  refine dp_s3 hF (i := .iaload) rfl (fun _ => rfl) ?_
  refine dp_s1 hF (i := .aload_n 0) rfl (fun _ => rfl) ?_
  refine dp_s1 hF (i := .iload 4) rfl (fun _ => rfl) ?_
  refine dp_s1 hF (i := .iconst 2) rfl (fun _ => rfl) ?_
  refine dp_s1 hF (i := .iadd) rfl (fun _ => rfl) ?_
  refine dp_s3 hF (i := .iaload) rfl (fun _ => rfl) ?_
  refine dp_sl9 (mj := dp_m_X12_correct) (i := .invokevirtual 522) rfl rfl rfl rfl (fun _ => rfl) (fun r4 M3 => ?_)
  refine dp_s1 hF (i := .lstore 6) rfl (fun _ => rfl) ?_
  refine dp_s1 hF (i := .aload_n 2) rfl (fun _ => rfl) ?_
  refine dp_si (mj := dp_m_X12_thrown) (i := .invokevirtual 229) rfl rfl (Or.inl rfl) rfl (fun _ => rfl) (fun r6 M5 => ?_)
  refine dp_s1 hF (i := .iload 5) rfl (fun _ => rfl) ?_
  refine dp_s2 hF (i := .if_icmp .eq 5) (a := (5965, [some (.retAddr 0), some (.ref 0), some (.ref 114), some (.ref 245), some (.int v4), some (.int r2), some (.long r4), none], [], M5)) (b := (5963, [some (.retAddr 0), some (.ref 0), some (.ref 114), some (.ref 245), some (.int v4), some (.int r2), some (.long r4), none], [], M5)) rfl (fun _ => rfl) ?_ ?_
  · refine dp_s1 hF (i := .iload 5) rfl (fun _ => rfl) ?_
    refine dp_s2 hF (i := .ifCond .ne 14) (a := (5970, [some (.retAddr 0), some (.ref 0), some (.ref 114), some (.ref 245), some (.int v4), some (.int r2), some (.long r4), none], [], M5)) (b := (5981, [some (.retAddr 0), some (.ref 0), some (.ref 114), some (.ref 245), some (.int v4), some (.int r2), some (.long r4), none], [], M5)) rfl (fun _ => rfl) ?_ ?_
    · refine dp_s1 hF (i := .aload_n 3) rfl (fun _ => rfl) ?_
      refine dp_s1 hF (i := .iconst 0) rfl (fun _ => rfl) ?_
      refine dp_s3 hF (i := .laload) rfl (fun _ => rfl) ?_
      refine dp_s1 hF (i := .lload 6) rfl (fun _ => rfl) ?_
      refine dp_s1 hF (i := .lcmp) rfl (fun _ => rfl) ?_
      refine dp_s2 hF (i := .ifCond .eq 5) (a := (5981, [some (.retAddr 0), some (.ref 0), some (.ref 114), some (.ref 245), some (.int v4), some (.int r2), some (.long r4), none], [], M5)) (b := (5979, [some (.retAddr 0), some (.ref 0), some (.ref 114), some (.ref 245), some (.int v4), some (.int r2), some (.long r4), none], [], M5)) rfl (fun _ => rfl) ?_ ?_
      · refine dp_s1 hF (i := .goto 151) rfl (fun _ => rfl) ?_
        exact rfl
      refine dp_s1 hF (i := .iconst 0) rfl (fun _ => rfl) ?_
      exact dp_s0 hF (i := .ireturn) rfl (fun _ => rfl)
    refine dp_s1 hF (i := .goto 151) rfl (fun _ => rfl) ?_
    exact rfl
  refine dp_s1 hF (i := .iconst 0) rfl (fun _ => rfl) ?_
  exact dp_s0 hF (i := .ireturn) rfl (fun _ => rfl)
set_option maxRecDepth 20000 in
theorem D_L_law_5984_eq (xs : Nat → Int32) (xl d : Nat) (v4 : Int32) (u5 : Option Value) (u6 : Option Value) (u7 : Option Value) (M : dp_M) : D_L_law_5984 xs xl d v4 u5 u6 u7 M = if (v4 + (1 : Int32)) < 0 ∨ xl ≤ Int32.toNatClampNeg (v4 + (1 : Int32)) then none else (dp_bi (dp_den true xs xl d 653 [.ref 0, .int (xs (Int32.toNatClampNeg (v4 + (1 : Int32)))), .ref 245] M) (fun r2 M1 => if (v4 + (1 : Int32)) < 0 ∨ xl ≤ Int32.toNatClampNeg (v4 + (1 : Int32)) then none else (dp_bi (dp_den true xs xl d 583 [.ref 114, .int (xs (Int32.toNatClampNeg (v4 + (1 : Int32))))] M1) (fun r4 M3 => dp_bi (dp_den true xs xl d 365 [.ref 114] M3) (fun r6 M5 => if r6 = r2 then (if r2 = 0 then (if (0 : Int32) < 0 ∨ 1 ≤ Int32.toNatClampNeg (0 : Int32) then none else (if (lg_cmp (dp_J M5 245 (Int32.toNatClampNeg (0 : Int32))) (Int32.toInt64 r4)) = 0 then (D_L_law_6132 xs xl d v4 (some (.int r2)) (some (.int r4)) u7 M5) else (some (.inl (some (.int (0 : Int32))), M5)))) else (D_L_law_6132 xs xl d v4 (some (.int r2)) (some (.int r4)) u7 M5)) else (some (.inl (some (.int (0 : Int32))), M5))))))) := by
  have hF := dp_den_grow (md := true) (xs := xs) (xl := xl) d
  unfold D_L_law_5984
  refine dp_s1 hF (i := .aload_n 1) rfl (fun _ => rfl) ?_
  refine dp_s1 hF (i := .aload_n 0) rfl (fun _ => rfl) ?_
  refine dp_s1 hF (i := .iload 4) rfl (fun _ => rfl) ?_
  refine dp_s1 hF (i := .iconst 1) rfl (fun _ => rfl) ?_
  refine dp_s1 hF (i := .iadd) rfl (fun _ => rfl) ?_
  refine dp_s3 hF (i := .iaload) rfl (fun _ => rfl) ?_
  refine dp_s1 hF (i := .aload_n 3) rfl (fun _ => rfl) ?_
  refine dp_si (mj := dp_m_L_cancel) (i := .invokestatic 523) rfl rfl (Or.inl rfl) rfl (fun _ => rfl) (fun r2 M1 => ?_)
  refine dp_s1 hF (i := .istore 5) rfl (fun _ => rfl) ?_
  refine dp_s1 hF (i := .aload_n 2) rfl (fun _ => rfl) ?_
  refine dp_s1 hF (i := .aload_n 0) rfl (fun _ => rfl) ?_
  refine dp_s1 hF (i := .iload 4) rfl (fun _ => rfl) ?_
  refine dp_s1 hF (i := .iconst 1) rfl (fun _ => rfl) ?_
  refine dp_s1 hF (i := .iadd) rfl (fun _ => rfl) ?_
  refine dp_s3 hF (i := .iaload) rfl (fun _ => rfl) ?_
  refine dp_si (mj := dp_m_X12_cancel) (i := .invokevirtual 525) rfl rfl (Or.inl rfl) rfl (fun _ => rfl) (fun r4 M3 => ?_)
  refine dp_s1 hF (i := .istore 6) rfl (fun _ => rfl) ?_
  refine dp_s1 hF (i := .aload_n 2) rfl (fun _ => rfl) ?_
  refine dp_si (mj := dp_m_X12_thrown) (i := .invokevirtual 229) rfl rfl (Or.inl rfl) rfl (fun _ => rfl) (fun r6 M5 => ?_)
  refine dp_s1 hF (i := .iload 5) rfl (fun _ => rfl) ?_
  refine dp_s2 hF (i := .if_icmp .eq 5) (a := (6020, [some (.retAddr 0), some (.ref 0), some (.ref 114), some (.ref 245), some (.int v4), some (.int r2), some (.int r4), u7], [], M5)) (b := (6018, [some (.retAddr 0), some (.ref 0), some (.ref 114), some (.ref 245), some (.int v4), some (.int r2), some (.int r4), u7], [], M5)) rfl (fun _ => rfl) ?_ ?_
  · refine dp_s1 hF (i := .iload 5) rfl (fun _ => rfl) ?_
    refine dp_s2 hF (i := .ifCond .ne 15) (a := (6025, [some (.retAddr 0), some (.ref 0), some (.ref 114), some (.ref 245), some (.int v4), some (.int r2), some (.int r4), u7], [], M5)) (b := (6037, [some (.retAddr 0), some (.ref 0), some (.ref 114), some (.ref 245), some (.int v4), some (.int r2), some (.int r4), u7], [], M5)) rfl (fun _ => rfl) ?_ ?_
    · refine dp_s1 hF (i := .aload_n 3) rfl (fun _ => rfl) ?_
      refine dp_s1 hF (i := .iconst 0) rfl (fun _ => rfl) ?_
      refine dp_s3 hF (i := .laload) rfl (fun _ => rfl) ?_
      refine dp_s1 hF (i := .iload 6) rfl (fun _ => rfl) ?_
      refine dp_s1 hF (i := .i2l) rfl (fun _ => rfl) ?_
      refine dp_s1 hF (i := .lcmp) rfl (fun _ => rfl) ?_
      refine dp_s2 hF (i := .ifCond .eq 5) (a := (6037, [some (.retAddr 0), some (.ref 0), some (.ref 114), some (.ref 245), some (.int v4), some (.int r2), some (.int r4), u7], [], M5)) (b := (6035, [some (.retAddr 0), some (.ref 0), some (.ref 114), some (.ref 245), some (.int v4), some (.int r2), some (.int r4), u7], [], M5)) rfl (fun _ => rfl) ?_ ?_
      · refine dp_s1 hF (i := .goto 95) rfl (fun _ => rfl) ?_
        exact rfl
      refine dp_s1 hF (i := .iconst 0) rfl (fun _ => rfl) ?_
      exact dp_s0 hF (i := .ireturn) rfl (fun _ => rfl)
    refine dp_s1 hF (i := .goto 95) rfl (fun _ => rfl) ?_
    exact rfl
  refine dp_s1 hF (i := .iconst 0) rfl (fun _ => rfl) ?_
  exact dp_s0 hF (i := .ireturn) rfl (fun _ => rfl)
set_option maxRecDepth 20000 in
theorem D_L_law_6040_eq (xs : Nat → Int32) (xl d : Nat) (v4 : Int32) (u5 : Option Value) (u6 : Option Value) (u7 : Option Value) (M : dp_M) : D_L_law_6040 xs xl d v4 u5 u6 u7 M = if (v4 + (1 : Int32)) < 0 ∨ xl ≤ Int32.toNatClampNeg (v4 + (1 : Int32)) then none else (if (v4 + (2 : Int32)) < 0 ∨ xl ≤ Int32.toNatClampNeg (v4 + (2 : Int32)) then none else (dp_bi (dp_den true xs xl d 654 [.ref 0, .int (xs (Int32.toNatClampNeg (v4 + (1 : Int32)))), .int (xs (Int32.toNatClampNeg (v4 + (2 : Int32)))), .ref 245] M) (fun r2 M1 => if (v4 + (1 : Int32)) < 0 ∨ xl ≤ Int32.toNatClampNeg (v4 + (1 : Int32)) then none else (if (v4 + (2 : Int32)) < 0 ∨ xl ≤ Int32.toNatClampNeg (v4 + (2 : Int32)) then none else (dp_bl (dp_den true xs xl d 584 [.ref 114, .int (xs (Int32.toNatClampNeg (v4 + (1 : Int32)))), .int (xs (Int32.toNatClampNeg (v4 + (2 : Int32))))] M1) (fun r4 M3 => dp_bi (dp_den true xs xl d 365 [.ref 114] M3) (fun r6 M5 => if r6 = r2 then (if r2 = 0 then (if (0 : Int32) < 0 ∨ 1 ≤ Int32.toNatClampNeg (0 : Int32) then none else (if (lg_cmp (dp_J M5 245 (Int32.toNatClampNeg (0 : Int32))) r4) = 0 then (D_L_law_6132 xs xl d v4 (some (.int r2)) (some (.long r4)) none M5) else (some (.inl (some (.int (0 : Int32))), M5)))) else (D_L_law_6132 xs xl d v4 (some (.int r2)) (some (.long r4)) none M5)) else (some (.inl (some (.int (0 : Int32))), M5))))))))) := by
  have hF := dp_den_grow (md := true) (xs := xs) (xl := xl) d
  unfold D_L_law_6040
  refine dp_s1 hF (i := .aload_n 1) rfl (fun _ => rfl) ?_
  refine dp_s1 hF (i := .aload_n 0) rfl (fun _ => rfl) ?_
  refine dp_s1 hF (i := .iload 4) rfl (fun _ => rfl) ?_
  refine dp_s1 hF (i := .iconst 1) rfl (fun _ => rfl) ?_
  refine dp_s1 hF (i := .iadd) rfl (fun _ => rfl) ?_
  refine dp_s3 hF (i := .iaload) rfl (fun _ => rfl) ?_
  refine dp_s1 hF (i := .aload_n 0) rfl (fun _ => rfl) ?_
  refine dp_s1 hF (i := .iload 4) rfl (fun _ => rfl) ?_
  refine dp_s1 hF (i := .iconst 2) rfl (fun _ => rfl) ?_
  refine dp_s1 hF (i := .iadd) rfl (fun _ => rfl) ?_
  refine dp_s3 hF (i := .iaload) rfl (fun _ => rfl) ?_
  refine dp_s1 hF (i := .aload_n 3) rfl (fun _ => rfl) ?_
  refine dp_si (mj := dp_m_L_declared) (i := .invokestatic 526) rfl rfl (Or.inl rfl) rfl (fun _ => rfl) (fun r2 M1 => ?_)
  refine dp_s1 hF (i := .istore 5) rfl (fun _ => rfl) ?_
  refine dp_s1 hF (i := .aload_n 2) rfl (fun _ => rfl) ?_
  refine dp_s1 hF (i := .aload_n 0) rfl (fun _ => rfl) ?_
  refine dp_s1 hF (i := .iload 4) rfl (fun _ => rfl) ?_
  refine dp_s1 hF (i := .iconst 1) rfl (fun _ => rfl) ?_
  refine dp_s1 hF (i := .iadd) rfl (fun _ => rfl) ?_
  refine dp_s3 hF (i := .iaload) rfl (fun _ => rfl) ?_
  refine dp_s1 hF (i := .aload_n 0) rfl (fun _ => rfl) ?_
  refine dp_s1 hF (i := .iload 4) rfl (fun _ => rfl) ?_
  refine dp_s1 hF (i := .iconst 2) rfl (fun _ => rfl) ?_
  refine dp_s1 hF (i := .iadd) rfl (fun _ => rfl) ?_
  refine dp_s3 hF (i := .iaload) rfl (fun _ => rfl) ?_
  refine dp_sl9 (mj := dp_m_X12_declared) (i := .invokevirtual 528) rfl rfl rfl rfl (fun _ => rfl) (fun r4 M3 => ?_)
  refine dp_s1 hF (i := .lstore 6) rfl (fun _ => rfl) ?_
  refine dp_s1 hF (i := .aload_n 2) rfl (fun _ => rfl) ?_
  refine dp_si (mj := dp_m_X12_thrown) (i := .invokevirtual 229) rfl rfl (Or.inl rfl) rfl (fun _ => rfl) (fun r6 M5 => ?_)
  refine dp_s1 hF (i := .iload 5) rfl (fun _ => rfl) ?_
  refine dp_s2 hF (i := .if_icmp .eq 5) (a := (6088, [some (.retAddr 0), some (.ref 0), some (.ref 114), some (.ref 245), some (.int v4), some (.int r2), some (.long r4), none], [], M5)) (b := (6086, [some (.retAddr 0), some (.ref 0), some (.ref 114), some (.ref 245), some (.int v4), some (.int r2), some (.long r4), none], [], M5)) rfl (fun _ => rfl) ?_ ?_
  · refine dp_s1 hF (i := .iload 5) rfl (fun _ => rfl) ?_
    refine dp_s2 hF (i := .ifCond .ne 14) (a := (6093, [some (.retAddr 0), some (.ref 0), some (.ref 114), some (.ref 245), some (.int v4), some (.int r2), some (.long r4), none], [], M5)) (b := (6104, [some (.retAddr 0), some (.ref 0), some (.ref 114), some (.ref 245), some (.int v4), some (.int r2), some (.long r4), none], [], M5)) rfl (fun _ => rfl) ?_ ?_
    · refine dp_s1 hF (i := .aload_n 3) rfl (fun _ => rfl) ?_
      refine dp_s1 hF (i := .iconst 0) rfl (fun _ => rfl) ?_
      refine dp_s3 hF (i := .laload) rfl (fun _ => rfl) ?_
      refine dp_s1 hF (i := .lload 6) rfl (fun _ => rfl) ?_
      refine dp_s1 hF (i := .lcmp) rfl (fun _ => rfl) ?_
      refine dp_s2 hF (i := .ifCond .eq 5) (a := (6104, [some (.retAddr 0), some (.ref 0), some (.ref 114), some (.ref 245), some (.int v4), some (.int r2), some (.long r4), none], [], M5)) (b := (6102, [some (.retAddr 0), some (.ref 0), some (.ref 114), some (.ref 245), some (.int v4), some (.int r2), some (.long r4), none], [], M5)) rfl (fun _ => rfl) ?_ ?_
      · refine dp_s1 hF (i := .goto 28) rfl (fun _ => rfl) ?_
        exact rfl
      refine dp_s1 hF (i := .iconst 0) rfl (fun _ => rfl) ?_
      exact dp_s0 hF (i := .ireturn) rfl (fun _ => rfl)
    refine dp_s1 hF (i := .goto 28) rfl (fun _ => rfl) ?_
    exact rfl
  refine dp_s1 hF (i := .iconst 0) rfl (fun _ => rfl) ?_
  exact dp_s0 hF (i := .ireturn) rfl (fun _ => rfl)
set_option maxRecDepth 20000 in
theorem D_L_law_6107_eq (xs : Nat → Int32) (xl d : Nat) (v4 : Int32) (u5 : Option Value) (u6 : Option Value) (u7 : Option Value) (M : dp_M) : D_L_law_6107 xs xl d v4 u5 u6 u7 M = if (v4 + (1 : Int32)) < 0 ∨ xl ≤ Int32.toNatClampNeg (v4 + (1 : Int32)) then none else (dp_bi (dp_den true xs xl d 359 [.ref 0, .int (xs (Int32.toNatClampNeg (v4 + (1 : Int32))))] M) (fun r2 M1 => if (v4 + (1 : Int32)) < 0 ∨ xl ≤ Int32.toNatClampNeg (v4 + (1 : Int32)) then none else (dp_bi (dp_den true xs xl d 590 [.ref 114, .int (xs (Int32.toNatClampNeg (v4 + (1 : Int32))))] M1) (fun r4 M3 => if r2 = r4 then (D_L_law_6132 xs xl d v4 u5 u6 u7 M3) else (some (.inl (some (.int (0 : Int32))), M3)))))) := by
  have hF := dp_den_grow (md := true) (xs := xs) (xl := xl) d
  unfold D_L_law_6107
  refine dp_s1 hF (i := .aload_n 1) rfl (fun _ => rfl) ?_
  refine dp_s1 hF (i := .aload_n 0) rfl (fun _ => rfl) ?_
  refine dp_s1 hF (i := .iload 4) rfl (fun _ => rfl) ?_
  refine dp_s1 hF (i := .iconst 1) rfl (fun _ => rfl) ?_
  refine dp_s1 hF (i := .iadd) rfl (fun _ => rfl) ?_
  refine dp_s3 hF (i := .iaload) rfl (fun _ => rfl) ?_
  refine dp_si (mj := dp_m_X11_count) (i := .invokevirtual 529) rfl rfl (Or.inl rfl) rfl (fun _ => rfl) (fun r2 M1 => ?_)
  refine dp_s1 hF (i := .aload_n 2) rfl (fun _ => rfl) ?_
  refine dp_s1 hF (i := .aload_n 0) rfl (fun _ => rfl) ?_
  refine dp_s1 hF (i := .iload 4) rfl (fun _ => rfl) ?_
  refine dp_s1 hF (i := .iconst 1) rfl (fun _ => rfl) ?_
  refine dp_s1 hF (i := .iadd) rfl (fun _ => rfl) ?_
  refine dp_s3 hF (i := .iaload) rfl (fun _ => rfl) ?_
  refine dp_si (mj := dp_m_X12_count) (i := .invokevirtual 532) rfl rfl (Or.inl rfl) rfl (fun _ => rfl) (fun r4 M3 => ?_)
  refine dp_s2 hF (i := .if_icmp .eq 5) (a := (6132, [some (.retAddr 0), some (.ref 0), some (.ref 114), some (.ref 245), some (.int v4), u5, u6, u7], [], M3)) (b := (6130, [some (.retAddr 0), some (.ref 0), some (.ref 114), some (.ref 245), some (.int v4), u5, u6, u7], [], M3)) rfl (fun _ => rfl) ?_ ?_
  · exact rfl
  refine dp_s1 hF (i := .iconst 0) rfl (fun _ => rfl) ?_
  exact dp_s0 hF (i := .ireturn) rfl (fun _ => rfl)
