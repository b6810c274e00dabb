set_option maxRecDepth 20000 in
theorem D_L_law_2891_eq (xs : Nat → Int32) (xl d : Nat) (v4 : Int32) (u5 : Option Value) (u6 : Option Value) (u7 : Option Value) (M : dp_M) : D_L_law_2891 xs xl d v4 u5 u6 u7 M = if (v4 + (1 : Int32)) < 0 ∨ xl ≤ Int32.toNatClampNeg (v4 + (1 : Int32)) then none else (dp_bi (dp_den true xs xl d 622 [.ref 0, .int (xs (Int32.toNatClampNeg (v4 + (1 : Int32)))), .ref 245] M) (fun r2 M1 => if (v4 + (1 : Int32)) < 0 ∨ xl ≤ Int32.toNatClampNeg (v4 + (1 : Int32)) then none else (dp_bi (dp_den true xs xl d 488 [.ref 114, .int (xs (Int32.toNatClampNeg (v4 + (1 : Int32))))] M1) (fun r4 M3 => dp_bi (dp_den true xs xl d 365 [.ref 114] M3) (fun r6 M5 => if r6 = r2 then (if r2 = 0 then (if (0 : Int32) < 0 ∨ 1 ≤ Int32.toNatClampNeg (0 : Int32) then none else (if (lg_cmp (dp_J M5 245 (Int32.toNatClampNeg (0 : Int32))) (Int32.toInt64 r4)) = 0 then (D_L_law_6132 xs xl d v4 (some (.int r2)) (some (.int r4)) u7 M5) else (some (.inl (some (.int (0 : Int32))), M5)))) else (D_L_law_6132 xs xl d v4 (some (.int r2)) (some (.int r4)) u7 M5)) else (some (.inl (some (.int (0 : Int32))), M5))))))) := by
  have hF := dp_den_grow (md := true) (xs := xs) (xl := xl) d
  unfold D_L_law_2891
  refine dp_s1 hF (i := .aload_n 1) rfl (fun _ => rfl) ?_
  refine dp_s1 hF (i := .aload_n 0) rfl (fun _ => rfl) ?_
  refine dp_s1 hF (i := .iload 4) rfl (fun _ => rfl) ?_
  refine dp_s1 hF (i := .iconst 1) rfl (fun _ => rfl) ?_
  refine dp_s1 hF (i := .iadd) rfl (fun _ => rfl) ?_
  refine dp_s3 hF (i := .iaload) rfl (fun _ => rfl) ?_
  refine dp_s1 hF (i := .aload_n 3) rfl (fun _ => rfl) ?_
  refine dp_si (mj := dp_m_L_rate) (i := .invokestatic 373) rfl rfl (Or.inl rfl) rfl (fun _ => rfl) (fun r2 M1 => ?_)
  refine dp_s1 hF (i := .istore 5) rfl (fun _ => rfl) ?_
  refine dp_s1 hF (i := .aload_n 2) rfl (fun _ => rfl) ?_
  refine dp_s1 hF (i := .aload_n 0) rfl (fun _ => rfl) ?_
  refine dp_s1 hF (i := .iload 4) rfl (fun _ => rfl) ?_
  refine dp_s1 hF (i := .iconst 1) rfl (fun _ => rfl) ?_
  refine dp_s1 hF (i := .iadd) rfl (fun _ => rfl) ?_
  refine dp_s3 hF (i := .iaload) rfl (fun _ => rfl) ?_
  refine dp_si (mj := dp_m_X12_rate) (i := .invokevirtual 375) rfl rfl (Or.inl rfl) rfl (fun _ => rfl) (fun r4 M3 => ?_)
  refine dp_s1 hF (i := .istore 6) rfl (fun _ => rfl) ?_
  refine dp_s1 hF (i := .aload_n 2) rfl (fun _ => rfl) ?_
  refine dp_si (mj := dp_m_X12_thrown) (i := .invokevirtual 229) rfl rfl (Or.inl rfl) rfl (fun _ => rfl) (fun r6 M5 => ?_)
  refine dp_s1 hF (i := .iload 5) rfl (fun _ => rfl) ?_
  refine dp_s2 hF (i := .if_icmp .eq 5) (a := (2927, [some (.retAddr 0), some (.ref 0), some (.ref 114), some (.ref 245), some (.int v4), some (.int r2), some (.int r4), u7], [], M5)) (b := (2925, [some (.retAddr 0), some (.ref 0), some (.ref 114), some (.ref 245), some (.int v4), some (.int r2), some (.int r4), u7], [], M5)) rfl (fun _ => rfl) ?_ ?_
  · refine dp_s1 hF (i := .iload 5) rfl (fun _ => rfl) ?_
    refine dp_s2 hF (i := .ifCond .ne 15) (a := (2932, [some (.retAddr 0), some (.ref 0), some (.ref 114), some (.ref 245), some (.int v4), some (.int r2), some (.int r4), u7], [], M5)) (b := (2944, [some (.retAddr 0), some (.ref 0), some (.ref 114), some (.ref 245), some (.int v4), some (.int r2), some (.int r4), u7], [], M5)) rfl (fun _ => rfl) ?_ ?_
    · refine dp_s1 hF (i := .aload_n 3) rfl (fun _ => rfl) ?_
      refine dp_s1 hF (i := .iconst 0) rfl (fun _ => rfl) ?_
      refine dp_s3 hF (i := .laload) rfl (fun _ => rfl) ?_
      refine dp_s1 hF (i := .iload 6) rfl (fun _ => rfl) ?_
      refine dp_s1 hF (i := .i2l) rfl (fun _ => rfl) ?_
      refine dp_s1 hF (i := .lcmp) rfl (fun _ => rfl) ?_
      refine dp_s2 hF (i := .ifCond .eq 5) (a := (2944, [some (.retAddr 0), some (.ref 0), some (.ref 114), some (.ref 245), some (.int v4), some (.int r2), some (.int r4), u7], [], M5)) (b := (2942, [some (.retAddr 0), some (.ref 0), some (.ref 114), some (.ref 245), some (.int v4), some (.int r2), some (.int r4), u7], [], M5)) rfl (fun _ => rfl) ?_ ?_
      · refine dp_s1 hF (i := .goto 3188) rfl (fun _ => rfl) ?_
        exact rfl
      refine dp_s1 hF (i := .iconst 0) rfl (fun _ => rfl) ?_
      exact dp_s0 hF (i := .ireturn) rfl (fun _ => rfl)
    refine dp_s1 hF (i := .goto 3188) rfl (fun _ => rfl) ?_
    exact rfl
  refine dp_s1 hF (i := .iconst 0) rfl (fun _ => rfl) ?_
  exact dp_s0 hF (i := .ireturn) rfl (fun _ => rfl)
set_option maxRecDepth 20000 in
theorem D_L_law_2947_eq (xs : Nat → Int32) (xl d : Nat) (v4 : Int32) (u5 : Option Value) (u6 : Option Value) (u7 : Option Value) (M : dp_M) : D_L_law_2947 xs xl d v4 u5 u6 u7 M = if (v4 + (1 : Int32)) < 0 ∨ xl ≤ Int32.toNatClampNeg (v4 + (1 : Int32)) then none else (if (v4 + (2 : Int32)) < 0 ∨ xl ≤ Int32.toNatClampNeg (v4 + (2 : Int32)) then none else (if (v4 + (3 : Int32)) < 0 ∨ xl ≤ Int32.toNatClampNeg (v4 + (3 : Int32)) then none else (dp_bi (dp_den true xs xl d 623 [.ref 0, .int (xs (Int32.toNatClampNeg (v4 + (1 : Int32)))), .int (xs (Int32.toNatClampNeg (v4 + (2 : Int32)))), .int (xs (Int32.toNatClampNeg (v4 + (3 : Int32)))), .ref 245] M) (fun r2 M1 => if (v4 + (1 : Int32)) < 0 ∨ xl ≤ Int32.toNatClampNeg (v4 + (1 : Int32)) then none else (if (v4 + (2 : Int32)) < 0 ∨ xl ≤ Int32.toNatClampNeg (v4 + (2 : Int32)) then none else (if (v4 + (3 : Int32)) < 0 ∨ xl ≤ Int32.toNatClampNeg (v4 + (3 : Int32)) then none else (dp_bi (dp_den true xs xl d 490 [.ref 114, .int (xs (Int32.toNatClampNeg (v4 + (1 : Int32)))), .int (xs (Int32.toNatClampNeg (v4 + (2 : Int32)))), .int (xs (Int32.toNatClampNeg (v4 + (3 : Int32))))] M1) (fun r4 M3 => dp_bi (dp_den true xs xl d 365 [.ref 114] M3) (fun r6 M5 => if r6 = r2 then (if r2 = 0 then (if (0 : Int32) < 0 ∨ 1 ≤ Int32.toNatClampNeg (0 : Int32) then none else (if (lg_cmp (dp_J M5 245 (Int32.toNatClampNeg (0 : Int32))) (Int32.toInt64 r4)) = 0 then (D_L_law_6132 xs xl d v4 (some (.int r2)) (some (.int r4)) u7 M5) else (some (.inl (some (.int (0 : Int32))), M5)))) else (D_L_law_6132 xs xl d v4 (some (.int r2)) (some (.int r4)) u7 M5)) else (some (.inl (some (.int (0 : Int32))), M5))))))))))) := by
  have hF := dp_den_grow (md := true) (xs := xs) (xl := xl) d
  unfold D_L_law_2947
  refine dp_s1 hF (i := .aload_n 1) rfl (fun _ => rfl) ?_
  refine dp_s1 hF (i := .aload_n 0) rfl (fun _ => rfl) ?_
  refine dp_s1 hF (i := .iload 4) rfl (fun _ => rfl) ?_
  refine dp_s1 hF (i := .iconst 1) rfl (fun _ => rfl) ?_
  refine dp_s1 hF (i := .iadd) rfl (fun _ => rfl) ?_
  refine dp_s3 hF (i := .iaload) rfl (fun _ => rfl) ?_
  refine dp_s1 hF (i := .aload_n 0) rfl (fun _ => rfl) ?_
  refine dp_s1 hF (i := .iload 4) rfl (fun _ => rfl) ?_
  refine dp_s1 hF (i := .iconst 2) rfl (fun _ => rfl) ?_
  refine dp_s1 hF (i := .iadd) rfl (fun _ => rfl) ?_
  refine dp_s3 hF (i := .iaload) rfl (fun _ => rfl) ?_
  refine dp_s1 hF (i := .aload_n 0) rfl (fun _ => rfl) ?_
  refine dp_s1 hF (i := .iload 4) rfl (fun _ => rfl) ?_
  refine dp_s1 hF (i := .iconst 3) rfl (fun _ => rfl) ?_
  refine dp_s1 hF (i := .iadd) rfl (fun _ => rfl) ?_
  refine dp_s3 hF (i := .iaload) rfl (fun _ => rfl) ?_
  refine dp_s1 hF (i := .aload_n 3) rfl (fun _ => rfl) ?_
  refine dp_si (mj := dp_m_L_node) (i := .invokestatic 376) rfl rfl (Or.inl rfl) rfl (fun _ => rfl) (fun r2 M1 => ?_)
  refine dp_s1 hF (i := .istore 5) rfl (fun _ => rfl) ?_
  refine dp_s1 hF (i := .aload_n 2) rfl (fun _ => rfl) ?_
  refine dp_s1 hF (i := .aload_n 0) rfl (fun _ => rfl) ?_
  refine dp_s1 hF (i := .iload 4) rfl (fun _ => rfl) ?_
  refine dp_s1 hF (i := .iconst 1) rfl (fun _ => rfl) ?_
  refine dp_s1 hF (i := .iadd) rfl (fun _ => rfl) ?_
  refine dp_s3 hF (i := .iaload) rfl (fun _ => rfl) ?_
  refine dp_s1 hF (i := .aload_n 0) rfl (fun _ => rfl) ?_
  refine dp_s1 hF (i := .iload 4) rfl (fun _ => rfl) ?_
  refine dp_s1 hF (i := .iconst 2) rfl (fun _ => rfl) ?_
  refine dp_s1 hF (i := .iadd) rfl (fun _ => rfl) ?_
  refine dp_s3 hF (i := .iaload) rfl (fun _ => rfl) ?_
  refine dp_s1 hF (i := .aload_n 0) rfl (fun _ => rfl) ?_
  refine dp_s1 hF (i := .iload 4) rfl (fun _ => rfl) ?_
  refine dp_s1 hF (i := .iconst 3) rfl (fun _ => rfl) ?_
  refine dp_s1 hF (i := .iadd) rfl (fun _ => rfl) ?_
  refine dp_s3 hF (i := .iaload) rfl (fun _ => rfl) ?_
  refine dp_si (mj := dp_m_X12_node) (i := .invokevirtual 378) rfl rfl (Or.inl rfl) rfl (fun _ => rfl) (fun r4 M3 => ?_)
  refine dp_s1 hF (i := .istore 6) rfl (fun _ => rfl) ?_
  refine dp_s1 hF (i := .aload_n 2) rfl (fun _ => rfl) ?_
  refine dp_si (mj := dp_m_X12_thrown) (i := .invokevirtual 229) rfl rfl (Or.inl rfl) rfl (fun _ => rfl) (fun r6 M5 => ?_)
  refine dp_s1 hF (i := .iload 5) rfl (fun _ => rfl) ?_
  refine dp_s2 hF (i := .if_icmp .eq 5) (a := (3007, [some (.retAddr 0), some (.ref 0), some (.ref 114), some (.ref 245), some (.int v4), some (.int r2), some (.int r4), u7], [], M5)) (b := (3005, [some (.retAddr 0), some (.ref 0), some (.ref 114), some (.ref 245), some (.int v4), some (.int r2), some (.int r4), u7], [], M5)) rfl (fun _ => rfl) ?_ ?_
  · refine dp_s1 hF (i := .iload 5) rfl (fun _ => rfl) ?_
    refine dp_s2 hF (i := .ifCond .ne 15) (a := (3012, [some (.retAddr 0), some (.ref 0), some (.ref 114), some (.ref 245), some (.int v4), some (.int r2), some (.int r4), u7], [], M5)) (b := (3024, [some (.retAddr 0), some (.ref 0), some (.ref 114), some (.ref 245), some (.int v4), some (.int r2), some (.int r4), u7], [], M5)) rfl (fun _ => rfl) ?_ ?_
    · refine dp_s1 hF (i := .aload_n 3) rfl (fun _ => rfl) ?_
      refine dp_s1 hF (i := .iconst 0) rfl (fun _ => rfl) ?_
      refine dp_s3 hF (i := .laload) rfl (fun _ => rfl) ?_
      refine dp_s1 hF (i := .iload 6) rfl (fun _ => rfl) ?_
      refine dp_s1 hF (i := .i2l) rfl (fun _ => rfl) ?_
      refine dp_s1 hF (i := .lcmp) rfl (fun _ => rfl) ?_
      refine dp_s2 hF (i := .ifCond .eq 5) (a := (3024, [some (.retAddr 0), some (.ref 0), some (.ref 114), some (.ref 245), some (.int v4), some (.int r2), some (.int r4), u7], [], M5)) (b := (3022, [some (.retAddr 0), some (.ref 0), some (.ref 114), some (.ref 245), some (.int v4), some (.int r2), some (.int r4), u7], [], M5)) rfl (fun _ => rfl) ?_ ?_
      · refine dp_s1 hF (i := .goto 3108) rfl (fun _ => rfl) ?_
        exact rfl
      refine dp_s1 hF (i := .iconst 0) rfl (fun _ => rfl) ?_
      exact dp_s0 hF (i := .ireturn) rfl (fun _ => rfl)
    refine dp_s1 hF (i := .goto 3108) rfl (fun _ => rfl) ?_
    exact rfl
  refine dp_s1 hF (i := .iconst 0) rfl (fun _ => rfl) ?_
  exact dp_s0 hF (i := .ireturn) rfl (fun _ => rfl)
set_option maxRecDepth 20000 in
theorem D_L_law_3027_eq (xs : Nat → Int32) (xl d : Nat) (v4 : Int32) (u5 : Option Value) (u6 : Option Value) (u7 : Option Value) (M : dp_M) : D_L_law_3027 xs xl d v4 u5 u6 u7 M = if (v4 + (1 : Int32)) < 0 ∨ xl ≤ Int32.toNatClampNeg (v4 + (1 : Int32)) then none else (dp_bi (dp_den true xs xl d 624 [.ref 0, .int (xs (Int32.toNatClampNeg (v4 + (1 : Int32)))), .ref 245] M) (fun r2 M1 => if (v4 + (1 : Int32)) < 0 ∨ xl ≤ Int32.toNatClampNeg (v4 + (1 : Int32)) then none else (dp_bi (dp_den true xs xl d 502 [.ref 114, .int (xs (Int32.toNatClampNeg (v4 + (1 : Int32))))] M1) (fun r4 M3 => dp_bi (dp_den true xs xl d 365 [.ref 114] M3) (fun r6 M5 => if r6 = r2 then (if r2 = 0 then (if (0 : Int32) < 0 ∨ 1 ≤ Int32.toNatClampNeg (0 : Int32) then none else (if (lg_cmp (dp_J M5 245 (Int32.toNatClampNeg (0 : Int32))) (Int32.toInt64 r4)) = 0 then (D_L_law_6132 xs xl d v4 (some (.int r2)) (some (.int r4)) u7 M5) else (some (.inl (some (.int (0 : Int32))), M5)))) else (D_L_law_6132 xs xl d v4 (some (.int r2)) (some (.int r4)) u7 M5)) else (some (.inl (some (.int (0 : Int32))), M5))))))) := by
  have hF := dp_den_grow (md := true) (xs := xs) (xl := xl) d
  unfold D_L_law_3027
  refine dp_s1 hF (i := .aload_n 1) rfl (fun _ => rfl) ?_
  refine dp_s1 hF (i := .aload_n 0) rfl (fun _ => rfl) ?_
  refine dp_s1 hF (i := .iload 4) rfl (fun _ => rfl) ?_
  refine dp_s1 hF (i := .iconst 1) rfl (fun _ => rfl) ?_
  refine dp_s1 hF (i := .iadd) rfl (fun _ => rfl) ?_
  refine dp_s3 hF (i := .iaload) rfl (fun _ => rfl) ?_
  refine dp_s1 hF (i := .aload_n 3) rfl (fun _ => rfl) ?_
  refine dp_si (mj := dp_m_L_print) (i := .invokestatic 379) rfl rfl (Or.inl rfl) rfl (fun _ => rfl) (fun r2 M1 => ?_)
  refine dp_s1 hF (i := .istore 5) rfl (fun _ => rfl) ?_
  refine dp_s1 hF (i := .aload_n 2) rfl (fun _ => rfl) ?_
  refine dp_s1 hF (i := .aload_n 0) rfl (fun _ => rfl) ?_
  refine dp_s1 hF (i := .iload 4) rfl (fun _ => rfl) ?_
  refine dp_s1 hF (i := .iconst 1) rfl (fun _ => rfl) ?_
  refine dp_s1 hF (i := .iadd) rfl (fun _ => rfl) ?_
  refine dp_s3 hF (i := .iaload) rfl (fun _ => rfl) ?_
  refine dp_si (mj := dp_m_X12_print) (i := .invokevirtual 381) rfl rfl (Or.inl rfl) rfl (fun _ => rfl) (fun r4 M3 => ?_)
  refine dp_s1 hF (i := .istore 6) rfl (fun _ => rfl) ?_
  refine dp_s1 hF (i := .aload_n 2) rfl (fun _ => rfl) ?_
  refine dp_si (mj := dp_m_X12_thrown) (i := .invokevirtual 229) rfl rfl (Or.inl rfl) rfl (fun _ => rfl) (fun r6 M5 => ?_)
  refine dp_s1 hF (i := .iload 5) rfl (fun _ => rfl) ?_
  refine dp_s2 hF (i := .if_icmp .eq 5) (a := (3063, [some (.retAddr 0), some (.ref 0), some (.ref 114), some (.ref 245), some (.int v4), some (.int r2), some (.int r4), u7], [], M5)) (b := (3061, [some (.retAddr 0), some (.ref 0), some (.ref 114), some (.ref 245), some (.int v4), some (.int r2), some (.int r4), u7], [], M5)) rfl (fun _ => rfl) ?_ ?_
  · refine dp_s1 hF (i := .iload 5) rfl (fun _ => rfl) ?_
    refine dp_s2 hF (i := .ifCond .ne 15) (a := (3068, [some (.retAddr 0), some (.ref 0), some (.ref 114), some (.ref 245), some (.int v4), some (.int r2), some (.int r4), u7], [], M5)) (b := (3080, [some (.retAddr 0), some (.ref 0), some (.ref 114), some (.ref 245), some (.int v4), some (.int r2), some (.int r4), u7], [], M5)) rfl (fun _ => rfl) ?_ ?_
    · refine dp_s1 hF (i := .aload_n 3) rfl (fun _ => rfl) ?_
      refine dp_s1 hF (i := .iconst 0) rfl (fun _ => rfl) ?_
      refine dp_s3 hF (i := .laload) rfl (fun _ => rfl) ?_
      refine dp_s1 hF (i := .iload 6) rfl (fun _ => rfl) ?_
      refine dp_s1 hF (i := .i2l) rfl (fun _ => rfl) ?_
      refine dp_s1 hF (i := .lcmp) rfl (fun _ => rfl) ?_
      refine dp_s2 hF (i := .ifCond .eq 5) (a := (3080, [some (.retAddr 0), some (.ref 0), some (.ref 114), some (.ref 245), some (.int v4), some (.int r2), some (.int r4), u7], [], M5)) (b := (3078, [some (.retAddr 0), some (.ref 0), some (.ref 114), some (.ref 245), some (.int v4), some (.int r2), some (.int r4), u7], [], M5)) rfl (fun _ => rfl) ?_ ?_
      · refine dp_s1 hF (i := .goto 3052) rfl (fun _ => rfl) ?_
        exact rfl
      refine dp_s1 hF (i := .iconst 0) rfl (fun _ => rfl) ?_
      exact dp_s0 hF (i := .ireturn) rfl (fun _ => rfl)
    refine dp_s1 hF (i := .goto 3052) rfl (fun _ => rfl) ?_
    exact rfl
  refine dp_s1 hF (i := .iconst 0) rfl (fun _ => rfl) ?_
  exact dp_s0 hF (i := .ireturn) rfl (fun _ => rfl)
set_option maxRecDepth 20000 in
theorem D_L_law_3083_eq (xs : Nat → Int32) (xl d : Nat) (v4 : Int32) (u5 : Option Value) (u6 : Option Value) (u7 : Option Value) (M : dp_M) : D_L_law_3083 xs xl d v4 u5 u6 u7 M = if (v4 + (1 : Int32)) < 0 ∨ xl ≤ Int32.toNatClampNeg (v4 + (1 : Int32)) then none else (dp_bi (dp_den true xs xl d 625 [.ref 0, .int (xs (Int32.toNatClampNeg (v4 + (1 : Int32)))), .ref 245] M) (fun r2 M1 => if (v4 + (1 : Int32)) < 0 ∨ xl ≤ Int32.toNatClampNeg (v4 + (1 : Int32)) then none else (dp_bi (dp_den true xs xl d 503 [.ref 114, .int (xs (Int32.toNatClampNeg (v4 + (1 : Int32))))] M1) (fun r4 M3 => dp_bi (dp_den true xs xl d 365 [.ref 114] M3) (fun r6 M5 => if r6 = r2 then (if r2 = 0 then (if (0 : Int32) < 0 ∨ 1 ≤ Int32.toNatClampNeg (0 : Int32) then none else (if (lg_cmp (dp_J M5 245 (Int32.toNatClampNeg (0 : Int32))) (Int32.toInt64 r4)) = 0 then (D_L_law_6132 xs xl d v4 (some (.int r2)) (some (.int r4)) u7 M5) else (some (.inl (some (.int (0 : Int32))), M5)))) else (D_L_law_6132 xs xl d v4 (some (.int r2)) (some (.int r4)) u7 M5)) else (some (.inl (some (.int (0 : Int32))), M5))))))) := by
  have hF := dp_den_grow (md := true) (xs := xs) (xl := xl) d
  unfold D_L_law_3083
  refine dp_s1 hF (i := .aload_n 1) rfl (fun _ => rfl) ?_
  refine dp_s1 hF (i := .aload_n 0) rfl (fun _ => rfl) ?_
  refine dp_s1 hF (i := .iload 4) rfl (fun _ => rfl) ?_
  refine dp_s1 hF (i := .iconst 1) rfl (fun _ => rfl) ?_
  refine dp_s1 hF (i := .iadd) rfl (fun _ => rfl) ?_
  refine dp_s3 hF (i := .iaload) rfl (fun _ => rfl) ?_
  refine dp_s1 hF (i := .aload_n 3) rfl (fun _ => rfl) ?_
  refine dp_si (mj := dp_m_L_printed) (i := .invokestatic 382) rfl rfl (Or.inl rfl) rfl (fun _ => rfl) (fun r2 M1 => ?_)
  refine dp_s1 hF (i := .istore 5) rfl (fun _ => rfl) ?_
  refine dp_s1 hF (i := .aload_n 2) rfl (fun _ => rfl) ?_
  refine dp_s1 hF (i := .aload_n 0) rfl (fun _ => rfl) ?_
  refine dp_s1 hF (i := .iload 4) rfl (fun _ => rfl) ?_
  refine dp_s1 hF (i := .iconst 1) rfl (fun _ => rfl) ?_
  refine dp_s1 hF (i := .iadd) rfl (fun _ => rfl) ?_
  refine dp_s3 hF (i := .iaload) rfl (fun _ => rfl) ?_
  refine dp_si (mj := dp_m_X12_printed) (i := .invokevirtual 384) rfl rfl (Or.inl rfl) rfl (fun _ => rfl) (fun r4 M3 => ?_)
  refine dp_s1 hF (i := .istore 6) rfl (fun _ => rfl) ?_
  refine dp_s1 hF (i := .aload_n 2) rfl (fun _ => rfl) ?_
  refine dp_si (mj := dp_m_X12_thrown) (i := .invokevirtual 229) rfl rfl (Or.inl rfl) rfl (fun _ => rfl) (fun r6 M5 => ?_)
  refine dp_s1 hF (i := .iload 5) rfl (fun _ => rfl) ?_
  refine dp_s2 hF (i := .if_icmp .eq 5) (a := (3119, [some (.retAddr 0), some (.ref 0), some (.ref 114), some (.ref 245), some (.int v4), some (.int r2), some (.int r4), u7], [], M5)) (b := (3117, [some (.retAddr 0), some (.ref 0), some (.ref 114), some (.ref 245), some (.int v4), some (.int r2), some (.int r4), u7], [], M5)) rfl (fun _ => rfl) ?_ ?_
  · refine dp_s1 hF (i := .iload 5) rfl (fun _ => rfl) ?_
    refine dp_s2 hF (i := .ifCond .ne 15) (a := (3124, [some (.retAddr 0), some (.ref 0), some (.ref 114), some (.ref 245), some (.int v4), some (.int r2), some (.int r4), u7], [], M5)) (b := (3136, [some (.retAddr 0), some (.ref 0), some (.ref 114), some (.ref 245), some (.int v4), some (.int r2), some (.int r4), u7], [], M5)) rfl (fun _ => rfl) ?_ ?_
    · refine dp_s1 hF (i := .aload_n 3) rfl (fun _ => rfl) ?_
      refine dp_s1 hF (i := .iconst 0) rfl (fun _ => rfl) ?_
      refine dp_s3 hF (i := .laload) rfl (fun _ => rfl) ?_
      refine dp_s1 hF (i := .iload 6) rfl (fun _ => rfl) ?_
      refine dp_s1 hF (i := .i2l) rfl (fun _ => rfl) ?_
      refine dp_s1 hF (i := .lcmp) rfl (fun _ => rfl) ?_
      refine dp_s2 hF (i := .ifCond .eq 5) (a := (3136, [some (.retAddr 0), some (.ref 0), some (.ref 114), some (.ref 245), some (.int v4), some (.int r2), some (.int r4), u7], [], M5)) (b := (3134, [some (.retAddr 0), some (.ref 0), some (.ref 114), some (.ref 245), some (.int v4), some (.int r2), some (.int r4), u7], [], M5)) rfl (fun _ => rfl) ?_ ?_
      · refine dp_s1 hF (i := .goto 2996) rfl (fun _ => rfl) ?_
        exact rfl
      refine dp_s1 hF (i := .iconst 0) rfl (fun _ => rfl) ?_
      exact dp_s0 hF (i := .ireturn) rfl (fun _ => rfl)
    refine dp_s1 hF (i := .goto 2996) rfl (fun _ => rfl) ?_
    exact rfl
  refine dp_s1 hF (i := .iconst 0) rfl (fun _ => rfl) ?_
  exact dp_s0 hF (i := .ireturn) rfl (fun _ => rfl)
set_option maxRecDepth 20000 in
theorem D_L_law_3139_eq (xs : Nat → Int32) (xl d : Nat) (v4 : Int32) (u5 : Option Value) (u6 : Option Value) (u7 : Option Value) (M : dp_M) : D_L_law_3139 xs xl d v4 u5 u6 u7 M = if (v4 + (1 : Int32)) < 0 ∨ xl ≤ Int32.toNatClampNeg (v4 + (1 : Int32)) then none else (if (v4 + (2 : Int32)) < 0 ∨ xl ≤ Int32.toNatClampNeg (v4 + (2 : Int32)) then none else (if (v4 + (3 : Int32)) < 0 ∨ xl ≤ Int32.toNatClampNeg (v4 + (3 : Int32)) then none else (if (v4 + (4 : Int32)) < 0 ∨ xl ≤ Int32.toNatClampNeg (v4 + (4 : Int32)) then none else (if (v4 + (5 : Int32)) < 0 ∨ xl ≤ Int32.toNatClampNeg (v4 + (5 : Int32)) then none else (if (v4 + (6 : Int32)) < 0 ∨ xl ≤ Int32.toNatClampNeg (v4 + (6 : Int32)) then none else (dp_bi (dp_den true xs xl d 626 [.ref 0, .int (xs (Int32.toNatClampNeg (v4 + (1 : Int32)))), .long (((Int32.toInt64 (xs (Int32.toNatClampNeg (v4 + (2 : Int32))))) <<< (Int32.toInt64 (32 : Int32) &&& 63)) ||| ((Int32.toInt64 (xs (Int32.toNatClampNeg (v4 + (3 : Int32))))) &&& (4294967295 : Int64))), .int (xs (Int32.toNatClampNeg (v4 + (4 : Int32)))), .long (((Int32.toInt64 (xs (Int32.toNatClampNeg (v4 + (5 : Int32))))) <<< (Int32.toInt64 (32 : Int32) &&& 63)) ||| ((Int32.toInt64 (xs (Int32.toNatClampNeg (v4 + (6 : Int32))))) &&& (4294967295 : Int64))), .ref 245] M) (fun r2 M1 => if (v4 + (1 : Int32)) < 0 ∨ xl ≤ Int32.toNatClampNeg (v4 + (1 : Int32)) then none else (if (v4 + (2 : Int32)) < 0 ∨ xl ≤ Int32.toNatClampNeg (v4 + (2 : Int32)) then none else (if (v4 + (3 : Int32)) < 0 ∨ xl ≤ Int32.toNatClampNeg (v4 + (3 : Int32)) then none else (if (v4 + (4 : Int32)) < 0 ∨ xl ≤ Int32.toNatClampNeg (v4 + (4 : Int32)) then none else (if (v4 + (5 : Int32)) < 0 ∨ xl ≤ Int32.toNatClampNeg (v4 + (5 : Int32)) then none else (if (v4 + (6 : Int32)) < 0 ∨ xl ≤ Int32.toNatClampNeg (v4 + (6 : Int32)) then none else (dp_bl (dp_den true xs xl d 494 [.ref 114, .int (xs (Int32.toNatClampNeg (v4 + (1 : Int32)))), .long (((Int32.toInt64 (xs (Int32.toNatClampNeg (v4 + (2 : Int32))))) <<< (Int32.toInt64 (32 : Int32) &&& 63)) ||| ((Int32.toInt64 (xs (Int32.toNatClampNeg (v4 + (3 : Int32))))) &&& (4294967295 : Int64))), .int (xs (Int32.toNatClampNeg (v4 + (4 : Int32)))), .long (((Int32.toInt64 (xs (Int32.toNatClampNeg (v4 + (5 : Int32))))) <<< (Int32.toInt64 (32 : Int32) &&& 63)) ||| ((Int32.toInt64 (xs (Int32.toNatClampNeg (v4 + (6 : Int32))))) &&& (4294967295 : Int64)))] M1) (fun r4 M3 => dp_bi (dp_den true xs xl d 365 [.ref 114] M3) (fun r6 M5 => if r6 = r2 then (if r2 = 0 then (if (0 : Int32) < 0 ∨ 1 ≤ Int32.toNatClampNeg (0 : Int32) then none else (if (lg_cmp (dp_J M5 245 (Int32.toNatClampNeg (0 : Int32))) r4) = 0 then (D_L_law_6132 xs xl d v4 (some (.int r2)) (some (.long r4)) none M5) else (some (.inl (some (.int (0 : Int32))), M5)))) else (D_L_law_6132 xs xl d v4 (some (.int r2)) (some (.long r4)) none M5)) else (some (.inl (some (.int (0 : Int32))), M5))))))))))))))))) := by
  have hF := dp_den_grow (md := true) (xs := xs) (xl := xl) d
  unfold D_L_law_3139
  refine dp_s1 hF (i := .aload_n 1) rfl (fun _ => rfl) ?_
  refine dp_s1 hF (i := .aload_n 0) rfl (fun _ => rfl) ?_
  refine dp_s1 hF (i := .iload 4) rfl (fun _ => rfl) ?_
  refine dp_s1 hF (i := .iconst 1) rfl (fun _ => rfl) ?_
  refine dp_s1 hF (i := .iadd) rfl (fun _ => rfl) ?_
  refine dp_s3 hF (i := .iaload) rfl (fun _ => rfl) ?_
  refine dp_s1 hF (i := .aload_n 0) rfl (fun _ => rfl) ?_
  refine dp_s1 hF (i := .iload 4) rfl (fun _ => rfl) ?_
  refine dp_s1 hF (i := .iconst 2) rfl (fun _ => rfl) ?_
  refine dp_s1 hF (i := .iadd) rfl (fun _ => rfl) ?_
  refine dp_s3 hF (i := .iaload) rfl (fun _ => rfl) ?_
  refine dp_s1 hF (i := .i2l) rfl (fun _ => rfl) ?_
  refine dp_s1 hF (i := .bipush 32) rfl (fun _ => rfl) ?_
  refine dp_s1 hF (i := .lshl) rfl (fun _ => rfl) ?_
  refine dp_s1 hF (i := .aload_n 0) rfl (fun _ => rfl) ?_
  refine dp_s1 hF (i := .iload 4) rfl (fun _ => rfl) ?_
  refine dp_s1 hF (i := .iconst 3) rfl (fun _ => rfl) ?_
  refine dp_s1 hF (i := .iadd) rfl (fun _ => rfl) ?_
  refine dp_s3 hF (i := .iaload) rfl (fun _ => rfl) ?_
  refine dp_s1 hF (i := .i2l) rfl (fun _ => rfl) ?_
  refine dp_s1 hF (i := .ldc2_w 366) rfl (fun _ => rfl) ?_
  refine dp_s1 hF (i := .land) rfl (fun _ => rfl) ?_
  refine dp_s1 hF (i := .lor) rfl (fun _ => rfl) ?_
  refine dp_s1 hF (i := .aload_n 0) rfl (fun _ => rfl) ?_
  refine dp_s1 hF (i := .iload 4) rfl (fun _ => rfl) ?_
  refine dp_s1 hF (i := .iconst 4) rfl (fun _ => rfl) ?_
  refine dp_s1 hF (i := .iadd) rfl (fun _ => rfl) ?_
  refine dp_s3 hF (i := .iaload) rfl (fun _ => rfl) ?_
  refine dp_s1 hF (i := .aload_n 0) rfl (fun _ => rfl) ?_
  refine dp_s1 hF (i := .iload 4) rfl (fun _ => rfl) ?_
  refine dp_s1 hF (i := .iconst 5) rfl (fun _ => rfl) ?_
  refine dp_s1 hF (i := .iadd) rfl (fun _ => rfl) ?_
  refine dp_s3 hF (i := .iaload) rfl (fun _ => rfl) ?_
  refine dp_s1 hF (i := .i2l) rfl (fun _ => rfl) ?_
  refine dp_s1 hF (i := .bipush 32) rfl (fun _ => rfl) ?_
  refine dp_s1 hF (i := .lshl) rfl (fun _ => rfl) ?_
  refine dp_s1 hF (i := .aload_n 0) rfl (fun _ => rfl) ?_
  refine dp_s1 hF (i := .iload 4) rfl (fun _ => rfl) ?_
  refine dp_s1 hF (i := .bipush 6) rfl (fun _ => rfl) ?_
  refine dp_s1 hF (i := .iadd) rfl (fun _ => rfl) ?_
  refine dp_s3 hF (i := .iaload) rfl (fun _ => rfl) ?_
  refine dp_s1 hF (i := .i2l) rfl (fun _ => rfl) ?_
  refine dp_s1 hF (i := .ldc2_w 366) rfl (fun _ => rfl) ?_
  refine dp_s1 hF (i := .land) rfl (fun _ => rfl) ?_
  refine dp_s1 hF (i := .lor) rfl (fun _ => rfl) ?_
  refine dp_s1 hF (i := .aload_n 3) rfl (fun _ => rfl) ?_
  refine dp_si (mj := dp_m_L_worth) (i := .invokestatic 385) rfl rfl (Or.inl rfl) rfl (fun _ => rfl) (fun r2 M1 => ?_)
  refine dp_s1 hF (i := .istore 5) rfl (fun _ => rfl) ?_
  refine dp_s1 hF (i := .aload_n 2) rfl (fun _ => rfl) ?_
  refine dp_s1 hF (i := .aload_n 0) rfl (fun _ => rfl) ?_
  refine dp_s1 hF (i := .iload 4) rfl (fun _ => rfl) ?_
  refine dp_s1 hF (i := .iconst 1) rfl (fun _ => rfl) ?_
  refine dp_s1 hF (i := .iadd) rfl (fun _ => rfl) ?_
  refine dp_s3 hF (i := .iaload) rfl (fun _ => rfl) ?_
  refine dp_s1 hF (i := .aload_n 0) rfl (fun _ => rfl) ?_
  refine dp_s1 hF (i := .iload 4) rfl (fun _ => rfl) ?_
  refine dp_s1 hF (i := .iconst 2) rfl (fun _ => rfl) ?_
  refine dp_s1 hF (i := .iadd) rfl (fun _ => rfl) ?_
  refine dp_s3 hF (i := .iaload) rfl (fun _ => rfl) ?_
  refine dp_s1 hF (i := .i2l) rfl (fun _ => rfl) ?_
  refine dp_s1 hF (i := .bipush 32) rfl (fun _ => rfl) ?_
  refine dp_s1 hF (i := .lshl) rfl (fun _ => rfl) ?_
  refine dp_s1 hF (i := .aload_n 0) rfl (fun _ => rfl) ?_
  refine dp_s1 hF (i := .iload 4) rfl (fun _ => rfl) ?_
  refine dp_s1 hF (i := .iconst 3) rfl (fun _ => rfl) ?_
  refine dp_s1 hF (i := .iadd) rfl (fun _ => rfl) ?_
  refine dp_s3 hF (i := .iaload) rfl (fun _ => rfl) ?_
  refine dp_s1 hF (i := .i2l) rfl (fun _ => rfl) ?_
  refine dp_s1 hF (i := .ldc2_w 366) rfl (fun _ => rfl) ?_
  refine dp_s1 hF (i := .land) rfl (fun _ => rfl) ?_
  refine dp_s1 hF (i := .lor) rfl (fun _ => rfl) ?_
  refine dp_s1 hF (i := .aload_n 0) rfl (fun _ => rfl) ?_
  refine dp_s1 hF (i := .iload 4) rfl (fun _ => rfl) ?_
  refine dp_s1 hF (i := .iconst 4) rfl (fun _ => rfl) ?_
  refine dp_s1 hF (i := .iadd) rfl (fun _ => rfl) ?_
  refine dp_s3 hF (i := .iaload) rfl (fun _ => rfl) ?_
  refine dp_s1 hF (i := .aload_n 0) rfl (fun _ => rfl) ?_
  refine dp_s1 hF (i := .iload 4) rfl (fun _ => rfl) ?_
  refine dp_s1 hF (i := .iconst 5) rfl (fun _ => rfl) ?_
  refine dp_s1 hF (i := .iadd) rfl (fun _ => rfl) ?_
  refine dp_s3 hF (i := .iaload) rfl (fun _ => rfl) ?_
  refine dp_s1 hF (i := .i2l) rfl (fun _ => rfl) ?_
  refine dp_s1 hF (i := .bipush 32) rfl (fun _ => rfl) ?_
  refine dp_s1 hF (i := .lshl) rfl (fun _ => rfl) ?_
  refine dp_s1 hF (i := .aload_n 0) rfl (fun _ => rfl) ?_
  refine dp_s1 hF (i := .iload 4) rfl (fun _ => rfl) ?_
  refine dp_s1 hF (i := .bipush 6) rfl (fun _ => rfl) ?_
  refine dp_s1 hF (i := .iadd) rfl (fun _ => rfl) ?_
  refine dp_s3 hF (i := .iaload) rfl (fun _ => rfl) ?_
  refine dp_s1 hF (i := .i2l) rfl (fun _ => rfl) ?_
  refine dp_s1 hF (i := .ldc2_w 366) rfl (fun _ => rfl) ?_
  refine dp_s1 hF (i := .land) rfl (fun _ => rfl) ?_
  refine dp_s1 hF (i := .lor) rfl (fun _ => rfl) ?_
  refine dp_sl9 (mj := dp_m_X12_worth) (i := .invokevirtual 388) rfl rfl rfl rfl (fun _ => rfl) (fun r4 M3 => ?_)
  refine dp_s1 hF (i := .lstore 6) rfl (fun _ => rfl) ?_
  refine dp_s1 hF (i := .aload_n 2) rfl (fun _ => rfl) ?_
  refine dp_si (mj := dp_m_X12_thrown) (i := .invokevirtual 229) rfl rfl (Or.inl rfl) rfl (fun _ => rfl) (fun r6 M5 => ?_)
  refine dp_s1 hF (i := .iload 5) rfl (fun _ => rfl) ?_
  refine dp_s2 hF (i := .if_icmp .eq 5) (a := (3277, [some (.retAddr 0), some (.ref 0), some (.ref 114), some (.ref 245), some (.int v4), some (.int r2), some (.long r4), none], [], M5)) (b := (3275, [some (.retAddr 0), some (.ref 0), some (.ref 114), some (.ref 245), some (.int v4), some (.int r2), some (.long r4), none], [], M5)) rfl (fun _ => rfl) ?_ ?_
  · refine dp_s1 hF (i := .iload 5) rfl (fun _ => rfl) ?_
    refine dp_s2 hF (i := .ifCond .ne 14) (a := (3282, [some (.retAddr 0), some (.ref 0), some (.ref 114), some (.ref 245), some (.int v4), some (.int r2), some (.long r4), none], [], M5)) (b := (3293, [some (.retAddr 0), some (.ref 0), some (.ref 114), some (.ref 245), some (.int v4), some (.int r2), some (.long r4), none], [], M5)) rfl (fun _ => rfl) ?_ ?_
    · refine dp_s1 hF (i := .aload_n 3) rfl (fun _ => rfl) ?_
      refine dp_s1 hF (i := .iconst 0) rfl (fun _ => rfl) ?_
      refine dp_s3 hF (i := .laload) rfl (fun _ => rfl) ?_
      refine dp_s1 hF (i := .lload 6) rfl (fun _ => rfl) ?_
      refine dp_s1 hF (i := .lcmp) rfl (fun _ => rfl) ?_
      refine dp_s2 hF (i := .ifCond .eq 5) (a := (3293, [some (.retAddr 0), some (.ref 0), some (.ref 114), some (.ref 245), some (.int v4), some (.int r2), some (.long r4), none], [], M5)) (b := (3291, [some (.retAddr 0), some (.ref 0), some (.ref 114), some (.ref 245), some (.int v4), some (.int r2), some (.long r4), none], [], M5)) rfl (fun _ => rfl) ?_ ?_
      · refine dp_s1 hF (i := .goto 2839) rfl (fun _ => rfl) ?_
        exact rfl
      refine dp_s1 hF (i := .iconst 0) rfl (fun _ => rfl) ?_
      exact dp_s0 hF (i := .ireturn) rfl (fun _ => rfl)
    refine dp_s1 hF (i := .goto 2839) rfl (fun _ => rfl) ?_
    exact rfl
  refine dp_s1 hF (i := .iconst 0) rfl (fun _ => rfl) ?_
  exact dp_s0 hF (i := .ireturn) rfl (fun _ => rfl)
set_option maxRecDepth 20000 in
theorem D_L_law_3296_eq (xs : Nat → Int32) (xl d : Nat) (v4 : Int32) (u5 : Option Value) (u6 : Option Value) (u7 : Option Value) (M : dp_M) : D_L_law_3296 xs xl d v4 u5 u6 u7 M = if (v4 + (1 : Int32)) < 0 ∨ xl ≤ Int32.toNatClampNeg (v4 + (1 : Int32)) then none else (if (v4 + (2 : Int32)) < 0 ∨ xl ≤ Int32.toNatClampNeg (v4 + (2 : Int32)) then none else (if (v4 + (3 : Int32)) < 0 ∨ xl ≤ Int32.toNatClampNeg (v4 + (3 : Int32)) then none else (if (v4 + (4 : Int32)) < 0 ∨ xl ≤ Int32.toNatClampNeg (v4 + (4 : Int32)) then none else (dp_bi (dp_den true xs xl d 627 [.ref 0, .long (((Int32.toInt64 (xs (Int32.toNatClampNeg (v4 + (1 : Int32))))) <<< (Int32.toInt64 (32 : Int32) &&& 63)) ||| ((Int32.toInt64 (xs (Int32.toNatClampNeg (v4 + (2 : Int32))))) &&& (4294967295 : Int64))), .int (xs (Int32.toNatClampNeg (v4 + (3 : Int32)))), .int (xs (Int32.toNatClampNeg (v4 + (4 : Int32)))), .ref 245] M) (fun r2 M1 => if (v4 + (1 : Int32)) < 0 ∨ xl ≤ Int32.toNatClampNeg (v4 + (1 : Int32)) then none else (if (v4 + (2 : Int32)) < 0 ∨ xl ≤ Int32.toNatClampNeg (v4 + (2 : Int32)) then none else (if (v4 + (3 : Int32)) < 0 ∨ xl ≤ Int32.toNatClampNeg (v4 + (3 : Int32)) then none else (if (v4 + (4 : Int32)) < 0 ∨ xl ≤ Int32.toNatClampNeg (v4 + (4 : Int32)) then none else (dp_bi (dp_den true xs xl d 509 [.ref 114, .long (((Int32.toInt64 (xs (Int32.toNatClampNeg (v4 + (1 : Int32))))) <<< (Int32.toInt64 (32 : Int32) &&& 63)) ||| ((Int32.toInt64 (xs (Int32.toNatClampNeg (v4 + (2 : Int32))))) &&& (4294967295 : Int64))), .int (xs (Int32.toNatClampNeg (v4 + (3 : Int32)))), .int (xs (Int32.toNatClampNeg (v4 + (4 : Int32))))] M1) (fun r4 M3 => dp_bi (dp_den true xs xl d 365 [.ref 114] M3) (fun r6 M5 => if r6 = r2 then (if r2 = 0 then (if (0 : Int32) < 0 ∨ 1 ≤ Int32.toNatClampNeg (0 : Int32) then none else (if (lg_cmp (dp_J M5 245 (Int32.toNatClampNeg (0 : Int32))) (Int32.toInt64 r4)) = 0 then (D_L_law_6132 xs xl d v4 (some (.int r2)) (some (.int r4)) u7 M5) else (some (.inl (some (.int (0 : Int32))), M5)))) else (D_L_law_6132 xs xl d v4 (some (.int r2)) (some (.int r4)) u7 M5)) else (some (.inl (some (.int (0 : Int32))), M5))))))))))))) := by
  have hF := dp_den_grow (md := true) (xs := xs) (xl := xl) d
  unfold D_L_law_3296
  refine dp_s1 hF (i := .aload_n 1) rfl (fun _ => rfl) ?_
  refine dp_s1 hF (i := .aload_n 0) rfl (fun _ => rfl) ?_
  refine dp_s1 hF (i := .iload 4) rfl (fun _ => rfl) ?_
  refine dp_s1 hF (i := .iconst 1) rfl (fun _ => rfl) ?_
  refine dp_s1 hF (i := .iadd) rfl (fun _ => rfl) ?_
  refine dp_s3 hF (i := .iaload) rfl (fun _ => rfl) ?_
  refine dp_s1 hF (i := .i2l) rfl (fun _ => rfl) ?_
  refine dp_s1 hF (i := .bipush 32) rfl (fun _ => rfl) ?_
  refine dp_s1 hF (i := .lshl) rfl (fun _ => rfl) ?_
  refine dp_s1 hF (i := .aload_n 0) rfl (fun _ => rfl) ?_
  refine dp_s1 hF (i := .iload 4) rfl (fun _ => rfl) ?_
  refine dp_s1 hF (i := .iconst 2) rfl (fun _ => rfl) ?_
  refine dp_s1 hF (i := .iadd) rfl (fun _ => rfl) ?_
  refine dp_s3 hF (i := .iaload) rfl (fun _ => rfl) ?_
  refine dp_s1 hF (i := .i2l) rfl (fun _ => rfl) ?_
  refine dp_s1 hF (i := .ldc2_w 366) rfl (fun _ => rfl) ?_
  refine dp_s1 hF (i := .land) rfl (fun _ => rfl) ?_
  refine dp_s1 hF (i := .lor) rfl (fun _ => rfl) ?_
  refine dp_s1 hF (i := .aload_n 0) rfl (fun _ => rfl) ?_
  refine dp_s1 hF (i := .iload 4) rfl (fun _ => rfl) ?_
  refine dp_s1 hF (i := .iconst 3) rfl (fun _ => rfl) ?_
  refine dp_s1 hF (i := .iadd) rfl (fun _ => rfl) ?_
  refine dp_s3 hF (i := .iaload) rfl (fun _ => rfl) ?_
  refine dp_s1 hF (i := .aload_n 0) rfl (fun _ => rfl) ?_
  refine dp_s1 hF (i := .iload 4) rfl (fun _ => rfl) ?_
  refine dp_s1 hF (i := .iconst 4) rfl (fun _ => rfl) ?_
  refine dp_s1 hF (i := .iadd) rfl (fun _ => rfl) ?_
  refine dp_s3 hF (i := .iaload) rfl (fun _ => rfl) ?_
  refine dp_s1 hF (i := .aload_n 3) rfl (fun _ => rfl) ?_
  refine dp_si (mj := dp_m_L_order) (i := .invokestatic 389) rfl rfl (Or.inl rfl) rfl (fun _ => rfl) (fun r2 M1 => ?_)
  refine dp_s1 hF (i := .istore 5) rfl (fun _ => rfl) ?_
  refine dp_s1 hF (i := .aload_n 2) rfl (fun _ => rfl) ?_
  refine dp_s1 hF (i := .aload_n 0) rfl (fun _ => rfl) ?_
  refine dp_s1 hF (i := .iload 4) rfl (fun _ => rfl) ?_
  refine dp_s1 hF (i := .iconst 1) rfl (fun _ => rfl) ?_
  refine dp_s1 hF (i := .iadd) rfl (fun _ => rfl) ?_
  refine dp_s3 hF (i := .iaload) rfl (fun _ => rfl) ?_
  refine dp_s1 hF (i := .i2l) rfl (fun _ => rfl) ?_
  refine dp_s1 hF (i := .bipush 32) rfl (fun _ => rfl) ?_
  refine dp_s1 hF (i := .lshl) rfl (fun _ => rfl) ?_
  refine dp_s1 hF (i := .aload_n 0) rfl (fun _ => rfl) ?_
  refine dp_s1 hF (i := .iload 4) rfl (fun _ => rfl) ?_
  refine dp_s1 hF (i := .iconst 2) rfl (fun _ => rfl) ?_
  refine dp_s1 hF (i := .iadd) rfl (fun _ => rfl) ?_
  refine dp_s3 hF (i := .iaload) rfl (fun _ => rfl) ?_
  refine dp_s1 hF (i := .i2l) rfl (fun _ => rfl) ?_
  refine dp_s1 hF (i := .ldc2_w 366) rfl (fun _ => rfl) ?_
  refine dp_s1 hF (i := .land) rfl (fun _ => rfl) ?_
  refine dp_s1 hF (i := .lor) rfl (fun _ => rfl) ?_
  refine dp_s1 hF (i := .aload_n 0) rfl (fun _ => rfl) ?_
  refine dp_s1 hF (i := .iload 4) rfl (fun _ => rfl) ?_
  refine dp_s1 hF (i := .iconst 3) rfl (fun _ => rfl) ?_
  refine dp_s1 hF (i := .iadd) rfl (fun _ => rfl) ?_
  refine dp_s3 hF (i := .iaload) rfl (fun _ => rfl) ?_
  refine dp_s1 hF (i := .aload_n 0) rfl (fun _ => rfl) ?_
  refine dp_s1 hF (i := .iload 4) rfl (fun _ => rfl) ?_
  refine dp_s1 hF (i := .iconst 4) rfl (fun _ => rfl) ?_
  refine dp_s1 hF (i := .iadd) rfl (fun _ => rfl) ?_
  refine dp_s3 hF (i := .iaload) rfl (fun _ => rfl) ?_
  refine dp_si (mj := dp_m_X12_order) (i := .invokevirtual 392) rfl rfl (Or.inl rfl) rfl (fun _ => rfl) (fun r4 M3 => ?_)
  refine dp_s1 hF (i := .istore 6) rfl (fun _ => rfl) ?_
  refine dp_s1 hF (i := .aload_n 2) rfl (fun _ => rfl) ?_
  refine dp_si (mj := dp_m_X12_thrown) (i := .invokevirtual 229) rfl rfl (Or.inl rfl) rfl (fun _ => rfl) (fun r6 M5 => ?_)
  refine dp_s1 hF (i := .iload 5) rfl (fun _ => rfl) ?_
  refine dp_s2 hF (i := .if_icmp .eq 5) (a := (3388, [some (.retAddr 0), some (.ref 0), some (.ref 114), some (.ref 245), some (.int v4), some (.int r2), some (.int r4), u7], [], M5)) (b := (3386, [some (.retAddr 0), some (.ref 0), some (.ref 114), some (.ref 245), some (.int v4), some (.int r2), some (.int r4), u7], [], M5)) rfl (fun _ => rfl) ?_ ?_
  · refine dp_s1 hF (i := .iload 5) rfl (fun _ => rfl) ?_
    refine dp_s2 hF (i := .ifCond .ne 15) (a := (3393, [some (.retAddr 0), some (.ref 0), some (.ref 114), some (.ref 245), some (.int v4), some (.int r2), some (.int r4), u7], [], M5)) (b := (3405, [some (.retAddr 0), some (.ref 0), some (.ref 114), some (.ref 245), some (.int v4), some (.int r2), some (.int r4), u7], [], M5)) rfl (fun _ => rfl) ?_ ?_
    · refine dp_s1 hF (i := .aload_n 3) rfl (fun _ => rfl) ?_
      refine dp_s1 hF (i := .iconst 0) rfl (fun _ => rfl) ?_
      refine dp_s3 hF (i := .laload) rfl (fun _ => rfl) ?_
      refine dp_s1 hF (i := .iload 6) rfl (fun _ => rfl) ?_
      refine dp_s1 hF (i := .i2l) rfl (fun _ => rfl) ?_
      refine dp_s1 hF (i := .lcmp) rfl (fun _ => rfl) ?_
      refine dp_s2 hF (i := .ifCond .eq 5) (a := (3405, [some (.retAddr 0), some (.ref 0), some (.ref 114), some (.ref 245), some (.int v4), some (.int r2), some (.int r4), u7], [], M5)) (b := (3403, [some (.retAddr 0), some (.ref 0), some (.ref 114), some (.ref 245), some (.int v4), some (.int r2), some (.int r4), u7], [], M5)) rfl (fun _ => rfl) ?_ ?_
      · refine dp_s1 hF (i := .goto 2727) rfl (fun _ => rfl) ?_
        exact rfl
      refine dp_s1 hF (i := .iconst 0) rfl (fun _ => rfl) ?_
      exact dp_s0 hF (i := .ireturn) rfl (fun _ => rfl)
    refine dp_s1 hF (i := .goto 2727) rfl (fun _ => rfl) ?_
    exact rfl
  refine dp_s1 hF (i := .iconst 0) rfl (fun _ => rfl) ?_
  exact dp_s0 hF (i := .ireturn) rfl (fun _ => rfl)
set_option maxRecDepth 20000 in
theorem D_L_law_3408_eq (xs : Nat → Int32) (xl d : Nat) (v4 : Int32) (u5 : Option Value) (u6 : Option Value) (u7 : Option Value) (M : dp_M) : D_L_law_3408 xs xl d v4 u5 u6 u7 M = if (v4 + (1 : Int32)) < 0 ∨ xl ≤ Int32.toNatClampNeg (v4 + (1 : Int32)) then none else (if (v4 + (2 : Int32)) < 0 ∨ xl ≤ Int32.toNatClampNeg (v4 + (2 : Int32)) then none else (dp_bi (dp_den true xs xl d 628 [.ref 0, .int (xs (Int32.toNatClampNeg (v4 + (1 : Int32)))), .int (xs (Int32.toNatClampNeg (v4 + (2 : Int32)))), .ref 245] M) (fun r2 M1 => if (v4 + (1 : Int32)) < 0 ∨ xl ≤ Int32.toNatClampNeg (v4 + (1 : Int32)) then none else (if (v4 + (2 : Int32)) < 0 ∨ xl ≤ Int32.toNatClampNeg (v4 + (2 : Int32)) then none else (dp_bi (dp_den true xs xl d 510 [.ref 114, .int (xs (Int32.toNatClampNeg (v4 + (1 : Int32)))), .int (xs (Int32.toNatClampNeg (v4 + (2 : Int32))))] M1) (fun r4 M3 => dp_bi (dp_den true xs xl d 365 [.ref 114] M3) (fun r6 M5 => if r6 = r2 then (if r2 = 0 then (if (0 : Int32) < 0 ∨ 1 ≤ Int32.toNatClampNeg (0 : Int32) then none else (if (lg_cmp (dp_J M5 245 (Int32.toNatClampNeg (0 : Int32))) (Int32.toInt64 r4)) = 0 then (D_L_law_6132 xs xl d v4 (some (.int r2)) (some (.int r4)) u7 M5) else (some (.inl (some (.int (0 : Int32))), M5)))) else (D_L_law_6132 xs xl d v4 (some (.int r2)) (some (.int r4)) u7 M5)) else (some (.inl (some (.int (0 : Int32))), M5))))))))) := by
  have hF := dp_den_grow (md := true) (xs := xs) (xl := xl) d
  unfold D_L_law_3408
  refine dp_s1 hF (i := .aload_n 1) rfl (fun _ => rfl) ?_
  refine dp_s1 hF (i := .aload_n 0) rfl (fun _ => rfl) ?_
  refine dp_s1 hF (i := .iload 4) rfl (fun _ => rfl) ?_
  refine dp_s1 hF (i := .iconst 1) rfl (fun _ => rfl) ?_
  refine dp_s1 hF (i := .iadd) rfl (fun _ => rfl) ?_
  refine dp_s3 hF (i := .iaload) rfl (fun _ => rfl) ?_
  refine dp_s1 hF (i := .aload_n 0) rfl (fun _ => rfl) ?_
  refine dp_s1 hF (i := .iload 4) rfl (fun _ => rfl) ?_
  refine dp_s1 hF (i := .iconst 2) rfl (fun _ => rfl) ?_
  refine dp_s1 hF (i := .iadd) rfl (fun _ => rfl) ?_
  refine dp_s3 hF (i := .iaload) rfl (fun _ => rfl) ?_
  refine dp_s1 hF (i := .aload_n 3) rfl (fun _ => rfl) ?_
  refine dp_si (mj := dp_m_L_run) (i := .invokestatic 393) rfl rfl (Or.inl rfl) rfl (fun _ => rfl) (fun r2 M1 => ?_)
  refine dp_s1 hF (i := .istore 5) rfl (fun _ => rfl) ?_
  refine dp_s1 hF (i := .aload_n 2) rfl (fun _ => rfl) ?_
  refine dp_s1 hF (i := .aload_n 0) rfl (fun _ => rfl) ?_
  refine dp_s1 hF (i := .iload 4) rfl (fun _ => rfl) ?_
  refine dp_s1 hF (i := .iconst 1) rfl (fun _ => rfl) ?_
  refine dp_s1 hF (i := .iadd) rfl (fun _ => rfl) ?_
  refine dp_s3 hF (i := .iaload) rfl (fun _ => rfl) ?_
  refine dp_s1 hF (i := .aload_n 0) rfl (fun _ => rfl) ?_
  refine dp_s1 hF (i := .iload 4) rfl (fun _ => rfl) ?_
  refine dp_s1 hF (i := .iconst 2) rfl (fun _ => rfl) ?_
  refine dp_s1 hF (i := .iadd) rfl (fun _ => rfl) ?_
  refine dp_s3 hF (i := .iaload) rfl (fun _ => rfl) ?_
  refine dp_si (mj := dp_m_X12_run) (i := .invokevirtual 395) rfl rfl (Or.inl rfl) rfl (fun _ => rfl) (fun r4 M3 => ?_)
  refine dp_s1 hF (i := .istore 6) rfl (fun _ => rfl) ?_
  refine dp_s1 hF (i := .aload_n 2) rfl (fun _ => rfl) ?_
  refine dp_si (mj := dp_m_X12_thrown) (i := .invokevirtual 229) rfl rfl (Or.inl rfl) rfl (fun _ => rfl) (fun r6 M5 => ?_)
  refine dp_s1 hF (i := .iload 5) rfl (fun _ => rfl) ?_
  refine dp_s2 hF (i := .if_icmp .eq 5) (a := (3456, [some (.retAddr 0), some (.ref 0), some (.ref 114), some (.ref 245), some (.int v4), some (.int r2), some (.int r4), u7], [], M5)) (b := (3454, [some (.retAddr 0), some (.ref 0), some (.ref 114), some (.ref 245), some (.int v4), some (.int r2), some (.int r4), u7], [], M5)) rfl (fun _ => rfl) ?_ ?_
  · refine dp_s1 hF (i := .iload 5) rfl (fun _ => rfl) ?_
    refine dp_s2 hF (i := .ifCond .ne 15) (a := (3461, [some (.retAddr 0), some (.ref 0), some (.ref 114), some (.ref 245), some (.int v4), some (.int r2), some (.int r4), u7], [], M5)) (b := (3473, [some (.retAddr 0), some (.ref 0), some (.ref 114), some (.ref 245), some (.int v4), some (.int r2), some (.int r4), u7], [], M5)) rfl (fun _ => rfl) ?_ ?_
    · refine dp_s1 hF (i := .aload_n 3) rfl (fun _ => rfl) ?_
      refine dp_s1 hF (i := .iconst 0) rfl (fun _ => rfl) ?_
      refine dp_s3 hF (i := .laload) rfl (fun _ => rfl) ?_
      refine dp_s1 hF (i := .iload 6) rfl (fun _ => rfl) ?_
      refine dp_s1 hF (i := .i2l) rfl (fun _ => rfl) ?_
      refine dp_s1 hF (i := .lcmp) rfl (fun _ => rfl) ?_
      refine dp_s2 hF (i := .ifCond .eq 5) (a := (3473, [some (.retAddr 0), some (.ref 0), some (.ref 114), some (.ref 245), some (.int v4), some (.int r2), some (.int r4), u7], [], M5)) (b := (3471, [some (.retAddr 0), some (.ref 0), some (.ref 114), some (.ref 245), some (.int v4), some (.int r2), some (.int r4), u7], [], M5)) rfl (fun _ => rfl) ?_ ?_
      · refine dp_s1 hF (i := .goto 2659) rfl (fun _ => rfl) ?_
        exact rfl
      refine dp_s1 hF (i := .iconst 0) rfl (fun _ => rfl) ?_
      exact dp_s0 hF (i := .ireturn) rfl (fun _ => rfl)
    refine dp_s1 hF (i := .goto 2659) rfl (fun _ => rfl) ?_
    exact rfl
  refine dp_s1 hF (i := .iconst 0) rfl (fun _ => rfl) ?_
  exact dp_s0 hF (i := .ireturn) rfl (fun _ => rfl)
set_option maxRecDepth 20000 in
theorem D_L_law_3476_eq (xs : Nat → Int32) (xl d : Nat) (v4 : Int32) (u5 : Option Value) (u6 : Option Value) (u7 : Option Value) (M : dp_M) : D_L_law_3476 xs xl d v4 u5 u6 u7 M = if (v4 + (1 : Int32)) < 0 ∨ xl ≤ Int32.toNatClampNeg (v4 + (1 : Int32)) then none else (if (v4 + (2 : Int32)) < 0 ∨ xl ≤ Int32.toNatClampNeg (v4 + (2 : Int32)) then none else (if (v4 + (3 : Int32)) < 0 ∨ xl ≤ Int32.toNatClampNeg (v4 + (3 : Int32)) then none else (if (xs (Int32.toNatClampNeg (v4 + (3 : Int32)))) = 0 then (dp_bi (dp_den true xs xl d 629 [.ref 0, .int (xs (Int32.toNatClampNeg (v4 + (1 : Int32)))), .int (xs (Int32.toNatClampNeg (v4 + (2 : Int32)))), .int (0 : Int32), .ref 245] M) (fun r2 M1 => if (v4 + (1 : Int32)) < 0 ∨ xl ≤ Int32.toNatClampNeg (v4 + (1 : Int32)) then none else (if (v4 + (2 : Int32)) < 0 ∨ xl ≤ Int32.toNatClampNeg (v4 + (2 : Int32)) then none else (if (v4 + (3 : Int32)) < 0 ∨ xl ≤ Int32.toNatClampNeg (v4 + (3 : Int32)) then none else (if (xs (Int32.toNatClampNeg (v4 + (3 : Int32)))) = 0 then (dp_bi (dp_den true xs xl d 511 [.ref 114, .int (xs (Int32.toNatClampNeg (v4 + (1 : Int32)))), .int (xs (Int32.toNatClampNeg (v4 + (2 : Int32)))), .int (0 : Int32)] M1) (fun r4 M3 => dp_bi (dp_den true xs xl d 365 [.ref 114] M3) (fun r6 M5 => if r6 = r2 then (if r2 = 0 then (if (0 : Int32) < 0 ∨ 1 ≤ Int32.toNatClampNeg (0 : Int32) then none else (if r4 = 0 then (if (lg_cmp (dp_J M5 245 (Int32.toNatClampNeg (0 : Int32))) (0 : Int64)) = 0 then (D_L_law_6132 xs xl d v4 (some (.int r2)) (some (.int r4)) u7 M5) else (some (.inl (some (.int (0 : Int32))), M5))) else (if (lg_cmp (dp_J M5 245 (Int32.toNatClampNeg (0 : Int32))) (1 : Int64)) = 0 then (D_L_law_6132 xs xl d v4 (some (.int r2)) (some (.int r4)) u7 M5) else (some (.inl (some (.int (0 : Int32))), M5))))) else (D_L_law_6132 xs xl d v4 (some (.int r2)) (some (.int r4)) u7 M5)) else (some (.inl (some (.int (0 : Int32))), M5))))) else (dp_bi (dp_den true xs xl d 511 [.ref 114, .int (xs (Int32.toNatClampNeg (v4 + (1 : Int32)))), .int (xs (Int32.toNatClampNeg (v4 + (2 : Int32)))), .int (1 : Int32)] M1) (fun r8 M7 => dp_bi (dp_den true xs xl d 365 [.ref 114] M7) (fun r10 M9 => if r10 = r2 then (if r2 = 0 then (if (0 : Int32) < 0 ∨ 1 ≤ Int32.toNatClampNeg (0 : Int32) then none else (if r8 = 0 then (if (lg_cmp (dp_J M9 245 (Int32.toNatClampNeg (0 : Int32))) (0 : Int64)) = 0 then (D_L_law_6132 xs xl d v4 (some (.int r2)) (some (.int r8)) u7 M9) else (some (.inl (some (.int (0 : Int32))), M9))) else (if (lg_cmp (dp_J M9 245 (Int32.toNatClampNeg (0 : Int32))) (1 : Int64)) = 0 then (D_L_law_6132 xs xl d v4 (some (.int r2)) (some (.int r8)) u7 M9) else (some (.inl (some (.int (0 : Int32))), M9))))) else (D_L_law_6132 xs xl d v4 (some (.int r2)) (some (.int r8)) u7 M9)) else (some (.inl (some (.int (0 : Int32))), M9)))))))))) else (dp_bi (dp_den true xs xl d 629 [.ref 0, .int (xs (Int32.toNatClampNeg (v4 + (1 : Int32)))), .int (xs (Int32.toNatClampNeg (v4 + (2 : Int32)))), .int (1 : Int32), .ref 245] M) (fun r12 M11 => if (v4 + (1 : Int32)) < 0 ∨ xl ≤ Int32.toNatClampNeg (v4 + (1 : Int32)) then none else (if (v4 + (2 : Int32)) < 0 ∨ xl ≤ Int32.toNatClampNeg (v4 + (2 : Int32)) then none else (if (v4 + (3 : Int32)) < 0 ∨ xl ≤ Int32.toNatClampNeg (v4 + (3 : Int32)) then none else (if (xs (Int32.toNatClampNeg (v4 + (3 : Int32)))) = 0 then (dp_bi (dp_den true xs xl d 511 [.ref 114, .int (xs (Int32.toNatClampNeg (v4 + (1 : Int32)))), .int (xs (Int32.toNatClampNeg (v4 + (2 : Int32)))), .int (0 : Int32)] M11) (fun r14 M13 => dp_bi (dp_den true xs xl d 365 [.ref 114] M13) (fun r16 M15 => if r16 = r12 then (if r12 = 0 then (if (0 : Int32) < 0 ∨ 1 ≤ Int32.toNatClampNeg (0 : Int32) then none else (if r14 = 0 then (if (lg_cmp (dp_J M15 245 (Int32.toNatClampNeg (0 : Int32))) (0 : Int64)) = 0 then (D_L_law_6132 xs xl d v4 (some (.int r12)) (some (.int r14)) u7 M15) else (some (.inl (some (.int (0 : Int32))), M15))) else (if (lg_cmp (dp_J M15 245 (Int32.toNatClampNeg (0 : Int32))) (1 : Int64)) = 0 then (D_L_law_6132 xs xl d v4 (some (.int r12)) (some (.int r14)) u7 M15) else (some (.inl (some (.int (0 : Int32))), M15))))) else (D_L_law_6132 xs xl d v4 (some (.int r12)) (some (.int r14)) u7 M15)) else (some (.inl (some (.int (0 : Int32))), M15))))) else (dp_bi (dp_den true xs xl d 511 [.ref 114, .int (xs (Int32.toNatClampNeg (v4 + (1 : Int32)))), .int (xs (Int32.toNatClampNeg (v4 + (2 : Int32)))), .int (1 : Int32)] M11) (fun r18 M17 => dp_bi (dp_den true xs xl d 365 [.ref 114] M17) (fun r20 M19 => if r20 = r12 then (if r12 = 0 then (if (0 : Int32) < 0 ∨ 1 ≤ Int32.toNatClampNeg (0 : Int32) then none else (if r18 = 0 then (if (lg_cmp (dp_J M19 245 (Int32.toNatClampNeg (0 : Int32))) (0 : Int64)) = 0 then (D_L_law_6132 xs xl d v4 (some (.int r12)) (some (.int r18)) u7 M19) else (some (.inl (some (.int (0 : Int32))), M19))) else (if (lg_cmp (dp_J M19 245 (Int32.toNatClampNeg (0 : Int32))) (1 : Int64)) = 0 then (D_L_law_6132 xs xl d v4 (some (.int r12)) (some (.int r18)) u7 M19) else (some (.inl (some (.int (0 : Int32))), M19))))) else (D_L_law_6132 xs xl d v4 (some (.int r12)) (some (.int r18)) u7 M19)) else (some (.inl (some (.int (0 : Int32))), M19))))))))))))) := by
  have hF := dp_den_grow (md := true) (xs := xs) (xl := xl) d
  unfold D_L_law_3476
  refine dp_s1 hF (i := .aload_n 1) rfl (fun _ => rfl) ?_
  refine dp_s1 hF (i := .aload_n 0) rfl (fun _ => rfl) ?_
  refine dp_s1 hF (i := .iload 4) rfl (fun _ => rfl) ?_
  refine dp_s1 hF (i := .iconst 1) rfl (fun _ => rfl) ?_
  refine dp_s1 hF (i := .iadd) rfl (fun _ => rfl) ?_
  refine dp_s3 hF (i := .iaload) rfl (fun _ => rfl) ?_
  refine dp_s1 hF (i := .aload_n 0) rfl (fun _ => rfl) ?_
  refine dp_s1 hF (i := .iload 4) rfl (fun _ => rfl) ?_
  refine dp_s1 hF (i := .iconst 2) rfl (fun _ => rfl) ?_
  refine dp_s1 hF (i := .iadd) rfl (fun _ => rfl) ?_
  refine dp_s3 hF (i := .iaload) rfl (fun _ => rfl) ?_
  refine dp_s1 hF (i := .aload_n 0) rfl (fun _ => rfl) ?_
  refine dp_s1 hF (i := .iload 4) rfl (fun _ => rfl) ?_
  refine dp_s1 hF (i := .iconst 3) rfl (fun _ => rfl) ?_
  refine dp_s1 hF (i := .iadd) rfl (fun _ => rfl) ?_
  refine dp_s3 hF (i := .iaload) rfl (fun _ => rfl) ?_
  refine dp_s2 hF (i := .ifCond .eq 7) (a := (3502, [some (.retAddr 0), some (.ref 0), some (.ref 114), some (.ref 245), some (.int v4), u5, u6, u7], [.int (xs (Int32.toNatClampNeg (v4 + (2 : Int32)))), .int (xs (Int32.toNatClampNeg (v4 + (1 : Int32)))), .ref 0], M)) (b := (3498, [some (.retAddr 0), some (.ref 0), some (.ref 114), some (.ref 245), some (.int v4), u5, u6, u7], [.int (xs (Int32.toNatClampNeg (v4 + (2 : Int32)))), .int (xs (Int32.toNatClampNeg (v4 + (1 : Int32)))), .ref 0], M)) rfl (fun _ => rfl) ?_ ?_
  · refine dp_s1 hF (i := .iconst 0) rfl (fun _ => rfl) ?_
    refine dp_s1 hF (i := .aload_n 3) rfl (fun _ => rfl) ?_
    refine dp_si (mj := dp_m_L_block) (i := .invokestatic 396) rfl rfl (Or.inl rfl) rfl (fun _ => rfl) (fun r2 M1 => ?_)
    refine dp_s1 hF (i := .istore 5) rfl (fun _ => rfl) ?_
    refine dp_s1 hF (i := .aload_n 2) rfl (fun _ => rfl) ?_
    refine dp_s1 hF (i := .aload_n 0) rfl (fun _ => rfl) ?_
    refine dp_s1 hF (i := .iload 4) rfl (fun _ => rfl) ?_
    refine dp_s1 hF (i := .iconst 1) rfl (fun _ => rfl) ?_
    refine dp_s1 hF (i := .iadd) rfl (fun _ => rfl) ?_
    refine dp_s3 hF (i := .iaload) rfl (fun _ => rfl) ?_
    refine dp_s1 hF (i := .aload_n 0) rfl (fun _ => rfl) ?_
    refine dp_s1 hF (i := .iload 4) rfl (fun _ => rfl) ?_
    refine dp_s1 hF (i := .iconst 2) rfl (fun _ => rfl) ?_
    refine dp_s1 hF (i := .iadd) rfl (fun _ => rfl) ?_
    refine dp_s3 hF (i := .iaload) rfl (fun _ => rfl) ?_
    refine dp_s1 hF (i := .aload_n 0) rfl (fun _ => rfl) ?_
    refine dp_s1 hF (i := .iload 4) rfl (fun _ => rfl) ?_
    refine dp_s1 hF (i := .iconst 3) rfl (fun _ => rfl) ?_
    refine dp_s1 hF (i := .iadd) rfl (fun _ => rfl) ?_
    refine dp_s3 hF (i := .iaload) rfl (fun _ => rfl) ?_
    refine dp_s2 hF (i := .ifCond .eq 7) (a := (3535, [some (.retAddr 0), some (.ref 0), some (.ref 114), some (.ref 245), some (.int v4), some (.int r2), u6, u7], [.int (xs (Int32.toNatClampNeg (v4 + (2 : Int32)))), .int (xs (Int32.toNatClampNeg (v4 + (1 : Int32)))), .ref 114], M1)) (b := (3531, [some (.retAddr 0), some (.ref 0), some (.ref 114), some (.ref 245), some (.int v4), some (.int r2), u6, u7], [.int (xs (Int32.toNatClampNeg (v4 + (2 : Int32)))), .int (xs (Int32.toNatClampNeg (v4 + (1 : Int32)))), .ref 114], M1)) rfl (fun _ => rfl) ?_ ?_
    · refine dp_s1 hF (i := .iconst 0) rfl (fun _ => rfl) ?_
      refine dp_si (mj := dp_m_X12_block) (i := .invokevirtual 399) rfl rfl (Or.inr rfl) rfl (fun _ => rfl) (fun r4 M3 => ?_)
      refine dp_s1 hF (i := .istore 6) rfl (fun _ => rfl) ?_
      refine dp_s1 hF (i := .aload_n 2) rfl (fun _ => rfl) ?_
      refine dp_si (mj := dp_m_X12_thrown) (i := .invokevirtual 229) rfl rfl (Or.inl rfl) rfl (fun _ => rfl) (fun r6 M5 => ?_)
      refine dp_s1 hF (i := .iload 5) rfl (fun _ => rfl) ?_
      refine dp_s2 hF (i := .if_icmp .eq 5) (a := (3552, [some (.retAddr 0), some (.ref 0), some (.ref 114), some (.ref 245), some (.int v4), some (.int r2), some (.int r4), u7], [], M5)) (b := (3550, [some (.retAddr 0), some (.ref 0), some (.ref 114), some (.ref 245), some (.int v4), some (.int r2), some (.int r4), u7], [], M5)) rfl (fun _ => rfl) ?_ ?_
      · refine dp_s1 hF (i := .iload 5) rfl (fun _ => rfl) ?_
        refine dp_s2 hF (i := .ifCond .ne 22) (a := (3557, [some (.retAddr 0), some (.ref 0), some (.ref 114), some (.ref 245), some (.int v4), some (.int r2), some (.int r4), u7], [], M5)) (b := (3576, [some (.retAddr 0), some (.ref 0), some (.ref 114), some (.ref 245), some (.int v4), some (.int r2), some (.int r4), u7], [], M5)) rfl (fun _ => rfl) ?_ ?_
        · refine dp_s1 hF (i := .aload_n 3) rfl (fun _ => rfl) ?_
          refine dp_s1 hF (i := .iconst 0) rfl (fun _ => rfl) ?_
          refine dp_s3 hF (i := .laload) rfl (fun _ => rfl) ?_
          refine dp_s1 hF (i := .iload 6) rfl (fun _ => rfl) ?_
          refine dp_s2 hF (i := .ifCond .eq 7) (a := (3569, [some (.retAddr 0), some (.ref 0), some (.ref 114), some (.ref 245), some (.int v4), some (.int r2), some (.int r4), u7], [.long (dp_J M5 245 (Int32.toNatClampNeg (0 : Int32)))], M5)) (b := (3565, [some (.retAddr 0), some (.ref 0), some (.ref 114), some (.ref 245), some (.int v4), some (.int r2), some (.int r4), u7], [.long (dp_J M5 245 (Int32.toNatClampNeg (0 : Int32)))], M5)) rfl (fun _ => rfl) ?_ ?_
          · refine dp_s1 hF (i := .lconst 0) rfl (fun _ => rfl) ?_
            refine dp_s1 hF (i := .lcmp) rfl (fun _ => rfl) ?_
            refine dp_s2 hF (i := .ifCond .eq 5) (a := (3576, [some (.retAddr 0), some (.ref 0), some (.ref 114), some (.ref 245), some (.int v4), some (.int r2), some (.int r4), u7], [], M5)) (b := (3574, [some (.retAddr 0), some (.ref 0), some (.ref 114), some (.ref 245), some (.int v4), some (.int r2), some (.int r4), u7], [], M5)) rfl (fun _ => rfl) ?_ ?_
            · refine dp_s1 hF (i := .goto 2556) rfl (fun _ => rfl) ?_
              exact rfl
            refine dp_s1 hF (i := .iconst 0) rfl (fun _ => rfl) ?_
            exact dp_s0 hF (i := .ireturn) rfl (fun _ => rfl)
          refine dp_s1 hF (i := .lconst 1) rfl (fun _ => rfl) ?_
          refine dp_s1 hF (i := .goto 4) rfl (fun _ => rfl) ?_
          refine dp_s1 hF (i := .lcmp) rfl (fun _ => rfl) ?_
          refine dp_s2 hF (i := .ifCond .eq 5) (a := (3576, [some (.retAddr 0), some (.ref 0), some (.ref 114), some (.ref 245), some (.int v4), some (.int r2), some (.int r4), u7], [], M5)) (b := (3574, [some (.retAddr 0), some (.ref 0), some (.ref 114), some (.ref 245), some (.int v4), some (.int r2), some (.int r4), u7], [], M5)) rfl (fun _ => rfl) ?_ ?_
          · refine dp_s1 hF (i := .goto 2556) rfl (fun _ => rfl) ?_
            exact rfl
          refine dp_s1 hF (i := .iconst 0) rfl (fun _ => rfl) ?_
          exact dp_s0 hF (i := .ireturn) rfl (fun _ => rfl)
        refine dp_s1 hF (i := .goto 2556) rfl (fun _ => rfl) ?_
        exact rfl
      refine dp_s1 hF (i := .iconst 0) rfl (fun _ => rfl) ?_
      exact dp_s0 hF (i := .ireturn) rfl (fun _ => rfl)
    refine dp_s1 hF (i := .iconst 1) rfl (fun _ => rfl) ?_
    refine dp_s1 hF (i := .goto 4) rfl (fun _ => rfl) ?_
    refine dp_si (mj := dp_m_X12_block) (i := .invokevirtual 399) rfl rfl (Or.inr rfl) rfl (fun _ => rfl) (fun r8 M7 => ?_)
    refine dp_s1 hF (i := .istore 6) rfl (fun _ => rfl) ?_
    refine dp_s1 hF (i := .aload_n 2) rfl (fun _ => rfl) ?_
    refine dp_si (mj := dp_m_X12_thrown) (i := .invokevirtual 229) rfl rfl (Or.inl rfl) rfl (fun _ => rfl) (fun r10 M9 => ?_)
    refine dp_s1 hF (i := .iload 5) rfl (fun _ => rfl) ?_
    refine dp_s2 hF (i := .if_icmp .eq 5) (a := (3552, [some (.retAddr 0), some (.ref 0), some (.ref 114), some (.ref 245), some (.int v4), some (.int r2), some (.int r8), u7], [], M9)) (b := (3550, [some (.retAddr 0), some (.ref 0), some (.ref 114), some (.ref 245), some (.int v4), some (.int r2), some (.int r8), u7], [], M9)) rfl (fun _ => rfl) ?_ ?_
    · refine dp_s1 hF (i := .iload 5) rfl (fun _ => rfl) ?_
      refine dp_s2 hF (i := .ifCond .ne 22) (a := (3557, [some (.retAddr 0), some (.ref 0), some (.ref 114), some (.ref 245), some (.int v4), some (.int r2), some (.int r8), u7], [], M9)) (b := (3576, [some (.retAddr 0), some (.ref 0), some (.ref 114), some (.ref 245), some (.int v4), some (.int r2), some (.int r8), u7], [], M9)) rfl (fun _ => rfl) ?_ ?_
      · refine dp_s1 hF (i := .aload_n 3) rfl (fun _ => rfl) ?_
        refine dp_s1 hF (i := .iconst 0) rfl (fun _ => rfl) ?_
        refine dp_s3 hF (i := .laload) rfl (fun _ => rfl) ?_
        refine dp_s1 hF (i := .iload 6) rfl (fun _ => rfl) ?_
        refine dp_s2 hF (i := .ifCond .eq 7) (a := (3569, [some (.retAddr 0), some (.ref 0), some (.ref 114), some (.ref 245), some (.int v4), some (.int r2), some (.int r8), u7], [.long (dp_J M9 245 (Int32.toNatClampNeg (0 : Int32)))], M9)) (b := (3565, [some (.retAddr 0), some (.ref 0), some (.ref 114), some (.ref 245), some (.int v4), some (.int r2), some (.int r8), u7], [.long (dp_J M9 245 (Int32.toNatClampNeg (0 : Int32)))], M9)) rfl (fun _ => rfl) ?_ ?_
        · refine dp_s1 hF (i := .lconst 0) rfl (fun _ => rfl) ?_
          refine dp_s1 hF (i := .lcmp) rfl (fun _ => rfl) ?_
          refine dp_s2 hF (i := .ifCond .eq 5) (a := (3576, [some (.retAddr 0), some (.ref 0), some (.ref 114), some (.ref 245), some (.int v4), some (.int r2), some (.int r8), u7], [], M9)) (b := (3574, [some (.retAddr 0), some (.ref 0), some (.ref 114), some (.ref 245), some (.int v4), some (.int r2), some (.int r8), u7], [], M9)) rfl (fun _ => rfl) ?_ ?_
          · refine dp_s1 hF (i := .goto 2556) rfl (fun _ => rfl) ?_
            exact rfl
          refine dp_s1 hF (i := .iconst 0) rfl (fun _ => rfl) ?_
          exact dp_s0 hF (i := .ireturn) rfl (fun _ => rfl)
        refine dp_s1 hF (i := .lconst 1) rfl (fun _ => rfl) ?_
        refine dp_s1 hF (i := .goto 4) rfl (fun _ => rfl) ?_
        refine dp_s1 hF (i := .lcmp) rfl (fun _ => rfl) ?_
        refine dp_s2 hF (i := .ifCond .eq 5) (a := (3576, [some (.retAddr 0), some (.ref 0), some (.ref 114), some (.ref 245), some (.int v4), some (.int r2), some (.int r8), u7], [], M9)) (b := (3574, [some (.retAddr 0), some (.ref 0), some (.ref 114), some (.ref 245), some (.int v4), some (.int r2), some (.int r8), u7], [], M9)) rfl (fun _ => rfl) ?_ ?_
        · refine dp_s1 hF (i := .goto 2556) rfl (fun _ => rfl) ?_
          exact rfl
        refine dp_s1 hF (i := .iconst 0) rfl (fun _ => rfl) ?_
        exact dp_s0 hF (i := .ireturn) rfl (fun _ => rfl)
      refine dp_s1 hF (i := .goto 2556) rfl (fun _ => rfl) ?_
      exact rfl
    refine dp_s1 hF (i := .iconst 0) rfl (fun _ => rfl) ?_
    exact dp_s0 hF (i := .ireturn) rfl (fun _ => rfl)
  refine dp_s1 hF (i := .iconst 1) rfl (fun _ => rfl) ?_
  refine dp_s1 hF (i := .goto 4) rfl (fun _ => rfl) ?_
  refine dp_s1 hF (i := .aload_n 3) rfl (fun _ => rfl) ?_
  refine dp_si (mj := dp_m_L_block) (i := .invokestatic 396) rfl rfl (Or.inl rfl) rfl (fun _ => rfl) (fun r12 M11 => ?_)
  refine dp_s1 hF (i := .istore 5) rfl (fun _ => rfl) ?_
  refine dp_s1 hF (i := .aload_n 2) rfl (fun _ => rfl) ?_
  refine dp_s1 hF (i := .aload_n 0) rfl (fun _ => rfl) ?_
  refine dp_s1 hF (i := .iload 4) rfl (fun _ => rfl) ?_
  refine dp_s1 hF (i := .iconst 1) rfl (fun _ => rfl) ?_
  refine dp_s1 hF (i := .iadd) rfl (fun _ => rfl) ?_
  refine dp_s3 hF (i := .iaload) rfl (fun _ => rfl) ?_
  refine dp_s1 hF (i := .aload_n 0) rfl (fun _ => rfl) ?_
  refine dp_s1 hF (i := .iload 4) rfl (fun _ => rfl) ?_
  refine dp_s1 hF (i := .iconst 2) rfl (fun _ => rfl) ?_
  refine dp_s1 hF (i := .iadd) rfl (fun _ => rfl) ?_
  refine dp_s3 hF (i := .iaload) rfl (fun _ => rfl) ?_
  refine dp_s1 hF (i := .aload_n 0) rfl (fun _ => rfl) ?_
  refine dp_s1 hF (i := .iload 4) rfl (fun _ => rfl) ?_
  refine dp_s1 hF (i := .iconst 3) rfl (fun _ => rfl) ?_
  refine dp_s1 hF (i := .iadd) rfl (fun _ => rfl) ?_
  refine dp_s3 hF (i := .iaload) rfl (fun _ => rfl) ?_
  refine dp_s2 hF (i := .ifCond .eq 7) (a := (3535, [some (.retAddr 0), some (.ref 0), some (.ref 114), some (.ref 245), some (.int v4), some (.int r12), u6, u7], [.int (xs (Int32.toNatClampNeg (v4 + (2 : Int32)))), .int (xs (Int32.toNatClampNeg (v4 + (1 : Int32)))), .ref 114], M11)) (b := (3531, [some (.retAddr 0), some (.ref 0), some (.ref 114), some (.ref 245), some (.int v4), some (.int r12), u6, u7], [.int (xs (Int32.toNatClampNeg (v4 + (2 : Int32)))), .int (xs (Int32.toNatClampNeg (v4 + (1 : Int32)))), .ref 114], M11)) rfl (fun _ => rfl) ?_ ?_
  · refine dp_s1 hF (i := .iconst 0) rfl (fun _ => rfl) ?_
    refine dp_si (mj := dp_m_X12_block) (i := .invokevirtual 399) rfl rfl (Or.inr rfl) rfl (fun _ => rfl) (fun r14 M13 => ?_)
    refine dp_s1 hF (i := .istore 6) rfl (fun _ => rfl) ?_
    refine dp_s1 hF (i := .aload_n 2) rfl (fun _ => rfl) ?_
    refine dp_si (mj := dp_m_X12_thrown) (i := .invokevirtual 229) rfl rfl (Or.inl rfl) rfl (fun _ => rfl) (fun r16 M15 => ?_)
    refine dp_s1 hF (i := .iload 5) rfl (fun _ => rfl) ?_
    refine dp_s2 hF (i := .if_icmp .eq 5) (a := (3552, [some (.retAddr 0), some (.ref 0), some (.ref 114), some (.ref 245), some (.int v4), some (.int r12), some (.int r14), u7], [], M15)) (b := (3550, [some (.retAddr 0), some (.ref 0), some (.ref 114), some (.ref 245), some (.int v4), some (.int r12), some (.int r14), u7], [], M15)) rfl (fun _ => rfl) ?_ ?_
    · refine dp_s1 hF (i := .iload 5) rfl (fun _ => rfl) ?_
      refine dp_s2 hF (i := .ifCond .ne 22) (a := (3557, [some (.retAddr 0), some (.ref 0), some (.ref 114), some (.ref 245), some (.int v4), some (.int r12), some (.int r14), u7], [], M15)) (b := (3576, [some (.retAddr 0), some (.ref 0), some (.ref 114), some (.ref 245), some (.int v4), some (.int r12), some (.int r14), u7], [], M15)) rfl (fun _ => rfl) ?_ ?_
      · refine dp_s1 hF (i := .aload_n 3) rfl (fun _ => rfl) ?_
        refine dp_s1 hF (i := .iconst 0) rfl (fun _ => rfl) ?_
        refine dp_s3 hF (i := .laload) rfl (fun _ => rfl) ?_
        refine dp_s1 hF (i := .iload 6) rfl (fun _ => rfl) ?_
        refine dp_s2 hF (i := .ifCond .eq 7) (a := (3569, [some (.retAddr 0), some (.ref 0), some (.ref 114), some (.ref 245), some (.int v4), some (.int r12), some (.int r14), u7], [.long (dp_J M15 245 (Int32.toNatClampNeg (0 : Int32)))], M15)) (b := (3565, [some (.retAddr 0), some (.ref 0), some (.ref 114), some (.ref 245), some (.int v4), some (.int r12), some (.int r14), u7], [.long (dp_J M15 245 (Int32.toNatClampNeg (0 : Int32)))], M15)) rfl (fun _ => rfl) ?_ ?_
        · refine dp_s1 hF (i := .lconst 0) rfl (fun _ => rfl) ?_
          refine dp_s1 hF (i := .lcmp) rfl (fun _ => rfl) ?_
          refine dp_s2 hF (i := .ifCond .eq 5) (a := (3576, [some (.retAddr 0), some (.ref 0), some (.ref 114), some (.ref 245), some (.int v4), some (.int r12), some (.int r14), u7], [], M15)) (b := (3574, [some (.retAddr 0), some (.ref 0), some (.ref 114), some (.ref 245), some (.int v4), some (.int r12), some (.int r14), u7], [], M15)) rfl (fun _ => rfl) ?_ ?_
          · refine dp_s1 hF (i := .goto 2556) rfl (fun _ => rfl) ?_
            exact rfl
          refine dp_s1 hF (i := .iconst 0) rfl (fun _ => rfl) ?_
          exact dp_s0 hF (i := .ireturn) rfl (fun _ => rfl)
        refine dp_s1 hF (i := .lconst 1) rfl (fun _ => rfl) ?_
        refine dp_s1 hF (i := .goto 4) rfl (fun _ => rfl) ?_
        refine dp_s1 hF (i := .lcmp) rfl (fun _ => rfl) ?_
        refine dp_s2 hF (i := .ifCond .eq 5) (a := (3576, [some (.retAddr 0), some (.ref 0), some (.ref 114), some (.ref 245), some (.int v4), some (.int r12), some (.int r14), u7], [], M15)) (b := (3574, [some (.retAddr 0), some (.ref 0), some (.ref 114), some (.ref 245), some (.int v4), some (.int r12), some (.int r14), u7], [], M15)) rfl (fun _ => rfl) ?_ ?_
        · refine dp_s1 hF (i := .goto 2556) rfl (fun _ => rfl) ?_
          exact rfl
        refine dp_s1 hF (i := .iconst 0) rfl (fun _ => rfl) ?_
        exact dp_s0 hF (i := .ireturn) rfl (fun _ => rfl)
      refine dp_s1 hF (i := .goto 2556) rfl (fun _ => rfl) ?_
      exact rfl
    refine dp_s1 hF (i := .iconst 0) rfl (fun _ => rfl) ?_
    exact dp_s0 hF (i := .ireturn) rfl (fun _ => rfl)
  refine dp_s1 hF (i := .iconst 1) rfl (fun _ => rfl) ?_
  refine dp_s1 hF (i := .goto 4) rfl (fun _ => rfl) ?_
  refine dp_si (mj := dp_m_X12_block) (i := .invokevirtual 399) rfl rfl (Or.inr rfl) rfl (fun _ => rfl) (fun r18 M17 => ?_)
  refine dp_s1 hF (i := .istore 6) rfl (fun _ => rfl) ?_
  refine dp_s1 hF (i := .aload_n 2) rfl (fun _ => rfl) ?_
  refine dp_si (mj := dp_m_X12_thrown) (i := .invokevirtual 229) rfl rfl (Or.inl rfl) rfl (fun _ => rfl) (fun r20 M19 => ?_)
  refine dp_s1 hF (i := .iload 5) rfl (fun _ => rfl) ?_
  refine dp_s2 hF (i := .if_icmp .eq 5) (a := (3552, [some (.retAddr 0), some (.ref 0), some (.ref 114), some (.ref 245), some (.int v4), some (.int r12), some (.int r18), u7], [], M19)) (b := (3550, [some (.retAddr 0), some (.ref 0), some (.ref 114), some (.ref 245), some (.int v4), some (.int r12), some (.int r18), u7], [], M19)) rfl (fun _ => rfl) ?_ ?_
  · refine dp_s1 hF (i := .iload 5) rfl (fun _ => rfl) ?_
    refine dp_s2 hF (i := .ifCond .ne 22) (a := (3557, [some (.retAddr 0), some (.ref 0), some (.ref 114), some (.ref 245), some (.int v4), some (.int r12), some (.int r18), u7], [], M19)) (b := (3576, [some (.retAddr 0), some (.ref 0), some (.ref 114), some (.ref 245), some (.int v4), some (.int r12), some (.int r18), u7], [], M19)) rfl (fun _ => rfl) ?_ ?_
    · refine dp_s1 hF (i := .aload_n 3) rfl (fun _ => rfl) ?_
      refine dp_s1 hF (i := .iconst 0) rfl (fun _ => rfl) ?_
      refine dp_s3 hF (i := .laload) rfl (fun _ => rfl) ?_
      refine dp_s1 hF (i := .iload 6) rfl (fun _ => rfl) ?_
      refine dp_s2 hF (i := .ifCond .eq 7) (a := (3569, [some (.retAddr 0), some (.ref 0), some (.ref 114), some (.ref 245), some (.int v4), some (.int r12), some (.int r18), u7], [.long (dp_J M19 245 (Int32.toNatClampNeg (0 : Int32)))], M19)) (b := (3565, [some (.retAddr 0), some (.ref 0), some (.ref 114), some (.ref 245), some (.int v4), some (.int r12), some (.int r18), u7], [.long (dp_J M19 245 (Int32.toNatClampNeg (0 : Int32)))], M19)) rfl (fun _ => rfl) ?_ ?_
      · refine dp_s1 hF (i := .lconst 0) rfl (fun _ => rfl) ?_
        refine dp_s1 hF (i := .lcmp) rfl (fun _ => rfl) ?_
        refine dp_s2 hF (i := .ifCond .eq 5) (a := (3576, [some (.retAddr 0), some (.ref 0), some (.ref 114), some (.ref 245), some (.int v4), some (.int r12), some (.int r18), u7], [], M19)) (b := (3574, [some (.retAddr 0), some (.ref 0), some (.ref 114), some (.ref 245), some (.int v4), some (.int r12), some (.int r18), u7], [], M19)) rfl (fun _ => rfl) ?_ ?_
        · refine dp_s1 hF (i := .goto 2556) rfl (fun _ => rfl) ?_
          exact rfl
        refine dp_s1 hF (i := .iconst 0) rfl (fun _ => rfl) ?_
        exact dp_s0 hF (i := .ireturn) rfl (fun _ => rfl)
      refine dp_s1 hF (i := .lconst 1) rfl (fun _ => rfl) ?_
      refine dp_s1 hF (i := .goto 4) rfl (fun _ => rfl) ?_
      refine dp_s1 hF (i := .lcmp) rfl (fun _ => rfl) ?_
      refine dp_s2 hF (i := .ifCond .eq 5) (a := (3576, [some (.retAddr 0), some (.ref 0), some (.ref 114), some (.ref 245), some (.int v4), some (.int r12), some (.int r18), u7], [], M19)) (b := (3574, [some (.retAddr 0), some (.ref 0), some (.ref 114), some (.ref 245), some (.int v4), some (.int r12), some (.int r18), u7], [], M19)) rfl (fun _ => rfl) ?_ ?_
      · refine dp_s1 hF (i := .goto 2556) rfl (fun _ => rfl) ?_
        exact rfl
      refine dp_s1 hF (i := .iconst 0) rfl (fun _ => rfl) ?_
      exact dp_s0 hF (i := .ireturn) rfl (fun _ => rfl)
    refine dp_s1 hF (i := .goto 2556) rfl (fun _ => rfl) ?_
    exact rfl
  refine dp_s1 hF (i := .iconst 0) rfl (fun _ => rfl) ?_
  exact dp_s0 hF (i := .ireturn) rfl (fun _ => rfl)
set_option maxRecDepth 20000 in
theorem D_L_law_3579_eq (xs : Nat → Int32) (xl d : Nat) (v4 : Int32) (u5 : Option Value) (u6 : Option Value) (u7 : Option Value) (M : dp_M) : D_L_law_3579 xs xl d v4 u5 u6 u7 M = if (v4 + (1 : Int32)) < 0 ∨ xl ≤ Int32.toNatClampNeg (v4 + (1 : Int32)) then none else (if (v4 + (2 : Int32)) < 0 ∨ xl ≤ Int32.toNatClampNeg (v4 + (2 : Int32)) then none else (if (v4 + (3 : Int32)) < 0 ∨ xl ≤ Int32.toNatClampNeg (v4 + (3 : Int32)) then none else (if (v4 + (4 : Int32)) < 0 ∨ xl ≤ Int32.toNatClampNeg (v4 + (4 : Int32)) then none else (dp_bi (dp_den true xs xl d 630 [.ref 0, .int (xs (Int32.toNatClampNeg (v4 + (1 : Int32)))), .int (xs (Int32.toNatClampNeg (v4 + (2 : Int32)))), .long (((Int32.toInt64 (xs (Int32.toNatClampNeg (v4 + (3 : Int32))))) <<< (Int32.toInt64 (32 : Int32) &&& 63)) ||| ((Int32.toInt64 (xs (Int32.toNatClampNeg (v4 + (4 : Int32))))) &&& (4294967295 : Int64))), .ref 245] M) (fun r2 M1 => if (v4 + (1 : Int32)) < 0 ∨ xl ≤ Int32.toNatClampNeg (v4 + (1 : Int32)) then none else (if (v4 + (2 : Int32)) < 0 ∨ xl ≤ Int32.toNatClampNeg (v4 + (2 : Int32)) then none else (if (v4 + (3 : Int32)) < 0 ∨ xl ≤ Int32.toNatClampNeg (v4 + (3 : Int32)) then none else (if (v4 + (4 : Int32)) < 0 ∨ xl ≤ Int32.toNatClampNeg (v4 + (4 : Int32)) then none else (dp_bi (dp_den true xs xl d 512 [.ref 114, .int (xs (Int32.toNatClampNeg (v4 + (1 : Int32)))), .int (xs (Int32.toNatClampNeg (v4 + (2 : Int32)))), .long (((Int32.toInt64 (xs (Int32.toNatClampNeg (v4 + (3 : Int32))))) <<< (Int32.toInt64 (32 : Int32) &&& 63)) ||| ((Int32.toInt64 (xs (Int32.toNatClampNeg (v4 + (4 : Int32))))) &&& (4294967295 : Int64)))] M1) (fun r4 M3 => dp_bi (dp_den true xs xl d 365 [.ref 114] M3) (fun r6 M5 => if r6 = r2 then (if r2 = 0 then (if (0 : Int32) < 0 ∨ 1 ≤ Int32.toNatClampNeg (0 : Int32) then none else (if r4 = 0 then (if (lg_cmp (dp_J M5 245 (Int32.toNatClampNeg (0 : Int32))) (0 : Int64)) = 0 then (D_L_law_6132 xs xl d v4 (some (.int r2)) (some (.int r4)) u7 M5) else (some (.inl (some (.int (0 : Int32))), M5))) else (if (lg_cmp (dp_J M5 245 (Int32.toNatClampNeg (0 : Int32))) (1 : Int64)) = 0 then (D_L_law_6132 xs xl d v4 (some (.int r2)) (some (.int r4)) u7 M5) else (some (.inl (some (.int (0 : Int32))), M5))))) else (D_L_law_6132 xs xl d v4 (some (.int r2)) (some (.int r4)) u7 M5)) else (some (.inl (some (.int (0 : Int32))), M5))))))))))))) := by
  have hF := dp_den_grow (md := true) (xs := xs) (xl := xl) d
  unfold D_L_law_3579
  refine dp_s1 hF (i := .aload_n 1) rfl (fun _ => rfl) ?_
  refine dp_s1 hF (i := .aload_n 0) rfl (fun _ => rfl) ?_
  refine dp_s1 hF (i := .iload 4) rfl (fun _ => rfl) ?_
  refine dp_s1 hF (i := .iconst 1) rfl (fun _ => rfl) ?_
  refine dp_s1 hF (i := .iadd) rfl (fun _ => rfl) ?_
  refine dp_s3 hF (i := .iaload) rfl (fun _ => rfl) ?_
  refine dp_s1 hF (i := .aload_n 0) rfl (fun _ => rfl) ?_
  refine dp_s1 hF (i := .iload 4) rfl (fun _ => rfl) ?_
  refine dp_s1 hF (i := .iconst 2) rfl (fun _ => rfl) ?_
  refine dp_s1 hF (i := .iadd) rfl (fun _ => rfl) ?_
  refine dp_s3 hF (i := .iaload) rfl (fun _ => rfl) ?_
  refine dp_s1 hF (i := .aload_n 0) rfl (fun _ => rfl) ?_
  refine dp_s1 hF (i := .iload 4) rfl (fun _ => rfl) ?_
  refine dp_s1 hF (i := .iconst 3) rfl (fun _ => rfl) ?_
  refine dp_s1 hF (i := .iadd) rfl (fun _ => rfl) ?_
  refine dp_s3 hF (i := .iaload) rfl (fun _ => rfl) ?_
  refine dp_s1 hF (i := .i2l) rfl (fun _ => rfl) ?_
  refine dp_s1 hF (i := .bipush 32) rfl (fun _ => rfl) ?_
  refine dp_s1 hF (i := .lshl) rfl (fun _ => rfl) ?_
  refine dp_s1 hF (i := .aload_n 0) rfl (fun _ => rfl) ?_
  refine dp_s1 hF (i := .iload 4) rfl (fun _ => rfl) ?_
  refine dp_s1 hF (i := .iconst 4) rfl (fun _ => rfl) ?_
  refine dp_s1 hF (i := .iadd) rfl (fun _ => rfl) ?_
  refine dp_s3 hF (i := .iaload) rfl (fun _ => rfl) ?_
  refine dp_s1 hF (i := .i2l) rfl (fun _ => rfl) ?_
  refine dp_s1 hF (i := .ldc2_w 366) rfl (fun _ => rfl) ?_
  refine dp_s1 hF (i := .land) rfl (fun _ => rfl) ?_
  refine dp_s1 hF (i := .lor) rfl (fun _ => rfl) ?_
  refine dp_s1 hF (i := .aload_n 3) rfl (fun _ => rfl) ?_
  refine dp_si (mj := dp_m_L_transfer) (i := .invokestatic 400) rfl rfl (Or.inl rfl) rfl (fun _ => rfl) (fun r2 M1 => ?_)
  refine dp_s1 hF (i := .istore 5) rfl (fun _ => rfl) ?_
  refine dp_s1 hF (i := .aload_n 2) rfl (fun _ => rfl) ?_
  refine dp_s1 hF (i := .aload_n 0) rfl (fun _ => rfl) ?_
  refine dp_s1 hF (i := .iload 4) rfl (fun _ => rfl) ?_
  refine dp_s1 hF (i := .iconst 1) rfl (fun _ => rfl) ?_
  refine dp_s1 hF (i := .iadd) rfl (fun _ => rfl) ?_
  refine dp_s3 hF (i := .iaload) rfl (fun _ => rfl) ?_
  refine dp_s1 hF (i := .aload_n 0) rfl (fun _ => rfl) ?_
  refine dp_s1 hF (i := .iload 4) rfl (fun _ => rfl) ?_
  refine dp_s1 hF (i := .iconst 2) rfl (fun _ => rfl) ?_
  refine dp_s1 hF (i := .iadd) rfl (fun _ => rfl) ?_
  refine dp_s3 hF (i := .iaload) rfl (fun _ => rfl) ?_
  refine dp_s1 hF (i := .aload_n 0) rfl (fun _ => rfl) ?_
  refine dp_s1 hF (i := .iload 4) rfl (fun _ => rfl) ?_
  refine dp_s1 hF (i := .iconst 3) rfl (fun _ => rfl) ?_
  refine dp_s1 hF (i := .iadd) rfl (fun _ => rfl) ?_
  refine dp_s3 hF (i := .iaload) rfl (fun _ => rfl) ?_
  refine dp_s1 hF (i := .i2l) rfl (fun _ => rfl) ?_
  refine dp_s1 hF (i := .bipush 32) rfl (fun _ => rfl) ?_
  refine dp_s1 hF (i := .lshl) rfl (fun _ => rfl) ?_
  refine dp_s1 hF (i := .aload_n 0) rfl (fun _ => rfl) ?_
  refine dp_s1 hF (i := .iload 4) rfl (fun _ => rfl) ?_
  refine dp_s1 hF (i := .iconst 4) rfl (fun _ => rfl) ?_
  refine dp_s1 hF (i := .iadd) rfl (fun _ => rfl) ?_
  refine dp_s3 hF (i := .iaload) rfl (fun _ => rfl) ?_
  refine dp_s1 hF (i := .i2l) rfl (fun _ => rfl) ?_
  refine dp_s1 hF (i := .ldc2_w 366) rfl (fun _ => rfl) ?_
  refine dp_s1 hF (i := .land) rfl (fun _ => rfl) ?_
  refine dp_s1 hF (i := .lor) rfl (fun _ => rfl) ?_
  refine dp_si (mj := dp_m_X12_transfer) (i := .invokevirtual 403) rfl rfl (Or.inr rfl) rfl (fun _ => rfl) (fun r4 M3 => ?_)
  refine dp_s1 hF (i := .istore 6) rfl (fun _ => rfl) ?_
  refine dp_s1 hF (i := .aload_n 2) rfl (fun _ => rfl) ?_
  refine dp_si (mj := dp_m_X12_thrown) (i := .invokevirtual 229) rfl rfl (Or.inl rfl) rfl (fun _ => rfl) (fun r6 M5 => ?_)
  refine dp_s1 hF (i := .iload 5) rfl (fun _ => rfl) ?_
  refine dp_s2 hF (i := .if_icmp .eq 5) (a := (3671, [some (.retAddr 0), some (.ref 0), some (.ref 114), some (.ref 245), some (.int v4), some (.int r2), some (.int r4), u7], [], M5)) (b := (3669, [some (.retAddr 0), some (.ref 0), some (.ref 114), some (.ref 245), some (.int v4), some (.int r2), some (.int r4), u7], [], M5)) rfl (fun _ => rfl) ?_ ?_
  · refine dp_s1 hF (i := .iload 5) rfl (fun _ => rfl) ?_
    refine dp_s2 hF (i := .ifCond .ne 22) (a := (3676, [some (.retAddr 0), some (.ref 0), some (.ref 114), some (.ref 245), some (.int v4), some (.int r2), some (.int r4), u7], [], M5)) (b := (3695, [some (.retAddr 0), some (.ref 0), some (.ref 114), some (.ref 245), some (.int v4), some (.int r2), some (.int r4), u7], [], M5)) rfl (fun _ => rfl) ?_ ?_
    · refine dp_s1 hF (i := .aload_n 3) rfl (fun _ => rfl) ?_
      refine dp_s1 hF (i := .iconst 0) rfl (fun _ => rfl) ?_
      refine dp_s3 hF (i := .laload) rfl (fun _ => rfl) ?_
      refine dp_s1 hF (i := .iload 6) rfl (fun _ => rfl) ?_
      refine dp_s2 hF (i := .ifCond .eq 7) (a := (3688, [some (.retAddr 0), some (.ref 0), some (.ref 114), some (.ref 245), some (.int v4), some (.int r2), some (.int r4), u7], [.long (dp_J M5 245 (Int32.toNatClampNeg (0 : Int32)))], M5)) (b := (3684, [some (.retAddr 0), some (.ref 0), some (.ref 114), some (.ref 245), some (.int v4), some (.int r2), some (.int r4), u7], [.long (dp_J M5 245 (Int32.toNatClampNeg (0 : Int32)))], M5)) rfl (fun _ => rfl) ?_ ?_
      · refine dp_s1 hF (i := .lconst 0) rfl (fun _ => rfl) ?_
        refine dp_s1 hF (i := .lcmp) rfl (fun _ => rfl) ?_
        refine dp_s2 hF (i := .ifCond .eq 5) (a := (3695, [some (.retAddr 0), some (.ref 0), some (.ref 114), some (.ref 245), some (.int v4), some (.int r2), some (.int r4), u7], [], M5)) (b := (3693, [some (.retAddr 0), some (.ref 0), some (.ref 114), some (.ref 245), some (.int v4), some (.int r2), some (.int r4), u7], [], M5)) rfl (fun _ => rfl) ?_ ?_
        · refine dp_s1 hF (i := .goto 2437) rfl (fun _ => rfl) ?_
          exact rfl
        refine dp_s1 hF (i := .iconst 0) rfl (fun _ => rfl) ?_
        exact dp_s0 hF (i := .ireturn) rfl (fun _ => rfl)
      refine dp_s1 hF (i := .lconst 1) rfl (fun _ => rfl) ?_
      refine dp_s1 hF (i := .goto 4) rfl (fun _ => rfl) ?_
      refine dp_s1 hF (i := .lcmp) rfl (fun _ => rfl) ?_
      refine dp_s2 hF (i := .ifCond .eq 5) (a := (3695, [some (.retAddr 0), some (.ref 0), some (.ref 114), some (.ref 245), some (.int v4), some (.int r2), some (.int r4), u7], [], M5)) (b := (3693, [some (.retAddr 0), some (.ref 0), some (.ref 114), some (.ref 245), some (.int v4), some (.int r2), some (.int r4), u7], [], M5)) rfl (fun _ => rfl) ?_ ?_
      · refine dp_s1 hF (i := .goto 2437) rfl (fun _ => rfl) ?_
        exact rfl
      refine dp_s1 hF (i := .iconst 0) rfl (fun _ => rfl) ?_
      exact dp_s0 hF (i := .ireturn) rfl (fun _ => rfl)
    refine dp_s1 hF (i := .goto 2437) rfl (fun _ => rfl) ?_
    exact rfl
  refine dp_s1 hF (i := .iconst 0) rfl (fun _ => rfl) ?_
  exact dp_s0 hF (i := .ireturn) rfl (fun _ => rfl)
set_option maxRecDepth 20000 in
theorem D_L_law_3698_eq (xs : Nat → Int32) (xl d : Nat) (v4 : Int32) (u5 : Option Value) (u6 : Option Value) (u7 : Option Value) (M : dp_M) : D_L_law_3698 xs xl d v4 u5 u6 u7 M = if (v4 + (1 : Int32)) < 0 ∨ xl ≤ Int32.toNatClampNeg (v4 + (1 : Int32)) then none else (if (v4 + (2 : Int32)) < 0 ∨ xl ≤ Int32.toNatClampNeg (v4 + (2 : Int32)) then none else (dp_bi (dp_den true xs xl d 631 [.ref 0, .int (xs (Int32.toNatClampNeg (v4 + (1 : Int32)))), .int (xs (Int32.toNatClampNeg (v4 + (2 : Int32)))), .ref 245] M) (fun r2 M1 => if (v4 + (1 : Int32)) < 0 ∨ xl ≤ Int32.toNatClampNeg (v4 + (1 : Int32)) then none else (if (v4 + (2 : Int32)) < 0 ∨ xl ≤ Int32.toNatClampNeg (v4 + (2 : Int32)) then none else (dp_bl (dp_den true xs xl d 513 [.ref 114, .int (xs (Int32.toNatClampNeg (v4 + (1 : Int32)))), .int (xs (Int32.toNatClampNeg (v4 + (2 : Int32))))] M1) (fun r4 M3 => dp_bi (dp_den true xs xl d 365 [.ref 114] M3) (fun r6 M5 => if r6 = r2 then (if r2 = 0 then (if (0 : Int32) < 0 ∨ 1 ≤ Int32.toNatClampNeg (0 : Int32) then none else (if (lg_cmp (dp_J M5 245 (Int32.toNatClampNeg (0 : Int32))) r4) = 0 then (D_L_law_6132 xs xl d v4 (some (.int r2)) (some (.long r4)) none M5) else (some (.inl (some (.int (0 : Int32))), M5)))) else (D_L_law_6132 xs xl d v4 (some (.int r2)) (some (.long r4)) none M5)) else (some (.inl (some (.int (0 : Int32))), M5))))))))) := by
  have hF := dp_den_grow (md := true) (xs := xs) (xl := xl) d
  unfold D_L_law_3698
  refine dp_s1 hF (i := .aload_n 1) rfl (fun _ => rfl) ?_
  refine dp_s1 hF (i := .aload_n 0) rfl (fun _ => rfl) ?_
  refine dp_s1 hF (i := .iload 4) rfl (fun _ => rfl) ?_
  refine dp_s1 hF (i := .iconst 1) rfl (fun _ => rfl) ?_
  refine dp_s1 hF (i := .iadd) rfl (fun _ => rfl) ?_
  refine dp_s3 hF (i := .iaload) rfl (fun _ => rfl) ?_
  refine dp_s1 hF (i := .aload_n 0) rfl (fun _ => rfl) ?_
  refine dp_s1 hF (i := .iload 4) rfl (fun _ => rfl) ?_
  refine dp_s1 hF (i := .iconst 2) rfl (fun _ => rfl) ?_
  refine dp_s1 hF (i := .iadd) rfl (fun _ => rfl) ?_
  refine dp_s3 hF (i := .iaload) rfl (fun _ => rfl) ?_
  refine dp_s1 hF (i := .aload_n 3) rfl (fun _ => rfl) ?_
  refine dp_si (mj := dp_m_L_balance) (i := .invokestatic 404) rfl rfl (Or.inl rfl) rfl (fun _ => rfl) (fun r2 M1 => ?_)
  refine dp_s1 hF (i := .istore 5) rfl (fun _ => rfl) ?_
  refine dp_s1 hF (i := .aload_n 2) rfl (fun _ => rfl) ?_
  refine dp_s1 hF (i := .aload_n 0) rfl (fun _ => rfl) ?_
  refine dp_s1 hF (i := .iload 4) rfl (fun _ => rfl) ?_
  refine dp_s1 hF (i := .iconst 1) rfl (fun _ => rfl) ?_
  refine dp_s1 hF (i := .iadd) rfl (fun _ => rfl) ?_
  refine dp_s3 hF (i := .iaload) rfl (fun _ => rfl) ?_
  refine dp_s1 hF (i := .aload_n 0) rfl (fun _ => rfl) ?_
  refine dp_s1 hF (i := .iload 4) rfl (fun _ => rfl) ?_
  refine dp_s1 hF (i := .iconst 2) rfl (fun _ => rfl) ?_
  refine dp_s1 hF (i := .iadd) rfl (fun _ => rfl) ?_
  refine dp_s3 hF (i := .iaload) rfl (fun _ => rfl) ?_
  refine dp_sl9 (mj := dp_m_X12_balance) (i := .invokevirtual 406) rfl rfl rfl rfl (fun _ => rfl) (fun r4 M3 => ?_)
  refine dp_s1 hF (i := .lstore 6) rfl (fun _ => rfl) ?_
  refine dp_s1 hF (i := .aload_n 2) rfl (fun _ => rfl) ?_
  refine dp_si (mj := dp_m_X12_thrown) (i := .invokevirtual 229) rfl rfl (Or.inl rfl) rfl (fun _ => rfl) (fun r6 M5 => ?_)
  refine dp_s1 hF (i := .iload 5) rfl (fun _ => rfl) ?_
  refine dp_s2 hF (i := .if_icmp .eq 5) (a := (3746, [some (.retAddr 0), some (.ref 0), some (.ref 114), some (.ref 245), some (.int v4), some (.int r2), some (.long r4), none], [], M5)) (b := (3744, [some (.retAddr 0), some (.ref 0), some (.ref 114), some (.ref 245), some (.int v4), some (.int r2), some (.long r4), none], [], M5)) rfl (fun _ => rfl) ?_ ?_
  · refine dp_s1 hF (i := .iload 5) rfl (fun _ => rfl) ?_
    refine dp_s2 hF (i := .ifCond .ne 14) (a := (3751, [some (.retAddr 0), some (.ref 0), some (.ref 114), some (.ref 245), some (.int v4), some (.int r2), some (.long r4), none], [], M5)) (b := (3762, [some (.retAddr 0), some (.ref 0), some (.ref 114), some (.ref 245), some (.int v4), some (.int r2), some (.long r4), none], [], M5)) rfl (fun _ => rfl) ?_ ?_
    · refine dp_s1 hF (i := .aload_n 3) rfl (fun _ => rfl) ?_
      refine dp_s1 hF (i := .iconst 0) rfl (fun _ => rfl) ?_
      refine dp_s3 hF (i := .laload) rfl (fun _ => rfl) ?_
      refine dp_s1 hF (i := .lload 6) rfl (fun _ => rfl) ?_
      refine dp_s1 hF (i := .lcmp) rfl (fun _ => rfl) ?_
      refine dp_s2 hF (i := .ifCond .eq 5) (a := (3762, [some (.retAddr 0), some (.ref 0), some (.ref 114), some (.ref 245), some (.int v4), some (.int r2), some (.long r4), none], [], M5)) (b := (3760, [some (.retAddr 0), some (.ref 0), some (.ref 114), some (.ref 245), some (.int v4), some (.int r2), some (.long r4), none], [], M5)) rfl (fun _ => rfl) ?_ ?_
      · refine dp_s1 hF (i := .goto 2370) rfl (fun _ => rfl) ?_
        exact rfl
      refine dp_s1 hF (i := .iconst 0) rfl (fun _ => rfl) ?_
      exact dp_s0 hF (i := .ireturn) rfl (fun _ => rfl)
    refine dp_s1 hF (i := .goto 2370) rfl (fun _ => rfl) ?_
    exact rfl
  refine dp_s1 hF (i := .iconst 0) rfl (fun _ => rfl) ?_
  exact dp_s0 hF (i := .ireturn) rfl (fun _ => rfl)
set_option maxRecDepth 20000 in
theorem D_L_law_3765_eq (xs : Nat → Int32) (xl d : Nat) (v4 : Int32) (u5 : Option Value) (u6 : Option Value) (u7 : Option Value) (M : dp_M) : D_L_law_3765 xs xl d v4 u5 u6 u7 M = if (v4 + (1 : Int32)) < 0 ∨ xl ≤ Int32.toNatClampNeg (v4 + (1 : Int32)) then none else (if (v4 + (2 : Int32)) < 0 ∨ xl ≤ Int32.toNatClampNeg (v4 + (2 : Int32)) then none else (dp_bi (dp_den true xs xl d 632 [.ref 0, .int (xs (Int32.toNatClampNeg (v4 + (1 : Int32)))), .int (xs (Int32.toNatClampNeg (v4 + (2 : Int32)))), .ref 245] M) (fun r2 M1 => if (v4 + (1 : Int32)) < 0 ∨ xl ≤ Int32.toNatClampNeg (v4 + (1 : Int32)) then none else (if (v4 + (2 : Int32)) < 0 ∨ xl ≤ Int32.toNatClampNeg (v4 + (2 : Int32)) then none else (dp_bl (dp_den true xs xl d 514 [.ref 114, .int (xs (Int32.toNatClampNeg (v4 + (1 : Int32)))), .int (xs (Int32.toNatClampNeg (v4 + (2 : Int32))))] M1) (fun r4 M3 => dp_bi (dp_den true xs xl d 365 [.ref 114] M3) (fun r6 M5 => if r6 = r2 then (if r2 = 0 then (if (0 : Int32) < 0 ∨ 1 ≤ Int32.toNatClampNeg (0 : Int32) then none else (if (lg_cmp (dp_J M5 245 (Int32.toNatClampNeg (0 : Int32))) r4) = 0 then (D_L_law_6132 xs xl d v4 (some (.int r2)) (some (.long r4)) none M5) else (some (.inl (some (.int (0 : Int32))), M5)))) else (D_L_law_6132 xs xl d v4 (some (.int r2)) (some (.long r4)) none M5)) else (some (.inl (some (.int (0 : Int32))), M5))))))))) := by
  have hF := dp_den_grow (md := true) (xs := xs) (xl := xl) d
  unfold D_L_law_3765
  refine dp_s1 hF (i := .aload_n 1) rfl (fun _ => rfl) ?_
  refine dp_s1 hF (i := .aload_n 0) rfl (fun _ => rfl) ?_
  refine dp_s1 hF (i := .iload 4) rfl (fun _ => rfl) ?_
  refine dp_s1 hF (i := .iconst 1) rfl (fun _ => rfl) ?_
  refine dp_s1 hF (i := .iadd) rfl (fun _ => rfl) ?_
  refine dp_s3 hF (i := .iaload) rfl (fun _ => rfl) ?_
  refine dp_s1 hF (i := .aload_n 0) rfl (fun _ => rfl) ?_
  refine dp_s1 hF (i := .iload 4) rfl (fun _ => rfl) ?_
  refine dp_s1 hF (i := .iconst 2) rfl (fun _ => rfl) ?_
  refine dp_s1 hF (i := .iadd) rfl (fun _ => rfl) ?_
  refine dp_s3 hF (i := .iaload) rfl (fun _ => rfl) ?_
  refine dp_s1 hF (i := .aload_n 3) rfl (fun _ => rfl) ?_
  refine dp_si (mj := dp_m_L_quota) (i := .invokestatic 407) rfl rfl (Or.inl rfl) rfl (fun _ => rfl) (fun r2 M1 => ?_)
  refine dp_s1 hF (i := .istore 5) rfl (fun _ => rfl) ?_
  refine dp_s1 hF (i := .aload_n 2) rfl (fun _ => rfl) ?_
  refine dp_s1 hF (i := .aload_n 0) rfl (fun _ => rfl) ?_
  refine dp_s1 hF (i := .iload 4) rfl (fun _ => rfl) ?_
  refine dp_s1 hF (i := .iconst 1) rfl (fun _ => rfl) ?_
  refine dp_s1 hF (i := .iadd) rfl (fun _ => rfl) ?_
  refine dp_s3 hF (i := .iaload) rfl (fun _ => rfl) ?_
  refine dp_s1 hF (i := .aload_n 0) rfl (fun _ => rfl) ?_
  refine dp_s1 hF (i := .iload 4) rfl (fun _ => rfl) ?_
  refine dp_s1 hF (i := .iconst 2) rfl (fun _ => rfl) ?_
  refine dp_s1 hF (i := .iadd) rfl (fun _ => rfl) ?_
  refine dp_s3 hF (i := .iaload) rfl (fun _ => rfl) ?_
  refine dp_sl9 (mj := dp_m_X12_quota) (i := .invokevirtual 409) rfl rfl rfl rfl (fun _ => rfl) (fun r4 M3 => ?_)
  refine dp_s1 hF (i := .lstore 6) rfl (fun _ => rfl) ?_
  refine dp_s1 hF (i := .aload_n 2) rfl (fun _ => rfl) ?_
  refine dp_si (mj := dp_m_X12_thrown) (i := .invokevirtual 229) rfl rfl (Or.inl rfl) rfl (fun _ => rfl) (fun r6 M5 => ?_)
  refine dp_s1 hF (i := .iload 5) rfl (fun _ => rfl) ?_
  refine dp_s2 hF (i := .if_icmp .eq 5) (a := (3813, [some (.retAddr 0), some (.ref 0), some (.ref 114), some (.ref 245), some (.int v4), some (.int r2), some (.long r4), none], [], M5)) (b := (3811, [some (.retAddr 0), some (.ref 0), some (.ref 114), some (.ref 245), some (.int v4), some (.int r2), some (.long r4), none], [], M5)) rfl (fun _ => rfl) ?_ ?_
  · refine dp_s1 hF (i := .iload 5) rfl (fun _ => rfl) ?_
    refine dp_s2 hF (i := .ifCond .ne 14) (a := (3818, [some (.retAddr 0), some (.ref 0), some (.ref 114), some (.ref 245), some (.int v4), some (.int r2), some (.long r4), none], [], M5)) (b := (3829, [some (.retAddr 0), some (.ref 0), some (.ref 114), some (.ref 245), some (.int v4), some (.int r2), some (.long r4), none], [], M5)) rfl (fun _ => rfl) ?_ ?_
    · refine dp_s1 hF (i := .aload_n 3) rfl (fun _ => rfl) ?_
      refine dp_s1 hF (i := .iconst 0) rfl (fun _ => rfl) ?_
      refine dp_s3 hF (i := .laload) rfl (fun _ => rfl) ?_
      refine dp_s1 hF (i := .lload 6) rfl (fun _ => rfl) ?_
      refine dp_s1 hF (i := .lcmp) rfl (fun _ => rfl) ?_
      refine dp_s2 hF (i := .ifCond .eq 5) (a := (3829, [some (.retAddr 0), some (.ref 0), some (.ref 114), some (.ref 245), some (.int v4), some (.int r2), some (.long r4), none], [], M5)) (b := (3827, [some (.retAddr 0), some (.ref 0), some (.ref 114), some (.ref 245), some (.int v4), some (.int r2), some (.long r4), none], [], M5)) rfl (fun _ => rfl) ?_ ?_
      · refine dp_s1 hF (i := .goto 2303) rfl (fun _ => rfl) ?_
        exact rfl
      refine dp_s1 hF (i := .iconst 0) rfl (fun _ => rfl) ?_
      exact dp_s0 hF (i := .ireturn) rfl (fun _ => rfl)
    refine dp_s1 hF (i := .goto 2303) rfl (fun _ => rfl) ?_
    exact rfl
  refine dp_s1 hF (i := .iconst 0) rfl (fun _ => rfl) ?_
  exact dp_s0 hF (i := .ireturn) rfl (fun _ => rfl)
set_option maxRecDepth 20000 in
theorem D_L_law_3832_eq (xs : Nat → Int32) (xl d : Nat) (v4 : Int32) (u5 : Option Value) (u6 : Option Value) (u7 : Option Value) (M : dp_M) : D_L_law_3832 xs xl d v4 u5 u6 u7 M = if (v4 + (1 : Int32)) < 0 ∨ xl ≤ Int32.toNatClampNeg (v4 + (1 : Int32)) then none else (if (v4 + (2 : Int32)) < 0 ∨ xl ≤ Int32.toNatClampNeg (v4 + (2 : Int32)) then none else (if (v4 + (3 : Int32)) < 0 ∨ xl ≤ Int32.toNatClampNeg (v4 + (3 : Int32)) then none else (if (v4 + (4 : Int32)) < 0 ∨ xl ≤ Int32.toNatClampNeg (v4 + (4 : Int32)) then none else (if (v4 + (5 : Int32)) < 0 ∨ xl ≤ Int32.toNatClampNeg (v4 + (5 : Int32)) then none else (if (v4 + (6 : Int32)) < 0 ∨ xl ≤ Int32.toNatClampNeg (v4 + (6 : Int32)) then none else (if (xs (Int32.toNatClampNeg (v4 + (6 : Int32)))) = 0 then (if (v4 + (7 : Int32)) < 0 ∨ xl ≤ Int32.toNatClampNeg (v4 + (7 : Int32)) then none else (dp_bi (dp_den true xs xl d 633 [.ref 0, .int (xs (Int32.toNatClampNeg (v4 + (1 : Int32)))), .long (((Int32.toInt64 (xs (Int32.toNatClampNeg (v4 + (2 : Int32))))) <<< (Int32.toInt64 (32 : Int32) &&& 63)) ||| ((Int32.toInt64 (xs (Int32.toNatClampNeg (v4 + (3 : Int32))))) &&& (4294967295 : Int64))), .int (xs (Int32.toNatClampNeg (v4 + (4 : Int32)))), .int (xs (Int32.toNatClampNeg (v4 + (5 : Int32)))), .int (0 : Int32), .int (xs (Int32.toNatClampNeg (v4 + (7 : Int32)))), .ref 245] M) (fun r2 M1 => if (v4 + (1 : Int32)) < 0 ∨ xl ≤ Int32.toNatClampNeg (v4 + (1 : Int32)) then none else (if (v4 + (2 : Int32)) < 0 ∨ xl ≤ Int32.toNatClampNeg (v4 + (2 : Int32)) then none else (if (v4 + (3 : Int32)) < 0 ∨ xl ≤ Int32.toNatClampNeg (v4 + (3 : Int32)) then none else (if (v4 + (4 : Int32)) < 0 ∨ xl ≤ Int32.toNatClampNeg (v4 + (4 : Int32)) then none else (if (v4 + (5 : Int32)) < 0 ∨ xl ≤ Int32.toNatClampNeg (v4 + (5 : Int32)) then none else (if (v4 + (6 : Int32)) < 0 ∨ xl ≤ Int32.toNatClampNeg (v4 + (6 : Int32)) then none else (if (xs (Int32.toNatClampNeg (v4 + (6 : Int32)))) = 0 then (if (v4 + (7 : Int32)) < 0 ∨ xl ≤ Int32.toNatClampNeg (v4 + (7 : Int32)) then none else (dp_bi (dp_den true xs xl d 517 [.ref 114, .int (xs (Int32.toNatClampNeg (v4 + (1 : Int32)))), .long (((Int32.toInt64 (xs (Int32.toNatClampNeg (v4 + (2 : Int32))))) <<< (Int32.toInt64 (32 : Int32) &&& 63)) ||| ((Int32.toInt64 (xs (Int32.toNatClampNeg (v4 + (3 : Int32))))) &&& (4294967295 : Int64))), .int (xs (Int32.toNatClampNeg (v4 + (4 : Int32)))), .int (xs (Int32.toNatClampNeg (v4 + (5 : Int32)))), .int (0 : Int32), .int (xs (Int32.toNatClampNeg (v4 + (7 : Int32))))] M1) (fun r4 M3 => dp_bi (dp_den true xs xl d 365 [.ref 114] M3) (fun r6 M5 => if r6 = r2 then (if r2 = 0 then (if (0 : Int32) < 0 ∨ 1 ≤ Int32.toNatClampNeg (0 : Int32) then none else (if (lg_cmp (dp_J M5 245 (Int32.toNatClampNeg (0 : Int32))) (Int32.toInt64 r4)) = 0 then (D_L_law_6132 xs xl d v4 (some (.int r2)) (some (.int r4)) u7 M5) else (some (.inl (some (.int (0 : Int32))), M5)))) else (D_L_law_6132 xs xl d v4 (some (.int r2)) (some (.int r4)) u7 M5)) else (some (.inl (some (.int (0 : Int32))), M5)))))) else (if (v4 + (7 : Int32)) < 0 ∨ xl ≤ Int32.toNatClampNeg (v4 + (7 : Int32)) then none else (dp_bi (dp_den true xs xl d 517 [.ref 114, .int (xs (Int32.toNatClampNeg (v4 + (1 : Int32)))), .long (((Int32.toInt64 (xs (Int32.toNatClampNeg (v4 + (2 : Int32))))) <<< (Int32.toInt64 (32 : Int32) &&& 63)) ||| ((Int32.toInt64 (xs (Int32.toNatClampNeg (v4 + (3 : Int32))))) &&& (4294967295 : Int64))), .int (xs (Int32.toNatClampNeg (v4 + (4 : Int32)))), .int (xs (Int32.toNatClampNeg (v4 + (5 : Int32)))), .int (1 : Int32), .int (xs (Int32.toNatClampNeg (v4 + (7 : Int32))))] M1) (fun r8 M7 => dp_bi (dp_den true xs xl d 365 [.ref 114] M7) (fun r10 M9 => if r10 = r2 then (if r2 = 0 then (if (0 : Int32) < 0 ∨ 1 ≤ Int32.toNatClampNeg (0 : Int32) then none else (if (lg_cmp (dp_J M9 245 (Int32.toNatClampNeg (0 : Int32))) (Int32.toInt64 r8)) = 0 then (D_L_law_6132 xs xl d v4 (some (.int r2)) (some (.int r8)) u7 M9) else (some (.inl (some (.int (0 : Int32))), M9)))) else (D_L_law_6132 xs xl d v4 (some (.int r2)) (some (.int r8)) u7 M9)) else (some (.inl (some (.int (0 : Int32))), M9))))))))))))))) else (if (v4 + (7 : Int32)) < 0 ∨ xl ≤ Int32.toNatClampNeg (v4 + (7 : Int32)) then none else (dp_bi (dp_den true xs xl d 633 [.ref 0, .int (xs (Int32.toNatClampNeg (v4 + (1 : Int32)))), .long (((Int32.toInt64 (xs (Int32.toNatClampNeg (v4 + (2 : Int32))))) <<< (Int32.toInt64 (32 : Int32) &&& 63)) ||| ((Int32.toInt64 (xs (Int32.toNatClampNeg (v4 + (3 : Int32))))) &&& (4294967295 : Int64))), .int (xs (Int32.toNatClampNeg (v4 + (4 : Int32)))), .int (xs (Int32.toNatClampNeg (v4 + (5 : Int32)))), .int (1 : Int32), .int (xs (Int32.toNatClampNeg (v4 + (7 : Int32)))), .ref 245] M) (fun r12 M11 => if (v4 + (1 : Int32)) < 0 ∨ xl ≤ Int32.toNatClampNeg (v4 + (1 : Int32)) then none else (if (v4 + (2 : Int32)) < 0 ∨ xl ≤ Int32.toNatClampNeg (v4 + (2 : Int32)) then none else (if (v4 + (3 : Int32)) < 0 ∨ xl ≤ Int32.toNatClampNeg (v4 + (3 : Int32)) then none else (if (v4 + (4 : Int32)) < 0 ∨ xl ≤ Int32.toNatClampNeg (v4 + (4 : Int32)) then none else (if (v4 + (5 : Int32)) < 0 ∨ xl ≤ Int32.toNatClampNeg (v4 + (5 : Int32)) then none else (if (v4 + (6 : Int32)) < 0 ∨ xl ≤ Int32.toNatClampNeg (v4 + (6 : Int32)) then none else (if (xs (Int32.toNatClampNeg (v4 + (6 : Int32)))) = 0 then (if (v4 + (7 : Int32)) < 0 ∨ xl ≤ Int32.toNatClampNeg (v4 + (7 : Int32)) then none else (dp_bi (dp_den true xs xl d 517 [.ref 114, .int (xs (Int32.toNatClampNeg (v4 + (1 : Int32)))), .long (((Int32.toInt64 (xs (Int32.toNatClampNeg (v4 + (2 : Int32))))) <<< (Int32.toInt64 (32 : Int32) &&& 63)) ||| ((Int32.toInt64 (xs (Int32.toNatClampNeg (v4 + (3 : Int32))))) &&& (4294967295 : Int64))), .int (xs (Int32.toNatClampNeg (v4 + (4 : Int32)))), .int (xs (Int32.toNatClampNeg (v4 + (5 : Int32)))), .int (0 : Int32), .int (xs (Int32.toNatClampNeg (v4 + (7 : Int32))))] M11) (fun r14 M13 => dp_bi (dp_den true xs xl d 365 [.ref 114] M13) (fun r16 M15 => if r16 = r12 then (if r12 = 0 then (if (0 : Int32) < 0 ∨ 1 ≤ Int32.toNatClampNeg (0 : Int32) then none else (if (lg_cmp (dp_J M15 245 (Int32.toNatClampNeg (0 : Int32))) (Int32.toInt64 r14)) = 0 then (D_L_law_6132 xs xl d v4 (some (.int r12)) (some (.int r14)) u7 M15) else (some (.inl (some (.int (0 : Int32))), M15)))) else (D_L_law_6132 xs xl d v4 (some (.int r12)) (some (.int r14)) u7 M15)) else (some (.inl (some (.int (0 : Int32))), M15)))))) else (if (v4 + (7 : Int32)) < 0 ∨ xl ≤ Int32.toNatClampNeg (v4 + (7 : Int32)) then none else (dp_bi (dp_den true xs xl d 517 [.ref 114, .int (xs (Int32.toNatClampNeg (v4 + (1 : Int32)))), .long (((Int32.toInt64 (xs (Int32.toNatClampNeg (v4 + (2 : Int32))))) <<< (Int32.toInt64 (32 : Int32) &&& 63)) ||| ((Int32.toInt64 (xs (Int32.toNatClampNeg (v4 + (3 : Int32))))) &&& (4294967295 : Int64))), .int (xs (Int32.toNatClampNeg (v4 + (4 : Int32)))), .int (xs (Int32.toNatClampNeg (v4 + (5 : Int32)))), .int (1 : Int32), .int (xs (Int32.toNatClampNeg (v4 + (7 : Int32))))] M11) (fun r18 M17 => dp_bi (dp_den true xs xl d 365 [.ref 114] M17) (fun r20 M19 => if r20 = r12 then (if r12 = 0 then (if (0 : Int32) < 0 ∨ 1 ≤ Int32.toNatClampNeg (0 : Int32) then none else (if (lg_cmp (dp_J M19 245 (Int32.toNatClampNeg (0 : Int32))) (Int32.toInt64 r18)) = 0 then (D_L_law_6132 xs xl d v4 (some (.int r12)) (some (.int r18)) u7 M19) else (some (.inl (some (.int (0 : Int32))), M19)))) else (D_L_law_6132 xs xl d v4 (some (.int r12)) (some (.int r18)) u7 M19)) else (some (.inl (some (.int (0 : Int32))), M19))))))))))))))))))))) := by
  have hF := dp_den_grow (md := true) (xs := xs) (xl := xl) d
  unfold D_L_law_3832
  refine dp_s1 hF (i := .aload_n 1) rfl (fun _ => rfl) ?_
  refine dp_s1 hF (i := .aload_n 0) rfl (fun _ => rfl) ?_
  refine dp_s1 hF (i := .iload 4) rfl (fun _ => rfl) ?_
  refine dp_s1 hF (i := .iconst 1) rfl (fun _ => rfl) ?_
  refine dp_s1 hF (i := .iadd) rfl (fun _ => rfl) ?_
  refine dp_s3 hF (i := .iaload) rfl (fun _ => rfl) ?_
  refine dp_s1 hF (i := .aload_n 0) rfl (fun _ => rfl) ?_
  refine dp_s1 hF (i := .iload 4) rfl (fun _ => rfl) ?_
  refine dp_s1 hF (i := .iconst 2) rfl (fun _ => rfl) ?_
  refine dp_s1 hF (i := .iadd) rfl (fun _ => rfl) ?_
  refine dp_s3 hF (i := .iaload) rfl (fun _ => rfl) ?_
  refine dp_s1 hF (i := .i2l) rfl (fun _ => rfl) ?_
  refine dp_s1 hF (i := .bipush 32) rfl (fun _ => rfl) ?_
  refine dp_s1 hF (i := .lshl) rfl (fun _ => rfl) ?_
  refine dp_s1 hF (i := .aload_n 0) rfl (fun _ => rfl) ?_
  refine dp_s1 hF (i := .iload 4) rfl (fun _ => rfl) ?_
  refine dp_s1 hF (i := .iconst 3) rfl (fun _ => rfl) ?_
  refine dp_s1 hF (i := .iadd) rfl (fun _ => rfl) ?_
  refine dp_s3 hF (i := .iaload) rfl (fun _ => rfl) ?_
  refine dp_s1 hF (i := .i2l) rfl (fun _ => rfl) ?_
  refine dp_s1 hF (i := .ldc2_w 366) rfl (fun _ => rfl) ?_
  refine dp_s1 hF (i := .land) rfl (fun _ => rfl) ?_
  refine dp_s1 hF (i := .lor) rfl (fun _ => rfl) ?_
  refine dp_s1 hF (i := .aload_n 0) rfl (fun _ => rfl) ?_
  refine dp_s1 hF (i := .iload 4) rfl (fun _ => rfl) ?_
  refine dp_s1 hF (i := .iconst 4) rfl (fun _ => rfl) ?_
  refine dp_s1 hF (i := .iadd) rfl (fun _ => rfl) ?_
  refine dp_s3 hF (i := .iaload) rfl (fun _ => rfl) ?_
  refine dp_s1 hF (i := .aload_n 0) rfl (fun _ => rfl) ?_
  refine dp_s1 hF (i := .iload 4) rfl (fun _ => rfl) ?_
  refine dp_s1 hF (i := .iconst 5) rfl (fun _ => rfl) ?_
  refine dp_s1 hF (i := .iadd) rfl (fun _ => rfl) ?_
  refine dp_s3 hF (i := .iaload) rfl (fun _ => rfl) ?_
  refine dp_s1 hF (i := .aload_n 0) rfl (fun _ => rfl) ?_
  refine dp_s1 hF (i := .iload 4) rfl (fun _ => rfl) ?_
  refine dp_s1 hF (i := .bipush 6) rfl (fun _ => rfl) ?_
  refine dp_s1 hF (i := .iadd) rfl (fun _ => rfl) ?_
  refine dp_s3 hF (i := .iaload) rfl (fun _ => rfl) ?_
  refine dp_s2 hF (i := .ifCond .eq 7) (a := (3887, [some (.retAddr 0), some (.ref 0), some (.ref 114), some (.ref 245), some (.int v4), u5, u6, u7], [.int (xs (Int32.toNatClampNeg (v4 + (5 : Int32)))), .int (xs (Int32.toNatClampNeg (v4 + (4 : Int32)))), .long (((Int32.toInt64 (xs (Int32.toNatClampNeg (v4 + (2 : Int32))))) <<< (Int32.toInt64 (32 : Int32) &&& 63)) ||| ((Int32.toInt64 (xs (Int32.toNatClampNeg (v4 + (3 : Int32))))) &&& (4294967295 : Int64))), .int (xs (Int32.toNatClampNeg (v4 + (1 : Int32)))), .ref 0], M)) (b := (3883, [some (.retAddr 0), some (.ref 0), some (.ref 114), some (.ref 245), some (.int v4), u5, u6, u7], [.int (xs (Int32.toNatClampNeg (v4 + (5 : Int32)))), .int (xs (Int32.toNatClampNeg (v4 + (4 : Int32)))), .long (((Int32.toInt64 (xs (Int32.toNatClampNeg (v4 + (2 : Int32))))) <<< (Int32.toInt64 (32 : Int32) &&& 63)) ||| ((Int32.toInt64 (xs (Int32.toNatClampNeg (v4 + (3 : Int32))))) &&& (4294967295 : Int64))), .int (xs (Int32.toNatClampNeg (v4 + (1 : Int32)))), .ref 0], M)) rfl (fun _ => rfl) ?_ ?_
  · refine dp_s1 hF (i := .iconst 0) rfl (fun _ => rfl) ?_
    refine dp_s1 hF (i := .aload_n 0) rfl (fun _ => rfl) ?_
    refine dp_s1 hF (i := .iload 4) rfl (fun _ => rfl) ?_
    refine dp_s1 hF (i := .bipush 7) rfl (fun _ => rfl) ?_
    refine dp_s1 hF (i := .iadd) rfl (fun _ => rfl) ?_
    refine dp_s3 hF (i := .iaload) rfl (fun _ => rfl) ?_
    refine dp_s1 hF (i := .aload_n 3) rfl (fun _ => rfl) ?_
    refine dp_si (mj := dp_m_L_guarantee) (i := .invokestatic 410) rfl rfl (Or.inl rfl) rfl (fun _ => rfl) (fun r2 M1 => ?_)
    refine dp_s1 hF (i := .istore 5) rfl (fun _ => rfl) ?_
    refine dp_s1 hF (i := .aload_n 2) rfl (fun _ => rfl) ?_
    refine dp_s1 hF (i := .aload_n 0) rfl (fun _ => rfl) ?_
    refine dp_s1 hF (i := .iload 4) rfl (fun _ => rfl) ?_
    refine dp_s1 hF (i := .iconst 1) rfl (fun _ => rfl) ?_
    refine dp_s1 hF (i := .iadd) rfl (fun _ => rfl) ?_
    refine dp_s3 hF (i := .iaload) rfl (fun _ => rfl) ?_
    refine dp_s1 hF (i := .aload_n 0) rfl (fun _ => rfl) ?_
    refine dp_s1 hF (i := .iload 4) rfl (fun _ => rfl) ?_
    refine dp_s1 hF (i := .iconst 2) rfl (fun _ => rfl) ?_
    refine dp_s1 hF (i := .iadd) rfl (fun _ => rfl) ?_
    refine dp_s3 hF (i := .iaload) rfl (fun _ => rfl) ?_
    refine dp_s1 hF (i := .i2l) rfl (fun _ => rfl) ?_
    refine dp_s1 hF (i := .bipush 32) rfl (fun _ => rfl) ?_
    refine dp_s1 hF (i := .lshl) rfl (fun _ => rfl) ?_
    refine dp_s1 hF (i := .aload_n 0) rfl (fun _ => rfl) ?_
    refine dp_s1 hF (i := .iload 4) rfl (fun _ => rfl) ?_
    refine dp_s1 hF (i := .iconst 3) rfl (fun _ => rfl) ?_
    refine dp_s1 hF (i := .iadd) rfl (fun _ => rfl) ?_
    refine dp_s3 hF (i := .iaload) rfl (fun _ => rfl) ?_
    refine dp_s1 hF (i := .i2l) rfl (fun _ => rfl) ?_
    refine dp_s1 hF (i := .ldc2_w 366) rfl (fun _ => rfl) ?_
    refine dp_s1 hF (i := .land) rfl (fun _ => rfl) ?_
    refine dp_s1 hF (i := .lor) rfl (fun _ => rfl) ?_
    refine dp_s1 hF (i := .aload_n 0) rfl (fun _ => rfl) ?_
    refine dp_s1 hF (i := .iload 4) rfl (fun _ => rfl) ?_
    refine dp_s1 hF (i := .iconst 4) rfl (fun _ => rfl) ?_
    refine dp_s1 hF (i := .iadd) rfl (fun _ => rfl) ?_
    refine dp_s3 hF (i := .iaload) rfl (fun _ => rfl) ?_
    refine dp_s1 hF (i := .aload_n 0) rfl (fun _ => rfl) ?_
    refine dp_s1 hF (i := .iload 4) rfl (fun _ => rfl) ?_
    refine dp_s1 hF (i := .iconst 5) rfl (fun _ => rfl) ?_
    refine dp_s1 hF (i := .iadd) rfl (fun _ => rfl) ?_
    refine dp_s3 hF (i := .iaload) rfl (fun _ => rfl) ?_
    refine dp_s1 hF (i := .aload_n 0) rfl (fun _ => rfl) ?_
    refine dp_s1 hF (i := .iload 4) rfl (fun _ => rfl) ?_
    refine dp_s1 hF (i := .bipush 6) rfl (fun _ => rfl) ?_
    refine dp_s1 hF (i := .iadd) rfl (fun _ => rfl) ?_
    refine dp_s3 hF (i := .iaload) rfl (fun _ => rfl) ?_
    refine dp_s2 hF (i := .ifCond .eq 7) (a := (3956, [some (.retAddr 0), some (.ref 0), some (.ref 114), some (.ref 245), some (.int v4), some (.int r2), u6, u7], [.int (xs (Int32.toNatClampNeg (v4 + (5 : Int32)))), .int (xs (Int32.toNatClampNeg (v4 + (4 : Int32)))), .long (((Int32.toInt64 (xs (Int32.toNatClampNeg (v4 + (2 : Int32))))) <<< (Int32.toInt64 (32 : Int32) &&& 63)) ||| ((Int32.toInt64 (xs (Int32.toNatClampNeg (v4 + (3 : Int32))))) &&& (4294967295 : Int64))), .int (xs (Int32.toNatClampNeg (v4 + (1 : Int32)))), .ref 114], M1)) (b := (3952, [some (.retAddr 0), some (.ref 0), some (.ref 114), some (.ref 245), some (.int v4), some (.int r2), u6, u7], [.int (xs (Int32.toNatClampNeg (v4 + (5 : Int32)))), .int (xs (Int32.toNatClampNeg (v4 + (4 : Int32)))), .long (((Int32.toInt64 (xs (Int32.toNatClampNeg (v4 + (2 : Int32))))) <<< (Int32.toInt64 (32 : Int32) &&& 63)) ||| ((Int32.toInt64 (xs (Int32.toNatClampNeg (v4 + (3 : Int32))))) &&& (4294967295 : Int64))), .int (xs (Int32.toNatClampNeg (v4 + (1 : Int32)))), .ref 114], M1)) rfl (fun _ => rfl) ?_ ?_
    · refine dp_s1 hF (i := .iconst 0) rfl (fun _ => rfl) ?_
      refine dp_s1 hF (i := .aload_n 0) rfl (fun _ => rfl) ?_
      refine dp_s1 hF (i := .iload 4) rfl (fun _ => rfl) ?_
      refine dp_s1 hF (i := .bipush 7) rfl (fun _ => rfl) ?_
      refine dp_s1 hF (i := .iadd) rfl (fun _ => rfl) ?_
      refine dp_s3 hF (i := .iaload) rfl (fun _ => rfl) ?_
      refine dp_si (mj := dp_m_X12_guarantee) (i := .invokevirtual 413) rfl rfl (Or.inl rfl) rfl (fun _ => rfl) (fun r4 M3 => ?_)
      refine dp_s1 hF (i := .istore 6) rfl (fun _ => rfl) ?_
      refine dp_s1 hF (i := .aload_n 2) rfl (fun _ => rfl) ?_
      refine dp_si (mj := dp_m_X12_thrown) (i := .invokevirtual 229) rfl rfl (Or.inl rfl) rfl (fun _ => rfl) (fun r6 M5 => ?_)
      refine dp_s1 hF (i := .iload 5) rfl (fun _ => rfl) ?_
      refine dp_s2 hF (i := .if_icmp .eq 5) (a := (3980, [some (.retAddr 0), some (.ref 0), some (.ref 114), some (.ref 245), some (.int v4), some (.int r2), some (.int r4), u7], [], M5)) (b := (3978, [some (.retAddr 0), some (.ref 0), some (.ref 114), some (.ref 245), some (.int v4), some (.int r2), some (.int r4), u7], [], M5)) rfl (fun _ => rfl) ?_ ?_
      · refine dp_s1 hF (i := .iload 5) rfl (fun _ => rfl) ?_
        refine dp_s2 hF (i := .ifCond .ne 15) (a := (3985, [some (.retAddr 0), some (.ref 0), some (.ref 114), some (.ref 245), some (.int v4), some (.int r2), some (.int r4), u7], [], M5)) (b := (3997, [some (.retAddr 0), some (.ref 0), some (.ref 114), some (.ref 245), some (.int v4), some (.int r2), some (.int r4), u7], [], M5)) rfl (fun _ => rfl) ?_ ?_
        · refine dp_s1 hF (i := .aload_n 3) rfl (fun _ => rfl) ?_
          refine dp_s1 hF (i := .iconst 0) rfl (fun _ => rfl) ?_
          refine dp_s3 hF (i := .laload) rfl (fun _ => rfl) ?_
          refine dp_s1 hF (i := .iload 6) rfl (fun _ => rfl) ?_
          refine dp_s1 hF (i := .i2l) rfl (fun _ => rfl) ?_
          refine dp_s1 hF (i := .lcmp) rfl (fun _ => rfl) ?_
          refine dp_s2 hF (i := .ifCond .eq 5) (a := (3997, [some (.retAddr 0), some (.ref 0), some (.ref 114), some (.ref 245), some (.int v4), some (.int r2), some (.int r4), u7], [], M5)) (b := (3995, [some (.retAddr 0), some (.ref 0), some (.ref 114), some (.ref 245), some (.int v4), some (.int r2), some (.int r4), u7], [], M5)) rfl (fun _ => rfl) ?_ ?_
          · refine dp_s1 hF (i := .goto 2135) rfl (fun _ => rfl) ?_
            exact rfl
          refine dp_s1 hF (i := .iconst 0) rfl (fun _ => rfl) ?_
          exact dp_s0 hF (i := .ireturn) rfl (fun _ => rfl)
        refine dp_s1 hF (i := .goto 2135) rfl (fun _ => rfl) ?_
        exact rfl
      refine dp_s1 hF (i := .iconst 0) rfl (fun _ => rfl) ?_
      exact dp_s0 hF (i := .ireturn) rfl (fun _ => rfl)
    refine dp_s1 hF (i := .iconst 1) rfl (fun _ => rfl) ?_
    refine dp_s1 hF (i := .goto 4) rfl (fun _ => rfl) ?_
    refine dp_s1 hF (i := .aload_n 0) rfl (fun _ => rfl) ?_
    refine dp_s1 hF (i := .iload 4) rfl (fun _ => rfl) ?_
    refine dp_s1 hF (i := .bipush 7) rfl (fun _ => rfl) ?_
    refine dp_s1 hF (i := .iadd) rfl (fun _ => rfl) ?_
    refine dp_s3 hF (i := .iaload) rfl (fun _ => rfl) ?_
    refine dp_si (mj := dp_m_X12_guarantee) (i := .invokevirtual 413) rfl rfl (Or.inl rfl) rfl (fun _ => rfl) (fun r8 M7 => ?_)
    refine dp_s1 hF (i := .istore 6) rfl (fun _ => rfl) ?_
    refine dp_s1 hF (i := .aload_n 2) rfl (fun _ => rfl) ?_
    refine dp_si (mj := dp_m_X12_thrown) (i := .invokevirtual 229) rfl rfl (Or.inl rfl) rfl (fun _ => rfl) (fun r10 M9 => ?_)
    refine dp_s1 hF (i := .iload 5) rfl (fun _ => rfl) ?_
    refine dp_s2 hF (i := .if_icmp .eq 5) (a := (3980, [some (.retAddr 0), some (.ref 0), some (.ref 114), some (.ref 245), some (.int v4), some (.int r2), some (.int r8), u7], [], M9)) (b := (3978, [some (.retAddr 0), some (.ref 0), some (.ref 114), some (.ref 245), some (.int v4), some (.int r2), some (.int r8), u7], [], M9)) rfl (fun _ => rfl) ?_ ?_
    · refine dp_s1 hF (i := .iload 5) rfl (fun _ => rfl) ?_
      refine dp_s2 hF (i := .ifCond .ne 15) (a := (3985, [some (.retAddr 0), some (.ref 0), some (.ref 114), some (.ref 245), some (.int v4), some (.int r2), some (.int r8), u7], [], M9)) (b := (3997, [some (.retAddr 0), some (.ref 0), some (.ref 114), some (.ref 245), some (.int v4), some (.int r2), some (.int r8), u7], [], M9)) rfl (fun _ => rfl) ?_ ?_
      · refine dp_s1 hF (i := .aload_n 3) rfl (fun _ => rfl) ?_
        refine dp_s1 hF (i := .iconst 0) rfl (fun _ => rfl) ?_
        refine dp_s3 hF (i := .laload) rfl (fun _ => rfl) ?_
        refine dp_s1 hF (i := .iload 6) rfl (fun _ => rfl) ?_
        refine dp_s1 hF (i := .i2l) rfl (fun _ => rfl) ?_
        refine dp_s1 hF (i := .lcmp) rfl (fun _ => rfl) ?_
        refine dp_s2 hF (i := .ifCond .eq 5) (a := (3997, [some (.retAddr 0), some (.ref 0), some (.ref 114), some (.ref 245), some (.int v4), some (.int r2), some (.int r8), u7], [], M9)) (b := (3995, [some (.retAddr 0), some (.ref 0), some (.ref 114), some (.ref 245), some (.int v4), some (.int r2), some (.int r8), u7], [], M9)) rfl (fun _ => rfl) ?_ ?_
        · refine dp_s1 hF (i := .goto 2135) rfl (fun _ => rfl) ?_
          exact rfl
        refine dp_s1 hF (i := .iconst 0) rfl (fun _ => rfl) ?_
        exact dp_s0 hF (i := .ireturn) rfl (fun _ => rfl)
      refine dp_s1 hF (i := .goto 2135) rfl (fun _ => rfl) ?_
      exact rfl
    refine dp_s1 hF (i := .iconst 0) rfl (fun _ => rfl) ?_
    exact dp_s0 hF (i := .ireturn) rfl (fun _ => rfl)
  refine dp_s1 hF (i := .iconst 1) rfl (fun _ => rfl) ?_
  refine dp_s1 hF (i := .goto 4) rfl (fun _ => rfl) ?_
  refine dp_s1 hF (i := .aload_n 0) rfl (fun _ => rfl) ?_
  refine dp_s1 hF (i := .iload 4) rfl (fun _ => rfl) ?_
  refine dp_s1 hF (i := .bipush 7) rfl (fun _ => rfl) ?_
  refine dp_s1 hF (i := .iadd) rfl (fun _ => rfl) ?_
  refine dp_s3 hF (i := .iaload) rfl (fun _ => rfl) ?_
  refine dp_s1 hF (i := .aload_n 3) rfl (fun _ => rfl) ?_
  refine dp_si (mj := dp_m_L_guarantee) (i := .invokestatic 410) rfl rfl (Or.inl rfl) rfl (fun _ => rfl) (fun r12 M11 => ?_)
  refine dp_s1 hF (i := .istore 5) rfl (fun _ => rfl) ?_
  refine dp_s1 hF (i := .aload_n 2) rfl (fun _ => rfl) ?_
  refine dp_s1 hF (i := .aload_n 0) rfl (fun _ => rfl) ?_
  refine dp_s1 hF (i := .iload 4) rfl (fun _ => rfl) ?_
  refine dp_s1 hF (i := .iconst 1) rfl (fun _ => rfl) ?_
  refine dp_s1 hF (i := .iadd) rfl (fun _ => rfl) ?_
  refine dp_s3 hF (i := .iaload) rfl (fun _ => rfl) ?_
  refine dp_s1 hF (i := .aload_n 0) rfl (fun _ => rfl) ?_
  refine dp_s1 hF (i := .iload 4) rfl (fun _ => rfl) ?_
  refine dp_s1 hF (i := .iconst 2) rfl (fun _ => rfl) ?_
  refine dp_s1 hF (i := .iadd) rfl (fun _ => rfl) ?_
  refine dp_s3 hF (i := .iaload) rfl (fun _ => rfl) ?_
  refine dp_s1 hF (i := .i2l) rfl (fun _ => rfl) ?_
  refine dp_s1 hF (i := .bipush 32) rfl (fun _ => rfl) ?_
  refine dp_s1 hF (i := .lshl) rfl (fun _ => rfl) ?_
  refine dp_s1 hF (i := .aload_n 0) rfl (fun _ => rfl) ?_
  refine dp_s1 hF (i := .iload 4) rfl (fun _ => rfl) ?_
  refine dp_s1 hF (i := .iconst 3) rfl (fun _ => rfl) ?_
  refine dp_s1 hF (i := .iadd) rfl (fun _ => rfl) ?_
  refine dp_s3 hF (i := .iaload) rfl (fun _ => rfl) ?_
  refine dp_s1 hF (i := .i2l) rfl (fun _ => rfl) ?_
  refine dp_s1 hF (i := .ldc2_w 366) rfl (fun _ => rfl) ?_
  refine dp_s1 hF (i := .land) rfl (fun _ => rfl) ?_
  refine dp_s1 hF (i := .lor) rfl (fun _ => rfl) ?_
  refine dp_s1 hF (i := .aload_n 0) rfl (fun _ => rfl) ?_
  refine dp_s1 hF (i := .iload 4) rfl (fun _ => rfl) ?_
  refine dp_s1 hF (i := .iconst 4) rfl (fun _ => rfl) ?_
  refine dp_s1 hF (i := .iadd) rfl (fun _ => rfl) ?_
  refine dp_s3 hF (i := .iaload) rfl (fun _ => rfl) ?_
  refine dp_s1 hF (i := .aload_n 0) rfl (fun _ => rfl) ?_
  refine dp_s1 hF (i := .iload 4) rfl (fun _ => rfl) ?_
  refine dp_s1 hF (i := .iconst 5) rfl (fun _ => rfl) ?_
  refine dp_s1 hF (i := .iadd) rfl (fun _ => rfl) ?_
  refine dp_s3 hF (i := .iaload) rfl (fun _ => rfl) ?_
  refine dp_s1 hF (i := .aload_n 0) rfl (fun _ => rfl) ?_
  refine dp_s1 hF (i := .iload 4) rfl (fun _ => rfl) ?_
  refine dp_s1 hF (i := .bipush 6) rfl (fun _ => rfl) ?_
  refine dp_s1 hF (i := .iadd) rfl (fun _ => rfl) ?_
  refine dp_s3 hF (i := .iaload) rfl (fun _ => rfl) ?_
  refine dp_s2 hF (i := .ifCond .eq 7) (a := (3956, [some (.retAddr 0), some (.ref 0), some (.ref 114), some (.ref 245), some (.int v4), some (.int r12), u6, u7], [.int (xs (Int32.toNatClampNeg (v4 + (5 : Int32)))), .int (xs (Int32.toNatClampNeg (v4 + (4 : Int32)))), .long (((Int32.toInt64 (xs (Int32.toNatClampNeg (v4 + (2 : Int32))))) <<< (Int32.toInt64 (32 : Int32) &&& 63)) ||| ((Int32.toInt64 (xs (Int32.toNatClampNeg (v4 + (3 : Int32))))) &&& (4294967295 : Int64))), .int (xs (Int32.toNatClampNeg (v4 + (1 : Int32)))), .ref 114], M11)) (b := (3952, [some (.retAddr 0), some (.ref 0), some (.ref 114), some (.ref 245), some (.int v4), some (.int r12), u6, u7], [.int (xs (Int32.toNatClampNeg (v4 + (5 : Int32)))), .int (xs (Int32.toNatClampNeg (v4 + (4 : Int32)))), .long (((Int32.toInt64 (xs (Int32.toNatClampNeg (v4 + (2 : Int32))))) <<< (Int32.toInt64 (32 : Int32) &&& 63)) ||| ((Int32.toInt64 (xs (Int32.toNatClampNeg (v4 + (3 : Int32))))) &&& (4294967295 : Int64))), .int (xs (Int32.toNatClampNeg (v4 + (1 : Int32)))), .ref 114], M11)) rfl (fun _ => rfl) ?_ ?_
  · refine dp_s1 hF (i := .iconst 0) rfl (fun _ => rfl) ?_
    refine dp_s1 hF (i := .aload_n 0) rfl (fun _ => rfl) ?_
    refine dp_s1 hF (i := .iload 4) rfl (fun _ => rfl) ?_
    refine dp_s1 hF (i := .bipush 7) rfl (fun _ => rfl) ?_
    refine dp_s1 hF (i := .iadd) rfl (fun _ => rfl) ?_
    refine dp_s3 hF (i := .iaload) rfl (fun _ => rfl) ?_
    refine dp_si (mj := dp_m_X12_guarantee) (i := .invokevirtual 413) rfl rfl (Or.inl rfl) rfl (fun _ => rfl) (fun r14 M13 => ?_)
    refine dp_s1 hF (i := .istore 6) rfl (fun _ => rfl) ?_
    refine dp_s1 hF (i := .aload_n 2) rfl (fun _ => rfl) ?_
    refine dp_si (mj := dp_m_X12_thrown) (i := .invokevirtual 229) rfl rfl (Or.inl rfl) rfl (fun _ => rfl) (fun r16 M15 => ?_)
    refine dp_s1 hF (i := .iload 5) rfl (fun _ => rfl) ?_
    refine dp_s2 hF (i := .if_icmp .eq 5) (a := (3980, [some (.retAddr 0), some (.ref 0), some (.ref 114), some (.ref 245), some (.int v4), some (.int r12), some (.int r14), u7], [], M15)) (b := (3978, [some (.retAddr 0), some (.ref 0), some (.ref 114), some (.ref 245), some (.int v4), some (.int r12), some (.int r14), u7], [], M15)) rfl (fun _ => rfl) ?_ ?_
    · refine dp_s1 hF (i := .iload 5) rfl (fun _ => rfl) ?_
      refine dp_s2 hF (i := .ifCond .ne 15) (a := (3985, [some (.retAddr 0), some (.ref 0), some (.ref 114), some (.ref 245), some (.int v4), some (.int r12), some (.int r14), u7], [], M15)) (b := (3997, [some (.retAddr 0), some (.ref 0), some (.ref 114), some (.ref 245), some (.int v4), some (.int r12), some (.int r14), u7], [], M15)) rfl (fun _ => rfl) ?_ ?_
      · refine dp_s1 hF (i := .aload_n 3) rfl (fun _ => rfl) ?_
        refine dp_s1 hF (i := .iconst 0) rfl (fun _ => rfl) ?_
        refine dp_s3 hF (i := .laload) rfl (fun _ => rfl) ?_
        refine dp_s1 hF (i := .iload 6) rfl (fun _ => rfl) ?_
        refine dp_s1 hF (i := .i2l) rfl (fun _ => rfl) ?_
        refine dp_s1 hF (i := .lcmp) rfl (fun _ => rfl) ?_
        refine dp_s2 hF (i := .ifCond .eq 5) (a := (3997, [some (.retAddr 0), some (.ref 0), some (.ref 114), some (.ref 245), some (.int v4), some (.int r12), some (.int r14), u7], [], M15)) (b := (3995, [some (.retAddr 0), some (.ref 0), some (.ref 114), some (.ref 245), some (.int v4), some (.int r12), some (.int r14), u7], [], M15)) rfl (fun _ => rfl) ?_ ?_
        · refine dp_s1 hF (i := .goto 2135) rfl (fun _ => rfl) ?_
          exact rfl
        refine dp_s1 hF (i := .iconst 0) rfl (fun _ => rfl) ?_
        exact dp_s0 hF (i := .ireturn) rfl (fun _ => rfl)
      refine dp_s1 hF (i := .goto 2135) rfl (fun _ => rfl) ?_
      exact rfl
    refine dp_s1 hF (i := .iconst 0) rfl (fun _ => rfl) ?_
    exact dp_s0 hF (i := .ireturn) rfl (fun _ => rfl)
  refine dp_s1 hF (i := .iconst 1) rfl (fun _ => rfl) ?_
  refine dp_s1 hF (i := .goto 4) rfl (fun _ => rfl) ?_
  refine dp_s1 hF (i := .aload_n 0) rfl (fun _ => rfl) ?_
  refine dp_s1 hF (i := .iload 4) rfl (fun _ => rfl) ?_
  refine dp_s1 hF (i := .bipush 7) rfl (fun _ => rfl) ?_
  refine dp_s1 hF (i := .iadd) rfl (fun _ => rfl) ?_
  refine dp_s3 hF (i := .iaload) rfl (fun _ => rfl) ?_
  refine dp_si (mj := dp_m_X12_guarantee) (i := .invokevirtual 413) rfl rfl (Or.inl rfl) rfl (fun _ => rfl) (fun r18 M17 => ?_)
  refine dp_s1 hF (i := .istore 6) rfl (fun _ => rfl) ?_
  refine dp_s1 hF (i := .aload_n 2) rfl (fun _ => rfl) ?_
  refine dp_si (mj := dp_m_X12_thrown) (i := .invokevirtual 229) rfl rfl (Or.inl rfl) rfl (fun _ => rfl) (fun r20 M19 => ?_)
  refine dp_s1 hF (i := .iload 5) rfl (fun _ => rfl) ?_
  refine dp_s2 hF (i := .if_icmp .eq 5) (a := (3980, [some (.retAddr 0), some (.ref 0), some (.ref 114), some (.ref 245), some (.int v4), some (.int r12), some (.int r18), u7], [], M19)) (b := (3978, [some (.retAddr 0), some (.ref 0), some (.ref 114), some (.ref 245), some (.int v4), some (.int r12), some (.int r18), u7], [], M19)) rfl (fun _ => rfl) ?_ ?_
  · refine dp_s1 hF (i := .iload 5) rfl (fun _ => rfl) ?_
    refine dp_s2 hF (i := .ifCond .ne 15) (a := (3985, [some (.retAddr 0), some (.ref 0), some (.ref 114), some (.ref 245), some (.int v4), some (.int r12), some (.int r18), u7], [], M19)) (b := (3997, [some (.retAddr 0), some (.ref 0), some (.ref 114), some (.ref 245), some (.int v4), some (.int r12), some (.int r18), u7], [], M19)) rfl (fun _ => rfl) ?_ ?_
    · refine dp_s1 hF (i := .aload_n 3) rfl (fun _ => rfl) ?_
      refine dp_s1 hF (i := .iconst 0) rfl (fun _ => rfl) ?_
      refine dp_s3 hF (i := .laload) rfl (fun _ => rfl) ?_
      refine dp_s1 hF (i := .iload 6) rfl (fun _ => rfl) ?_
      refine dp_s1 hF (i := .i2l) rfl (fun _ => rfl) ?_
      refine dp_s1 hF (i := .lcmp) rfl (fun _ => rfl) ?_
      refine dp_s2 hF (i := .ifCond .eq 5) (a := (3997, [some (.retAddr 0), some (.ref 0), some (.ref 114), some (.ref 245), some (.int v4), some (.int r12), some (.int r18), u7], [], M19)) (b := (3995, [some (.retAddr 0), some (.ref 0), some (.ref 114), some (.ref 245), some (.int v4), some (.int r12), some (.int r18), u7], [], M19)) rfl (fun _ => rfl) ?_ ?_
      · refine dp_s1 hF (i := .goto 2135) rfl (fun _ => rfl) ?_
        exact rfl
      refine dp_s1 hF (i := .iconst 0) rfl (fun _ => rfl) ?_
      exact dp_s0 hF (i := .ireturn) rfl (fun _ => rfl)
    refine dp_s1 hF (i := .goto 2135) rfl (fun _ => rfl) ?_
    exact rfl
  refine dp_s1 hF (i := .iconst 0) rfl (fun _ => rfl) ?_
  exact dp_s0 hF (i := .ireturn) rfl (fun _ => rfl)
