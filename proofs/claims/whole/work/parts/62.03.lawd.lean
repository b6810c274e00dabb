set_option maxRecDepth 20000 in
theorem D_L_law_4000_eq (xs : Nat → Int32) (xl d : Nat) (v4 : Int32) (u5 : Option Value) (u6 : Option Value) (u7 : Option Value) (M : dp_M) : D_L_law_4000 xs xl d v4 u5 u6 u7 M = if (v4 + (1 : Int32)) < 0 ∨ xl ≤ Int32.toNatClampNeg (v4 + (1 : Int32)) then none else (dp_bi (dp_den true xs xl d 323 [.ref 0, .int (xs (Int32.toNatClampNeg (v4 + (1 : Int32))))] M) (fun r2 M1 => if (v4 + (1 : Int32)) < 0 ∨ xl ≤ Int32.toNatClampNeg (v4 + (1 : Int32)) then none else (dp_bi (dp_den true xs xl d 519 [.ref 114, .int (xs (Int32.toNatClampNeg (v4 + (1 : Int32))))] M1) (fun r4 M3 => if r2 = r4 then (D_L_law_6132 xs xl d v4 u5 u6 u7 M3) else (some (.inl (some (.int (0 : Int32))), M3)))))) := by
  have hF := dp_den_grow (md := true) (xs := xs) (xl := xl) d
  unfold D_L_law_4000
  refine dp_s1 hF (i := .aload_n 1) rfl (fun _ => rfl) ?_
  refine dp_s1 hF (i := .aload_n 0) rfl (fun _ => rfl) ?_
  refine dp_s1 hF (i := .iload 4) rfl (fun _ => rfl) ?_
  refine dp_s1 hF (i := .iconst 1) rfl (fun _ => rfl) ?_
  refine dp_s1 hF (i := .iadd) rfl (fun _ => rfl) ?_
  refine dp_s3 hF (i := .iaload) rfl (fun _ => rfl) ?_
  refine dp_si (mj := dp_m_X11_first) (i := .invokevirtual 414) rfl rfl (Or.inr rfl) rfl (fun _ => rfl) (fun r2 M1 => ?_)
  refine dp_s1 hF (i := .aload_n 2) rfl (fun _ => rfl) ?_
  refine dp_s1 hF (i := .aload_n 0) rfl (fun _ => rfl) ?_
  refine dp_s1 hF (i := .iload 4) rfl (fun _ => rfl) ?_
  refine dp_s1 hF (i := .iconst 1) rfl (fun _ => rfl) ?_
  refine dp_s1 hF (i := .iadd) rfl (fun _ => rfl) ?_
  refine dp_s3 hF (i := .iaload) rfl (fun _ => rfl) ?_
  refine dp_si (mj := dp_m_X12_first) (i := .invokevirtual 418) rfl rfl (Or.inr rfl) rfl (fun _ => rfl) (fun r4 M3 => ?_)
  refine dp_s2 hF (i := .if_icmp .eq 2112) (a := (6132, [some (.retAddr 0), some (.ref 0), some (.ref 114), some (.ref 245), some (.int v4), u5, u6, u7], [], M3)) (b := (4023, [some (.retAddr 0), some (.ref 0), some (.ref 114), some (.ref 245), some (.int v4), u5, u6, u7], [], M3)) rfl (fun _ => rfl) ?_ ?_
  · exact rfl
  refine dp_s1 hF (i := .iconst 0) rfl (fun _ => rfl) ?_
  exact dp_s0 hF (i := .ireturn) rfl (fun _ => rfl)
set_option maxRecDepth 20000 in
theorem D_L_law_4025_eq (xs : Nat → Int32) (xl d : Nat) (v4 : Int32) (u5 : Option Value) (u6 : Option Value) (u7 : Option Value) (M : dp_M) : D_L_law_4025 xs xl d v4 u5 u6 u7 M = if (v4 + (1 : Int32)) < 0 ∨ xl ≤ Int32.toNatClampNeg (v4 + (1 : Int32)) then none else (dp_bi (dp_den true xs xl d 324 [.ref 0, .int (xs (Int32.toNatClampNeg (v4 + (1 : Int32))))] M) (fun r2 M1 => if (v4 + (1 : Int32)) < 0 ∨ xl ≤ Int32.toNatClampNeg (v4 + (1 : Int32)) then none else (dp_bi (dp_den true xs xl d 534 [.ref 114, .int (xs (Int32.toNatClampNeg (v4 + (1 : Int32))))] M1) (fun r4 M3 => if r2 = r4 then (D_L_law_6132 xs xl d v4 u5 u6 u7 M3) else (some (.inl (some (.int (0 : Int32))), M3)))))) := by
  have hF := dp_den_grow (md := true) (xs := xs) (xl := xl) d
  unfold D_L_law_4025
  refine dp_s1 hF (i := .aload_n 1) rfl (fun _ => rfl) ?_
  refine dp_s1 hF (i := .aload_n 0) rfl (fun _ => rfl) ?_
  refine dp_s1 hF (i := .iload 4) rfl (fun _ => rfl) ?_
  refine dp_s1 hF (i := .iconst 1) rfl (fun _ => rfl) ?_
  refine dp_s1 hF (i := .iadd) rfl (fun _ => rfl) ?_
  refine dp_s3 hF (i := .iaload) rfl (fun _ => rfl) ?_
  refine dp_si (mj := dp_m_X11_shut) (i := .invokevirtual 419) rfl rfl (Or.inr rfl) rfl (fun _ => rfl) (fun r2 M1 => ?_)
  refine dp_s1 hF (i := .aload_n 2) rfl (fun _ => rfl) ?_
  refine dp_s1 hF (i := .aload_n 0) rfl (fun _ => rfl) ?_
  refine dp_s1 hF (i := .iload 4) rfl (fun _ => rfl) ?_
  refine dp_s1 hF (i := .iconst 1) rfl (fun _ => rfl) ?_
  refine dp_s1 hF (i := .iadd) rfl (fun _ => rfl) ?_
  refine dp_s3 hF (i := .iaload) rfl (fun _ => rfl) ?_
  refine dp_si (mj := dp_m_X12_shut) (i := .invokevirtual 422) rfl rfl (Or.inr rfl) rfl (fun _ => rfl) (fun r4 M3 => ?_)
  refine dp_s2 hF (i := .if_icmp .eq 2087) (a := (6132, [some (.retAddr 0), some (.ref 0), some (.ref 114), some (.ref 245), some (.int v4), u5, u6, u7], [], M3)) (b := (4048, [some (.retAddr 0), some (.ref 0), some (.ref 114), some (.ref 245), some (.int v4), u5, u6, u7], [], M3)) rfl (fun _ => rfl) ?_ ?_
  · exact rfl
  refine dp_s1 hF (i := .iconst 0) rfl (fun _ => rfl) ?_
  exact dp_s0 hF (i := .ireturn) rfl (fun _ => rfl)
set_option maxRecDepth 20000 in
theorem D_L_law_4050_eq (xs : Nat → Int32) (xl d : Nat) (v4 : Int32) (u5 : Option Value) (u6 : Option Value) (u7 : Option Value) (M : dp_M) : D_L_law_4050 xs xl d v4 u5 u6 u7 M = if (v4 + (1 : Int32)) < 0 ∨ xl ≤ Int32.toNatClampNeg (v4 + (1 : Int32)) then none else (if (v4 + (2 : Int32)) < 0 ∨ xl ≤ Int32.toNatClampNeg (v4 + (2 : Int32)) then none else (if (xs (Int32.toNatClampNeg (v4 + (2 : Int32)))) = 0 then (dp_bi (dp_den true xs xl d 325 [.ref 0, .int (xs (Int32.toNatClampNeg (v4 + (1 : Int32)))), .int (0 : Int32)] M) (fun r2 M1 => if (v4 + (1 : Int32)) < 0 ∨ xl ≤ Int32.toNatClampNeg (v4 + (1 : Int32)) then none else (if (v4 + (2 : Int32)) < 0 ∨ xl ≤ Int32.toNatClampNeg (v4 + (2 : Int32)) then none else (if (xs (Int32.toNatClampNeg (v4 + (2 : Int32)))) = 0 then (dp_bi (dp_den true xs xl d 535 [.ref 114, .int (xs (Int32.toNatClampNeg (v4 + (1 : Int32)))), .int (0 : Int32)] M1) (fun r4 M3 => if r2 = r4 then (D_L_law_6132 xs xl d v4 u5 u6 u7 M3) else (some (.inl (some (.int (0 : Int32))), M3)))) else (dp_bi (dp_den true xs xl d 535 [.ref 114, .int (xs (Int32.toNatClampNeg (v4 + (1 : Int32)))), .int (1 : Int32)] M1) (fun r6 M5 => if r2 = r6 then (D_L_law_6132 xs xl d v4 u5 u6 u7 M5) else (some (.inl (some (.int (0 : Int32))), M5)))))))) else (dp_bi (dp_den true xs xl d 325 [.ref 0, .int (xs (Int32.toNatClampNeg (v4 + (1 : Int32)))), .int (1 : Int32)] M) (fun r8 M7 => if (v4 + (1 : Int32)) < 0 ∨ xl ≤ Int32.toNatClampNeg (v4 + (1 : Int32)) then none else (if (v4 + (2 : Int32)) < 0 ∨ xl ≤ Int32.toNatClampNeg (v4 + (2 : Int32)) then none else (if (xs (Int32.toNatClampNeg (v4 + (2 : Int32)))) = 0 then (dp_bi (dp_den true xs xl d 535 [.ref 114, .int (xs (Int32.toNatClampNeg (v4 + (1 : Int32)))), .int (0 : Int32)] M7) (fun r10 M9 => if r8 = r10 then (D_L_law_6132 xs xl d v4 u5 u6 u7 M9) else (some (.inl (some (.int (0 : Int32))), M9)))) else (dp_bi (dp_den true xs xl d 535 [.ref 114, .int (xs (Int32.toNatClampNeg (v4 + (1 : Int32)))), .int (1 : Int32)] M7) (fun r12 M11 => if r8 = r12 then (D_L_law_6132 xs xl d v4 u5 u6 u7 M11) else (some (.inl (some (.int (0 : Int32))), M11)))))))))) := by
  have hF := dp_den_grow (md := true) (xs := xs) (xl := xl) d
  unfold D_L_law_4050
  refine dp_s1 hF (i := .aload_n 1) rfl (fun _ => rfl) ?_
  refine dp_s1 hF (i := .aload_n 0) rfl (fun _ => rfl) ?_
  refine dp_s1 hF (i := .iload 4) rfl (fun _ => rfl) ?_
  refine dp_s1 hF (i := .iconst 1) rfl (fun _ => rfl) ?_
  refine dp_s1 hF (i := .iadd) rfl (fun _ => rfl) ?_
  refine dp_s3 hF (i := .iaload) rfl (fun _ => rfl) ?_
  refine dp_s1 hF (i := .aload_n 0) rfl (fun _ => rfl) ?_
  refine dp_s1 hF (i := .iload 4) rfl (fun _ => rfl) ?_
  refine dp_s1 hF (i := .iconst 2) rfl (fun _ => rfl) ?_
  refine dp_s1 hF (i := .iadd) rfl (fun _ => rfl) ?_
  refine dp_s3 hF (i := .iaload) rfl (fun _ => rfl) ?_
  refine dp_s2 hF (i := .ifCond .eq 7) (a := (4070, [some (.retAddr 0), some (.ref 0), some (.ref 114), some (.ref 245), some (.int v4), u5, u6, u7], [.int (xs (Int32.toNatClampNeg (v4 + (1 : Int32)))), .ref 0], M)) (b := (4066, [some (.retAddr 0), some (.ref 0), some (.ref 114), some (.ref 245), some (.int v4), u5, u6, u7], [.int (xs (Int32.toNatClampNeg (v4 + (1 : Int32)))), .ref 0], M)) rfl (fun _ => rfl) ?_ ?_
  · refine dp_s1 hF (i := .iconst 0) rfl (fun _ => rfl) ?_
    refine dp_si (mj := dp_m_X11_fails) (i := .invokevirtual 423) rfl rfl (Or.inr rfl) rfl (fun _ => rfl) (fun r2 M1 => ?_)
    refine dp_s1 hF (i := .aload_n 2) rfl (fun _ => rfl) ?_
    refine dp_s1 hF (i := .aload_n 0) rfl (fun _ => rfl) ?_
    refine dp_s1 hF (i := .iload 4) rfl (fun _ => rfl) ?_
    refine dp_s1 hF (i := .iconst 1) rfl (fun _ => rfl) ?_
    refine dp_s1 hF (i := .iadd) rfl (fun _ => rfl) ?_
    refine dp_s3 hF (i := .iaload) rfl (fun _ => rfl) ?_
    refine dp_s1 hF (i := .aload_n 0) rfl (fun _ => rfl) ?_
    refine dp_s1 hF (i := .iload 4) rfl (fun _ => rfl) ?_
    refine dp_s1 hF (i := .iconst 2) rfl (fun _ => rfl) ?_
    refine dp_s1 hF (i := .iadd) rfl (fun _ => rfl) ?_
    refine dp_s3 hF (i := .iaload) rfl (fun _ => rfl) ?_
    refine dp_s2 hF (i := .ifCond .eq 7) (a := (4094, [some (.retAddr 0), some (.ref 0), some (.ref 114), some (.ref 245), some (.int v4), u5, u6, u7], [.int (xs (Int32.toNatClampNeg (v4 + (1 : Int32)))), .ref 114, .int r2], M1)) (b := (4090, [some (.retAddr 0), some (.ref 0), some (.ref 114), some (.ref 245), some (.int v4), u5, u6, u7], [.int (xs (Int32.toNatClampNeg (v4 + (1 : Int32)))), .ref 114, .int r2], M1)) rfl (fun _ => rfl) ?_ ?_
    · refine dp_s1 hF (i := .iconst 0) rfl (fun _ => rfl) ?_
      refine dp_si (mj := dp_m_X12_fails) (i := .invokevirtual 427) rfl rfl (Or.inr rfl) rfl (fun _ => rfl) (fun r4 M3 => ?_)
      refine dp_s2 hF (i := .if_icmp .eq 2034) (a := (6132, [some (.retAddr 0), some (.ref 0), some (.ref 114), some (.ref 245), some (.int v4), u5, u6, u7], [], M3)) (b := (4101, [some (.retAddr 0), some (.ref 0), some (.ref 114), some (.ref 245), some (.int v4), u5, u6, u7], [], M3)) rfl (fun _ => rfl) ?_ ?_
      · exact rfl
      refine dp_s1 hF (i := .iconst 0) rfl (fun _ => rfl) ?_
      exact dp_s0 hF (i := .ireturn) rfl (fun _ => rfl)
    refine dp_s1 hF (i := .iconst 1) rfl (fun _ => rfl) ?_
    refine dp_s1 hF (i := .goto 4) rfl (fun _ => rfl) ?_
    refine dp_si (mj := dp_m_X12_fails) (i := .invokevirtual 427) rfl rfl (Or.inr rfl) rfl (fun _ => rfl) (fun r6 M5 => ?_)
    refine dp_s2 hF (i := .if_icmp .eq 2034) (a := (6132, [some (.retAddr 0), some (.ref 0), some (.ref 114), some (.ref 245), some (.int v4), u5, u6, u7], [], M5)) (b := (4101, [some (.retAddr 0), some (.ref 0), some (.ref 114), some (.ref 245), some (.int v4), u5, u6, u7], [], M5)) rfl (fun _ => rfl) ?_ ?_
    · exact rfl
    refine dp_s1 hF (i := .iconst 0) rfl (fun _ => rfl) ?_
    exact dp_s0 hF (i := .ireturn) rfl (fun _ => rfl)
  refine dp_s1 hF (i := .iconst 1) rfl (fun _ => rfl) ?_
  refine dp_s1 hF (i := .goto 4) rfl (fun _ => rfl) ?_
  refine dp_si (mj := dp_m_X11_fails) (i := .invokevirtual 423) rfl rfl (Or.inr rfl) rfl (fun _ => rfl) (fun r8 M7 => ?_)
  refine dp_s1 hF (i := .aload_n 2) rfl (fun _ => rfl) ?_
  refine dp_s1 hF (i := .aload_n 0) rfl (fun _ => rfl) ?_
  refine dp_s1 hF (i := .iload 4) rfl (fun _ => rfl) ?_
  refine dp_s1 hF (i := .iconst 1) rfl (fun _ => rfl) ?_
  refine dp_s1 hF (i := .iadd) rfl (fun _ => rfl) ?_
  refine dp_s3 hF (i := .iaload) rfl (fun _ => rfl) ?_
  refine dp_s1 hF (i := .aload_n 0) rfl (fun _ => rfl) ?_
  refine dp_s1 hF (i := .iload 4) rfl (fun _ => rfl) ?_
  refine dp_s1 hF (i := .iconst 2) rfl (fun _ => rfl) ?_
  refine dp_s1 hF (i := .iadd) rfl (fun _ => rfl) ?_
  refine dp_s3 hF (i := .iaload) rfl (fun _ => rfl) ?_
  refine dp_s2 hF (i := .ifCond .eq 7) (a := (4094, [some (.retAddr 0), some (.ref 0), some (.ref 114), some (.ref 245), some (.int v4), u5, u6, u7], [.int (xs (Int32.toNatClampNeg (v4 + (1 : Int32)))), .ref 114, .int r8], M7)) (b := (4090, [some (.retAddr 0), some (.ref 0), some (.ref 114), some (.ref 245), some (.int v4), u5, u6, u7], [.int (xs (Int32.toNatClampNeg (v4 + (1 : Int32)))), .ref 114, .int r8], M7)) rfl (fun _ => rfl) ?_ ?_
  · refine dp_s1 hF (i := .iconst 0) rfl (fun _ => rfl) ?_
    refine dp_si (mj := dp_m_X12_fails) (i := .invokevirtual 427) rfl rfl (Or.inr rfl) rfl (fun _ => rfl) (fun r10 M9 => ?_)
    refine dp_s2 hF (i := .if_icmp .eq 2034) (a := (6132, [some (.retAddr 0), some (.ref 0), some (.ref 114), some (.ref 245), some (.int v4), u5, u6, u7], [], M9)) (b := (4101, [some (.retAddr 0), some (.ref 0), some (.ref 114), some (.ref 245), some (.int v4), u5, u6, u7], [], M9)) rfl (fun _ => rfl) ?_ ?_
    · exact rfl
    refine dp_s1 hF (i := .iconst 0) rfl (fun _ => rfl) ?_
    exact dp_s0 hF (i := .ireturn) rfl (fun _ => rfl)
  refine dp_s1 hF (i := .iconst 1) rfl (fun _ => rfl) ?_
  refine dp_s1 hF (i := .goto 4) rfl (fun _ => rfl) ?_
  refine dp_si (mj := dp_m_X12_fails) (i := .invokevirtual 427) rfl rfl (Or.inr rfl) rfl (fun _ => rfl) (fun r12 M11 => ?_)
  refine dp_s2 hF (i := .if_icmp .eq 2034) (a := (6132, [some (.retAddr 0), some (.ref 0), some (.ref 114), some (.ref 245), some (.int v4), u5, u6, u7], [], M11)) (b := (4101, [some (.retAddr 0), some (.ref 0), some (.ref 114), some (.ref 245), some (.int v4), u5, u6, u7], [], M11)) rfl (fun _ => rfl) ?_ ?_
  · exact rfl
  refine dp_s1 hF (i := .iconst 0) rfl (fun _ => rfl) ?_
  exact dp_s0 hF (i := .ireturn) rfl (fun _ => rfl)
set_option maxRecDepth 20000 in
theorem D_L_law_4103_eq (xs : Nat → Int32) (xl d : Nat) (v4 : Int32) (u5 : Option Value) (u6 : Option Value) (u7 : Option Value) (M : dp_M) : D_L_law_4103 xs xl d v4 u5 u6 u7 M = if (v4 + (1 : Int32)) < 0 ∨ xl ≤ Int32.toNatClampNeg (v4 + (1 : Int32)) then none else (dp_bi (dp_den true xs xl d 326 [.ref 0, .int (xs (Int32.toNatClampNeg (v4 + (1 : Int32))))] M) (fun r2 M1 => if (v4 + (1 : Int32)) < 0 ∨ xl ≤ Int32.toNatClampNeg (v4 + (1 : Int32)) then none else (dp_bi (dp_den true xs xl d 536 [.ref 114, .int (xs (Int32.toNatClampNeg (v4 + (1 : Int32))))] M1) (fun r4 M3 => if r2 = r4 then (D_L_law_6132 xs xl d v4 u5 u6 u7 M3) else (some (.inl (some (.int (0 : Int32))), M3)))))) := by
  have hF := dp_den_grow (md := true) (xs := xs) (xl := xl) d
  unfold D_L_law_4103
  refine dp_s1 hF (i := .aload_n 1) rfl (fun _ => rfl) ?_
  refine dp_s1 hF (i := .aload_n 0) rfl (fun _ => rfl) ?_
  refine dp_s1 hF (i := .iload 4) rfl (fun _ => rfl) ?_
  refine dp_s1 hF (i := .iconst 1) rfl (fun _ => rfl) ?_
  refine dp_s1 hF (i := .iadd) rfl (fun _ => rfl) ?_
  refine dp_s3 hF (i := .iaload) rfl (fun _ => rfl) ?_
  refine dp_si (mj := dp_m_X11_tick) (i := .invokevirtual 428) rfl rfl (Or.inr rfl) rfl (fun _ => rfl) (fun r2 M1 => ?_)
  refine dp_s1 hF (i := .aload_n 2) rfl (fun _ => rfl) ?_
  refine dp_s1 hF (i := .aload_n 0) rfl (fun _ => rfl) ?_
  refine dp_s1 hF (i := .iload 4) rfl (fun _ => rfl) ?_
  refine dp_s1 hF (i := .iconst 1) rfl (fun _ => rfl) ?_
  refine dp_s1 hF (i := .iadd) rfl (fun _ => rfl) ?_
  refine dp_s3 hF (i := .iaload) rfl (fun _ => rfl) ?_
  refine dp_si (mj := dp_m_X12_tick) (i := .invokevirtual 431) rfl rfl (Or.inr rfl) rfl (fun _ => rfl) (fun r4 M3 => ?_)
  refine dp_s2 hF (i := .if_icmp .eq 2009) (a := (6132, [some (.retAddr 0), some (.ref 0), some (.ref 114), some (.ref 245), some (.int v4), u5, u6, u7], [], M3)) (b := (4126, [some (.retAddr 0), some (.ref 0), some (.ref 114), some (.ref 245), some (.int v4), u5, u6, u7], [], M3)) rfl (fun _ => rfl) ?_ ?_
  · exact rfl
  refine dp_s1 hF (i := .iconst 0) rfl (fun _ => rfl) ?_
  exact dp_s0 hF (i := .ireturn) rfl (fun _ => rfl)
set_option maxRecDepth 20000 in
theorem D_L_law_4128_eq (xs : Nat → Int32) (xl d : Nat) (v4 : Int32) (u5 : Option Value) (u6 : Option Value) (u7 : Option Value) (M : dp_M) : D_L_law_4128 xs xl d v4 u5 u6 u7 M = if (v4 + (1 : Int32)) < 0 ∨ xl ≤ Int32.toNatClampNeg (v4 + (1 : Int32)) then none else (dp_bi (dp_den true xs xl d 634 [.ref 0, .int (xs (Int32.toNatClampNeg (v4 + (1 : Int32)))), .ref 245] M) (fun r2 M1 => if (v4 + (1 : Int32)) < 0 ∨ xl ≤ Int32.toNatClampNeg (v4 + (1 : Int32)) then none else (dp_bl (dp_den true xs xl d 537 [.ref 114, .int (xs (Int32.toNatClampNeg (v4 + (1 : Int32))))] M1) (fun r4 M3 => dp_bi (dp_den true xs xl d 365 [.ref 114] M3) (fun r6 M5 => if r6 = r2 then (if r2 = 0 then (if (0 : Int32) < 0 ∨ 1 ≤ Int32.toNatClampNeg (0 : Int32) then none else (if (lg_cmp (dp_J M5 245 (Int32.toNatClampNeg (0 : Int32))) r4) = 0 then (D_L_law_6132 xs xl d v4 (some (.int r2)) (some (.long r4)) none M5) else (some (.inl (some (.int (0 : Int32))), M5)))) else (D_L_law_6132 xs xl d v4 (some (.int r2)) (some (.long r4)) none M5)) else (some (.inl (some (.int (0 : Int32))), M5))))))) := by
  have hF := dp_den_grow (md := true) (xs := xs) (xl := xl) d
  unfold D_L_law_4128
  refine dp_s1 hF (i := .aload_n 1) rfl (fun _ => rfl) ?_
  refine dp_s1 hF (i := .aload_n 0) rfl (fun _ => rfl) ?_
  refine dp_s1 hF (i := .iload 4) rfl (fun _ => rfl) ?_
  refine dp_s1 hF (i := .iconst 1) rfl (fun _ => rfl) ?_
  refine dp_s1 hF (i := .iadd) rfl (fun _ => rfl) ?_
  refine dp_s3 hF (i := .iaload) rfl (fun _ => rfl) ?_
  refine dp_s1 hF (i := .aload_n 3) rfl (fun _ => rfl) ?_
  refine dp_si (mj := dp_m_L_interest) (i := .invokestatic 432) rfl rfl (Or.inl rfl) rfl (fun _ => rfl) (fun r2 M1 => ?_)
  refine dp_s1 hF (i := .istore 5) rfl (fun _ => rfl) ?_
  refine dp_s1 hF (i := .aload_n 2) rfl (fun _ => rfl) ?_
  refine dp_s1 hF (i := .aload_n 0) rfl (fun _ => rfl) ?_
  refine dp_s1 hF (i := .iload 4) rfl (fun _ => rfl) ?_
  refine dp_s1 hF (i := .iconst 1) rfl (fun _ => rfl) ?_
  refine dp_s1 hF (i := .iadd) rfl (fun _ => rfl) ?_
  refine dp_s3 hF (i := .iaload) rfl (fun _ => rfl) ?_
  refine dp_sl9 (mj := dp_m_X12_interest) (i := .invokevirtual 434) rfl rfl rfl rfl (fun _ => rfl) (fun r4 M3 => ?_)
  refine dp_s1 hF (i := .lstore 6) rfl (fun _ => rfl) ?_
  refine dp_s1 hF (i := .aload_n 2) rfl (fun _ => rfl) ?_
  refine dp_si (mj := dp_m_X12_thrown) (i := .invokevirtual 229) rfl rfl (Or.inl rfl) rfl (fun _ => rfl) (fun r6 M5 => ?_)
  refine dp_s1 hF (i := .iload 5) rfl (fun _ => rfl) ?_
  refine dp_s2 hF (i := .if_icmp .eq 5) (a := (4164, [some (.retAddr 0), some (.ref 0), some (.ref 114), some (.ref 245), some (.int v4), some (.int r2), some (.long r4), none], [], M5)) (b := (4162, [some (.retAddr 0), some (.ref 0), some (.ref 114), some (.ref 245), some (.int v4), some (.int r2), some (.long r4), none], [], M5)) rfl (fun _ => rfl) ?_ ?_
  · refine dp_s1 hF (i := .iload 5) rfl (fun _ => rfl) ?_
    refine dp_s2 hF (i := .ifCond .ne 14) (a := (4169, [some (.retAddr 0), some (.ref 0), some (.ref 114), some (.ref 245), some (.int v4), some (.int r2), some (.long r4), none], [], M5)) (b := (4180, [some (.retAddr 0), some (.ref 0), some (.ref 114), some (.ref 245), some (.int v4), some (.int r2), some (.long r4), none], [], M5)) rfl (fun _ => rfl) ?_ ?_
    · refine dp_s1 hF (i := .aload_n 3) rfl (fun _ => rfl) ?_
      refine dp_s1 hF (i := .iconst 0) rfl (fun _ => rfl) ?_
      refine dp_s3 hF (i := .laload) rfl (fun _ => rfl) ?_
      refine dp_s1 hF (i := .lload 6) rfl (fun _ => rfl) ?_
      refine dp_s1 hF (i := .lcmp) rfl (fun _ => rfl) ?_
      refine dp_s2 hF (i := .ifCond .eq 5) (a := (4180, [some (.retAddr 0), some (.ref 0), some (.ref 114), some (.ref 245), some (.int v4), some (.int r2), some (.long r4), none], [], M5)) (b := (4178, [some (.retAddr 0), some (.ref 0), some (.ref 114), some (.ref 245), some (.int v4), some (.int r2), some (.long r4), none], [], M5)) rfl (fun _ => rfl) ?_ ?_
      · refine dp_s1 hF (i := .goto 1952) rfl (fun _ => rfl) ?_
        exact rfl
      refine dp_s1 hF (i := .iconst 0) rfl (fun _ => rfl) ?_
      exact dp_s0 hF (i := .ireturn) rfl (fun _ => rfl)
    refine dp_s1 hF (i := .goto 1952) rfl (fun _ => rfl) ?_
    exact rfl
  refine dp_s1 hF (i := .iconst 0) rfl (fun _ => rfl) ?_
  exact dp_s0 hF (i := .ireturn) rfl (fun _ => rfl)
set_option maxRecDepth 20000 in
theorem D_L_law_4183_eq (xs : Nat → Int32) (xl d : Nat) (v4 : Int32) (u5 : Option Value) (u6 : Option Value) (u7 : Option Value) (M : dp_M) : D_L_law_4183 xs xl d v4 u5 u6 u7 M = if (v4 + (1 : Int32)) < 0 ∨ xl ≤ Int32.toNatClampNeg (v4 + (1 : Int32)) then none else (dp_bl (dp_den true xs xl d 328 [.ref 0, .int (xs (Int32.toNatClampNeg (v4 + (1 : Int32))))] M) (fun r2 M1 => if (v4 + (1 : Int32)) < 0 ∨ xl ≤ Int32.toNatClampNeg (v4 + (1 : Int32)) then none else (dp_bl (dp_den true xs xl d 526 [.ref 114, .int (xs (Int32.toNatClampNeg (v4 + (1 : Int32))))] M1) (fun r4 M3 => if (lg_cmp r2 r4) = 0 then (D_L_law_6132 xs xl d v4 u5 u6 u7 M3) else (some (.inl (some (.int (0 : Int32))), M3)))))) := by
  have hF := dp_den_grow (md := true) (xs := xs) (xl := xl) d
  unfold D_L_law_4183
  refine dp_s1 hF (i := .aload_n 1) rfl (fun _ => rfl) ?_
  refine dp_s1 hF (i := .aload_n 0) rfl (fun _ => rfl) ?_
  refine dp_s1 hF (i := .iload 4) rfl (fun _ => rfl) ?_
  refine dp_s1 hF (i := .iconst 1) rfl (fun _ => rfl) ?_
  refine dp_s1 hF (i := .iadd) rfl (fun _ => rfl) ?_
  refine dp_s3 hF (i := .iaload) rfl (fun _ => rfl) ?_
  refine dp_sl9 (mj := dp_m_X11_free) (i := .invokevirtual 435) rfl rfl rfl rfl (fun _ => rfl) (fun r2 M1 => ?_)
  refine dp_s1 hF (i := .aload_n 2) rfl (fun _ => rfl) ?_
  refine dp_s1 hF (i := .aload_n 0) rfl (fun _ => rfl) ?_
  refine dp_s1 hF (i := .iload 4) rfl (fun _ => rfl) ?_
  refine dp_s1 hF (i := .iconst 1) rfl (fun _ => rfl) ?_
  refine dp_s1 hF (i := .iadd) rfl (fun _ => rfl) ?_
  refine dp_s3 hF (i := .iaload) rfl (fun _ => rfl) ?_
  refine dp_sl9 (mj := dp_m_X12_free) (i := .invokevirtual 438) rfl rfl rfl rfl (fun _ => rfl) (fun r4 M3 => ?_)
  refine dp_s1 hF (i := .lcmp) rfl (fun _ => rfl) ?_
  refine dp_s2 hF (i := .ifCond .eq 1928) (a := (6132, [some (.retAddr 0), some (.ref 0), some (.ref 114), some (.ref 245), some (.int v4), u5, u6, u7], [], M3)) (b := (4207, [some (.retAddr 0), some (.ref 0), some (.ref 114), some (.ref 245), some (.int v4), u5, u6, u7], [], M3)) rfl (fun _ => rfl) ?_ ?_
  · exact rfl
  refine dp_s1 hF (i := .iconst 0) rfl (fun _ => rfl) ?_
  exact dp_s0 hF (i := .ireturn) rfl (fun _ => rfl)
set_option maxRecDepth 20000 in
theorem D_L_law_4209_eq (xs : Nat → Int32) (xl d : Nat) (v4 : Int32) (u5 : Option Value) (u6 : Option Value) (u7 : Option Value) (M : dp_M) : D_L_law_4209 xs xl d v4 u5 u6 u7 M = if (v4 + (1 : Int32)) < 0 ∨ xl ≤ Int32.toNatClampNeg (v4 + (1 : Int32)) then none else (if (v4 + (2 : Int32)) < 0 ∨ xl ≤ Int32.toNatClampNeg (v4 + (2 : Int32)) then none else (dp_bi (dp_den true xs xl d 329 [.ref 0, .int (xs (Int32.toNatClampNeg (v4 + (1 : Int32)))), .int (xs (Int32.toNatClampNeg (v4 + (2 : Int32))))] M) (fun r2 M1 => if (v4 + (1 : Int32)) < 0 ∨ xl ≤ Int32.toNatClampNeg (v4 + (1 : Int32)) then none else (if (v4 + (2 : Int32)) < 0 ∨ xl ≤ Int32.toNatClampNeg (v4 + (2 : Int32)) then none else (dp_bi (dp_den true xs xl d 518 [.ref 114, .int (xs (Int32.toNatClampNeg (v4 + (1 : Int32)))), .int (xs (Int32.toNatClampNeg (v4 + (2 : Int32))))] M1) (fun r4 M3 => if r2 = r4 then (D_L_law_6132 xs xl d v4 u5 u6 u7 M3) else (some (.inl (some (.int (0 : Int32))), M3)))))))) := by
  have hF := dp_den_grow (md := true) (xs := xs) (xl := xl) d
  unfold D_L_law_4209
  refine dp_s1 hF (i := .aload_n 1) rfl (fun _ => rfl) ?_
  refine dp_s1 hF (i := .aload_n 0) rfl (fun _ => rfl) ?_
  refine dp_s1 hF (i := .iload 4) rfl (fun _ => rfl) ?_
  refine dp_s1 hF (i := .iconst 1) rfl (fun _ => rfl) ?_
  refine dp_s1 hF (i := .iadd) rfl (fun _ => rfl) ?_
  refine dp_s3 hF (i := .iaload) rfl (fun _ => rfl) ?_
  refine dp_s1 hF (i := .aload_n 0) rfl (fun _ => rfl) ?_
  refine dp_s1 hF (i := .iload 4) rfl (fun _ => rfl) ?_
  refine dp_s1 hF (i := .iconst 2) rfl (fun _ => rfl) ?_
  refine dp_s1 hF (i := .iadd) rfl (fun _ => rfl) ?_
  refine dp_s3 hF (i := .iaload) rfl (fun _ => rfl) ?_
  refine dp_si (mj := dp_m_X11_list) (i := .invokevirtual 439) rfl rfl (Or.inl rfl) rfl (fun _ => rfl) (fun r2 M1 => ?_)
  refine dp_s1 hF (i := .aload_n 2) rfl (fun _ => rfl) ?_
  refine dp_s1 hF (i := .aload_n 0) rfl (fun _ => rfl) ?_
  refine dp_s1 hF (i := .iload 4) rfl (fun _ => rfl) ?_
  refine dp_s1 hF (i := .iconst 1) rfl (fun _ => rfl) ?_
  refine dp_s1 hF (i := .iadd) rfl (fun _ => rfl) ?_
  refine dp_s3 hF (i := .iaload) rfl (fun _ => rfl) ?_
  refine dp_s1 hF (i := .aload_n 0) rfl (fun _ => rfl) ?_
  refine dp_s1 hF (i := .iload 4) rfl (fun _ => rfl) ?_
  refine dp_s1 hF (i := .iconst 2) rfl (fun _ => rfl) ?_
  refine dp_s1 hF (i := .iadd) rfl (fun _ => rfl) ?_
  refine dp_s3 hF (i := .iaload) rfl (fun _ => rfl) ?_
  refine dp_si (mj := dp_m_X12_list) (i := .invokevirtual 442) rfl rfl (Or.inl rfl) rfl (fun _ => rfl) (fun r4 M3 => ?_)
  refine dp_s2 hF (i := .if_icmp .eq 1891) (a := (6132, [some (.retAddr 0), some (.ref 0), some (.ref 114), some (.ref 245), some (.int v4), u5, u6, u7], [], M3)) (b := (4244, [some (.retAddr 0), some (.ref 0), some (.ref 114), some (.ref 245), some (.int v4), u5, u6, u7], [], M3)) rfl (fun _ => rfl) ?_ ?_
  · exact rfl
  refine dp_s1 hF (i := .iconst 0) rfl (fun _ => rfl) ?_
  exact dp_s0 hF (i := .ireturn) rfl (fun _ => rfl)
set_option maxRecDepth 20000 in
theorem D_L_law_4246_eq (xs : Nat → Int32) (xl d : Nat) (v4 : Int32) (u5 : Option Value) (u6 : Option Value) (u7 : Option Value) (M : dp_M) : D_L_law_4246 xs xl d v4 u5 u6 u7 M = if (v4 + (1 : Int32)) < 0 ∨ xl ≤ Int32.toNatClampNeg (v4 + (1 : Int32)) then none else (if (v4 + (2 : Int32)) < 0 ∨ xl ≤ Int32.toNatClampNeg (v4 + (2 : Int32)) then none else (dp_bi (dp_den true xs xl d 635 [.ref 0, .int (xs (Int32.toNatClampNeg (v4 + (1 : Int32)))), .int (xs (Int32.toNatClampNeg (v4 + (2 : Int32)))), .ref 245] M) (fun r2 M1 => if (v4 + (1 : Int32)) < 0 ∨ xl ≤ Int32.toNatClampNeg (v4 + (1 : Int32)) then none else (if (v4 + (2 : Int32)) < 0 ∨ xl ≤ Int32.toNatClampNeg (v4 + (2 : Int32)) then none else (dp_bl (dp_den true xs xl d 538 [.ref 114, .int (xs (Int32.toNatClampNeg (v4 + (1 : Int32)))), .int (xs (Int32.toNatClampNeg (v4 + (2 : Int32))))] M1) (fun r4 M3 => dp_bi (dp_den true xs xl d 365 [.ref 114] M3) (fun r6 M5 => if r6 = r2 then (if r2 = 0 then (if (0 : Int32) < 0 ∨ 1 ≤ Int32.toNatClampNeg (0 : Int32) then none else (if (lg_cmp (dp_J M5 245 (Int32.toNatClampNeg (0 : Int32))) r4) = 0 then (D_L_law_6132 xs xl d v4 (some (.int r2)) (some (.long r4)) none M5) else (some (.inl (some (.int (0 : Int32))), M5)))) else (D_L_law_6132 xs xl d v4 (some (.int r2)) (some (.long r4)) none M5)) else (some (.inl (some (.int (0 : Int32))), M5))))))))) := by
  have hF := dp_den_grow (md := true) (xs := xs) (xl := xl) d
  unfold D_L_law_4246
  refine dp_s1 hF (i := .aload_n 1) rfl (fun _ => rfl) ?_
  refine dp_s1 hF (i := .aload_n 0) rfl (fun _ => rfl) ?_
  refine dp_s1 hF (i := .iload 4) rfl (fun _ => rfl) ?_
  refine dp_s1 hF (i := .iconst 1) rfl (fun _ => rfl) ?_
  refine dp_s1 hF (i := .iadd) rfl (fun _ => rfl) ?_
  refine dp_s3 hF (i := .iaload) rfl (fun _ => rfl) ?_
  refine dp_s1 hF (i := .aload_n 0) rfl (fun _ => rfl) ?_
  refine dp_s1 hF (i := .iload 4) rfl (fun _ => rfl) ?_
  refine dp_s1 hF (i := .iconst 2) rfl (fun _ => rfl) ?_
  refine dp_s1 hF (i := .iadd) rfl (fun _ => rfl) ?_
  refine dp_s3 hF (i := .iaload) rfl (fun _ => rfl) ?_
  refine dp_s1 hF (i := .aload_n 3) rfl (fun _ => rfl) ?_
  refine dp_si (mj := dp_m_L_security) (i := .invokestatic 443) rfl rfl (Or.inl rfl) rfl (fun _ => rfl) (fun r2 M1 => ?_)
  refine dp_s1 hF (i := .istore 5) rfl (fun _ => rfl) ?_
  refine dp_s1 hF (i := .aload_n 2) rfl (fun _ => rfl) ?_
  refine dp_s1 hF (i := .aload_n 0) rfl (fun _ => rfl) ?_
  refine dp_s1 hF (i := .iload 4) rfl (fun _ => rfl) ?_
  refine dp_s1 hF (i := .iconst 1) rfl (fun _ => rfl) ?_
  refine dp_s1 hF (i := .iadd) rfl (fun _ => rfl) ?_
  refine dp_s3 hF (i := .iaload) rfl (fun _ => rfl) ?_
  refine dp_s1 hF (i := .aload_n 0) rfl (fun _ => rfl) ?_
  refine dp_s1 hF (i := .iload 4) rfl (fun _ => rfl) ?_
  refine dp_s1 hF (i := .iconst 2) rfl (fun _ => rfl) ?_
  refine dp_s1 hF (i := .iadd) rfl (fun _ => rfl) ?_
  refine dp_s3 hF (i := .iaload) rfl (fun _ => rfl) ?_
  refine dp_sl9 (mj := dp_m_X12_security) (i := .invokevirtual 445) rfl rfl rfl rfl (fun _ => rfl) (fun r4 M3 => ?_)
  refine dp_s1 hF (i := .lstore 6) rfl (fun _ => rfl) ?_
  refine dp_s1 hF (i := .aload_n 2) rfl (fun _ => rfl) ?_
  refine dp_si (mj := dp_m_X12_thrown) (i := .invokevirtual 229) rfl rfl (Or.inl rfl) rfl (fun _ => rfl) (fun r6 M5 => ?_)
  refine dp_s1 hF (i := .iload 5) rfl (fun _ => rfl) ?_
  refine dp_s2 hF (i := .if_icmp .eq 5) (a := (4294, [some (.retAddr 0), some (.ref 0), some (.ref 114), some (.ref 245), some (.int v4), some (.int r2), some (.long r4), none], [], M5)) (b := (4292, [some (.retAddr 0), some (.ref 0), some (.ref 114), some (.ref 245), some (.int v4), some (.int r2), some (.long r4), none], [], M5)) rfl (fun _ => rfl) ?_ ?_
  · refine dp_s1 hF (i := .iload 5) rfl (fun _ => rfl) ?_
    refine dp_s2 hF (i := .ifCond .ne 14) (a := (4299, [some (.retAddr 0), some (.ref 0), some (.ref 114), some (.ref 245), some (.int v4), some (.int r2), some (.long r4), none], [], M5)) (b := (4310, [some (.retAddr 0), some (.ref 0), some (.ref 114), some (.ref 245), some (.int v4), some (.int r2), some (.long r4), none], [], M5)) rfl (fun _ => rfl) ?_ ?_
    · refine dp_s1 hF (i := .aload_n 3) rfl (fun _ => rfl) ?_
      refine dp_s1 hF (i := .iconst 0) rfl (fun _ => rfl) ?_
      refine dp_s3 hF (i := .laload) rfl (fun _ => rfl) ?_
      refine dp_s1 hF (i := .lload 6) rfl (fun _ => rfl) ?_
      refine dp_s1 hF (i := .lcmp) rfl (fun _ => rfl) ?_
      refine dp_s2 hF (i := .ifCond .eq 5) (a := (4310, [some (.retAddr 0), some (.ref 0), some (.ref 114), some (.ref 245), some (.int v4), some (.int r2), some (.long r4), none], [], M5)) (b := (4308, [some (.retAddr 0), some (.ref 0), some (.ref 114), some (.ref 245), some (.int v4), some (.int r2), some (.long r4), none], [], M5)) rfl (fun _ => rfl) ?_ ?_
      · refine dp_s1 hF (i := .goto 1822) rfl (fun _ => rfl) ?_
        exact rfl
      refine dp_s1 hF (i := .iconst 0) rfl (fun _ => rfl) ?_
      exact dp_s0 hF (i := .ireturn) rfl (fun _ => rfl)
    refine dp_s1 hF (i := .goto 1822) rfl (fun _ => rfl) ?_
    exact rfl
  refine dp_s1 hF (i := .iconst 0) rfl (fun _ => rfl) ?_
  exact dp_s0 hF (i := .ireturn) rfl (fun _ => rfl)
set_option maxRecDepth 20000 in
theorem D_L_law_4313_eq (xs : Nat → Int32) (xl d : Nat) (v4 : Int32) (u5 : Option Value) (u6 : Option Value) (u7 : Option Value) (M : dp_M) : D_L_law_4313 xs xl d v4 u5 u6 u7 M = if (v4 + (1 : Int32)) < 0 ∨ xl ≤ Int32.toNatClampNeg (v4 + (1 : Int32)) then none else (if (v4 + (2 : Int32)) < 0 ∨ xl ≤ Int32.toNatClampNeg (v4 + (2 : Int32)) then none else (dp_bi (dp_den true xs xl d 636 [.ref 0, .int (xs (Int32.toNatClampNeg (v4 + (1 : Int32)))), .int (xs (Int32.toNatClampNeg (v4 + (2 : Int32)))), .ref 245] M) (fun r2 M1 => if (v4 + (1 : Int32)) < 0 ∨ xl ≤ Int32.toNatClampNeg (v4 + (1 : Int32)) then none else (if (v4 + (2 : Int32)) < 0 ∨ xl ≤ Int32.toNatClampNeg (v4 + (2 : Int32)) then none else (dp_bl (dp_den true xs xl d 539 [.ref 114, .int (xs (Int32.toNatClampNeg (v4 + (1 : Int32)))), .int (xs (Int32.toNatClampNeg (v4 + (2 : Int32))))] M1) (fun r4 M3 => dp_bi (dp_den true xs xl d 365 [.ref 114] M3) (fun r6 M5 => if r6 = r2 then (if r2 = 0 then (if (0 : Int32) < 0 ∨ 1 ≤ Int32.toNatClampNeg (0 : Int32) then none else (if (lg_cmp (dp_J M5 245 (Int32.toNatClampNeg (0 : Int32))) r4) = 0 then (D_L_law_6132 xs xl d v4 (some (.int r2)) (some (.long r4)) none M5) else (some (.inl (some (.int (0 : Int32))), M5)))) else (D_L_law_6132 xs xl d v4 (some (.int r2)) (some (.long r4)) none M5)) else (some (.inl (some (.int (0 : Int32))), M5))))))))) := by
  have hF := dp_den_grow (md := true) (xs := xs) (xl := xl) d
  unfold D_L_law_4313
  refine dp_s1 hF (i := .aload_n 1) rfl (fun _ => rfl) ?_
  refine dp_s1 hF (i := .aload_n 0) rfl (fun _ => rfl) ?_
  refine dp_s1 hF (i := .iload 4) rfl (fun _ => rfl) ?_
  refine dp_s1 hF (i := .iconst 1) rfl (fun _ => rfl) ?_
  refine dp_s1 hF (i := .iadd) rfl (fun _ => rfl) ?_
  refine dp_s3 hF (i := .iaload) rfl (fun _ => rfl) ?_
  refine dp_s1 hF (i := .aload_n 0) rfl (fun _ => rfl) ?_
  refine dp_s1 hF (i := .iload 4) rfl (fun _ => rfl) ?_
  refine dp_s1 hF (i := .iconst 2) rfl (fun _ => rfl) ?_
  refine dp_s1 hF (i := .iadd) rfl (fun _ => rfl) ?_
  refine dp_s3 hF (i := .iaload) rfl (fun _ => rfl) ?_
  refine dp_s1 hF (i := .aload_n 3) rfl (fun _ => rfl) ?_
  refine dp_si (mj := dp_m_L_reservation) (i := .invokestatic 446) rfl rfl (Or.inl rfl) rfl (fun _ => rfl) (fun r2 M1 => ?_)
  refine dp_s1 hF (i := .istore 5) rfl (fun _ => rfl) ?_
  refine dp_s1 hF (i := .aload_n 2) rfl (fun _ => rfl) ?_
  refine dp_s1 hF (i := .aload_n 0) rfl (fun _ => rfl) ?_
  refine dp_s1 hF (i := .iload 4) rfl (fun _ => rfl) ?_
  refine dp_s1 hF (i := .iconst 1) rfl (fun _ => rfl) ?_
  refine dp_s1 hF (i := .iadd) rfl (fun _ => rfl) ?_
  refine dp_s3 hF (i := .iaload) rfl (fun _ => rfl) ?_
  refine dp_s1 hF (i := .aload_n 0) rfl (fun _ => rfl) ?_
  refine dp_s1 hF (i := .iload 4) rfl (fun _ => rfl) ?_
  refine dp_s1 hF (i := .iconst 2) rfl (fun _ => rfl) ?_
  refine dp_s1 hF (i := .iadd) rfl (fun _ => rfl) ?_
  refine dp_s3 hF (i := .iaload) rfl (fun _ => rfl) ?_
  refine dp_sl9 (mj := dp_m_X12_reservation) (i := .invokevirtual 448) rfl rfl rfl rfl (fun _ => rfl) (fun r4 M3 => ?_)
  refine dp_s1 hF (i := .lstore 6) rfl (fun _ => rfl) ?_
  refine dp_s1 hF (i := .aload_n 2) rfl (fun _ => rfl) ?_
  refine dp_si (mj := dp_m_X12_thrown) (i := .invokevirtual 229) rfl rfl (Or.inl rfl) rfl (fun _ => rfl) (fun r6 M5 => ?_)
  refine dp_s1 hF (i := .iload 5) rfl (fun _ => rfl) ?_
  refine dp_s2 hF (i := .if_icmp .eq 5) (a := (4361, [some (.retAddr 0), some (.ref 0), some (.ref 114), some (.ref 245), some (.int v4), some (.int r2), some (.long r4), none], [], M5)) (b := (4359, [some (.retAddr 0), some (.ref 0), some (.ref 114), some (.ref 245), some (.int v4), some (.int r2), some (.long r4), none], [], M5)) rfl (fun _ => rfl) ?_ ?_
  · refine dp_s1 hF (i := .iload 5) rfl (fun _ => rfl) ?_
    refine dp_s2 hF (i := .ifCond .ne 14) (a := (4366, [some (.retAddr 0), some (.ref 0), some (.ref 114), some (.ref 245), some (.int v4), some (.int r2), some (.long r4), none], [], M5)) (b := (4377, [some (.retAddr 0), some (.ref 0), some (.ref 114), some (.ref 245), some (.int v4), some (.int r2), some (.long r4), none], [], M5)) rfl (fun _ => rfl) ?_ ?_
    · refine dp_s1 hF (i := .aload_n 3) rfl (fun _ => rfl) ?_
      refine dp_s1 hF (i := .iconst 0) rfl (fun _ => rfl) ?_
      refine dp_s3 hF (i := .laload) rfl (fun _ => rfl) ?_
      refine dp_s1 hF (i := .lload 6) rfl (fun _ => rfl) ?_
      refine dp_s1 hF (i := .lcmp) rfl (fun _ => rfl) ?_
      refine dp_s2 hF (i := .ifCond .eq 5) (a := (4377, [some (.retAddr 0), some (.ref 0), some (.ref 114), some (.ref 245), some (.int v4), some (.int r2), some (.long r4), none], [], M5)) (b := (4375, [some (.retAddr 0), some (.ref 0), some (.ref 114), some (.ref 245), some (.int v4), some (.int r2), some (.long r4), none], [], M5)) rfl (fun _ => rfl) ?_ ?_
      · refine dp_s1 hF (i := .goto 1755) rfl (fun _ => rfl) ?_
        exact rfl
      refine dp_s1 hF (i := .iconst 0) rfl (fun _ => rfl) ?_
      exact dp_s0 hF (i := .ireturn) rfl (fun _ => rfl)
    refine dp_s1 hF (i := .goto 1755) rfl (fun _ => rfl) ?_
    exact rfl
  refine dp_s1 hF (i := .iconst 0) rfl (fun _ => rfl) ?_
  exact dp_s0 hF (i := .ireturn) rfl (fun _ => rfl)
set_option maxRecDepth 20000 in
theorem D_L_law_4380_eq (xs : Nat → Int32) (xl d : Nat) (v4 : Int32) (u5 : Option Value) (u6 : Option Value) (u7 : Option Value) (M : dp_M) : D_L_law_4380 xs xl d v4 u5 u6 u7 M = if (v4 + (1 : Int32)) < 0 ∨ xl ≤ Int32.toNatClampNeg (v4 + (1 : Int32)) then none else (if (v4 + (2 : Int32)) < 0 ∨ xl ≤ Int32.toNatClampNeg (v4 + (2 : Int32)) then none else (dp_bi (dp_den true xs xl d 637 [.ref 0, .int (xs (Int32.toNatClampNeg (v4 + (1 : Int32)))), .int (xs (Int32.toNatClampNeg (v4 + (2 : Int32)))), .ref 245] M) (fun r2 M1 => if (v4 + (1 : Int32)) < 0 ∨ xl ≤ Int32.toNatClampNeg (v4 + (1 : Int32)) then none else (if (v4 + (2 : Int32)) < 0 ∨ xl ≤ Int32.toNatClampNeg (v4 + (2 : Int32)) then none else (dp_bi (dp_den true xs xl d 546 [.ref 114, .int (xs (Int32.toNatClampNeg (v4 + (1 : Int32)))), .int (xs (Int32.toNatClampNeg (v4 + (2 : Int32))))] M1) (fun r4 M3 => dp_bi (dp_den true xs xl d 365 [.ref 114] M3) (fun r6 M5 => if r6 = r2 then (if r2 = 0 then (if (0 : Int32) < 0 ∨ 1 ≤ Int32.toNatClampNeg (0 : Int32) then none else (if (lg_cmp (dp_J M5 245 (Int32.toNatClampNeg (0 : Int32))) (Int32.toInt64 r4)) = 0 then (D_L_law_6132 xs xl d v4 (some (.int r2)) (some (.int r4)) u7 M5) else (some (.inl (some (.int (0 : Int32))), M5)))) else (D_L_law_6132 xs xl d v4 (some (.int r2)) (some (.int r4)) u7 M5)) else (some (.inl (some (.int (0 : Int32))), M5))))))))) := by
  have hF := dp_den_grow (md := true) (xs := xs) (xl := xl) d
  unfold D_L_law_4380
  refine dp_s1 hF (i := .aload_n 1) rfl (fun _ => rfl) ?_
  refine dp_s1 hF (i := .aload_n 0) rfl (fun _ => rfl) ?_
  refine dp_s1 hF (i := .iload 4) rfl (fun _ => rfl) ?_
  refine dp_s1 hF (i := .iconst 1) rfl (fun _ => rfl) ?_
  refine dp_s1 hF (i := .iadd) rfl (fun _ => rfl) ?_
  refine dp_s3 hF (i := .iaload) rfl (fun _ => rfl) ?_
  refine dp_s1 hF (i := .aload_n 0) rfl (fun _ => rfl) ?_
  refine dp_s1 hF (i := .iload 4) rfl (fun _ => rfl) ?_
  refine dp_s1 hF (i := .iconst 2) rfl (fun _ => rfl) ?_
  refine dp_s1 hF (i := .iadd) rfl (fun _ => rfl) ?_
  refine dp_s3 hF (i := .iaload) rfl (fun _ => rfl) ?_
  refine dp_s1 hF (i := .aload_n 3) rfl (fun _ => rfl) ?_
  refine dp_si (mj := dp_m_L_batch) (i := .invokestatic 449) rfl rfl (Or.inl rfl) rfl (fun _ => rfl) (fun r2 M1 => ?_)
  refine dp_s1 hF (i := .istore 5) rfl (fun _ => rfl) ?_
  refine dp_s1 hF (i := .aload_n 2) rfl (fun _ => rfl) ?_
  refine dp_s1 hF (i := .aload_n 0) rfl (fun _ => rfl) ?_
  refine dp_s1 hF (i := .iload 4) rfl (fun _ => rfl) ?_
  refine dp_s1 hF (i := .iconst 1) rfl (fun _ => rfl) ?_
  refine dp_s1 hF (i := .iadd) rfl (fun _ => rfl) ?_
  refine dp_s3 hF (i := .iaload) rfl (fun _ => rfl) ?_
  refine dp_s1 hF (i := .aload_n 0) rfl (fun _ => rfl) ?_
  refine dp_s1 hF (i := .iload 4) rfl (fun _ => rfl) ?_
  refine dp_s1 hF (i := .iconst 2) rfl (fun _ => rfl) ?_
  refine dp_s1 hF (i := .iadd) rfl (fun _ => rfl) ?_
  refine dp_s3 hF (i := .iaload) rfl (fun _ => rfl) ?_
  refine dp_si (mj := dp_m_X12_batch) (i := .invokevirtual 451) rfl rfl (Or.inl rfl) rfl (fun _ => rfl) (fun r4 M3 => ?_)
  refine dp_s1 hF (i := .istore 6) rfl (fun _ => rfl) ?_
  refine dp_s1 hF (i := .aload_n 2) rfl (fun _ => rfl) ?_
  refine dp_si (mj := dp_m_X12_thrown) (i := .invokevirtual 229) rfl rfl (Or.inl rfl) rfl (fun _ => rfl) (fun r6 M5 => ?_)
  refine dp_s1 hF (i := .iload 5) rfl (fun _ => rfl) ?_
  refine dp_s2 hF (i := .if_icmp .eq 5) (a := (4428, [some (.retAddr 0), some (.ref 0), some (.ref 114), some (.ref 245), some (.int v4), some (.int r2), some (.int r4), u7], [], M5)) (b := (4426, [some (.retAddr 0), some (.ref 0), some (.ref 114), some (.ref 245), some (.int v4), some (.int r2), some (.int r4), u7], [], M5)) rfl (fun _ => rfl) ?_ ?_
  · refine dp_s1 hF (i := .iload 5) rfl (fun _ => rfl) ?_
    refine dp_s2 hF (i := .ifCond .ne 15) (a := (4433, [some (.retAddr 0), some (.ref 0), some (.ref 114), some (.ref 245), some (.int v4), some (.int r2), some (.int r4), u7], [], M5)) (b := (4445, [some (.retAddr 0), some (.ref 0), some (.ref 114), some (.ref 245), some (.int v4), some (.int r2), some (.int r4), u7], [], M5)) rfl (fun _ => rfl) ?_ ?_
    · refine dp_s1 hF (i := .aload_n 3) rfl (fun _ => rfl) ?_
      refine dp_s1 hF (i := .iconst 0) rfl (fun _ => rfl) ?_
      refine dp_s3 hF (i := .laload) rfl (fun _ => rfl) ?_
      refine dp_s1 hF (i := .iload 6) rfl (fun _ => rfl) ?_
      refine dp_s1 hF (i := .i2l) rfl (fun _ => rfl) ?_
      refine dp_s1 hF (i := .lcmp) rfl (fun _ => rfl) ?_
      refine dp_s2 hF (i := .ifCond .eq 5) (a := (4445, [some (.retAddr 0), some (.ref 0), some (.ref 114), some (.ref 245), some (.int v4), some (.int r2), some (.int r4), u7], [], M5)) (b := (4443, [some (.retAddr 0), some (.ref 0), some (.ref 114), some (.ref 245), some (.int v4), some (.int r2), some (.int r4), u7], [], M5)) rfl (fun _ => rfl) ?_ ?_
      · refine dp_s1 hF (i := .goto 1687) rfl (fun _ => rfl) ?_
        exact rfl
      refine dp_s1 hF (i := .iconst 0) rfl (fun _ => rfl) ?_
      exact dp_s0 hF (i := .ireturn) rfl (fun _ => rfl)
    refine dp_s1 hF (i := .goto 1687) rfl (fun _ => rfl) ?_
    exact rfl
  refine dp_s1 hF (i := .iconst 0) rfl (fun _ => rfl) ?_
  exact dp_s0 hF (i := .ireturn) rfl (fun _ => rfl)
set_option maxRecDepth 20000 in
theorem D_L_law_4448_eq (xs : Nat → Int32) (xl d : Nat) (v4 : Int32) (u5 : Option Value) (u6 : Option Value) (u7 : Option Value) (M : dp_M) : D_L_law_4448 xs xl d v4 u5 u6 u7 M = if (v4 + (1 : Int32)) < 0 ∨ xl ≤ Int32.toNatClampNeg (v4 + (1 : Int32)) then none else (if (v4 + (2 : Int32)) < 0 ∨ xl ≤ Int32.toNatClampNeg (v4 + (2 : Int32)) then none else (if (v4 + (3 : Int32)) < 0 ∨ xl ≤ Int32.toNatClampNeg (v4 + (3 : Int32)) then none else (if (v4 + (4 : Int32)) < 0 ∨ xl ≤ Int32.toNatClampNeg (v4 + (4 : Int32)) then none else (dp_bi (dp_den true xs xl d 335 [.ref 0, .int (xs (Int32.toNatClampNeg (v4 + (1 : Int32)))), .int (xs (Int32.toNatClampNeg (v4 + (2 : Int32)))), .long (((Int32.toInt64 (xs (Int32.toNatClampNeg (v4 + (3 : Int32))))) <<< (Int32.toInt64 (32 : Int32) &&& 63)) ||| ((Int32.toInt64 (xs (Int32.toNatClampNeg (v4 + (4 : Int32))))) &&& (4294967295 : Int64)))] M) (fun r2 M1 => if (v4 + (1 : Int32)) < 0 ∨ xl ≤ Int32.toNatClampNeg (v4 + (1 : Int32)) then none else (if (v4 + (2 : Int32)) < 0 ∨ xl ≤ Int32.toNatClampNeg (v4 + (2 : Int32)) then none else (if (v4 + (3 : Int32)) < 0 ∨ xl ≤ Int32.toNatClampNeg (v4 + (3 : Int32)) then none else (if (v4 + (4 : Int32)) < 0 ∨ xl ≤ Int32.toNatClampNeg (v4 + (4 : Int32)) then none else (dp_bi (dp_den true xs xl d 547 [.ref 114, .int (xs (Int32.toNatClampNeg (v4 + (1 : Int32)))), .int (xs (Int32.toNatClampNeg (v4 + (2 : Int32)))), .long (((Int32.toInt64 (xs (Int32.toNatClampNeg (v4 + (3 : Int32))))) <<< (Int32.toInt64 (32 : Int32) &&& 63)) ||| ((Int32.toInt64 (xs (Int32.toNatClampNeg (v4 + (4 : Int32))))) &&& (4294967295 : Int64)))] M1) (fun r4 M3 => if r2 = r4 then (D_L_law_6132 xs xl d v4 u5 u6 u7 M3) else (some (.inl (some (.int (0 : Int32))), M3)))))))))))) := by
  have hF := dp_den_grow (md := true) (xs := xs) (xl := xl) d
  unfold D_L_law_4448
  refine dp_s1 hF (i := .aload_n 1) rfl (fun _ => rfl) ?_
  refine dp_s1 hF (i := .aload_n 0) rfl (fun _ => rfl) ?_
  refine dp_s1 hF (i := .iload 4) rfl (fun _ => rfl) ?_
  refine dp_s1 hF (i := .iconst 1) rfl (fun _ => rfl) ?_
  refine dp_s1 hF (i := .iadd) rfl (fun _ => rfl) ?_
  refine dp_s3 hF (i := .iaload) rfl (fun _ => rfl) ?_
  refine dp_s1 hF (i := .aload_n 0) rfl (fun _ => rfl) ?_
  refine dp_s1 hF (i := .iload 4) rfl (fun _ => rfl) ?_
  refine dp_s1 hF (i := .iconst 2) rfl (fun _ => rfl) ?_
  refine dp_s1 hF (i := .iadd) rfl (fun _ => rfl) ?_
  refine dp_s3 hF (i := .iaload) rfl (fun _ => rfl) ?_
  refine dp_s1 hF (i := .aload_n 0) rfl (fun _ => rfl) ?_
  refine dp_s1 hF (i := .iload 4) rfl (fun _ => rfl) ?_
  refine dp_s1 hF (i := .iconst 3) rfl (fun _ => rfl) ?_
  refine dp_s1 hF (i := .iadd) rfl (fun _ => rfl) ?_
  refine dp_s3 hF (i := .iaload) rfl (fun _ => rfl) ?_
  refine dp_s1 hF (i := .i2l) rfl (fun _ => rfl) ?_
  refine dp_s1 hF (i := .bipush 32) rfl (fun _ => rfl) ?_
  refine dp_s1 hF (i := .lshl) rfl (fun _ => rfl) ?_
  refine dp_s1 hF (i := .aload_n 0) rfl (fun _ => rfl) ?_
  refine dp_s1 hF (i := .iload 4) rfl (fun _ => rfl) ?_
  refine dp_s1 hF (i := .iconst 4) rfl (fun _ => rfl) ?_
  refine dp_s1 hF (i := .iadd) rfl (fun _ => rfl) ?_
  refine dp_s3 hF (i := .iaload) rfl (fun _ => rfl) ?_
  refine dp_s1 hF (i := .i2l) rfl (fun _ => rfl) ?_
  refine dp_s1 hF (i := .ldc2_w 366) rfl (fun _ => rfl) ?_
  refine dp_s1 hF (i := .land) rfl (fun _ => rfl) ?_
  refine dp_s1 hF (i := .lor) rfl (fun _ => rfl) ?_
  refine dp_si (mj := dp_m_X11_entry) (i := .invokevirtual 452) rfl rfl (Or.inr rfl) rfl (fun _ => rfl) (fun r2 M1 => ?_)
  refine dp_s1 hF (i := .aload_n 2) rfl (fun _ => rfl) ?_
  refine dp_s1 hF (i := .aload_n 0) rfl (fun _ => rfl) ?_
  refine dp_s1 hF (i := .iload 4) rfl (fun _ => rfl) ?_
  refine dp_s1 hF (i := .iconst 1) rfl (fun _ => rfl) ?_
  refine dp_s1 hF (i := .iadd) rfl (fun _ => rfl) ?_
  refine dp_s3 hF (i := .iaload) rfl (fun _ => rfl) ?_
  refine dp_s1 hF (i := .aload_n 0) rfl (fun _ => rfl) ?_
  refine dp_s1 hF (i := .iload 4) rfl (fun _ => rfl) ?_
  refine dp_s1 hF (i := .iconst 2) rfl (fun _ => rfl) ?_
  refine dp_s1 hF (i := .iadd) rfl (fun _ => rfl) ?_
  refine dp_s3 hF (i := .iaload) rfl (fun _ => rfl) ?_
  refine dp_s1 hF (i := .aload_n 0) rfl (fun _ => rfl) ?_
  refine dp_s1 hF (i := .iload 4) rfl (fun _ => rfl) ?_
  refine dp_s1 hF (i := .iconst 3) rfl (fun _ => rfl) ?_
  refine dp_s1 hF (i := .iadd) rfl (fun _ => rfl) ?_
  refine dp_s3 hF (i := .iaload) rfl (fun _ => rfl) ?_
  refine dp_s1 hF (i := .i2l) rfl (fun _ => rfl) ?_
  refine dp_s1 hF (i := .bipush 32) rfl (fun _ => rfl) ?_
  refine dp_s1 hF (i := .lshl) rfl (fun _ => rfl) ?_
  refine dp_s1 hF (i := .aload_n 0) rfl (fun _ => rfl) ?_
  refine dp_s1 hF (i := .iload 4) rfl (fun _ => rfl) ?_
  refine dp_s1 hF (i := .iconst 4) rfl (fun _ => rfl) ?_
  refine dp_s1 hF (i := .iadd) rfl (fun _ => rfl) ?_
  refine dp_s3 hF (i := .iaload) rfl (fun _ => rfl) ?_
  refine dp_s1 hF (i := .i2l) rfl (fun _ => rfl) ?_
  refine dp_s1 hF (i := .ldc2_w 366) rfl (fun _ => rfl) ?_
  refine dp_s1 hF (i := .land) rfl (fun _ => rfl) ?_
  refine dp_s1 hF (i := .lor) rfl (fun _ => rfl) ?_
  refine dp_si (mj := dp_m_X12_entry) (i := .invokevirtual 455) rfl rfl (Or.inr rfl) rfl (fun _ => rfl) (fun r4 M3 => ?_)
  refine dp_s2 hF (i := .if_icmp .eq 1608) (a := (6132, [some (.retAddr 0), some (.ref 0), some (.ref 114), some (.ref 245), some (.int v4), u5, u6, u7], [], M3)) (b := (4527, [some (.retAddr 0), some (.ref 0), some (.ref 114), some (.ref 245), some (.int v4), u5, u6, u7], [], M3)) rfl (fun _ => rfl) ?_ ?_
  · exact rfl
  refine dp_s1 hF (i := .iconst 0) rfl (fun _ => rfl) ?_
  exact dp_s0 hF (i := .ireturn) rfl (fun _ => rfl)
set_option maxRecDepth 20000 in
theorem D_L_law_4529_eq (xs : Nat → Int32) (xl d : Nat) (v4 : Int32) (u5 : Option Value) (u6 : Option Value) (u7 : Option Value) (M : dp_M) : D_L_law_4529 xs xl d v4 u5 u6 u7 M = if (v4 + (1 : Int32)) < 0 ∨ xl ≤ Int32.toNatClampNeg (v4 + (1 : Int32)) then none else (if (v4 + (2 : Int32)) < 0 ∨ xl ≤ Int32.toNatClampNeg (v4 + (2 : Int32)) then none else (if (xs (Int32.toNatClampNeg (v4 + (2 : Int32)))) = 0 then (dp_bi (dp_den true xs xl d 336 [.ref 0, .int (xs (Int32.toNatClampNeg (v4 + (1 : Int32)))), .int (0 : Int32)] M) (fun r2 M1 => if (v4 + (1 : Int32)) < 0 ∨ xl ≤ Int32.toNatClampNeg (v4 + (1 : Int32)) then none else (if (v4 + (2 : Int32)) < 0 ∨ xl ≤ Int32.toNatClampNeg (v4 + (2 : Int32)) then none else (if (xs (Int32.toNatClampNeg (v4 + (2 : Int32)))) = 0 then (dp_bi (dp_den true xs xl d 548 [.ref 114, .int (xs (Int32.toNatClampNeg (v4 + (1 : Int32)))), .int (0 : Int32)] M1) (fun r4 M3 => if r2 = r4 then (D_L_law_6132 xs xl d v4 u5 u6 u7 M3) else (some (.inl (some (.int (0 : Int32))), M3)))) else (dp_bi (dp_den true xs xl d 548 [.ref 114, .int (xs (Int32.toNatClampNeg (v4 + (1 : Int32)))), .int (1 : Int32)] M1) (fun r6 M5 => if r2 = r6 then (D_L_law_6132 xs xl d v4 u5 u6 u7 M5) else (some (.inl (some (.int (0 : Int32))), M5)))))))) else (dp_bi (dp_den true xs xl d 336 [.ref 0, .int (xs (Int32.toNatClampNeg (v4 + (1 : Int32)))), .int (1 : Int32)] M) (fun r8 M7 => if (v4 + (1 : Int32)) < 0 ∨ xl ≤ Int32.toNatClampNeg (v4 + (1 : Int32)) then none else (if (v4 + (2 : Int32)) < 0 ∨ xl ≤ Int32.toNatClampNeg (v4 + (2 : Int32)) then none else (if (xs (Int32.toNatClampNeg (v4 + (2 : Int32)))) = 0 then (dp_bi (dp_den true xs xl d 548 [.ref 114, .int (xs (Int32.toNatClampNeg (v4 + (1 : Int32)))), .int (0 : Int32)] M7) (fun r10 M9 => if r8 = r10 then (D_L_law_6132 xs xl d v4 u5 u6 u7 M9) else (some (.inl (some (.int (0 : Int32))), M9)))) else (dp_bi (dp_den true xs xl d 548 [.ref 114, .int (xs (Int32.toNatClampNeg (v4 + (1 : Int32)))), .int (1 : Int32)] M7) (fun r12 M11 => if r8 = r12 then (D_L_law_6132 xs xl d v4 u5 u6 u7 M11) else (some (.inl (some (.int (0 : Int32))), M11)))))))))) := by
  have hF := dp_den_grow (md := true) (xs := xs) (xl := xl) d
  unfold D_L_law_4529
  refine dp_s1 hF (i := .aload_n 1) rfl (fun _ => rfl) ?_
  refine dp_s1 hF (i := .aload_n 0) rfl (fun _ => rfl) ?_
  refine dp_s1 hF (i := .iload 4) rfl (fun _ => rfl) ?_
  refine dp_s1 hF (i := .iconst 1) rfl (fun _ => rfl) ?_
  refine dp_s1 hF (i := .iadd) rfl (fun _ => rfl) ?_
  refine dp_s3 hF (i := .iaload) rfl (fun _ => rfl) ?_
  refine dp_s1 hF (i := .aload_n 0) rfl (fun _ => rfl) ?_
  refine dp_s1 hF (i := .iload 4) rfl (fun _ => rfl) ?_
  refine dp_s1 hF (i := .iconst 2) rfl (fun _ => rfl) ?_
  refine dp_s1 hF (i := .iadd) rfl (fun _ => rfl) ?_
  refine dp_s3 hF (i := .iaload) rfl (fun _ => rfl) ?_
  refine dp_s2 hF (i := .ifCond .eq 7) (a := (4549, [some (.retAddr 0), some (.ref 0), some (.ref 114), some (.ref 245), some (.int v4), u5, u6, u7], [.int (xs (Int32.toNatClampNeg (v4 + (1 : Int32)))), .ref 0], M)) (b := (4545, [some (.retAddr 0), some (.ref 0), some (.ref 114), some (.ref 245), some (.int v4), u5, u6, u7], [.int (xs (Int32.toNatClampNeg (v4 + (1 : Int32)))), .ref 0], M)) rfl (fun _ => rfl) ?_ ?_
  · refine dp_s1 hF (i := .iconst 0) rfl (fun _ => rfl) ?_
    refine dp_si (mj := dp_m_X11_failing) (i := .invokevirtual 456) rfl rfl (Or.inr rfl) rfl (fun _ => rfl) (fun r2 M1 => ?_)
    refine dp_s1 hF (i := .aload_n 2) rfl (fun _ => rfl) ?_
    refine dp_s1 hF (i := .aload_n 0) rfl (fun _ => rfl) ?_
    refine dp_s1 hF (i := .iload 4) rfl (fun _ => rfl) ?_
    refine dp_s1 hF (i := .iconst 1) rfl (fun _ => rfl) ?_
    refine dp_s1 hF (i := .iadd) rfl (fun _ => rfl) ?_
    refine dp_s3 hF (i := .iaload) rfl (fun _ => rfl) ?_
    refine dp_s1 hF (i := .aload_n 0) rfl (fun _ => rfl) ?_
    refine dp_s1 hF (i := .iload 4) rfl (fun _ => rfl) ?_
    refine dp_s1 hF (i := .iconst 2) rfl (fun _ => rfl) ?_
    refine dp_s1 hF (i := .iadd) rfl (fun _ => rfl) ?_
    refine dp_s3 hF (i := .iaload) rfl (fun _ => rfl) ?_
    refine dp_s2 hF (i := .ifCond .eq 7) (a := (4573, [some (.retAddr 0), some (.ref 0), some (.ref 114), some (.ref 245), some (.int v4), u5, u6, u7], [.int (xs (Int32.toNatClampNeg (v4 + (1 : Int32)))), .ref 114, .int r2], M1)) (b := (4569, [some (.retAddr 0), some (.ref 0), some (.ref 114), some (.ref 245), some (.int v4), u5, u6, u7], [.int (xs (Int32.toNatClampNeg (v4 + (1 : Int32)))), .ref 114, .int r2], M1)) rfl (fun _ => rfl) ?_ ?_
    · refine dp_s1 hF (i := .iconst 0) rfl (fun _ => rfl) ?_
      refine dp_si (mj := dp_m_X12_failing) (i := .invokevirtual 459) rfl rfl (Or.inr rfl) rfl (fun _ => rfl) (fun r4 M3 => ?_)
      refine dp_s2 hF (i := .if_icmp .eq 1555) (a := (6132, [some (.retAddr 0), some (.ref 0), some (.ref 114), some (.ref 245), some (.int v4), u5, u6, u7], [], M3)) (b := (4580, [some (.retAddr 0), some (.ref 0), some (.ref 114), some (.ref 245), some (.int v4), u5, u6, u7], [], M3)) rfl (fun _ => rfl) ?_ ?_
      · exact rfl
      refine dp_s1 hF (i := .iconst 0) rfl (fun _ => rfl) ?_
      exact dp_s0 hF (i := .ireturn) rfl (fun _ => rfl)
    refine dp_s1 hF (i := .iconst 1) rfl (fun _ => rfl) ?_
    refine dp_s1 hF (i := .goto 4) rfl (fun _ => rfl) ?_
    refine dp_si (mj := dp_m_X12_failing) (i := .invokevirtual 459) rfl rfl (Or.inr rfl) rfl (fun _ => rfl) (fun r6 M5 => ?_)
    refine dp_s2 hF (i := .if_icmp .eq 1555) (a := (6132, [some (.retAddr 0), some (.ref 0), some (.ref 114), some (.ref 245), some (.int v4), u5, u6, u7], [], M5)) (b := (4580, [some (.retAddr 0), some (.ref 0), some (.ref 114), some (.ref 245), some (.int v4), u5, u6, u7], [], M5)) rfl (fun _ => rfl) ?_ ?_
    · exact rfl
    refine dp_s1 hF (i := .iconst 0) rfl (fun _ => rfl) ?_
    exact dp_s0 hF (i := .ireturn) rfl (fun _ => rfl)
  refine dp_s1 hF (i := .iconst 1) rfl (fun _ => rfl) ?_
  refine dp_s1 hF (i := .goto 4) rfl (fun _ => rfl) ?_
  refine dp_si (mj := dp_m_X11_failing) (i := .invokevirtual 456) rfl rfl (Or.inr rfl) rfl (fun _ => rfl) (fun r8 M7 => ?_)
  refine dp_s1 hF (i := .aload_n 2) rfl (fun _ => rfl) ?_
  refine dp_s1 hF (i := .aload_n 0) rfl (fun _ => rfl) ?_
  refine dp_s1 hF (i := .iload 4) rfl (fun _ => rfl) ?_
  refine dp_s1 hF (i := .iconst 1) rfl (fun _ => rfl) ?_
  refine dp_s1 hF (i := .iadd) rfl (fun _ => rfl) ?_
  refine dp_s3 hF (i := .iaload) rfl (fun _ => rfl) ?_
  refine dp_s1 hF (i := .aload_n 0) rfl (fun _ => rfl) ?_
  refine dp_s1 hF (i := .iload 4) rfl (fun _ => rfl) ?_
  refine dp_s1 hF (i := .iconst 2) rfl (fun _ => rfl) ?_
  refine dp_s1 hF (i := .iadd) rfl (fun _ => rfl) ?_
  refine dp_s3 hF (i := .iaload) rfl (fun _ => rfl) ?_
  refine dp_s2 hF (i := .ifCond .eq 7) (a := (4573, [some (.retAddr 0), some (.ref 0), some (.ref 114), some (.ref 245), some (.int v4), u5, u6, u7], [.int (xs (Int32.toNatClampNeg (v4 + (1 : Int32)))), .ref 114, .int r8], M7)) (b := (4569, [some (.retAddr 0), some (.ref 0), some (.ref 114), some (.ref 245), some (.int v4), u5, u6, u7], [.int (xs (Int32.toNatClampNeg (v4 + (1 : Int32)))), .ref 114, .int r8], M7)) rfl (fun _ => rfl) ?_ ?_
  · refine dp_s1 hF (i := .iconst 0) rfl (fun _ => rfl) ?_
    refine dp_si (mj := dp_m_X12_failing) (i := .invokevirtual 459) rfl rfl (Or.inr rfl) rfl (fun _ => rfl) (fun r10 M9 => ?_)
    refine dp_s2 hF (i := .if_icmp .eq 1555) (a := (6132, [some (.retAddr 0), some (.ref 0), some (.ref 114), some (.ref 245), some (.int v4), u5, u6, u7], [], M9)) (b := (4580, [some (.retAddr 0), some (.ref 0), some (.ref 114), some (.ref 245), some (.int v4), u5, u6, u7], [], M9)) rfl (fun _ => rfl) ?_ ?_
    · exact rfl
    refine dp_s1 hF (i := .iconst 0) rfl (fun _ => rfl) ?_
    exact dp_s0 hF (i := .ireturn) rfl (fun _ => rfl)
  refine dp_s1 hF (i := .iconst 1) rfl (fun _ => rfl) ?_
  refine dp_s1 hF (i := .goto 4) rfl (fun _ => rfl) ?_
  refine dp_si (mj := dp_m_X12_failing) (i := .invokevirtual 459) rfl rfl (Or.inr rfl) rfl (fun _ => rfl) (fun r12 M11 => ?_)
  refine dp_s2 hF (i := .if_icmp .eq 1555) (a := (6132, [some (.retAddr 0), some (.ref 0), some (.ref 114), some (.ref 245), some (.int v4), u5, u6, u7], [], M11)) (b := (4580, [some (.retAddr 0), some (.ref 0), some (.ref 114), some (.ref 245), some (.int v4), u5, u6, u7], [], M11)) rfl (fun _ => rfl) ?_ ?_
  · exact rfl
  refine dp_s1 hF (i := .iconst 0) rfl (fun _ => rfl) ?_
  exact dp_s0 hF (i := .ireturn) rfl (fun _ => rfl)
set_option maxRecDepth 20000 in
theorem D_L_law_4582_eq (xs : Nat → Int32) (xl d : Nat) (v4 : Int32) (u5 : Option Value) (u6 : Option Value) (u7 : Option Value) (M : dp_M) : D_L_law_4582 xs xl d v4 u5 u6 u7 M = if (v4 + (1 : Int32)) < 0 ∨ xl ≤ Int32.toNatClampNeg (v4 + (1 : Int32)) then none else (dp_bi (dp_den true xs xl d 638 [.ref 0, .int (xs (Int32.toNatClampNeg (v4 + (1 : Int32)))), .ref 245] M) (fun r2 M1 => if (v4 + (1 : Int32)) < 0 ∨ xl ≤ Int32.toNatClampNeg (v4 + (1 : Int32)) then none else (dp_bi (dp_den true xs xl d 553 [.ref 114, .int (xs (Int32.toNatClampNeg (v4 + (1 : Int32))))] M1) (fun r4 M3 => dp_bi (dp_den true xs xl d 365 [.ref 114] M3) (fun r6 M5 => if r6 = r2 then (if r2 = 0 then (if (0 : Int32) < 0 ∨ 1 ≤ Int32.toNatClampNeg (0 : Int32) then none else (if (lg_cmp (dp_J M5 245 (Int32.toNatClampNeg (0 : Int32))) (Int32.toInt64 r4)) = 0 then (D_L_law_6132 xs xl d v4 (some (.int r2)) (some (.int r4)) u7 M5) else (some (.inl (some (.int (0 : Int32))), M5)))) else (D_L_law_6132 xs xl d v4 (some (.int r2)) (some (.int r4)) u7 M5)) else (some (.inl (some (.int (0 : Int32))), M5))))))) := by
  have hF := dp_den_grow (md := true) (xs := xs) (xl := xl) d
  unfold D_L_law_4582
  refine dp_s1 hF (i := .aload_n 1) rfl (fun _ => rfl) ?_
  refine dp_s1 hF (i := .aload_n 0) rfl (fun _ => rfl) ?_
  refine dp_s1 hF (i := .iload 4) rfl (fun _ => rfl) ?_
  refine dp_s1 hF (i := .iconst 1) rfl (fun _ => rfl) ?_
  refine dp_s1 hF (i := .iadd) rfl (fun _ => rfl) ?_
  refine dp_s3 hF (i := .iaload) rfl (fun _ => rfl) ?_
  refine dp_s1 hF (i := .aload_n 3) rfl (fun _ => rfl) ?_
  refine dp_si (mj := dp_m_L_post) (i := .invokestatic 460) rfl rfl (Or.inl rfl) rfl (fun _ => rfl) (fun r2 M1 => ?_)
  refine dp_s1 hF (i := .istore 5) rfl (fun _ => rfl) ?_
  refine dp_s1 hF (i := .aload_n 2) rfl (fun _ => rfl) ?_
  refine dp_s1 hF (i := .aload_n 0) rfl (fun _ => rfl) ?_
  refine dp_s1 hF (i := .iload 4) rfl (fun _ => rfl) ?_
  refine dp_s1 hF (i := .iconst 1) rfl (fun _ => rfl) ?_
  refine dp_s1 hF (i := .iadd) rfl (fun _ => rfl) ?_
  refine dp_s3 hF (i := .iaload) rfl (fun _ => rfl) ?_
  refine dp_si (mj := dp_m_X12_post) (i := .invokevirtual 462) rfl rfl (Or.inl rfl) rfl (fun _ => rfl) (fun r4 M3 => ?_)
  refine dp_s1 hF (i := .istore 6) rfl (fun _ => rfl) ?_
  refine dp_s1 hF (i := .aload_n 2) rfl (fun _ => rfl) ?_
  refine dp_si (mj := dp_m_X12_thrown) (i := .invokevirtual 229) rfl rfl (Or.inl rfl) rfl (fun _ => rfl) (fun r6 M5 => ?_)
  refine dp_s1 hF (i := .iload 5) rfl (fun _ => rfl) ?_
  refine dp_s2 hF (i := .if_icmp .eq 5) (a := (4618, [some (.retAddr 0), some (.ref 0), some (.ref 114), some (.ref 245), some (.int v4), some (.int r2), some (.int r4), u7], [], M5)) (b := (4616, [some (.retAddr 0), some (.ref 0), some (.ref 114), some (.ref 245), some (.int v4), some (.int r2), some (.int r4), u7], [], M5)) rfl (fun _ => rfl) ?_ ?_
  · refine dp_s1 hF (i := .iload 5) rfl (fun _ => rfl) ?_
    refine dp_s2 hF (i := .ifCond .ne 15) (a := (4623, [some (.retAddr 0), some (.ref 0), some (.ref 114), some (.ref 245), some (.int v4), some (.int r2), some (.int r4), u7], [], M5)) (b := (4635, [some (.retAddr 0), some (.ref 0), some (.ref 114), some (.ref 245), some (.int v4), some (.int r2), some (.int r4), u7], [], M5)) rfl (fun _ => rfl) ?_ ?_
    · refine dp_s1 hF (i := .aload_n 3) rfl (fun _ => rfl) ?_
      refine dp_s1 hF (i := .iconst 0) rfl (fun _ => rfl) ?_
      refine dp_s3 hF (i := .laload) rfl (fun _ => rfl) ?_
      refine dp_s1 hF (i := .iload 6) rfl (fun _ => rfl) ?_
      refine dp_s1 hF (i := .i2l) rfl (fun _ => rfl) ?_
      refine dp_s1 hF (i := .lcmp) rfl (fun _ => rfl) ?_
      refine dp_s2 hF (i := .ifCond .eq 5) (a := (4635, [some (.retAddr 0), some (.ref 0), some (.ref 114), some (.ref 245), some (.int v4), some (.int r2), some (.int r4), u7], [], M5)) (b := (4633, [some (.retAddr 0), some (.ref 0), some (.ref 114), some (.ref 245), some (.int v4), some (.int r2), some (.int r4), u7], [], M5)) rfl (fun _ => rfl) ?_ ?_
      · refine dp_s1 hF (i := .goto 1497) rfl (fun _ => rfl) ?_
        exact rfl
      refine dp_s1 hF (i := .iconst 0) rfl (fun _ => rfl) ?_
      exact dp_s0 hF (i := .ireturn) rfl (fun _ => rfl)
    refine dp_s1 hF (i := .goto 1497) rfl (fun _ => rfl) ?_
    exact rfl
  refine dp_s1 hF (i := .iconst 0) rfl (fun _ => rfl) ?_
  exact dp_s0 hF (i := .ireturn) rfl (fun _ => rfl)
set_option maxRecDepth 20000 in
theorem D_L_law_4638_eq (xs : Nat → Int32) (xl d : Nat) (v4 : Int32) (u5 : Option Value) (u6 : Option Value) (u7 : Option Value) (M : dp_M) : D_L_law_4638 xs xl d v4 u5 u6 u7 M = if (v4 + (1 : Int32)) < 0 ∨ xl ≤ Int32.toNatClampNeg (v4 + (1 : Int32)) then none else (if (v4 + (2 : Int32)) < 0 ∨ xl ≤ Int32.toNatClampNeg (v4 + (2 : Int32)) then none else (dp_bi (dp_den true xs xl d 639 [.ref 0, .int (xs (Int32.toNatClampNeg (v4 + (1 : Int32)))), .int (xs (Int32.toNatClampNeg (v4 + (2 : Int32)))), .ref 245] M) (fun r2 M1 => if (v4 + (1 : Int32)) < 0 ∨ xl ≤ Int32.toNatClampNeg (v4 + (1 : Int32)) then none else (if (v4 + (2 : Int32)) < 0 ∨ xl ≤ Int32.toNatClampNeg (v4 + (2 : Int32)) then none else (dp_bi (dp_den true xs xl d 554 [.ref 114, .int (xs (Int32.toNatClampNeg (v4 + (1 : Int32)))), .int (xs (Int32.toNatClampNeg (v4 + (2 : Int32))))] M1) (fun r4 M3 => dp_bi (dp_den true xs xl d 365 [.ref 114] M3) (fun r6 M5 => if r6 = r2 then (if r2 = 0 then (if (0 : Int32) < 0 ∨ 1 ≤ Int32.toNatClampNeg (0 : Int32) then none else (if (lg_cmp (dp_J M5 245 (Int32.toNatClampNeg (0 : Int32))) (Int32.toInt64 r4)) = 0 then (D_L_law_6132 xs xl d v4 (some (.int r2)) (some (.int r4)) u7 M5) else (some (.inl (some (.int (0 : Int32))), M5)))) else (D_L_law_6132 xs xl d v4 (some (.int r2)) (some (.int r4)) u7 M5)) else (some (.inl (some (.int (0 : Int32))), M5))))))))) := by
  have hF := dp_den_grow (md := true) (xs := xs) (xl := xl) d
  unfold D_L_law_4638
  refine dp_s1 hF (i := .aload_n 1) rfl (fun _ => rfl) ?_
  refine dp_s1 hF (i := .aload_n 0) rfl (fun _ => rfl) ?_
  refine dp_s1 hF (i := .iload 4) rfl (fun _ => rfl) ?_
  refine dp_s1 hF (i := .iconst 1) rfl (fun _ => rfl) ?_
  refine dp_s1 hF (i := .iadd) rfl (fun _ => rfl) ?_
  refine dp_s3 hF (i := .iaload) rfl (fun _ => rfl) ?_
  refine dp_s1 hF (i := .aload_n 0) rfl (fun _ => rfl) ?_
  refine dp_s1 hF (i := .iload 4) rfl (fun _ => rfl) ?_
  refine dp_s1 hF (i := .iconst 2) rfl (fun _ => rfl) ?_
  refine dp_s1 hF (i := .iadd) rfl (fun _ => rfl) ?_
  refine dp_s3 hF (i := .iaload) rfl (fun _ => rfl) ?_
  refine dp_s1 hF (i := .aload_n 3) rfl (fun _ => rfl) ?_
  refine dp_si (mj := dp_m_L_reverse) (i := .invokestatic 463) rfl rfl (Or.inl rfl) rfl (fun _ => rfl) (fun r2 M1 => ?_)
  refine dp_s1 hF (i := .istore 5) rfl (fun _ => rfl) ?_
  refine dp_s1 hF (i := .aload_n 2) rfl (fun _ => rfl) ?_
  refine dp_s1 hF (i := .aload_n 0) rfl (fun _ => rfl) ?_
  refine dp_s1 hF (i := .iload 4) rfl (fun _ => rfl) ?_
  refine dp_s1 hF (i := .iconst 1) rfl (fun _ => rfl) ?_
  refine dp_s1 hF (i := .iadd) rfl (fun _ => rfl) ?_
  refine dp_s3 hF (i := .iaload) rfl (fun _ => rfl) ?_
  refine dp_s1 hF (i := .aload_n 0) rfl (fun _ => rfl) ?_
  refine dp_s1 hF (i := .iload 4) rfl (fun _ => rfl) ?_
  refine dp_s1 hF (i := .iconst 2) rfl (fun _ => rfl) ?_
  refine dp_s1 hF (i := .iadd) rfl (fun _ => rfl) ?_
  refine dp_s3 hF (i := .iaload) rfl (fun _ => rfl) ?_
  refine dp_si (mj := dp_m_X12_reverse) (i := .invokevirtual 465) rfl rfl (Or.inl rfl) rfl (fun _ => rfl) (fun r4 M3 => ?_)
  refine dp_s1 hF (i := .istore 6) rfl (fun _ => rfl) ?_
  refine dp_s1 hF (i := .aload_n 2) rfl (fun _ => rfl) ?_
  refine dp_si (mj := dp_m_X12_thrown) (i := .invokevirtual 229) rfl rfl (Or.inl rfl) rfl (fun _ => rfl) (fun r6 M5 => ?_)
  refine dp_s1 hF (i := .iload 5) rfl (fun _ => rfl) ?_
  refine dp_s2 hF (i := .if_icmp .eq 5) (a := (4686, [some (.retAddr 0), some (.ref 0), some (.ref 114), some (.ref 245), some (.int v4), some (.int r2), some (.int r4), u7], [], M5)) (b := (4684, [some (.retAddr 0), some (.ref 0), some (.ref 114), some (.ref 245), some (.int v4), some (.int r2), some (.int r4), u7], [], M5)) rfl (fun _ => rfl) ?_ ?_
  · refine dp_s1 hF (i := .iload 5) rfl (fun _ => rfl) ?_
    refine dp_s2 hF (i := .ifCond .ne 15) (a := (4691, [some (.retAddr 0), some (.ref 0), some (.ref 114), some (.ref 245), some (.int v4), some (.int r2), some (.int r4), u7], [], M5)) (b := (4703, [some (.retAddr 0), some (.ref 0), some (.ref 114), some (.ref 245), some (.int v4), some (.int r2), some (.int r4), u7], [], M5)) rfl (fun _ => rfl) ?_ ?_
    · refine dp_s1 hF (i := .aload_n 3) rfl (fun _ => rfl) ?_
      refine dp_s1 hF (i := .iconst 0) rfl (fun _ => rfl) ?_
      refine dp_s3 hF (i := .laload) rfl (fun _ => rfl) ?_
      refine dp_s1 hF (i := .iload 6) rfl (fun _ => rfl) ?_
      refine dp_s1 hF (i := .i2l) rfl (fun _ => rfl) ?_
      refine dp_s1 hF (i := .lcmp) rfl (fun _ => rfl) ?_
      refine dp_s2 hF (i := .ifCond .eq 5) (a := (4703, [some (.retAddr 0), some (.ref 0), some (.ref 114), some (.ref 245), some (.int v4), some (.int r2), some (.int r4), u7], [], M5)) (b := (4701, [some (.retAddr 0), some (.ref 0), some (.ref 114), some (.ref 245), some (.int v4), some (.int r2), some (.int r4), u7], [], M5)) rfl (fun _ => rfl) ?_ ?_
      · refine dp_s1 hF (i := .goto 1429) rfl (fun _ => rfl) ?_
        exact rfl
      refine dp_s1 hF (i := .iconst 0) rfl (fun _ => rfl) ?_
      exact dp_s0 hF (i := .ireturn) rfl (fun _ => rfl)
    refine dp_s1 hF (i := .goto 1429) rfl (fun _ => rfl) ?_
    exact rfl
  refine dp_s1 hF (i := .iconst 0) rfl (fun _ => rfl) ?_
  exact dp_s0 hF (i := .ireturn) rfl (fun _ => rfl)
set_option maxRecDepth 20000 in
theorem D_L_law_4706_eq (xs : Nat → Int32) (xl d : Nat) (v4 : Int32) (u5 : Option Value) (u6 : Option Value) (u7 : Option Value) (M : dp_M) : D_L_law_4706 xs xl d v4 u5 u6 u7 M = if (v4 + (1 : Int32)) < 0 ∨ xl ≤ Int32.toNatClampNeg (v4 + (1 : Int32)) then none else (dp_bi (dp_den true xs xl d 339 [.ref 0, .int (xs (Int32.toNatClampNeg (v4 + (1 : Int32))))] M) (fun r2 M1 => if (v4 + (1 : Int32)) < 0 ∨ xl ≤ Int32.toNatClampNeg (v4 + (1 : Int32)) then none else (dp_bi (dp_den true xs xl d 555 [.ref 114, .int (xs (Int32.toNatClampNeg (v4 + (1 : Int32))))] M1) (fun r4 M3 => if r2 = r4 then (D_L_law_6132 xs xl d v4 u5 u6 u7 M3) else (some (.inl (some (.int (0 : Int32))), M3)))))) := by
  have hF := dp_den_grow (md := true) (xs := xs) (xl := xl) d
  unfold D_L_law_4706
  refine dp_s1 hF (i := .aload_n 1) rfl (fun _ => rfl) ?_
  refine dp_s1 hF (i := .aload_n 0) rfl (fun _ => rfl) ?_
  refine dp_s1 hF (i := .iload 4) rfl (fun _ => rfl) ?_
  refine dp_s1 hF (i := .iconst 1) rfl (fun _ => rfl) ?_
  refine dp_s1 hF (i := .iadd) rfl (fun _ => rfl) ?_
  refine dp_s3 hF (i := .iaload) rfl (fun _ => rfl) ?_
  refine dp_si (mj := dp_m_X11_close) (i := .invokevirtual 466) rfl rfl (Or.inr rfl) rfl (fun _ => rfl) (fun r2 M1 => ?_)
  refine dp_s1 hF (i := .aload_n 2) rfl (fun _ => rfl) ?_
  refine dp_s1 hF (i := .aload_n 0) rfl (fun _ => rfl) ?_
  refine dp_s1 hF (i := .iload 4) rfl (fun _ => rfl) ?_
  refine dp_s1 hF (i := .iconst 1) rfl (fun _ => rfl) ?_
  refine dp_s1 hF (i := .iadd) rfl (fun _ => rfl) ?_
  refine dp_s3 hF (i := .iaload) rfl (fun _ => rfl) ?_
  refine dp_si (mj := dp_m_X12_close) (i := .invokevirtual 469) rfl rfl (Or.inr rfl) rfl (fun _ => rfl) (fun r4 M3 => ?_)
  refine dp_s2 hF (i := .if_icmp .eq 1406) (a := (6132, [some (.retAddr 0), some (.ref 0), some (.ref 114), some (.ref 245), some (.int v4), u5, u6, u7], [], M3)) (b := (4729, [some (.retAddr 0), some (.ref 0), some (.ref 114), some (.ref 245), some (.int v4), u5, u6, u7], [], M3)) rfl (fun _ => rfl) ?_ ?_
  · exact rfl
  refine dp_s1 hF (i := .iconst 0) rfl (fun _ => rfl) ?_
  exact dp_s0 hF (i := .ireturn) rfl (fun _ => rfl)
set_option maxRecDepth 20000 in
theorem D_L_law_4731_eq (xs : Nat → Int32) (xl d : Nat) (v4 : Int32) (u5 : Option Value) (u6 : Option Value) (u7 : Option Value) (M : dp_M) : D_L_law_4731 xs xl d v4 u5 u6 u7 M = if (v4 + (1 : Int32)) < 0 ∨ xl ≤ Int32.toNatClampNeg (v4 + (1 : Int32)) then none else (if (v4 + (2 : Int32)) < 0 ∨ xl ≤ Int32.toNatClampNeg (v4 + (2 : Int32)) then none else (if (v4 + (3 : Int32)) < 0 ∨ xl ≤ Int32.toNatClampNeg (v4 + (3 : Int32)) then none else (dp_bi (dp_den true xs xl d 640 [.ref 0, .int (xs (Int32.toNatClampNeg (v4 + (1 : Int32)))), .int (xs (Int32.toNatClampNeg (v4 + (2 : Int32)))), .int (xs (Int32.toNatClampNeg (v4 + (3 : Int32)))), .ref 245] M) (fun r2 M1 => if (v4 + (1 : Int32)) < 0 ∨ xl ≤ Int32.toNatClampNeg (v4 + (1 : Int32)) then none else (if (v4 + (2 : Int32)) < 0 ∨ xl ≤ Int32.toNatClampNeg (v4 + (2 : Int32)) then none else (if (v4 + (3 : Int32)) < 0 ∨ xl ≤ Int32.toNatClampNeg (v4 + (3 : Int32)) then none else (dp_bl (dp_den true xs xl d 557 [.ref 114, .int (xs (Int32.toNatClampNeg (v4 + (1 : Int32)))), .int (xs (Int32.toNatClampNeg (v4 + (2 : Int32)))), .int (xs (Int32.toNatClampNeg (v4 + (3 : Int32))))] M1) (fun r4 M3 => dp_bi (dp_den true xs xl d 365 [.ref 114] M3) (fun r6 M5 => if r6 = r2 then (if r2 = 0 then (if (0 : Int32) < 0 ∨ 1 ≤ Int32.toNatClampNeg (0 : Int32) then none else (if (lg_cmp (dp_J M5 245 (Int32.toNatClampNeg (0 : Int32))) r4) = 0 then (D_L_law_6132 xs xl d v4 (some (.int r2)) (some (.long r4)) none M5) else (some (.inl (some (.int (0 : Int32))), M5)))) else (D_L_law_6132 xs xl d v4 (some (.int r2)) (some (.long r4)) none M5)) else (some (.inl (some (.int (0 : Int32))), M5))))))))))) := by
  have hF := dp_den_grow (md := true) (xs := xs) (xl := xl) d
  unfold D_L_law_4731
  refine dp_s1 hF (i := .aload_n 1) rfl (fun _ => rfl) ?_
  refine dp_s1 hF (i := .aload_n 0) rfl (fun _ => rfl) ?_
  refine dp_s1 hF (i := .iload 4) rfl (fun _ => rfl) ?_
  refine dp_s1 hF (i := .iconst 1) rfl (fun _ => rfl) ?_
  refine dp_s1 hF (i := .iadd) rfl (fun _ => rfl) ?_
  refine dp_s3 hF (i := .iaload) rfl (fun _ => rfl) ?_
  refine dp_s1 hF (i := .aload_n 0) rfl (fun _ => rfl) ?_
  refine dp_s1 hF (i := .iload 4) rfl (fun _ => rfl) ?_
  refine dp_s1 hF (i := .iconst 2) rfl (fun _ => rfl) ?_
  refine dp_s1 hF (i := .iadd) rfl (fun _ => rfl) ?_
  refine dp_s3 hF (i := .iaload) rfl (fun _ => rfl) ?_
  refine dp_s1 hF (i := .aload_n 0) rfl (fun _ => rfl) ?_
  refine dp_s1 hF (i := .iload 4) rfl (fun _ => rfl) ?_
  refine dp_s1 hF (i := .iconst 3) rfl (fun _ => rfl) ?_
  refine dp_s1 hF (i := .iadd) rfl (fun _ => rfl) ?_
  refine dp_s3 hF (i := .iaload) rfl (fun _ => rfl) ?_
  refine dp_s1 hF (i := .aload_n 3) rfl (fun _ => rfl) ?_
  refine dp_si (mj := dp_m_L_account) (i := .invokestatic 470) rfl rfl (Or.inl rfl) rfl (fun _ => rfl) (fun r2 M1 => ?_)
  refine dp_s1 hF (i := .istore 5) rfl (fun _ => rfl) ?_
  refine dp_s1 hF (i := .aload_n 2) rfl (fun _ => rfl) ?_
  refine dp_s1 hF (i := .aload_n 0) rfl (fun _ => rfl) ?_
  refine dp_s1 hF (i := .iload 4) rfl (fun _ => rfl) ?_
  refine dp_s1 hF (i := .iconst 1) rfl (fun _ => rfl) ?_
  refine dp_s1 hF (i := .iadd) rfl (fun _ => rfl) ?_
  refine dp_s3 hF (i := .iaload) rfl (fun _ => rfl) ?_
  refine dp_s1 hF (i := .aload_n 0) rfl (fun _ => rfl) ?_
  refine dp_s1 hF (i := .iload 4) rfl (fun _ => rfl) ?_
  refine dp_s1 hF (i := .iconst 2) rfl (fun _ => rfl) ?_
  refine dp_s1 hF (i := .iadd) rfl (fun _ => rfl) ?_
  refine dp_s3 hF (i := .iaload) rfl (fun _ => rfl) ?_
  refine dp_s1 hF (i := .aload_n 0) rfl (fun _ => rfl) ?_
  refine dp_s1 hF (i := .iload 4) rfl (fun _ => rfl) ?_
  refine dp_s1 hF (i := .iconst 3) rfl (fun _ => rfl) ?_
  refine dp_s1 hF (i := .iadd) rfl (fun _ => rfl) ?_
  refine dp_s3 hF (i := .iaload) rfl (fun _ => rfl) ?_
  refine dp_sl9 (mj := dp_m_X12_account) (i := .invokevirtual 472) rfl rfl rfl rfl (fun _ => rfl) (fun r4 M3 => ?_)
  refine dp_s1 hF (i := .lstore 6) rfl (fun _ => rfl) ?_
  refine dp_s1 hF (i := .aload_n 2) rfl (fun _ => rfl) ?_
  refine dp_si (mj := dp_m_X12_thrown) (i := .invokevirtual 229) rfl rfl (Or.inl rfl) rfl (fun _ => rfl) (fun r6 M5 => ?_)
  refine dp_s1 hF (i := .iload 5) rfl (fun _ => rfl) ?_
  refine dp_s2 hF (i := .if_icmp .eq 5) (a := (4791, [some (.retAddr 0), some (.ref 0), some (.ref 114), some (.ref 245), some (.int v4), some (.int r2), some (.long r4), none], [], M5)) (b := (4789, [some (.retAddr 0), some (.ref 0), some (.ref 114), some (.ref 245), some (.int v4), some (.int r2), some (.long r4), none], [], M5)) rfl (fun _ => rfl) ?_ ?_
  · refine dp_s1 hF (i := .iload 5) rfl (fun _ => rfl) ?_
    refine dp_s2 hF (i := .ifCond .ne 14) (a := (4796, [some (.retAddr 0), some (.ref 0), some (.ref 114), some (.ref 245), some (.int v4), some (.int r2), some (.long r4), none], [], M5)) (b := (4807, [some (.retAddr 0), some (.ref 0), some (.ref 114), some (.ref 245), some (.int v4), some (.int r2), some (.long r4), none], [], M5)) rfl (fun _ => rfl) ?_ ?_
    · refine dp_s1 hF (i := .aload_n 3) rfl (fun _ => rfl) ?_
      refine dp_s1 hF (i := .iconst 0) rfl (fun _ => rfl) ?_
      refine dp_s3 hF (i := .laload) rfl (fun _ => rfl) ?_
      refine dp_s1 hF (i := .lload 6) rfl (fun _ => rfl) ?_
      refine dp_s1 hF (i := .lcmp) rfl (fun _ => rfl) ?_
      refine dp_s2 hF (i := .ifCond .eq 5) (a := (4807, [some (.retAddr 0), some (.ref 0), some (.ref 114), some (.ref 245), some (.int v4), some (.int r2), some (.long r4), none], [], M5)) (b := (4805, [some (.retAddr 0), some (.ref 0), some (.ref 114), some (.ref 245), some (.int v4), some (.int r2), some (.long r4), none], [], M5)) rfl (fun _ => rfl) ?_ ?_
      · refine dp_s1 hF (i := .goto 1325) rfl (fun _ => rfl) ?_
        exact rfl
      refine dp_s1 hF (i := .iconst 0) rfl (fun _ => rfl) ?_
      exact dp_s0 hF (i := .ireturn) rfl (fun _ => rfl)
    refine dp_s1 hF (i := .goto 1325) rfl (fun _ => rfl) ?_
    exact rfl
  refine dp_s1 hF (i := .iconst 0) rfl (fun _ => rfl) ?_
  exact dp_s0 hF (i := .ireturn) rfl (fun _ => rfl)
set_option maxRecDepth 20000 in
theorem D_L_law_4810_eq (xs : Nat → Int32) (xl d : Nat) (v4 : Int32) (u5 : Option Value) (u6 : Option Value) (u7 : Option Value) (M : dp_M) : D_L_law_4810 xs xl d v4 u5 u6 u7 M = if (v4 + (1 : Int32)) < 0 ∨ xl ≤ Int32.toNatClampNeg (v4 + (1 : Int32)) then none else (if (v4 + (2 : Int32)) < 0 ∨ xl ≤ Int32.toNatClampNeg (v4 + (2 : Int32)) then none else (if (v4 + (3 : Int32)) < 0 ∨ xl ≤ Int32.toNatClampNeg (v4 + (3 : Int32)) then none else (dp_bi (dp_den true xs xl d 641 [.ref 0, .int (xs (Int32.toNatClampNeg (v4 + (1 : Int32)))), .int (xs (Int32.toNatClampNeg (v4 + (2 : Int32)))), .int (xs (Int32.toNatClampNeg (v4 + (3 : Int32)))), .ref 245] M) (fun r2 M1 => if (v4 + (1 : Int32)) < 0 ∨ xl ≤ Int32.toNatClampNeg (v4 + (1 : Int32)) then none else (if (v4 + (2 : Int32)) < 0 ∨ xl ≤ Int32.toNatClampNeg (v4 + (2 : Int32)) then none else (if (v4 + (3 : Int32)) < 0 ∨ xl ≤ Int32.toNatClampNeg (v4 + (3 : Int32)) then none else (dp_bl (dp_den true xs xl d 558 [.ref 114, .int (xs (Int32.toNatClampNeg (v4 + (1 : Int32)))), .int (xs (Int32.toNatClampNeg (v4 + (2 : Int32)))), .int (xs (Int32.toNatClampNeg (v4 + (3 : Int32))))] M1) (fun r4 M3 => dp_bi (dp_den true xs xl d 365 [.ref 114] M3) (fun r6 M5 => if r6 = r2 then (if r2 = 0 then (if (0 : Int32) < 0 ∨ 1 ≤ Int32.toNatClampNeg (0 : Int32) then none else (if (lg_cmp (dp_J M5 245 (Int32.toNatClampNeg (0 : Int32))) r4) = 0 then (D_L_law_6132 xs xl d v4 (some (.int r2)) (some (.long r4)) none M5) else (some (.inl (some (.int (0 : Int32))), M5)))) else (D_L_law_6132 xs xl d v4 (some (.int r2)) (some (.long r4)) none M5)) else (some (.inl (some (.int (0 : Int32))), M5))))))))))) := by
  have hF := dp_den_grow (md := true) (xs := xs) (xl := xl) d
  unfold D_L_law_4810
  refine dp_s1 hF (i := .aload_n 1) rfl (fun _ => rfl) ?_
  refine dp_s1 hF (i := .aload_n 0) rfl (fun _ => rfl) ?_
  refine dp_s1 hF (i := .iload 4) rfl (fun _ => rfl) ?_
  refine dp_s1 hF (i := .iconst 1) rfl (fun _ => rfl) ?_
  refine dp_s1 hF (i := .iadd) rfl (fun _ => rfl) ?_
  refine dp_s3 hF (i := .iaload) rfl (fun _ => rfl) ?_
  refine dp_s1 hF (i := .aload_n 0) rfl (fun _ => rfl) ?_
  refine dp_s1 hF (i := .iload 4) rfl (fun _ => rfl) ?_
  refine dp_s1 hF (i := .iconst 2) rfl (fun _ => rfl) ?_
  refine dp_s1 hF (i := .iadd) rfl (fun _ => rfl) ?_
  refine dp_s3 hF (i := .iaload) rfl (fun _ => rfl) ?_
  refine dp_s1 hF (i := .aload_n 0) rfl (fun _ => rfl) ?_
  refine dp_s1 hF (i := .iload 4) rfl (fun _ => rfl) ?_
  refine dp_s1 hF (i := .iconst 3) rfl (fun _ => rfl) ?_
  refine dp_s1 hF (i := .iadd) rfl (fun _ => rfl) ?_
  refine dp_s3 hF (i := .iaload) rfl (fun _ => rfl) ?_
  refine dp_s1 hF (i := .aload_n 3) rfl (fun _ => rfl) ?_
  refine dp_si (mj := dp_m_L_statement) (i := .invokestatic 473) rfl rfl (Or.inl rfl) rfl (fun _ => rfl) (fun r2 M1 => ?_)
  refine dp_s1 hF (i := .istore 5) rfl (fun _ => rfl) ?_
  refine dp_s1 hF (i := .aload_n 2) rfl (fun _ => rfl) ?_
  refine dp_s1 hF (i := .aload_n 0) rfl (fun _ => rfl) ?_
  refine dp_s1 hF (i := .iload 4) rfl (fun _ => rfl) ?_
  refine dp_s1 hF (i := .iconst 1) rfl (fun _ => rfl) ?_
  refine dp_s1 hF (i := .iadd) rfl (fun _ => rfl) ?_
  refine dp_s3 hF (i := .iaload) rfl (fun _ => rfl) ?_
  refine dp_s1 hF (i := .aload_n 0) rfl (fun _ => rfl) ?_
  refine dp_s1 hF (i := .iload 4) rfl (fun _ => rfl) ?_
  refine dp_s1 hF (i := .iconst 2) rfl (fun _ => rfl) ?_
  refine dp_s1 hF (i := .iadd) rfl (fun _ => rfl) ?_
  refine dp_s3 hF (i := .iaload) rfl (fun _ => rfl) ?_
  refine dp_s1 hF (i := .aload_n 0) rfl (fun _ => rfl) ?_
  refine dp_s1 hF (i := .iload 4) rfl (fun _ => rfl) ?_
  refine dp_s1 hF (i := .iconst 3) rfl (fun _ => rfl) ?_
  refine dp_s1 hF (i := .iadd) rfl (fun _ => rfl) ?_
  refine dp_s3 hF (i := .iaload) rfl (fun _ => rfl) ?_
  refine dp_sl9 (mj := dp_m_X12_statement) (i := .invokevirtual 475) rfl rfl rfl rfl (fun _ => rfl) (fun r4 M3 => ?_)
  refine dp_s1 hF (i := .lstore 6) rfl (fun _ => rfl) ?_
  refine dp_s1 hF (i := .aload_n 2) rfl (fun _ => rfl) ?_
  refine dp_si (mj := dp_m_X12_thrown) (i := .invokevirtual 229) rfl rfl (Or.inl rfl) rfl (fun _ => rfl) (fun r6 M5 => ?_)
  refine dp_s1 hF (i := .iload 5) rfl (fun _ => rfl) ?_
  refine dp_s2 hF (i := .if_icmp .eq 5) (a := (4870, [some (.retAddr 0), some (.ref 0), some (.ref 114), some (.ref 245), some (.int v4), some (.int r2), some (.long r4), none], [], M5)) (b := (4868, [some (.retAddr 0), some (.ref 0), some (.ref 114), some (.ref 245), some (.int v4), some (.int r2), some (.long r4), none], [], M5)) rfl (fun _ => rfl) ?_ ?_
  · refine dp_s1 hF (i := .iload 5) rfl (fun _ => rfl) ?_
    refine dp_s2 hF (i := .ifCond .ne 14) (a := (4875, [some (.retAddr 0), some (.ref 0), some (.ref 114), some (.ref 245), some (.int v4), some (.int r2), some (.long r4), none], [], M5)) (b := (4886, [some (.retAddr 0), some (.ref 0), some (.ref 114), some (.ref 245), some (.int v4), some (.int r2), some (.long r4), none], [], M5)) rfl (fun _ => rfl) ?_ ?_
    · refine dp_s1 hF (i := .aload_n 3) rfl (fun _ => rfl) ?_
      refine dp_s1 hF (i := .iconst 0) rfl (fun _ => rfl) ?_
      refine dp_s3 hF (i := .laload) rfl (fun _ => rfl) ?_
      refine dp_s1 hF (i := .lload 6) rfl (fun _ => rfl) ?_
      refine dp_s1 hF (i := .lcmp) rfl (fun _ => rfl) ?_
      refine dp_s2 hF (i := .ifCond .eq 5) (a := (4886, [some (.retAddr 0), some (.ref 0), some (.ref 114), some (.ref 245), some (.int v4), some (.int r2), some (.long r4), none], [], M5)) (b := (4884, [some (.retAddr 0), some (.ref 0), some (.ref 114), some (.ref 245), some (.int v4), some (.int r2), some (.long r4), none], [], M5)) rfl (fun _ => rfl) ?_ ?_
      · refine dp_s1 hF (i := .goto 1246) rfl (fun _ => rfl) ?_
        exact rfl
      refine dp_s1 hF (i := .iconst 0) rfl (fun _ => rfl) ?_
      exact dp_s0 hF (i := .ireturn) rfl (fun _ => rfl)
    refine dp_s1 hF (i := .goto 1246) rfl (fun _ => rfl) ?_
    exact rfl
  refine dp_s1 hF (i := .iconst 0) rfl (fun _ => rfl) ?_
  exact dp_s0 hF (i := .ireturn) rfl (fun _ => rfl)
set_option maxRecDepth 20000 in
theorem D_L_law_4889_eq (xs : Nat → Int32) (xl d : Nat) (v4 : Int32) (u5 : Option Value) (u6 : Option Value) (u7 : Option Value) (M : dp_M) : D_L_law_4889 xs xl d v4 u5 u6 u7 M = if (v4 + (1 : Int32)) < 0 ∨ xl ≤ Int32.toNatClampNeg (v4 + (1 : Int32)) then none else (if (v4 + (2 : Int32)) < 0 ∨ xl ≤ Int32.toNatClampNeg (v4 + (2 : Int32)) then none else (if (v4 + (3 : Int32)) < 0 ∨ xl ≤ Int32.toNatClampNeg (v4 + (3 : Int32)) then none else (dp_bi (dp_den true xs xl d 343 [.ref 0, .int (xs (Int32.toNatClampNeg (v4 + (1 : Int32)))), .int (xs (Int32.toNatClampNeg (v4 + (2 : Int32)))), .int (xs (Int32.toNatClampNeg (v4 + (3 : Int32))))] M) (fun r2 M1 => if (v4 + (1 : Int32)) < 0 ∨ xl ≤ Int32.toNatClampNeg (v4 + (1 : Int32)) then none else (if (v4 + (2 : Int32)) < 0 ∨ xl ≤ Int32.toNatClampNeg (v4 + (2 : Int32)) then none else (if (v4 + (3 : Int32)) < 0 ∨ xl ≤ Int32.toNatClampNeg (v4 + (3 : Int32)) then none else (dp_bi (dp_den true xs xl d 560 [.ref 114, .int (xs (Int32.toNatClampNeg (v4 + (1 : Int32)))), .int (xs (Int32.toNatClampNeg (v4 + (2 : Int32)))), .int (xs (Int32.toNatClampNeg (v4 + (3 : Int32))))] M1) (fun r4 M3 => if r2 = r4 then (D_L_law_6132 xs xl d v4 u5 u6 u7 M3) else (some (.inl (some (.int (0 : Int32))), M3)))))))))) := by
  have hF := dp_den_grow (md := true) (xs := xs) (xl := xl) d
  unfold D_L_law_4889
  refine dp_s1 hF (i := .aload_n 1) rfl (fun _ => rfl) ?_
  refine dp_s1 hF (i := .aload_n 0) rfl (fun _ => rfl) ?_
  refine dp_s1 hF (i := .iload 4) rfl (fun _ => rfl) ?_
  refine dp_s1 hF (i := .iconst 1) rfl (fun _ => rfl) ?_
  refine dp_s1 hF (i := .iadd) rfl (fun _ => rfl) ?_
  refine dp_s3 hF (i := .iaload) rfl (fun _ => rfl) ?_
  refine dp_s1 hF (i := .aload_n 0) rfl (fun _ => rfl) ?_
  refine dp_s1 hF (i := .iload 4) rfl (fun _ => rfl) ?_
  refine dp_s1 hF (i := .iconst 2) rfl (fun _ => rfl) ?_
  refine dp_s1 hF (i := .iadd) rfl (fun _ => rfl) ?_
  refine dp_s3 hF (i := .iaload) rfl (fun _ => rfl) ?_
  refine dp_s1 hF (i := .aload_n 0) rfl (fun _ => rfl) ?_
  refine dp_s1 hF (i := .iload 4) rfl (fun _ => rfl) ?_
  refine dp_s1 hF (i := .iconst 3) rfl (fun _ => rfl) ?_
  refine dp_s1 hF (i := .iadd) rfl (fun _ => rfl) ?_
  refine dp_s3 hF (i := .iaload) rfl (fun _ => rfl) ?_
  refine dp_si (mj := dp_m_X11_share) (i := .invokevirtual 476) rfl rfl (Or.inr rfl) rfl (fun _ => rfl) (fun r2 M1 => ?_)
  refine dp_s1 hF (i := .aload_n 2) rfl (fun _ => rfl) ?_
  refine dp_s1 hF (i := .aload_n 0) rfl (fun _ => rfl) ?_
  refine dp_s1 hF (i := .iload 4) rfl (fun _ => rfl) ?_
  refine dp_s1 hF (i := .iconst 1) rfl (fun _ => rfl) ?_
  refine dp_s1 hF (i := .iadd) rfl (fun _ => rfl) ?_
  refine dp_s3 hF (i := .iaload) rfl (fun _ => rfl) ?_
  refine dp_s1 hF (i := .aload_n 0) rfl (fun _ => rfl) ?_
  refine dp_s1 hF (i := .iload 4) rfl (fun _ => rfl) ?_
  refine dp_s1 hF (i := .iconst 2) rfl (fun _ => rfl) ?_
  refine dp_s1 hF (i := .iadd) rfl (fun _ => rfl) ?_
  refine dp_s3 hF (i := .iaload) rfl (fun _ => rfl) ?_
  refine dp_s1 hF (i := .aload_n 0) rfl (fun _ => rfl) ?_
  refine dp_s1 hF (i := .iload 4) rfl (fun _ => rfl) ?_
  refine dp_s1 hF (i := .iconst 3) rfl (fun _ => rfl) ?_
  refine dp_s1 hF (i := .iadd) rfl (fun _ => rfl) ?_
  refine dp_s3 hF (i := .iaload) rfl (fun _ => rfl) ?_
  refine dp_si (mj := dp_m_X12_share) (i := .invokevirtual 479) rfl rfl (Or.inr rfl) rfl (fun _ => rfl) (fun r4 M3 => ?_)
  refine dp_s2 hF (i := .if_icmp .eq 1199) (a := (6132, [some (.retAddr 0), some (.ref 0), some (.ref 114), some (.ref 245), some (.int v4), u5, u6, u7], [], M3)) (b := (4936, [some (.retAddr 0), some (.ref 0), some (.ref 114), some (.ref 245), some (.int v4), u5, u6, u7], [], M3)) rfl (fun _ => rfl) ?_ ?_
  · exact rfl
  refine dp_s1 hF (i := .iconst 0) rfl (fun _ => rfl) ?_
  exact dp_s0 hF (i := .ireturn) rfl (fun _ => rfl)
set_option maxRecDepth 20000 in
theorem D_L_law_4938_eq (xs : Nat → Int32) (xl d : Nat) (v4 : Int32) (u5 : Option Value) (u6 : Option Value) (u7 : Option Value) (M : dp_M) : D_L_law_4938 xs xl d v4 u5 u6 u7 M = if (v4 + (1 : Int32)) < 0 ∨ xl ≤ Int32.toNatClampNeg (v4 + (1 : Int32)) then none else (if (v4 + (2 : Int32)) < 0 ∨ xl ≤ Int32.toNatClampNeg (v4 + (2 : Int32)) then none else (dp_bi (dp_den true xs xl d 344 [.ref 0, .int (xs (Int32.toNatClampNeg (v4 + (1 : Int32)))), .int (xs (Int32.toNatClampNeg (v4 + (2 : Int32))))] M) (fun r2 M1 => if (v4 + (1 : Int32)) < 0 ∨ xl ≤ Int32.toNatClampNeg (v4 + (1 : Int32)) then none else (if (v4 + (2 : Int32)) < 0 ∨ xl ≤ Int32.toNatClampNeg (v4 + (2 : Int32)) then none else (dp_bi (dp_den true xs xl d 561 [.ref 114, .int (xs (Int32.toNatClampNeg (v4 + (1 : Int32)))), .int (xs (Int32.toNatClampNeg (v4 + (2 : Int32))))] M1) (fun r4 M3 => if r2 = r4 then (D_L_law_6132 xs xl d v4 u5 u6 u7 M3) else (some (.inl (some (.int (0 : Int32))), M3)))))))) := by
  have hF := dp_den_grow (md := true) (xs := xs) (xl := xl) d
  unfold D_L_law_4938
  refine dp_s1 hF (i := .aload_n 1) rfl (fun _ => rfl) ?_
  refine dp_s1 hF (i := .aload_n 0) rfl (fun _ => rfl) ?_
  refine dp_s1 hF (i := .iload 4) rfl (fun _ => rfl) ?_
  refine dp_s1 hF (i := .iconst 1) rfl (fun _ => rfl) ?_
  refine dp_s1 hF (i := .iadd) rfl (fun _ => rfl) ?_
  refine dp_s3 hF (i := .iaload) rfl (fun _ => rfl) ?_
  refine dp_s1 hF (i := .aload_n 0) rfl (fun _ => rfl) ?_
  refine dp_s1 hF (i := .iload 4) rfl (fun _ => rfl) ?_
  refine dp_s1 hF (i := .iconst 2) rfl (fun _ => rfl) ?_
  refine dp_s1 hF (i := .iadd) rfl (fun _ => rfl) ?_
  refine dp_s3 hF (i := .iaload) rfl (fun _ => rfl) ?_
  refine dp_si (mj := dp_m_X11_cost) (i := .invokevirtual 480) rfl rfl (Or.inr rfl) rfl (fun _ => rfl) (fun r2 M1 => ?_)
  refine dp_s1 hF (i := .aload_n 2) rfl (fun _ => rfl) ?_
  refine dp_s1 hF (i := .aload_n 0) rfl (fun _ => rfl) ?_
  refine dp_s1 hF (i := .iload 4) rfl (fun _ => rfl) ?_
  refine dp_s1 hF (i := .iconst 1) rfl (fun _ => rfl) ?_
  refine dp_s1 hF (i := .iadd) rfl (fun _ => rfl) ?_
  refine dp_s3 hF (i := .iaload) rfl (fun _ => rfl) ?_
  refine dp_s1 hF (i := .aload_n 0) rfl (fun _ => rfl) ?_
  refine dp_s1 hF (i := .iload 4) rfl (fun _ => rfl) ?_
  refine dp_s1 hF (i := .iconst 2) rfl (fun _ => rfl) ?_
  refine dp_s1 hF (i := .iadd) rfl (fun _ => rfl) ?_
  refine dp_s3 hF (i := .iaload) rfl (fun _ => rfl) ?_
  refine dp_si (mj := dp_m_X12_cost) (i := .invokevirtual 483) rfl rfl (Or.inr rfl) rfl (fun _ => rfl) (fun r4 M3 => ?_)
  refine dp_s2 hF (i := .if_icmp .eq 1162) (a := (6132, [some (.retAddr 0), some (.ref 0), some (.ref 114), some (.ref 245), some (.int v4), u5, u6, u7], [], M3)) (b := (4973, [some (.retAddr 0), some (.ref 0), some (.ref 114), some (.ref 245), some (.int v4), u5, u6, u7], [], M3)) rfl (fun _ => rfl) ?_ ?_
  · exact rfl
  refine dp_s1 hF (i := .iconst 0) rfl (fun _ => rfl) ?_
  exact dp_s0 hF (i := .ireturn) rfl (fun _ => rfl)
set_option maxRecDepth 20000 in
theorem D_L_law_4975_eq (xs : Nat → Int32) (xl d : Nat) (v4 : Int32) (u5 : Option Value) (u6 : Option Value) (u7 : Option Value) (M : dp_M) : D_L_law_4975 xs xl d v4 u5 u6 u7 M = if (v4 + (1 : Int32)) < 0 ∨ xl ≤ Int32.toNatClampNeg (v4 + (1 : Int32)) then none else (if (v4 + (2 : Int32)) < 0 ∨ xl ≤ Int32.toNatClampNeg (v4 + (2 : Int32)) then none else (if (v4 + (3 : Int32)) < 0 ∨ xl ≤ Int32.toNatClampNeg (v4 + (3 : Int32)) then none else (dp_bi (dp_den true xs xl d 642 [.ref 0, .int (xs (Int32.toNatClampNeg (v4 + (1 : Int32)))), .int (xs (Int32.toNatClampNeg (v4 + (2 : Int32)))), .int (xs (Int32.toNatClampNeg (v4 + (3 : Int32)))), .ref 245] M) (fun r2 M1 => if (v4 + (1 : Int32)) < 0 ∨ xl ≤ Int32.toNatClampNeg (v4 + (1 : Int32)) then none else (if (v4 + (2 : Int32)) < 0 ∨ xl ≤ Int32.toNatClampNeg (v4 + (2 : Int32)) then none else (if (v4 + (3 : Int32)) < 0 ∨ xl ≤ Int32.toNatClampNeg (v4 + (3 : Int32)) then none else (dp_bl (dp_den true xs xl d 563 [.ref 114, .int (xs (Int32.toNatClampNeg (v4 + (1 : Int32)))), .int (xs (Int32.toNatClampNeg (v4 + (2 : Int32)))), .int (xs (Int32.toNatClampNeg (v4 + (3 : Int32))))] M1) (fun r4 M3 => dp_bi (dp_den true xs xl d 365 [.ref 114] M3) (fun r6 M5 => if r6 = r2 then (if r2 = 0 then (if (0 : Int32) < 0 ∨ 1 ≤ Int32.toNatClampNeg (0 : Int32) then none else (if (lg_cmp (dp_J M5 245 (Int32.toNatClampNeg (0 : Int32))) r4) = 0 then (D_L_law_6132 xs xl d v4 (some (.int r2)) (some (.long r4)) none M5) else (some (.inl (some (.int (0 : Int32))), M5)))) else (D_L_law_6132 xs xl d v4 (some (.int r2)) (some (.long r4)) none M5)) else (some (.inl (some (.int (0 : Int32))), M5))))))))))) := by
  have hF := dp_den_grow (md := true) (xs := xs) (xl := xl) d
  unfold D_L_law_4975
  refine dp_s1 hF (i := .aload_n 1) rfl (fun _ => rfl) ?_
  refine dp_s1 hF (i := .aload_n 0) rfl (fun _ => rfl) ?_
  refine dp_s1 hF (i := .iload 4) rfl (fun _ => rfl) ?_
  refine dp_s1 hF (i := .iconst 1) rfl (fun _ => rfl) ?_
  refine dp_s1 hF (i := .iadd) rfl (fun _ => rfl) ?_
  refine dp_s3 hF (i := .iaload) rfl (fun _ => rfl) ?_
  refine dp_s1 hF (i := .aload_n 0) rfl (fun _ => rfl) ?_
  refine dp_s1 hF (i := .iload 4) rfl (fun _ => rfl) ?_
  refine dp_s1 hF (i := .iconst 2) rfl (fun _ => rfl) ?_
  refine dp_s1 hF (i := .iadd) rfl (fun _ => rfl) ?_
  refine dp_s3 hF (i := .iaload) rfl (fun _ => rfl) ?_
  refine dp_s1 hF (i := .aload_n 0) rfl (fun _ => rfl) ?_
  refine dp_s1 hF (i := .iload 4) rfl (fun _ => rfl) ?_
  refine dp_s1 hF (i := .iconst 3) rfl (fun _ => rfl) ?_
  refine dp_s1 hF (i := .iadd) rfl (fun _ => rfl) ?_
  refine dp_s3 hF (i := .iaload) rfl (fun _ => rfl) ?_
  refine dp_s1 hF (i := .aload_n 3) rfl (fun _ => rfl) ?_
  refine dp_si (mj := dp_m_L_passed) (i := .invokestatic 484) rfl rfl (Or.inl rfl) rfl (fun _ => rfl) (fun r2 M1 => ?_)
  refine dp_s1 hF (i := .istore 5) rfl (fun _ => rfl) ?_
  refine dp_s1 hF (i := .aload_n 2) rfl (fun _ => rfl) ?_
  refine dp_s1 hF (i := .aload_n 0) rfl (fun _ => rfl) ?_
  refine dp_s1 hF (i := .iload 4) rfl (fun _ => rfl) ?_
  refine dp_s1 hF (i := .iconst 1) rfl (fun _ => rfl) ?_
  refine dp_s1 hF (i := .iadd) rfl (fun _ => rfl) ?_
  refine dp_s3 hF (i := .iaload) rfl (fun _ => rfl) ?_
  refine dp_s1 hF (i := .aload_n 0) rfl (fun _ => rfl) ?_
  refine dp_s1 hF (i := .iload 4) rfl (fun _ => rfl) ?_
  refine dp_s1 hF (i := .iconst 2) rfl (fun _ => rfl) ?_
  refine dp_s1 hF (i := .iadd) rfl (fun _ => rfl) ?_
  refine dp_s3 hF (i := .iaload) rfl (fun _ => rfl) ?_
  refine dp_s1 hF (i := .aload_n 0) rfl (fun _ => rfl) ?_
  refine dp_s1 hF (i := .iload 4) rfl (fun _ => rfl) ?_
  refine dp_s1 hF (i := .iconst 3) rfl (fun _ => rfl) ?_
  refine dp_s1 hF (i := .iadd) rfl (fun _ => rfl) ?_
  refine dp_s3 hF (i := .iaload) rfl (fun _ => rfl) ?_
  refine dp_sl9 (mj := dp_m_X12_passed) (i := .invokevirtual 486) rfl rfl rfl rfl (fun _ => rfl) (fun r4 M3 => ?_)
  refine dp_s1 hF (i := .lstore 6) rfl (fun _ => rfl) ?_
  refine dp_s1 hF (i := .aload_n 2) rfl (fun _ => rfl) ?_
  refine dp_si (mj := dp_m_X12_thrown) (i := .invokevirtual 229) rfl rfl (Or.inl rfl) rfl (fun _ => rfl) (fun r6 M5 => ?_)
  refine dp_s1 hF (i := .iload 5) rfl (fun _ => rfl) ?_
  refine dp_s2 hF (i := .if_icmp .eq 5) (a := (5035, [some (.retAddr 0), some (.ref 0), some (.ref 114), some (.ref 245), some (.int v4), some (.int r2), some (.long r4), none], [], M5)) (b := (5033, [some (.retAddr 0), some (.ref 0), some (.ref 114), some (.ref 245), some (.int v4), some (.int r2), some (.long r4), none], [], M5)) rfl (fun _ => rfl) ?_ ?_
  · refine dp_s1 hF (i := .iload 5) rfl (fun _ => rfl) ?_
    refine dp_s2 hF (i := .ifCond .ne 14) (a := (5040, [some (.retAddr 0), some (.ref 0), some (.ref 114), some (.ref 245), some (.int v4), some (.int r2), some (.long r4), none], [], M5)) (b := (5051, [some (.retAddr 0), some (.ref 0), some (.ref 114), some (.ref 245), some (.int v4), some (.int r2), some (.long r4), none], [], M5)) rfl (fun _ => rfl) ?_ ?_
    · refine dp_s1 hF (i := .aload_n 3) rfl (fun _ => rfl) ?_
      refine dp_s1 hF (i := .iconst 0) rfl (fun _ => rfl) ?_
      refine dp_s3 hF (i := .laload) rfl (fun _ => rfl) ?_
      refine dp_s1 hF (i := .lload 6) rfl (fun _ => rfl) ?_
      refine dp_s1 hF (i := .lcmp) rfl (fun _ => rfl) ?_
      refine dp_s2 hF (i := .ifCond .eq 5) (a := (5051, [some (.retAddr 0), some (.ref 0), some (.ref 114), some (.ref 245), some (.int v4), some (.int r2), some (.long r4), none], [], M5)) (b := (5049, [some (.retAddr 0), some (.ref 0), some (.ref 114), some (.ref 245), some (.int v4), some (.int r2), some (.long r4), none], [], M5)) rfl (fun _ => rfl) ?_ ?_
      · refine dp_s1 hF (i := .goto 1081) rfl (fun _ => rfl) ?_
        exact rfl
      refine dp_s1 hF (i := .iconst 0) rfl (fun _ => rfl) ?_
      exact dp_s0 hF (i := .ireturn) rfl (fun _ => rfl)
    refine dp_s1 hF (i := .goto 1081) rfl (fun _ => rfl) ?_
    exact rfl
  refine dp_s1 hF (i := .iconst 0) rfl (fun _ => rfl) ?_
  exact dp_s0 hF (i := .ireturn) rfl (fun _ => rfl)
set_option maxRecDepth 20000 in
theorem D_L_law_5054_eq (xs : Nat → Int32) (xl d : Nat) (v4 : Int32) (u5 : Option Value) (u6 : Option Value) (u7 : Option Value) (M : dp_M) : D_L_law_5054 xs xl d v4 u5 u6 u7 M = if (v4 + (1 : Int32)) < 0 ∨ xl ≤ Int32.toNatClampNeg (v4 + (1 : Int32)) then none else (if (v4 + (2 : Int32)) < 0 ∨ xl ≤ Int32.toNatClampNeg (v4 + (2 : Int32)) then none else (dp_bi (dp_den true xs xl d 643 [.ref 0, .int (xs (Int32.toNatClampNeg (v4 + (1 : Int32)))), .int (xs (Int32.toNatClampNeg (v4 + (2 : Int32)))), .ref 245] M) (fun r2 M1 => if (v4 + (1 : Int32)) < 0 ∨ xl ≤ Int32.toNatClampNeg (v4 + (1 : Int32)) then none else (if (v4 + (2 : Int32)) < 0 ∨ xl ≤ Int32.toNatClampNeg (v4 + (2 : Int32)) then none else (dp_bl (dp_den true xs xl d 564 [.ref 114, .int (xs (Int32.toNatClampNeg (v4 + (1 : Int32)))), .int (xs (Int32.toNatClampNeg (v4 + (2 : Int32))))] M1) (fun r4 M3 => dp_bi (dp_den true xs xl d 365 [.ref 114] M3) (fun r6 M5 => if r6 = r2 then (if r2 = 0 then (if (0 : Int32) < 0 ∨ 1 ≤ Int32.toNatClampNeg (0 : Int32) then none else (if (lg_cmp (dp_J M5 245 (Int32.toNatClampNeg (0 : Int32))) r4) = 0 then (D_L_law_6132 xs xl d v4 (some (.int r2)) (some (.long r4)) none M5) else (some (.inl (some (.int (0 : Int32))), M5)))) else (D_L_law_6132 xs xl d v4 (some (.int r2)) (some (.long r4)) none M5)) else (some (.inl (some (.int (0 : Int32))), M5))))))))) := by
  have hF := dp_den_grow (md := true) (xs := xs) (xl := xl) d
  unfold D_L_law_5054
  refine dp_s1 hF (i := .aload_n 1) rfl (fun _ => rfl) ?_
  refine dp_s1 hF (i := .aload_n 0) rfl (fun _ => rfl) ?_
  refine dp_s1 hF (i := .iload 4) rfl (fun _ => rfl) ?_
  refine dp_s1 hF (i := .iconst 1) rfl (fun _ => rfl) ?_
  refine dp_s1 hF (i := .iadd) rfl (fun _ => rfl) ?_
  refine dp_s3 hF (i := .iaload) rfl (fun _ => rfl) ?_
  refine dp_s1 hF (i := .aload_n 0) rfl (fun _ => rfl) ?_
  refine dp_s1 hF (i := .iload 4) rfl (fun _ => rfl) ?_
  refine dp_s1 hF (i := .iconst 2) rfl (fun _ => rfl) ?_
  refine dp_s1 hF (i := .iadd) rfl (fun _ => rfl) ?_
  refine dp_s3 hF (i := .iaload) rfl (fun _ => rfl) ?_
  refine dp_s1 hF (i := .aload_n 3) rfl (fun _ => rfl) ?_
  refine dp_si (mj := dp_m_L_read) (i := .invokestatic 487) rfl rfl (Or.inl rfl) rfl (fun _ => rfl) (fun r2 M1 => ?_)
  refine dp_s1 hF (i := .istore 5) rfl (fun _ => rfl) ?_
  refine dp_s1 hF (i := .aload_n 2) rfl (fun _ => rfl) ?_
  refine dp_s1 hF (i := .aload_n 0) rfl (fun _ => rfl) ?_
  refine dp_s1 hF (i := .iload 4) rfl (fun _ => rfl) ?_
  refine dp_s1 hF (i := .iconst 1) rfl (fun _ => rfl) ?_
  refine dp_s1 hF (i := .iadd) rfl (fun _ => rfl) ?_
  refine dp_s3 hF (i := .iaload) rfl (fun _ => rfl) ?_
  refine dp_s1 hF (i := .aload_n 0) rfl (fun _ => rfl) ?_
  refine dp_s1 hF (i := .iload 4) rfl (fun _ => rfl) ?_
  refine dp_s1 hF (i := .iconst 2) rfl (fun _ => rfl) ?_
  refine dp_s1 hF (i := .iadd) rfl (fun _ => rfl) ?_
  refine dp_s3 hF (i := .iaload) rfl (fun _ => rfl) ?_
  refine dp_sl9 (mj := dp_m_X12_read) (i := .invokevirtual 489) rfl rfl rfl rfl (fun _ => rfl) (fun r4 M3 => ?_)
  refine dp_s1 hF (i := .lstore 6) rfl (fun _ => rfl) ?_
  refine dp_s1 hF (i := .aload_n 2) rfl (fun _ => rfl) ?_
  refine dp_si (mj := dp_m_X12_thrown) (i := .invokevirtual 229) rfl rfl (Or.inl rfl) rfl (fun _ => rfl) (fun r6 M5 => ?_)
  refine dp_s1 hF (i := .iload 5) rfl (fun _ => rfl) ?_
  refine dp_s2 hF (i := .if_icmp .eq 5) (a := (5102, [some (.retAddr 0), some (.ref 0), some (.ref 114), some (.ref 245), some (.int v4), some (.int r2), some (.long r4), none], [], M5)) (b := (5100, [some (.retAddr 0), some (.ref 0), some (.ref 114), some (.ref 245), some (.int v4), some (.int r2), some (.long r4), none], [], M5)) rfl (fun _ => rfl) ?_ ?_
  · refine dp_s1 hF (i := .iload 5) rfl (fun _ => rfl) ?_
    refine dp_s2 hF (i := .ifCond .ne 14) (a := (5107, [some (.retAddr 0), some (.ref 0), some (.ref 114), some (.ref 245), some (.int v4), some (.int r2), some (.long r4), none], [], M5)) (b := (5118, [some (.retAddr 0), some (.ref 0), some (.ref 114), some (.ref 245), some (.int v4), some (.int r2), some (.long r4), none], [], M5)) rfl (fun _ => rfl) ?_ ?_
    · refine dp_s1 hF (i := .aload_n 3) rfl (fun _ => rfl) ?_
      refine dp_s1 hF (i := .iconst 0) rfl (fun _ => rfl) ?_
      refine dp_s3 hF (i := .laload) rfl (fun _ => rfl) ?_
      refine dp_s1 hF (i := .lload 6) rfl (fun _ => rfl) ?_
      refine dp_s1 hF (i := .lcmp) rfl (fun _ => rfl) ?_
      refine dp_s2 hF (i := .ifCond .eq 5) (a := (5118, [some (.retAddr 0), some (.ref 0), some (.ref 114), some (.ref 245), some (.int v4), some (.int r2), some (.long r4), none], [], M5)) (b := (5116, [some (.retAddr 0), some (.ref 0), some (.ref 114), some (.ref 245), some (.int v4), some (.int r2), some (.long r4), none], [], M5)) rfl (fun _ => rfl) ?_ ?_
      · refine dp_s1 hF (i := .goto 1014) rfl (fun _ => rfl) ?_
        exact rfl
      refine dp_s1 hF (i := .iconst 0) rfl (fun _ => rfl) ?_
      exact dp_s0 hF (i := .ireturn) rfl (fun _ => rfl)
    refine dp_s1 hF (i := .goto 1014) rfl (fun _ => rfl) ?_
    exact rfl
  refine dp_s1 hF (i := .iconst 0) rfl (fun _ => rfl) ?_
  exact dp_s0 hF (i := .ireturn) rfl (fun _ => rfl)
set_option maxRecDepth 20000 in
theorem D_L_law_5121_eq (xs : Nat → Int32) (xl d : Nat) (v4 : Int32) (u5 : Option Value) (u6 : Option Value) (u7 : Option Value) (M : dp_M) : D_L_law_5121 xs xl d v4 u5 u6 u7 M = if (v4 + (1 : Int32)) < 0 ∨ xl ≤ Int32.toNatClampNeg (v4 + (1 : Int32)) then none else (if (v4 + (2 : Int32)) < 0 ∨ xl ≤ Int32.toNatClampNeg (v4 + (2 : Int32)) then none else (dp_bi (dp_den true xs xl d 644 [.ref 0, .int (xs (Int32.toNatClampNeg (v4 + (1 : Int32)))), .int (xs (Int32.toNatClampNeg (v4 + (2 : Int32)))), .ref 245] M) (fun r2 M1 => if (v4 + (1 : Int32)) < 0 ∨ xl ≤ Int32.toNatClampNeg (v4 + (1 : Int32)) then none else (if (v4 + (2 : Int32)) < 0 ∨ xl ≤ Int32.toNatClampNeg (v4 + (2 : Int32)) then none else (dp_bi (dp_den true xs xl d 565 [.ref 114, .int (xs (Int32.toNatClampNeg (v4 + (1 : Int32)))), .int (xs (Int32.toNatClampNeg (v4 + (2 : Int32))))] M1) (fun r4 M3 => dp_bi (dp_den true xs xl d 365 [.ref 114] M3) (fun r6 M5 => if r6 = r2 then (if r2 = 0 then (if (0 : Int32) < 0 ∨ 1 ≤ Int32.toNatClampNeg (0 : Int32) then none else (if (lg_cmp (dp_J M5 245 (Int32.toNatClampNeg (0 : Int32))) (Int32.toInt64 r4)) = 0 then (D_L_law_6132 xs xl d v4 (some (.int r2)) (some (.int r4)) u7 M5) else (some (.inl (some (.int (0 : Int32))), M5)))) else (D_L_law_6132 xs xl d v4 (some (.int r2)) (some (.int r4)) u7 M5)) else (some (.inl (some (.int (0 : Int32))), M5))))))))) := by
  have hF := dp_den_grow (md := true) (xs := xs) (xl := xl) d
  unfold D_L_law_5121
  refine dp_s1 hF (i := .aload_n 1) rfl (fun _ => rfl) ?_
  refine dp_s1 hF (i := .aload_n 0) rfl (fun _ => rfl) ?_
  refine dp_s1 hF (i := .iload 4) rfl (fun _ => rfl) ?_
  refine dp_s1 hF (i := .iconst 1) rfl (fun _ => rfl) ?_
  refine dp_s1 hF (i := .iadd) rfl (fun _ => rfl) ?_
  refine dp_s3 hF (i := .iaload) rfl (fun _ => rfl) ?_
  refine dp_s1 hF (i := .aload_n 0) rfl (fun _ => rfl) ?_
  refine dp_s1 hF (i := .iload 4) rfl (fun _ => rfl) ?_
  refine dp_s1 hF (i := .iconst 2) rfl (fun _ => rfl) ?_
  refine dp_s1 hF (i := .iadd) rfl (fun _ => rfl) ?_
  refine dp_s3 hF (i := .iaload) rfl (fun _ => rfl) ?_
  refine dp_s1 hF (i := .aload_n 3) rfl (fun _ => rfl) ?_
  refine dp_si (mj := dp_m_L_batchOf) (i := .invokestatic 490) rfl rfl (Or.inl rfl) rfl (fun _ => rfl) (fun r2 M1 => ?_)
  refine dp_s1 hF (i := .istore 5) rfl (fun _ => rfl) ?_
  refine dp_s1 hF (i := .aload_n 2) rfl (fun _ => rfl) ?_
  refine dp_s1 hF (i := .aload_n 0) rfl (fun _ => rfl) ?_
  refine dp_s1 hF (i := .iload 4) rfl (fun _ => rfl) ?_
  refine dp_s1 hF (i := .iconst 1) rfl (fun _ => rfl) ?_
  refine dp_s1 hF (i := .iadd) rfl (fun _ => rfl) ?_
  refine dp_s3 hF (i := .iaload) rfl (fun _ => rfl) ?_
  refine dp_s1 hF (i := .aload_n 0) rfl (fun _ => rfl) ?_
  refine dp_s1 hF (i := .iload 4) rfl (fun _ => rfl) ?_
  refine dp_s1 hF (i := .iconst 2) rfl (fun _ => rfl) ?_
  refine dp_s1 hF (i := .iadd) rfl (fun _ => rfl) ?_
  refine dp_s3 hF (i := .iaload) rfl (fun _ => rfl) ?_
  refine dp_si (mj := dp_m_X12_batchOf) (i := .invokevirtual 492) rfl rfl (Or.inl rfl) rfl (fun _ => rfl) (fun r4 M3 => ?_)
  refine dp_s1 hF (i := .istore 6) rfl (fun _ => rfl) ?_
  refine dp_s1 hF (i := .aload_n 2) rfl (fun _ => rfl) ?_
  refine dp_si (mj := dp_m_X12_thrown) (i := .invokevirtual 229) rfl rfl (Or.inl rfl) rfl (fun _ => rfl) (fun r6 M5 => ?_)
  refine dp_s1 hF (i := .iload 5) rfl (fun _ => rfl) ?_
  refine dp_s2 hF (i := .if_icmp .eq 5) (a := (5169, [some (.retAddr 0), some (.ref 0), some (.ref 114), some (.ref 245), some (.int v4), some (.int r2), some (.int r4), u7], [], M5)) (b := (5167, [some (.retAddr 0), some (.ref 0), some (.ref 114), some (.ref 245), some (.int v4), some (.int r2), some (.int r4), u7], [], M5)) rfl (fun _ => rfl) ?_ ?_
  · refine dp_s1 hF (i := .iload 5) rfl (fun _ => rfl) ?_
    refine dp_s2 hF (i := .ifCond .ne 15) (a := (5174, [some (.retAddr 0), some (.ref 0), some (.ref 114), some (.ref 245), some (.int v4), some (.int r2), some (.int r4), u7], [], M5)) (b := (5186, [some (.retAddr 0), some (.ref 0), some (.ref 114), some (.ref 245), some (.int v4), some (.int r2), some (.int r4), u7], [], M5)) rfl (fun _ => rfl) ?_ ?_
    · refine dp_s1 hF (i := .aload_n 3) rfl (fun _ => rfl) ?_
      refine dp_s1 hF (i := .iconst 0) rfl (fun _ => rfl) ?_
      refine dp_s3 hF (i := .laload) rfl (fun _ => rfl) ?_
      refine dp_s1 hF (i := .iload 6) rfl (fun _ => rfl) ?_
      refine dp_s1 hF (i := .i2l) rfl (fun _ => rfl) ?_
      refine dp_s1 hF (i := .lcmp) rfl (fun _ => rfl) ?_
      refine dp_s2 hF (i := .ifCond .eq 5) (a := (5186, [some (.retAddr 0), some (.ref 0), some (.ref 114), some (.ref 245), some (.int v4), some (.int r2), some (.int r4), u7], [], M5)) (b := (5184, [some (.retAddr 0), some (.ref 0), some (.ref 114), some (.ref 245), some (.int v4), some (.int r2), some (.int r4), u7], [], M5)) rfl (fun _ => rfl) ?_ ?_
      · refine dp_s1 hF (i := .goto 946) rfl (fun _ => rfl) ?_
        exact rfl
      refine dp_s1 hF (i := .iconst 0) rfl (fun _ => rfl) ?_
      exact dp_s0 hF (i := .ireturn) rfl (fun _ => rfl)
    refine dp_s1 hF (i := .goto 946) rfl (fun _ => rfl) ?_
    exact rfl
  refine dp_s1 hF (i := .iconst 0) rfl (fun _ => rfl) ?_
  exact dp_s0 hF (i := .ireturn) rfl (fun _ => rfl)
set_option maxRecDepth 20000 in
theorem D_L_law_5189_eq (xs : Nat → Int32) (xl d : Nat) (v4 : Int32) (u5 : Option Value) (u6 : Option Value) (u7 : Option Value) (M : dp_M) : D_L_law_5189 xs xl d v4 u5 u6 u7 M = if (v4 + (1 : Int32)) < 0 ∨ xl ≤ Int32.toNatClampNeg (v4 + (1 : Int32)) then none else (if (v4 + (2 : Int32)) < 0 ∨ xl ≤ Int32.toNatClampNeg (v4 + (2 : Int32)) then none else (if (v4 + (3 : Int32)) < 0 ∨ xl ≤ Int32.toNatClampNeg (v4 + (3 : Int32)) then none else (if (v4 + (4 : Int32)) < 0 ∨ xl ≤ Int32.toNatClampNeg (v4 + (4 : Int32)) then none else (if (v4 + (5 : Int32)) < 0 ∨ xl ≤ Int32.toNatClampNeg (v4 + (5 : Int32)) then none else (if (v4 + (6 : Int32)) < 0 ∨ xl ≤ Int32.toNatClampNeg (v4 + (6 : Int32)) then none else (if (v4 + (7 : Int32)) < 0 ∨ xl ≤ Int32.toNatClampNeg (v4 + (7 : Int32)) then none else (if (v4 + (8 : Int32)) < 0 ∨ xl ≤ Int32.toNatClampNeg (v4 + (8 : Int32)) then none else (dp_bi (dp_den true xs xl d 645 [.ref 0, .int (xs (Int32.toNatClampNeg (v4 + (1 : Int32)))), .int (xs (Int32.toNatClampNeg (v4 + (2 : Int32)))), .int (xs (Int32.toNatClampNeg (v4 + (3 : Int32)))), .int (xs (Int32.toNatClampNeg (v4 + (4 : Int32)))), .int (xs (Int32.toNatClampNeg (v4 + (5 : Int32)))), .int (xs (Int32.toNatClampNeg (v4 + (6 : Int32)))), .long (((Int32.toInt64 (xs (Int32.toNatClampNeg (v4 + (7 : Int32))))) <<< (Int32.toInt64 (32 : Int32) &&& 63)) ||| ((Int32.toInt64 (xs (Int32.toNatClampNeg (v4 + (8 : Int32))))) &&& (4294967295 : Int64))), .ref 245] M) (fun r2 M1 => if (v4 + (1 : Int32)) < 0 ∨ xl ≤ Int32.toNatClampNeg (v4 + (1 : Int32)) then none else (if (v4 + (2 : Int32)) < 0 ∨ xl ≤ Int32.toNatClampNeg (v4 + (2 : Int32)) then none else (if (v4 + (3 : Int32)) < 0 ∨ xl ≤ Int32.toNatClampNeg (v4 + (3 : Int32)) then none else (if (v4 + (4 : Int32)) < 0 ∨ xl ≤ Int32.toNatClampNeg (v4 + (4 : Int32)) then none else (if (v4 + (5 : Int32)) < 0 ∨ xl ≤ Int32.toNatClampNeg (v4 + (5 : Int32)) then none else (if (v4 + (6 : Int32)) < 0 ∨ xl ≤ Int32.toNatClampNeg (v4 + (6 : Int32)) then none else (if (v4 + (7 : Int32)) < 0 ∨ xl ≤ Int32.toNatClampNeg (v4 + (7 : Int32)) then none else (if (v4 + (8 : Int32)) < 0 ∨ xl ≤ Int32.toNatClampNeg (v4 + (8 : Int32)) then none else (dp_bi (dp_den true xs xl d 568 [.ref 114, .int (xs (Int32.toNatClampNeg (v4 + (1 : Int32)))), .int (xs (Int32.toNatClampNeg (v4 + (2 : Int32)))), .int (xs (Int32.toNatClampNeg (v4 + (3 : Int32)))), .int (xs (Int32.toNatClampNeg (v4 + (4 : Int32)))), .int (xs (Int32.toNatClampNeg (v4 + (5 : Int32)))), .int (xs (Int32.toNatClampNeg (v4 + (6 : Int32)))), .long (((Int32.toInt64 (xs (Int32.toNatClampNeg (v4 + (7 : Int32))))) <<< (Int32.toInt64 (32 : Int32) &&& 63)) ||| ((Int32.toInt64 (xs (Int32.toNatClampNeg (v4 + (8 : Int32))))) &&& (4294967295 : Int64)))] M1) (fun r4 M3 => dp_bi (dp_den true xs xl d 365 [.ref 114] M3) (fun r6 M5 => if r6 = r2 then (if r2 = 0 then (if (0 : Int32) < 0 ∨ 1 ≤ Int32.toNatClampNeg (0 : Int32) then none else (if (lg_cmp (dp_J M5 245 (Int32.toNatClampNeg (0 : Int32))) (Int32.toInt64 r4)) = 0 then (D_L_law_6132 xs xl d v4 (some (.int r2)) (some (.int r4)) u7 M5) else (some (.inl (some (.int (0 : Int32))), M5)))) else (D_L_law_6132 xs xl d v4 (some (.int r2)) (some (.int r4)) u7 M5)) else (some (.inl (some (.int (0 : Int32))), M5))))))))))))))))))))) := by
  have hF := dp_den_grow (md := true) (xs := xs) (xl := xl) d
  unfold D_L_law_5189
  refine dp_s1 hF (i := .aload_n 1) rfl (fun _ => rfl) ?_
  refine dp_s1 hF (i := .aload_n 0) rfl (fun _ => rfl) ?_
  refine dp_s1 hF (i := .iload 4) rfl (fun _ => rfl) ?_
  refine dp_s1 hF (i := .iconst 1) rfl (fun _ => rfl) ?_
  refine dp_s1 hF (i := .iadd) rfl (fun _ => rfl) ?_
  refine dp_s3 hF (i := .iaload) rfl (fun _ => rfl) ?_
  refine dp_s1 hF (i := .aload_n 0) rfl (fun _ => rfl) ?_
  refine dp_s1 hF (i := .iload 4) rfl (fun _ => rfl) ?_
  refine dp_s1 hF (i := .iconst 2) rfl (fun _ => rfl) ?_
  refine dp_s1 hF (i := .iadd) rfl (fun _ => rfl) ?_
  refine dp_s3 hF (i := .iaload) rfl (fun _ => rfl) ?_
  refine dp_s1 hF (i := .aload_n 0) rfl (fun _ => rfl) ?_
  refine dp_s1 hF (i := .iload 4) rfl (fun _ => rfl) ?_
  refine dp_s1 hF (i := .iconst 3) rfl (fun _ => rfl) ?_
  refine dp_s1 hF (i := .iadd) rfl (fun _ => rfl) ?_
  refine dp_s3 hF (i := .iaload) rfl (fun _ => rfl) ?_
  refine dp_s1 hF (i := .aload_n 0) rfl (fun _ => rfl) ?_
  refine dp_s1 hF (i := .iload 4) rfl (fun _ => rfl) ?_
  refine dp_s1 hF (i := .iconst 4) rfl (fun _ => rfl) ?_
  refine dp_s1 hF (i := .iadd) rfl (fun _ => rfl) ?_
  refine dp_s3 hF (i := .iaload) rfl (fun _ => rfl) ?_
  refine dp_s1 hF (i := .aload_n 0) rfl (fun _ => rfl) ?_
  refine dp_s1 hF (i := .iload 4) rfl (fun _ => rfl) ?_
  refine dp_s1 hF (i := .iconst 5) rfl (fun _ => rfl) ?_
  refine dp_s1 hF (i := .iadd) rfl (fun _ => rfl) ?_
  refine dp_s3 hF (i := .iaload) rfl (fun _ => rfl) ?_
  refine dp_s1 hF (i := .aload_n 0) rfl (fun _ => rfl) ?_
  refine dp_s1 hF (i := .iload 4) rfl (fun _ => rfl) ?_
  refine dp_s1 hF (i := .bipush 6) rfl (fun _ => rfl) ?_
  refine dp_s1 hF (i := .iadd) rfl (fun _ => rfl) ?_
  refine dp_s3 hF (i := .iaload) rfl (fun _ => rfl) ?_
  refine dp_s1 hF (i := .aload_n 0) rfl (fun _ => rfl) ?_
  refine dp_s1 hF (i := .iload 4) rfl (fun _ => rfl) ?_
  refine dp_s1 hF (i := .bipush 7) rfl (fun _ => rfl) ?_
  refine dp_s1 hF (i := .iadd) rfl (fun _ => rfl) ?_
  refine dp_s3 hF (i := .iaload) rfl (fun _ => rfl) ?_
  refine dp_s1 hF (i := .i2l) rfl (fun _ => rfl) ?_
  refine dp_s1 hF (i := .bipush 32) rfl (fun _ => rfl) ?_
  refine dp_s1 hF (i := .lshl) rfl (fun _ => rfl) ?_
  refine dp_s1 hF (i := .aload_n 0) rfl (fun _ => rfl) ?_
  refine dp_s1 hF (i := .iload 4) rfl (fun _ => rfl) ?_
  refine dp_s1 hF (i := .bipush 8) rfl (fun _ => rfl) ?_
  refine dp_s1 hF (i := .iadd) rfl (fun _ => rfl) ?_
  refine dp_s3 hF (i := .iaload) rfl (fun _ => rfl) ?_
  refine dp_s1 hF (i := .i2l) rfl (fun _ => rfl) ?_
  refine dp_s1 hF (i := .ldc2_w 366) rfl (fun _ => rfl) ?_
  refine dp_s1 hF (i := .land) rfl (fun _ => rfl) ?_
  refine dp_s1 hF (i := .lor) rfl (fun _ => rfl) ?_
  refine dp_s1 hF (i := .aload_n 3) rfl (fun _ => rfl) ?_
  refine dp_si (mj := dp_m_L_declare) (i := .invokestatic 493) rfl rfl (Or.inl rfl) rfl (fun _ => rfl) (fun r2 M1 => ?_)
  refine dp_s1 hF (i := .istore 5) rfl (fun _ => rfl) ?_
  refine dp_s1 hF (i := .aload_n 2) rfl (fun _ => rfl) ?_
  refine dp_s1 hF (i := .aload_n 0) rfl (fun _ => rfl) ?_
  refine dp_s1 hF (i := .iload 4) rfl (fun _ => rfl) ?_
  refine dp_s1 hF (i := .iconst 1) rfl (fun _ => rfl) ?_
  refine dp_s1 hF (i := .iadd) rfl (fun _ => rfl) ?_
  refine dp_s3 hF (i := .iaload) rfl (fun _ => rfl) ?_
  refine dp_s1 hF (i := .aload_n 0) rfl (fun _ => rfl) ?_
  refine dp_s1 hF (i := .iload 4) rfl (fun _ => rfl) ?_
  refine dp_s1 hF (i := .iconst 2) rfl (fun _ => rfl) ?_
  refine dp_s1 hF (i := .iadd) rfl (fun _ => rfl) ?_
  refine dp_s3 hF (i := .iaload) rfl (fun _ => rfl) ?_
  refine dp_s1 hF (i := .aload_n 0) rfl (fun _ => rfl) ?_
  refine dp_s1 hF (i := .iload 4) rfl (fun _ => rfl) ?_
  refine dp_s1 hF (i := .iconst 3) rfl (fun _ => rfl) ?_
  refine dp_s1 hF (i := .iadd) rfl (fun _ => rfl) ?_
  refine dp_s3 hF (i := .iaload) rfl (fun _ => rfl) ?_
  refine dp_s1 hF (i := .aload_n 0) rfl (fun _ => rfl) ?_
  refine dp_s1 hF (i := .iload 4) rfl (fun _ => rfl) ?_
  refine dp_s1 hF (i := .iconst 4) rfl (fun _ => rfl) ?_
  refine dp_s1 hF (i := .iadd) rfl (fun _ => rfl) ?_
  refine dp_s3 hF (i := .iaload) rfl (fun _ => rfl) ?_
  refine dp_s1 hF (i := .aload_n 0) rfl (fun _ => rfl) ?_
  refine dp_s1 hF (i := .iload 4) rfl (fun _ => rfl) ?_
  refine dp_s1 hF (i := .iconst 5) rfl (fun _ => rfl) ?_
  refine dp_s1 hF (i := .iadd) rfl (fun _ => rfl) ?_
  refine dp_s3 hF (i := .iaload) rfl (fun _ => rfl) ?_
  refine dp_s1 hF (i := .aload_n 0) rfl (fun _ => rfl) ?_
  refine dp_s1 hF (i := .iload 4) rfl (fun _ => rfl) ?_
  refine dp_s1 hF (i := .bipush 6) rfl (fun _ => rfl) ?_
  refine dp_s1 hF (i := .iadd) rfl (fun _ => rfl) ?_
  refine dp_s3 hF (i := .iaload) rfl (fun _ => rfl) ?_
  refine dp_s1 hF (i := .aload_n 0) rfl (fun _ => rfl) ?_
  refine dp_s1 hF (i := .iload 4) rfl (fun _ => rfl) ?_
  refine dp_s1 hF (i := .bipush 7) rfl (fun _ => rfl) ?_
  refine dp_s1 hF (i := .iadd) rfl (fun _ => rfl) ?_
  refine dp_s3 hF (i := .iaload) rfl (fun _ => rfl) ?_
  refine dp_s1 hF (i := .i2l) rfl (fun _ => rfl) ?_
  refine dp_s1 hF (i := .bipush 32) rfl (fun _ => rfl) ?_
  refine dp_s1 hF (i := .lshl) rfl (fun _ => rfl) ?_
  refine dp_s1 hF (i := .aload_n 0) rfl (fun _ => rfl) ?_
  refine dp_s1 hF (i := .iload 4) rfl (fun _ => rfl) ?_
  refine dp_s1 hF (i := .bipush 8) rfl (fun _ => rfl) ?_
  refine dp_s1 hF (i := .iadd) rfl (fun _ => rfl) ?_
  refine dp_s3 hF (i := .iaload) rfl (fun _ => rfl) ?_
  refine dp_s1 hF (i := .i2l) rfl (fun _ => rfl) ?_
  refine dp_s1 hF (i := .ldc2_w 366) rfl (fun _ => rfl) ?_
  refine dp_s1 hF (i := .land) rfl (fun _ => rfl) ?_
  refine dp_s1 hF (i := .lor) rfl (fun _ => rfl) ?_
  refine dp_si (mj := dp_m_X12_declare) (i := .invokevirtual 496) rfl rfl (Or.inl rfl) rfl (fun _ => rfl) (fun r4 M3 => ?_)
  refine dp_s1 hF (i := .istore 6) rfl (fun _ => rfl) ?_
  refine dp_s1 hF (i := .aload_n 2) rfl (fun _ => rfl) ?_
  refine dp_si (mj := dp_m_X12_thrown) (i := .invokevirtual 229) rfl rfl (Or.inl rfl) rfl (fun _ => rfl) (fun r6 M5 => ?_)
  refine dp_s1 hF (i := .iload 5) rfl (fun _ => rfl) ?_
  refine dp_s2 hF (i := .if_icmp .eq 5) (a := (5335, [some (.retAddr 0), some (.ref 0), some (.ref 114), some (.ref 245), some (.int v4), some (.int r2), some (.int r4), u7], [], M5)) (b := (5333, [some (.retAddr 0), some (.ref 0), some (.ref 114), some (.ref 245), some (.int v4), some (.int r2), some (.int r4), u7], [], M5)) rfl (fun _ => rfl) ?_ ?_
  · refine dp_s1 hF (i := .iload 5) rfl (fun _ => rfl) ?_
    refine dp_s2 hF (i := .ifCond .ne 15) (a := (5340, [some (.retAddr 0), some (.ref 0), some (.ref 114), some (.ref 245), some (.int v4), some (.int r2), some (.int r4), u7], [], M5)) (b := (5352, [some (.retAddr 0), some (.ref 0), some (.ref 114), some (.ref 245), some (.int v4), some (.int r2), some (.int r4), u7], [], M5)) rfl (fun _ => rfl) ?_ ?_
    · refine dp_s1 hF (i := .aload_n 3) rfl (fun _ => rfl) ?_
      refine dp_s1 hF (i := .iconst 0) rfl (fun _ => rfl) ?_
      refine dp_s3 hF (i := .laload) rfl (fun _ => rfl) ?_
      refine dp_s1 hF (i := .iload 6) rfl (fun _ => rfl) ?_
      refine dp_s1 hF (i := .i2l) rfl (fun _ => rfl) ?_
      refine dp_s1 hF (i := .lcmp) rfl (fun _ => rfl) ?_
      refine dp_s2 hF (i := .ifCond .eq 5) (a := (5352, [some (.retAddr 0), some (.ref 0), some (.ref 114), some (.ref 245), some (.int v4), some (.int r2), some (.int r4), u7], [], M5)) (b := (5350, [some (.retAddr 0), some (.ref 0), some (.ref 114), some (.ref 245), some (.int v4), some (.int r2), some (.int r4), u7], [], M5)) rfl (fun _ => rfl) ?_ ?_
      · refine dp_s1 hF (i := .goto 780) rfl (fun _ => rfl) ?_
        exact rfl
      refine dp_s1 hF (i := .iconst 0) rfl (fun _ => rfl) ?_
      exact dp_s0 hF (i := .ireturn) rfl (fun _ => rfl)
    refine dp_s1 hF (i := .goto 780) rfl (fun _ => rfl) ?_
    exact rfl
  refine dp_s1 hF (i := .iconst 0) rfl (fun _ => rfl) ?_
  exact dp_s0 hF (i := .ireturn) rfl (fun _ => rfl)
