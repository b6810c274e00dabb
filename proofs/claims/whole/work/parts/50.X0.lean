noncomputable def D_X0_get_0 (xs : Nat → Int32) (xl d : Nat) (v1 : Int32) (v2 : Int32) (M : dp_M) : Option dp_Res := dp_lim true xs xl (dp_den true xs xl d) dp_m_X0_get (0, [some (.ref 108), some (.int v1), some (.int v2)], [], M)
theorem D_X0_get_0_den (xs : Nat → Int32) (xl d : Nat) (a0 : Int32) (a1 : Int32) (M : dp_M) : dp_den true xs xl (d + 1) 1 [.ref 108, .int a0, .int a1] M = D_X0_get_0 xs xl d a0 a1 M := rfl
set_option maxRecDepth 20000 in
theorem D_X0_get_0_eq (xs : Nat → Int32) (xl d : Nat) (v1 : Int32) (v2 : Int32) (M : dp_M) : D_X0_get_0 xs xl d v1 v2 M = if ((v1 * (23 : Int32)) + v2) < 0 ∨ 9200 ≤ Int32.toNatClampNeg ((v1 * (23 : Int32)) + v2) then none else (some (.inl (some (.long (dp_J M 111 (Int32.toNatClampNeg ((v1 * (23 : Int32)) + v2))))), M)) := by
  have hF := dp_den_grow (md := true) (xs := xs) (xl := xl) d
  unfold D_X0_get_0
  refine dp_s1 hF (i := .aload_n 0) rfl (fun _ => rfl) ?_
  refine dp_s1 hF (i := .getfield 21) rfl (fun _ => rfl) ?_
  refine dp_s1 hF (i := .iload_n 1) rfl (fun _ => rfl) ?_
  refine dp_s1 hF (i := .bipush 23) rfl (fun _ => rfl) ?_
  refine dp_s1 hF (i := .imul) rfl (fun _ => rfl) ?_
  refine dp_s1 hF (i := .iload_n 2) rfl (fun _ => rfl) ?_
  refine dp_s1 hF (i := .iadd) rfl (fun _ => rfl) ?_
  refine dp_s3 hF (i := .laload) rfl (fun _ => rfl) ?_
  exact dp_s0 hF (i := .lreturn) rfl (fun _ => rfl)
noncomputable def D_X0_small_0 (xs : Nat → Int32) (xl d : Nat) (v1 : Int32) (v2 : Int32) (M : dp_M) : Option dp_Res := dp_lim true xs xl (dp_den true xs xl d) dp_m_X0_small (0, [some (.ref 108), some (.int v1), some (.int v2)], [], M)
theorem D_X0_small_0_den (xs : Nat → Int32) (xl d : Nat) (a0 : Int32) (a1 : Int32) (M : dp_M) : dp_den true xs xl (d + 1) 2 [.ref 108, .int a0, .int a1] M = D_X0_small_0 xs xl d a0 a1 M := rfl
set_option maxRecDepth 20000 in
theorem D_X0_small_0_eq (xs : Nat → Int32) (xl d : Nat) (v1 : Int32) (v2 : Int32) (M : dp_M) : D_X0_small_0 xs xl d v1 v2 M = dp_bl (dp_den true xs xl d 1 [.ref 108, .int v1, .int v2] M) (fun r2 M1 => some (.inl (some (.int (Int64.toInt32 r2))), M1)) := by
  have hF := dp_den_grow (md := true) (xs := xs) (xl := xl) d
  unfold D_X0_small_0
  refine dp_s1 hF (i := .aload_n 0) rfl (fun _ => rfl) ?_
  refine dp_s1 hF (i := .iload_n 1) rfl (fun _ => rfl) ?_
  refine dp_s1 hF (i := .iload_n 2) rfl (fun _ => rfl) ?_
  refine dp_sl9 (mj := dp_m_X0_get) (i := .invokevirtual 53) rfl rfl rfl rfl (fun _ => rfl) (fun r2 M1 => ?_)
  refine dp_s1 hF (i := .l2i) rfl (fun _ => rfl) ?_
  exact dp_s0 hF (i := .ireturn) rfl (fun _ => rfl)
noncomputable def D_X0_set_0 (xs : Nat → Int32) (xl d : Nat) (v1 : Int32) (v2 : Int32) (v3 : Int64) (M : dp_M) : Option dp_Res := dp_lim true xs xl (dp_den true xs xl d) dp_m_X0_set (0, [some (.ref 108), some (.int v1), some (.int v2), some (.long v3), none], [], M)
theorem D_X0_set_0_den (xs : Nat → Int32) (xl d : Nat) (a0 : Int32) (a1 : Int32) (a2 : Int64) (M : dp_M) : dp_den true xs xl (d + 1) 3 [.ref 108, .int a0, .int a1, .long a2] M = D_X0_set_0 xs xl d a0 a1 a2 M := rfl
set_option maxRecDepth 20000 in
theorem D_X0_set_0_eq (xs : Nat → Int32) (xl d : Nat) (v1 : Int32) (v2 : Int32) (v3 : Int64) (M : dp_M) : D_X0_set_0 xs xl d v1 v2 v3 M = if ((v1 * (23 : Int32)) + v2) < 0 ∨ 9200 ≤ Int32.toNatClampNeg ((v1 * (23 : Int32)) + v2) then none else dp_w (dp_setJ M 111 (Int32.toNatClampNeg ((v1 * (23 : Int32)) + v2)) v3) (fun M1 => some (.inl none, M1)) := by
  have hF := dp_den_grow (md := true) (xs := xs) (xl := xl) d
  unfold D_X0_set_0
  refine dp_s1 hF (i := .aload_n 0) rfl (fun _ => rfl) ?_
  refine dp_s1 hF (i := .getfield 21) rfl (fun _ => rfl) ?_
  refine dp_s1 hF (i := .iload_n 1) rfl (fun _ => rfl) ?_
  refine dp_s1 hF (i := .bipush 23) rfl (fun _ => rfl) ?_
  refine dp_s1 hF (i := .imul) rfl (fun _ => rfl) ?_
  refine dp_s1 hF (i := .iload_n 2) rfl (fun _ => rfl) ?_
  refine dp_s1 hF (i := .iadd) rfl (fun _ => rfl) ?_
  refine dp_s1 hF (i := .lload_n 3) rfl (fun _ => rfl) ?_
  refine dp_s3w (dp_setJ M 111 (Int32.toNatClampNeg ((v1 * (23 : Int32)) + v2)) v3) (fun (M1 : dp_M) => (12, [some (.ref 108), some (.int v1), some (.int v2), some (.long v3), none], [], M1)) hF (i := .lastore) rfl (fun _ => rfl) (fun M1 => ?_)
  exact dp_s0 hF (i := .return_) rfl (fun _ => rfl)
noncomputable def D_X0_add_0 (xs : Nat → Int32) (xl d : Nat) (v1 : Int32) (v2 : Int32) (v3 : Int32) (v4 : Int32) (v5 : Int32) (v6 : Int32) (v7 : Int64) (M : dp_M) : Option dp_Res := dp_lim true xs xl (dp_den true xs xl d) dp_m_X0_add (0, [some (.ref 108), some (.int v1), some (.int v2), some (.int v3), some (.int v4), some (.int v5), some (.int v6), some (.long v7), none, none, none], [], M)
noncomputable def D_X0_add_87 (xs : Nat → Int32) (xl d : Nat) (v1 : Int32) (v2 : Int32) (v3 : Int32) (v4 : Int32) (v5 : Int32) (v6 : Int32) (v7 : Int64) (v9 : Int32) (v10 : Int32) (M : dp_M) : Option dp_Res := dp_lim true xs xl (dp_den true xs xl d) dp_m_X0_add (87, [some (.ref 108), some (.int v1), some (.int v2), some (.int v3), some (.int v4), some (.int v5), some (.int v6), some (.long v7), none, some (.int v9), some (.int v10)], [], M)
theorem D_X0_add_0_den (xs : Nat → Int32) (xl d : Nat) (a0 : Int32) (a1 : Int32) (a2 : Int32) (a3 : Int32) (a4 : Int32) (a5 : Int32) (a6 : Int64) (M : dp_M) : dp_den true xs xl (d + 1) 4 [.ref 108, .int a0, .int a1, .int a2, .int a3, .int a4, .int a5, .long a6] M = D_X0_add_0 xs xl d a0 a1 a2 a3 a4 a5 a6 M := rfl
set_option maxRecDepth 20000 in
theorem D_X0_add_0_eq (xs : Nat → Int32) (xl d : Nat) (v1 : Int32) (v2 : Int32) (v3 : Int32) (v4 : Int32) (v5 : Int32) (v6 : Int32) (v7 : Int64) (M : dp_M) : D_X0_add_0 xs xl d v1 v2 v3 v4 v5 v6 v7 M = dp_w (dp_I M 108 5) (fun y1 => dp_bv (dp_den true xs xl d 3 [.ref 108, .int y1, .int (0 : Int32), .long (Int32.toInt64 v1)] M) (fun M2 => dp_bv (dp_den true xs xl d 3 [.ref 108, .int y1, .int (1 : Int32), .long (Int32.toInt64 v2)] M2) (fun M3 => dp_bv (dp_den true xs xl d 3 [.ref 108, .int y1, .int (2 : Int32), .long (Int32.toInt64 v3)] M3) (fun M4 => dp_bv (dp_den true xs xl d 3 [.ref 108, .int y1, .int (3 : Int32), .long (Int32.toInt64 v4)] M4) (fun M5 => dp_bv (dp_den true xs xl d 3 [.ref 108, .int y1, .int (4 : Int32), .long (Int32.toInt64 v5)] M5) (fun M6 => dp_bv (dp_den true xs xl d 3 [.ref 108, .int y1, .int (5 : Int32), .long (Int32.toInt64 v6)] M6) (fun M7 => dp_bv (dp_den true xs xl d 3 [.ref 108, .int y1, .int (6 : Int32), .long v7] M7) (fun M8 => dp_bv (dp_den true xs xl d 3 [.ref 108, .int y1, .int (10 : Int32), .long (-1 : Int64)] M8) (fun M9 => dp_w (0 : Int32) (fun y10 => D_X0_add_87 xs xl d v1 v2 v3 v4 v5 v6 v7 y1 y10 M9)))))))))) := by
  have hF := dp_den_grow (md := true) (xs := xs) (xl := xl) d
  unfold D_X0_add_0
  refine dp_s1 hF (i := .aload_n 0) rfl (fun _ => rfl) ?_
  refine dp_s1 hF (i := .getfield 57) rfl (fun _ => rfl) ?_
  refine dp_s1w (dp_I M 108 5) (fun (y1 : Int32) => (6, [some (.ref 108), some (.int v1), some (.int v2), some (.int v3), some (.int v4), some (.int v5), some (.int v6), some (.long v7), none, some (.int y1), none], [], M)) hF (i := .istore 9) rfl (fun _ => rfl) (fun y1 => ?_)
  refine dp_s1 hF (i := .aload_n 0) rfl (fun _ => rfl) ?_
  refine dp_s1 hF (i := .iload 9) rfl (fun _ => rfl) ?_
  refine dp_s1 hF (i := .iconst 0) rfl (fun _ => rfl) ?_
  refine dp_s1 hF (i := .iload_n 1) rfl (fun _ => rfl) ?_
  refine dp_s1 hF (i := .i2l) rfl (fun _ => rfl) ?_
  refine dp_sv (mj := dp_m_X0_set) (i := .invokevirtual 61) rfl rfl rfl rfl (fun _ => rfl) (fun M2 => ?_)
  refine dp_s1 hF (i := .aload_n 0) rfl (fun _ => rfl) ?_
  refine dp_s1 hF (i := .iload 9) rfl (fun _ => rfl) ?_
  refine dp_s1 hF (i := .iconst 1) rfl (fun _ => rfl) ?_
  refine dp_s1 hF (i := .iload_n 2) rfl (fun _ => rfl) ?_
  refine dp_s1 hF (i := .i2l) rfl (fun _ => rfl) ?_
  refine dp_sv (mj := dp_m_X0_set) (i := .invokevirtual 61) rfl rfl rfl rfl (fun _ => rfl) (fun M3 => ?_)
  refine dp_s1 hF (i := .aload_n 0) rfl (fun _ => rfl) ?_
  refine dp_s1 hF (i := .iload 9) rfl (fun _ => rfl) ?_
  refine dp_s1 hF (i := .iconst 2) rfl (fun _ => rfl) ?_
  refine dp_s1 hF (i := .iload_n 3) rfl (fun _ => rfl) ?_
  refine dp_s1 hF (i := .i2l) rfl (fun _ => rfl) ?_
  refine dp_sv (mj := dp_m_X0_set) (i := .invokevirtual 61) rfl rfl rfl rfl (fun _ => rfl) (fun M4 => ?_)
  refine dp_s1 hF (i := .aload_n 0) rfl (fun _ => rfl) ?_
  refine dp_s1 hF (i := .iload 9) rfl (fun _ => rfl) ?_
  refine dp_s1 hF (i := .iconst 3) rfl (fun _ => rfl) ?_
  refine dp_s1 hF (i := .iload 4) rfl (fun _ => rfl) ?_
  refine dp_s1 hF (i := .i2l) rfl (fun _ => rfl) ?_
  refine dp_sv (mj := dp_m_X0_set) (i := .invokevirtual 61) rfl rfl rfl rfl (fun _ => rfl) (fun M5 => ?_)
  refine dp_s1 hF (i := .aload_n 0) rfl (fun _ => rfl) ?_
  refine dp_s1 hF (i := .iload 9) rfl (fun _ => rfl) ?_
  refine dp_s1 hF (i := .iconst 4) rfl (fun _ => rfl) ?_
  refine dp_s1 hF (i := .iload 5) rfl (fun _ => rfl) ?_
  refine dp_s1 hF (i := .i2l) rfl (fun _ => rfl) ?_
  refine dp_sv (mj := dp_m_X0_set) (i := .invokevirtual 61) rfl rfl rfl rfl (fun _ => rfl) (fun M6 => ?_)
  refine dp_s1 hF (i := .aload_n 0) rfl (fun _ => rfl) ?_
  refine dp_s1 hF (i := .iload 9) rfl (fun _ => rfl) ?_
  refine dp_s1 hF (i := .iconst 5) rfl (fun _ => rfl) ?_
  refine dp_s1 hF (i := .iload 6) rfl (fun _ => rfl) ?_
  refine dp_s1 hF (i := .i2l) rfl (fun _ => rfl) ?_
  refine dp_sv (mj := dp_m_X0_set) (i := .invokevirtual 61) rfl rfl rfl rfl (fun _ => rfl) (fun M7 => ?_)
  refine dp_s1 hF (i := .aload_n 0) rfl (fun _ => rfl) ?_
  refine dp_s1 hF (i := .iload 9) rfl (fun _ => rfl) ?_
  refine dp_s1 hF (i := .bipush 6) rfl (fun _ => rfl) ?_
  refine dp_s1 hF (i := .lload 7) rfl (fun _ => rfl) ?_
  refine dp_sv (mj := dp_m_X0_set) (i := .invokevirtual 61) rfl rfl rfl rfl (fun _ => rfl) (fun M8 => ?_)
  refine dp_s1 hF (i := .aload_n 0) rfl (fun _ => rfl) ?_
  refine dp_s1 hF (i := .iload 9) rfl (fun _ => rfl) ?_
  refine dp_s1 hF (i := .bipush 10) rfl (fun _ => rfl) ?_
  refine dp_s1 hF (i := .ldc2_w 65) rfl (fun _ => rfl) ?_
  refine dp_sv (mj := dp_m_X0_set) (i := .invokevirtual 61) rfl rfl rfl rfl (fun _ => rfl) (fun M9 => ?_)
  refine dp_s1 hF (i := .iconst 0) rfl (fun _ => rfl) ?_
  refine dp_s1w (0 : Int32) (fun (y10 : Int32) => (87, [some (.ref 108), some (.int v1), some (.int v2), some (.int v3), some (.int v4), some (.int v5), some (.int v6), some (.long v7), none, some (.int y1), some (.int y10)], [], M9)) hF (i := .istore 10) rfl (fun _ => rfl) (fun y10 => ?_)
  exact rfl
set_option maxRecDepth 20000 in
theorem D_X0_add_87_eq (xs : Nat → Int32) (xl d : Nat) (v1 : Int32) (v2 : Int32) (v3 : Int32) (v4 : Int32) (v5 : Int32) (v6 : Int32) (v7 : Int64) (v9 : Int32) (v10 : Int32) (M : dp_M) : D_X0_add_87 xs xl d v1 v2 v3 v4 v5 v6 v7 v9 v10 M = if (8 : Int32) ≤ v10 then (if v9 < 0 ∨ 400 ≤ Int32.toNatClampNeg v9 then none else dp_w (dp_setI M 109 (Int32.toNatClampNeg v9) (-1 : Int32)) (fun M1 => if v1 < 0 ∨ 300 ≤ Int32.toNatClampNeg v1 then none else dp_w (dp_setI M1 110 (Int32.toNatClampNeg v1) ((1 : Int32) &&& 1)) (fun M2 => dp_w (dp_setI M2 108 5 ((dp_I M2 108 5) + (1 : Int32))) (fun M3 => some (.inl (some (.int v9)), M3))))) else (dp_bv (dp_den true xs xl d 3 [.ref 108, .int v9, .int ((15 : Int32) + v10), .long (-1 : Int64)] M) (fun M4 => dp_w (v10 + (1 : Int32)) (fun y5 => D_X0_add_87 xs xl d v1 v2 v3 v4 v5 v6 v7 v9 y5 M4))) := by
  have hF := dp_den_grow (md := true) (xs := xs) (xl := xl) d
  unfold D_X0_add_87
  refine dp_s1 hF (i := .iload 10) rfl (fun _ => rfl) ?_
  refine dp_s1 hF (i := .bipush 8) rfl (fun _ => rfl) ?_
  refine dp_s2 hF (i := .if_icmp .ge 23) (a := (114, [some (.ref 108), some (.int v1), some (.int v2), some (.int v3), some (.int v4), some (.int v5), some (.int v6), some (.long v7), none, some (.int v9), some (.int v10)], [], M)) (b := (94, [some (.ref 108), some (.int v1), some (.int v2), some (.int v3), some (.int v4), some (.int v5), some (.int v6), some (.long v7), none, some (.int v9), some (.int v10)], [], M)) rfl (fun _ => rfl) ?_ ?_
  · refine dp_s1 hF (i := .aload_n 0) rfl (fun _ => rfl) ?_
    refine dp_s1 hF (i := .getfield 11) rfl (fun _ => rfl) ?_
    refine dp_s1 hF (i := .iload 9) rfl (fun _ => rfl) ?_
    refine dp_s1 hF (i := .iconst (-1)) rfl (fun _ => rfl) ?_
    refine dp_s3w (dp_setI M 109 (Int32.toNatClampNeg v9) (-1 : Int32)) (fun (M1 : dp_M) => (122, [some (.ref 108), some (.int v1), some (.int v2), some (.int v3), some (.int v4), some (.int v5), some (.int v6), some (.long v7), none, some (.int v9), some (.int v10)], [], M1)) hF (i := .iastore) rfl (fun _ => rfl) (fun M1 => ?_)
    refine dp_s1 hF (i := .aload_n 0) rfl (fun _ => rfl) ?_
    refine dp_s1 hF (i := .getfield 17) rfl (fun _ => rfl) ?_
    refine dp_s1 hF (i := .iload_n 1) rfl (fun _ => rfl) ?_
    refine dp_s1 hF (i := .iconst 1) rfl (fun _ => rfl) ?_
    refine dp_s3w (dp_setI M1 110 (Int32.toNatClampNeg v1) ((1 : Int32) &&& 1)) (fun (M2 : dp_M) => (129, [some (.ref 108), some (.int v1), some (.int v2), some (.int v3), some (.int v4), some (.int v5), some (.int v6), some (.long v7), none, some (.int v9), some (.int v10)], [], M2)) hF (i := .bastore) rfl (fun _ => rfl) (fun M2 => ?_)
    refine dp_s1 hF (i := .aload_n 0) rfl (fun _ => rfl) ?_
    refine dp_s1 hF (i := .dup) rfl (fun _ => rfl) ?_
    refine dp_s1 hF (i := .getfield 57) rfl (fun _ => rfl) ?_
    refine dp_s1 hF (i := .iconst 1) rfl (fun _ => rfl) ?_
    refine dp_s1 hF (i := .iadd) rfl (fun _ => rfl) ?_
    refine dp_s1w (dp_setI M2 108 5 ((dp_I M2 108 5) + (1 : Int32))) (fun (M3 : dp_M) => (139, [some (.ref 108), some (.int v1), some (.int v2), some (.int v3), some (.int v4), some (.int v5), some (.int v6), some (.long v7), none, some (.int v9), some (.int v10)], [], M3)) hF (i := .putfield 57) rfl (fun _ => rfl) (fun M3 => ?_)
    refine dp_s1 hF (i := .iload 9) rfl (fun _ => rfl) ?_
    exact dp_s0 hF (i := .ireturn) rfl (fun _ => rfl)
  refine dp_s1 hF (i := .aload_n 0) rfl (fun _ => rfl) ?_
  refine dp_s1 hF (i := .iload 9) rfl (fun _ => rfl) ?_
  refine dp_s1 hF (i := .bipush 15) rfl (fun _ => rfl) ?_
  refine dp_s1 hF (i := .iload 10) rfl (fun _ => rfl) ?_
  refine dp_s1 hF (i := .iadd) rfl (fun _ => rfl) ?_
  refine dp_s1 hF (i := .ldc2_w 65) rfl (fun _ => rfl) ?_
  refine dp_sv (mj := dp_m_X0_set) (i := .invokevirtual 61) rfl rfl rfl rfl (fun _ => rfl) (fun M4 => ?_)
  refine dp_s1w (v10 + (1 : Int32)) (fun (y5 : Int32) => (111, [some (.ref 108), some (.int v1), some (.int v2), some (.int v3), some (.int v4), some (.int v5), some (.int v6), some (.long v7), none, some (.int v9), some (.int y5)], [], M4)) hF (i := .iinc 10 1) rfl (fun _ => rfl) (fun y5 => ?_)
  refine dp_s1 hF (i := .goto (-24)) rfl (fun _ => rfl) ?_
  exact rfl
noncomputable def D_X0_stateOf_0 (xs : Nat → Int32) (xl d : Nat) (v1 : Int32) (M : dp_M) : Option dp_Res := dp_lim true xs xl (dp_den true xs xl d) dp_m_X0_stateOf (0, [some (.ref 108), some (.int v1)], [], M)
theorem D_X0_stateOf_0_den (xs : Nat → Int32) (xl d : Nat) (a0 : Int32) (M : dp_M) : dp_den true xs xl (d + 1) 5 [.ref 108, .int a0] M = D_X0_stateOf_0 xs xl d a0 M := rfl
set_option maxRecDepth 20000 in
theorem D_X0_stateOf_0_eq (xs : Nat → Int32) (xl d : Nat) (v1 : Int32) (M : dp_M) : D_X0_stateOf_0 xs xl d v1 M = dp_bi (dp_den true xs xl d 2 [.ref 108, .int v1, .int (7 : Int32)] M) (fun r2 M1 => some (.inl (some (.int r2)), M1)) := by
  have hF := dp_den_grow (md := true) (xs := xs) (xl := xl) d
  unfold D_X0_stateOf_0
  refine dp_s1 hF (i := .aload_n 0) rfl (fun _ => rfl) ?_
  refine dp_s1 hF (i := .iload_n 1) rfl (fun _ => rfl) ?_
  refine dp_s1 hF (i := .bipush 7) rfl (fun _ => rfl) ?_
  refine dp_si (mj := dp_m_X0_small) (i := .invokevirtual 67) rfl rfl (Or.inl rfl) rfl (fun _ => rfl) (fun r2 M1 => ?_)
  exact dp_s0 hF (i := .ireturn) rfl (fun _ => rfl)
noncomputable def D_X0_dutyOf_0 (xs : Nat → Int32) (xl d : Nat) (v1 : Int32) (M : dp_M) : Option dp_Res := dp_lim true xs xl (dp_den true xs xl d) dp_m_X0_dutyOf (0, [some (.ref 108), some (.int v1)], [], M)
theorem D_X0_dutyOf_0_den (xs : Nat → Int32) (xl d : Nat) (a0 : Int32) (M : dp_M) : dp_den true xs xl (d + 1) 6 [.ref 108, .int a0] M = D_X0_dutyOf_0 xs xl d a0 M := rfl
set_option maxRecDepth 20000 in
theorem D_X0_dutyOf_0_eq (xs : Nat → Int32) (xl d : Nat) (v1 : Int32) (M : dp_M) : D_X0_dutyOf_0 xs xl d v1 M = dp_bl (dp_den true xs xl d 1 [.ref 108, .int v1, .int (8 : Int32)] M) (fun r2 M1 => some (.inl (some (.long r2)), M1)) := by
  have hF := dp_den_grow (md := true) (xs := xs) (xl := xl) d
  unfold D_X0_dutyOf_0
  refine dp_s1 hF (i := .aload_n 0) rfl (fun _ => rfl) ?_
  refine dp_s1 hF (i := .iload_n 1) rfl (fun _ => rfl) ?_
  refine dp_s1 hF (i := .bipush 8) rfl (fun _ => rfl) ?_
  refine dp_sl9 (mj := dp_m_X0_get) (i := .invokevirtual 53) rfl rfl rfl rfl (fun _ => rfl) (fun r2 M1 => ?_)
  exact dp_s0 hF (i := .lreturn) rfl (fun _ => rfl)
noncomputable def D_X0_inState_0 (xs : Nat → Int32) (xl d : Nat) (v1 : Int32) (M : dp_M) : Option dp_Res := dp_lim true xs xl (dp_den true xs xl d) dp_m_X0_inState (0, [some (.ref 108), some (.int v1), none, none], [], M)
noncomputable def D_X0_inState_4 (xs : Nat → Int32) (xl d : Nat) (v1 : Int32) (v2 : Int32) (v3 : Int32) (M : dp_M) : Option dp_Res := dp_lim true xs xl (dp_den true xs xl d) dp_m_X0_inState (4, [some (.ref 108), some (.int v1), some (.int v2), some (.int v3)], [], M)
theorem D_X0_inState_0_den (xs : Nat → Int32) (xl d : Nat) (a0 : Int32) (M : dp_M) : dp_den true xs xl (d + 1) 7 [.ref 108, .int a0] M = D_X0_inState_0 xs xl d a0 M := rfl
set_option maxRecDepth 20000 in
theorem D_X0_inState_0_eq (xs : Nat → Int32) (xl d : Nat) (v1 : Int32) (M : dp_M) : D_X0_inState_0 xs xl d v1 M = dp_w (0 : Int32) (fun y1 => dp_w (0 : Int32) (fun y2 => D_X0_inState_4 xs xl d v1 y1 y2 M)) := by
  have hF := dp_den_grow (md := true) (xs := xs) (xl := xl) d
  unfold D_X0_inState_0
  refine dp_s1 hF (i := .iconst 0) rfl (fun _ => rfl) ?_
  refine dp_s1w (0 : Int32) (fun (y1 : Int32) => (2, [some (.ref 108), some (.int v1), some (.int y1), none], [], M)) hF (i := .istore_n 2) rfl (fun _ => rfl) (fun y1 => ?_)
  refine dp_s1 hF (i := .iconst 0) rfl (fun _ => rfl) ?_
  refine dp_s1w (0 : Int32) (fun (y2 : Int32) => (4, [some (.ref 108), some (.int v1), some (.int y1), some (.int y2)], [], M)) hF (i := .istore_n 3) rfl (fun _ => rfl) (fun y2 => ?_)
  exact rfl
set_option maxRecDepth 20000 in
theorem D_X0_inState_4_eq (xs : Nat → Int32) (xl d : Nat) (v1 : Int32) (v2 : Int32) (v3 : Int32) (M : dp_M) : D_X0_inState_4 xs xl d v1 v2 v3 M = if (dp_I M 108 5) ≤ v3 then (some (.inl (some (.int v2)), M)) else (dp_bi (dp_den true xs xl d 5 [.ref 108, .int v3] M) (fun r2 M1 => if r2 = v1 then (dp_w (v2 + (1 : Int32)) (fun y3 => dp_w (v3 + (1 : Int32)) (fun y4 => D_X0_inState_4 xs xl d v1 y3 y4 M1))) else (dp_w (v2 + (0 : Int32)) (fun y5 => dp_w (v3 + (1 : Int32)) (fun y6 => D_X0_inState_4 xs xl d v1 y5 y6 M1))))) := by
  have hF := dp_den_grow (md := true) (xs := xs) (xl := xl) d
  unfold D_X0_inState_4
  refine dp_s1 hF (i := .iload_n 3) rfl (fun _ => rfl) ?_
  refine dp_s1 hF (i := .aload_n 0) rfl (fun _ => rfl) ?_
  refine dp_s1 hF (i := .getfield 57) rfl (fun _ => rfl) ?_
  refine dp_s2 hF (i := .if_icmp .ge 26) (a := (35, [some (.ref 108), some (.int v1), some (.int v2), some (.int v3)], [], M)) (b := (12, [some (.ref 108), some (.int v1), some (.int v2), some (.int v3)], [], M)) rfl (fun _ => rfl) ?_ ?_
  · refine dp_s1 hF (i := .iload_n 2) rfl (fun _ => rfl) ?_
    exact dp_s0 hF (i := .ireturn) rfl (fun _ => rfl)
  refine dp_s1 hF (i := .iload_n 2) rfl (fun _ => rfl) ?_
  refine dp_s1 hF (i := .aload_n 0) rfl (fun _ => rfl) ?_
  refine dp_s1 hF (i := .iload_n 3) rfl (fun _ => rfl) ?_
  refine dp_si (mj := dp_m_X0_stateOf) (i := .invokevirtual 71) rfl rfl (Or.inl rfl) rfl (fun _ => rfl) (fun r2 M1 => ?_)
  refine dp_s1 hF (i := .iload_n 1) rfl (fun _ => rfl) ?_
  refine dp_s2 hF (i := .if_icmp .ne 7) (a := (22, [some (.ref 108), some (.int v1), some (.int v2), some (.int v3)], [.int v2], M1)) (b := (26, [some (.ref 108), some (.int v1), some (.int v2), some (.int v3)], [.int v2], M1)) rfl (fun _ => rfl) ?_ ?_
  · refine dp_s1 hF (i := .iconst 1) rfl (fun _ => rfl) ?_
    refine dp_s1 hF (i := .goto 4) rfl (fun _ => rfl) ?_
    refine dp_s1 hF (i := .iadd) rfl (fun _ => rfl) ?_
    refine dp_s1w (v2 + (1 : Int32)) (fun (y3 : Int32) => (29, [some (.ref 108), some (.int v1), some (.int y3), some (.int v3)], [], M1)) hF (i := .istore_n 2) rfl (fun _ => rfl) (fun y3 => ?_)
    refine dp_s1w (v3 + (1 : Int32)) (fun (y4 : Int32) => (32, [some (.ref 108), some (.int v1), some (.int y3), some (.int y4)], [], M1)) hF (i := .iinc 3 1) rfl (fun _ => rfl) (fun y4 => ?_)
    refine dp_s1 hF (i := .goto (-28)) rfl (fun _ => rfl) ?_
    exact rfl
  refine dp_s1 hF (i := .iconst 0) rfl (fun _ => rfl) ?_
  refine dp_s1 hF (i := .iadd) rfl (fun _ => rfl) ?_
  refine dp_s1w (v2 + (0 : Int32)) (fun (y5 : Int32) => (29, [some (.ref 108), some (.int v1), some (.int y5), some (.int v3)], [], M1)) hF (i := .istore_n 2) rfl (fun _ => rfl) (fun y5 => ?_)
  refine dp_s1w (v3 + (1 : Int32)) (fun (y6 : Int32) => (32, [some (.ref 108), some (.int v1), some (.int y5), some (.int y6)], [], M1)) hF (i := .iinc 3 1) rfl (fun _ => rfl) (fun y6 => ?_)
  refine dp_s1 hF (i := .goto (-28)) rfl (fun _ => rfl) ?_
  exact rfl
noncomputable def D_X0_fact_0 (xs : Nat → Int32) (xl d : Nat) (v1 : Int32) (v2 : Int32) (M : dp_M) : Option dp_Res := dp_lim true xs xl (dp_den true xs xl d) dp_m_X0_fact (0, [some (.ref 108), some (.int v1), some (.int v2)], [], M)
theorem D_X0_fact_0_den (xs : Nat → Int32) (xl d : Nat) (a0 : Int32) (a1 : Int32) (M : dp_M) : dp_den true xs xl (d + 1) 8 [.ref 108, .int a0, .int a1] M = D_X0_fact_0 xs xl d a0 a1 M := rfl
set_option maxRecDepth 20000 in
theorem D_X0_fact_0_eq (xs : Nat → Int32) (xl d : Nat) (v1 : Int32) (v2 : Int32) (M : dp_M) : D_X0_fact_0 xs xl d v1 v2 M = if v2 < (11 : Int32) then (dp_bl (dp_den true xs xl d 1 [.ref 108, .int v1, .int v2] M) (fun r2 M1 => some (.inl (some (.long r2)), M1))) else (if (14 : Int32) < v2 then (dp_bl (dp_den true xs xl d 1 [.ref 108, .int v1, .int v2] M) (fun r4 M3 => some (.inl (some (.long r4)), M3))) else (if v1 < 0 ∨ 400 ≤ Int32.toNatClampNeg v1 then none else (dp_bl (dp_den true xs xl d 9 [.ref 108, .int (dp_I M 109 (Int32.toNatClampNeg v1)), .int v2] M) (fun r6 M5 => some (.inl (some (.long r6)), M5))))) := by
  have hF := dp_den_grow (md := true) (xs := xs) (xl := xl) d
  unfold D_X0_fact_0
  refine dp_s1 hF (i := .iload_n 2) rfl (fun _ => rfl) ?_
  refine dp_s1 hF (i := .bipush 11) rfl (fun _ => rfl) ?_
  refine dp_s2 hF (i := .if_icmp .lt 23) (a := (26, [some (.ref 108), some (.int v1), some (.int v2)], [], M)) (b := (6, [some (.ref 108), some (.int v1), some (.int v2)], [], M)) rfl (fun _ => rfl) ?_ ?_
  · refine dp_s1 hF (i := .aload_n 0) rfl (fun _ => rfl) ?_
    refine dp_s1 hF (i := .iload_n 1) rfl (fun _ => rfl) ?_
    refine dp_s1 hF (i := .iload_n 2) rfl (fun _ => rfl) ?_
    refine dp_sl9 (mj := dp_m_X0_get) (i := .invokevirtual 53) rfl rfl rfl rfl (fun _ => rfl) (fun r2 M1 => ?_)
    exact dp_s0 hF (i := .lreturn) rfl (fun _ => rfl)
  refine dp_s1 hF (i := .iload_n 2) rfl (fun _ => rfl) ?_
  refine dp_s1 hF (i := .bipush 14) rfl (fun _ => rfl) ?_
  refine dp_s2 hF (i := .if_icmp .gt 17) (a := (26, [some (.ref 108), some (.int v1), some (.int v2)], [], M)) (b := (12, [some (.ref 108), some (.int v1), some (.int v2)], [], M)) rfl (fun _ => rfl) ?_ ?_
  · refine dp_s1 hF (i := .aload_n 0) rfl (fun _ => rfl) ?_
    refine dp_s1 hF (i := .iload_n 1) rfl (fun _ => rfl) ?_
    refine dp_s1 hF (i := .iload_n 2) rfl (fun _ => rfl) ?_
    refine dp_sl9 (mj := dp_m_X0_get) (i := .invokevirtual 53) rfl rfl rfl rfl (fun _ => rfl) (fun r4 M3 => ?_)
    exact dp_s0 hF (i := .lreturn) rfl (fun _ => rfl)
  refine dp_s1 hF (i := .aload_n 0) rfl (fun _ => rfl) ?_
  refine dp_s1 hF (i := .aload_n 0) rfl (fun _ => rfl) ?_
  refine dp_s1 hF (i := .getfield 11) rfl (fun _ => rfl) ?_
  refine dp_s1 hF (i := .iload_n 1) rfl (fun _ => rfl) ?_
  refine dp_s3 hF (i := .iaload) rfl (fun _ => rfl) ?_
  refine dp_s1 hF (i := .iload_n 2) rfl (fun _ => rfl) ?_
  refine dp_sl9 (mj := dp_m_X0_factOfAsk) (i := .invokevirtual 75) rfl rfl rfl rfl (fun _ => rfl) (fun r6 M5 => ?_)
  refine dp_s1 hF (i := .goto 9) rfl (fun _ => rfl) ?_
  exact dp_s0 hF (i := .lreturn) rfl (fun _ => rfl)
noncomputable def D_X0_factOfAsk_0 (xs : Nat → Int32) (xl d : Nat) (v1 : Int32) (v2 : Int32) (M : dp_M) : Option dp_Res := dp_lim true xs xl (dp_den true xs xl d) dp_m_X0_factOfAsk (0, [some (.ref 108), some (.int v1), some (.int v2)], [], M)
theorem D_X0_factOfAsk_0_den (xs : Nat → Int32) (xl d : Nat) (a0 : Int32) (a1 : Int32) (M : dp_M) : dp_den true xs xl (d + 1) 9 [.ref 108, .int a0, .int a1] M = D_X0_factOfAsk_0 xs xl d a0 a1 M := rfl
set_option maxRecDepth 20000 in
theorem D_X0_factOfAsk_0_eq (xs : Nat → Int32) (xl d : Nat) (v1 : Int32) (v2 : Int32) (M : dp_M) : D_X0_factOfAsk_0 xs xl d v1 v2 M = if v2 = (11 : Int32) then (if v1 = (-1 : Int32) then (some (.inl (some (.long (-1 : Int64))), M)) else (dp_bi (dp_den true xs xl d 118 [.ref 75, .int v1] M) (fun r2 M1 => some (.inl (some (.long (Int32.toInt64 r2))), M1)))) else if v2 = (12 : Int32) then (if v1 = (-1 : Int32) then (some (.inl (some (.long (0 : Int64))), M)) else (if v1 < 0 ∨ 400 ≤ Int32.toNatClampNeg v1 then none else (some (.inl (some (.long (dp_J M 85 (Int32.toNatClampNeg v1)))), M)))) else if v2 = (13 : Int32) then (if v1 = (-1 : Int32) then (some (.inl (some (.long (0 : Int64))), M)) else (if v1 < 0 ∨ 400 ≤ Int32.toNatClampNeg v1 then none else (some (.inl (some (.long (dp_J M 86 (Int32.toNatClampNeg v1)))), M)))) else (if v1 = (-1 : Int32) then (some (.inl (some (.long (-1 : Int64))), M)) else (if v1 < 0 ∨ 400 ≤ Int32.toNatClampNeg v1 then none else (some (.inl (some (.long (Int32.toInt64 (dp_I M 87 (Int32.toNatClampNeg v1))))), M)))) := by
  have hF := dp_den_grow (md := true) (xs := xs) (xl := xl) d
  unfold D_X0_factOfAsk_0
  refine dp_s1 hF (i := .iload_n 2) rfl (fun _ => rfl) ?_
  refine (dp_s (E := fun k => if v2 = (11 : Int32) then k (28, [some (.ref 108), some (.int v1), some (.int v2)], [], M) else if v2 = (12 : Int32) then k (49, [some (.ref 108), some (.int v1), some (.int v2)], [], M) else if v2 = (13 : Int32) then k (68, [some (.ref 108), some (.int v1), some (.int v2)], [], M) else k (87, [some (.ref 108), some (.int v1), some (.int v2)], [], M)) hF (i := .tableswitch 86 11 13 #[27, 48, 67]) rfl (fun _ => rfl)).trans ?_
  refine dp_ifc ?_ ?_
  · refine dp_s1 hF (i := .iload_n 1) rfl (fun _ => rfl) ?_
    refine dp_s1 hF (i := .iconst (-1)) rfl (fun _ => rfl) ?_
    refine dp_s2 hF (i := .if_icmp .ne 9) (a := (33, [some (.ref 108), some (.int v1), some (.int v2)], [], M)) (b := (39, [some (.ref 108), some (.int v1), some (.int v2)], [], M)) rfl (fun _ => rfl) ?_ ?_
    · refine dp_s1 hF (i := .ldc2_w 65) rfl (fun _ => rfl) ?_
      refine dp_s1 hF (i := .goto 12) rfl (fun _ => rfl) ?_
      exact dp_s0 hF (i := .lreturn) rfl (fun _ => rfl)
    refine dp_s1 hF (i := .aload_n 0) rfl (fun _ => rfl) ?_
    refine dp_s1 hF (i := .getfield 37) rfl (fun _ => rfl) ?_
    refine dp_s1 hF (i := .iload_n 1) rfl (fun _ => rfl) ?_
    refine dp_si (mj := dp_m_X5_orderOf) (i := .invokevirtual 78) rfl rfl (Or.inl rfl) rfl (fun _ => rfl) (fun r2 M1 => ?_)
    refine dp_s1 hF (i := .i2l) rfl (fun _ => rfl) ?_
    exact dp_s0 hF (i := .lreturn) rfl (fun _ => rfl)
  refine dp_ifc ?_ ?_
  · refine dp_s1 hF (i := .iload_n 1) rfl (fun _ => rfl) ?_
    refine dp_s1 hF (i := .iconst (-1)) rfl (fun _ => rfl) ?_
    refine dp_s2 hF (i := .if_icmp .ne 7) (a := (54, [some (.ref 108), some (.int v1), some (.int v2)], [], M)) (b := (58, [some (.ref 108), some (.int v1), some (.int v2)], [], M)) rfl (fun _ => rfl) ?_ ?_
    · refine dp_s1 hF (i := .lconst 0) rfl (fun _ => rfl) ?_
      refine dp_s1 hF (i := .goto 12) rfl (fun _ => rfl) ?_
      exact dp_s0 hF (i := .lreturn) rfl (fun _ => rfl)
    refine dp_s1 hF (i := .aload_n 0) rfl (fun _ => rfl) ?_
    refine dp_s1 hF (i := .getfield 37) rfl (fun _ => rfl) ?_
    refine dp_s1 hF (i := .getfield 83) rfl (fun _ => rfl) ?_
    refine dp_s1 hF (i := .iload_n 1) rfl (fun _ => rfl) ?_
    refine dp_s3 hF (i := .laload) rfl (fun _ => rfl) ?_
    exact dp_s0 hF (i := .lreturn) rfl (fun _ => rfl)
  refine dp_ifc ?_ ?_
  · refine dp_s1 hF (i := .iload_n 1) rfl (fun _ => rfl) ?_
    refine dp_s1 hF (i := .iconst (-1)) rfl (fun _ => rfl) ?_
    refine dp_s2 hF (i := .if_icmp .ne 7) (a := (73, [some (.ref 108), some (.int v1), some (.int v2)], [], M)) (b := (77, [some (.ref 108), some (.int v1), some (.int v2)], [], M)) rfl (fun _ => rfl) ?_ ?_
    · refine dp_s1 hF (i := .lconst 0) rfl (fun _ => rfl) ?_
      refine dp_s1 hF (i := .goto 12) rfl (fun _ => rfl) ?_
      exact dp_s0 hF (i := .lreturn) rfl (fun _ => rfl)
    refine dp_s1 hF (i := .aload_n 0) rfl (fun _ => rfl) ?_
    refine dp_s1 hF (i := .getfield 37) rfl (fun _ => rfl) ?_
    refine dp_s1 hF (i := .getfield 86) rfl (fun _ => rfl) ?_
    refine dp_s1 hF (i := .iload_n 1) rfl (fun _ => rfl) ?_
    refine dp_s3 hF (i := .laload) rfl (fun _ => rfl) ?_
    exact dp_s0 hF (i := .lreturn) rfl (fun _ => rfl)
  refine dp_s1 hF (i := .iload_n 1) rfl (fun _ => rfl) ?_
  refine dp_s1 hF (i := .iconst (-1)) rfl (fun _ => rfl) ?_
  refine dp_s2 hF (i := .if_icmp .ne 9) (a := (92, [some (.ref 108), some (.int v1), some (.int v2)], [], M)) (b := (98, [some (.ref 108), some (.int v1), some (.int v2)], [], M)) rfl (fun _ => rfl) ?_ ?_
  · refine dp_s1 hF (i := .ldc2_w 65) rfl (fun _ => rfl) ?_
    refine dp_s1 hF (i := .goto 13) rfl (fun _ => rfl) ?_
    exact dp_s0 hF (i := .lreturn) rfl (fun _ => rfl)
  refine dp_s1 hF (i := .aload_n 0) rfl (fun _ => rfl) ?_
  refine dp_s1 hF (i := .getfield 37) rfl (fun _ => rfl) ?_
  refine dp_s1 hF (i := .getfield 89) rfl (fun _ => rfl) ?_
  refine dp_s1 hF (i := .iload_n 1) rfl (fun _ => rfl) ?_
  refine dp_s3 hF (i := .iaload) rfl (fun _ => rfl) ?_
  refine dp_s1 hF (i := .i2l) rfl (fun _ => rfl) ?_
  exact dp_s0 hF (i := .lreturn) rfl (fun _ => rfl)
noncomputable def D_X0_setAmount_0 (xs : Nat → Int32) (xl d : Nat) (v1 : Int32) (v2 : Int32) (v3 : Int64) (M : dp_M) : Option dp_Res := dp_lim true xs xl (dp_den true xs xl d) dp_m_X0_setAmount (0, [some (.ref 108), some (.int v1), some (.int v2), some (.long v3), none], [], M)
theorem D_X0_setAmount_0_den (xs : Nat → Int32) (xl d : Nat) (a0 : Int32) (a1 : Int32) (a2 : Int64) (M : dp_M) : dp_den true xs xl (d + 1) 10 [.ref 108, .int a0, .int a1, .long a2] M = D_X0_setAmount_0 xs xl d a0 a1 a2 M := rfl
set_option maxRecDepth 20000 in
theorem D_X0_setAmount_0_eq (xs : Nat → Int32) (xl d : Nat) (v1 : Int32) (v2 : Int32) (v3 : Int64) (M : dp_M) : D_X0_setAmount_0 xs xl d v1 v2 v3 M = dp_bv (dp_den true xs xl d 3 [.ref 108, .int v1, .int ((15 : Int32) + v2), .long v3] M) (fun M1 => some (.inl none, M1)) := by
  have hF := dp_den_grow (md := true) (xs := xs) (xl := xl) d
  unfold D_X0_setAmount_0
  refine dp_s1 hF (i := .aload_n 0) rfl (fun _ => rfl) ?_
  refine dp_s1 hF (i := .iload_n 1) rfl (fun _ => rfl) ?_
  refine dp_s1 hF (i := .bipush 15) rfl (fun _ => rfl) ?_
  refine dp_s1 hF (i := .iload_n 2) rfl (fun _ => rfl) ?_
  refine dp_s1 hF (i := .iadd) rfl (fun _ => rfl) ?_
  refine dp_s1 hF (i := .lload_n 3) rfl (fun _ => rfl) ?_
  refine dp_sv (mj := dp_m_X0_set) (i := .invokevirtual 61) rfl rfl rfl rfl (fun _ => rfl) (fun M1 => ?_)
  exact dp_s0 hF (i := .return_) rfl (fun _ => rfl)
noncomputable def D_X0_addAsk_0 (xs : Nat → Int32) (xl d : Nat) (v1 : Int32) (v2 : Int32) (v3 : Int64) (M : dp_M) : Option dp_Res := dp_lim true xs xl (dp_den true xs xl d) dp_m_X0_addAsk (0, [some (.ref 108), some (.int v1), some (.int v2), some (.long v3), none], [], M)
theorem D_X0_addAsk_0_den (xs : Nat → Int32) (xl d : Nat) (a0 : Int32) (a1 : Int32) (a2 : Int64) (M : dp_M) : dp_den true xs xl (d + 1) 11 [.ref 108, .int a0, .int a1, .long a2] M = D_X0_addAsk_0 xs xl d a0 a1 a2 M := rfl
set_option maxRecDepth 20000 in
theorem D_X0_addAsk_0_eq (xs : Nat → Int32) (xl d : Nat) (v1 : Int32) (v2 : Int32) (v3 : Int64) (M : dp_M) : D_X0_addAsk_0 xs xl d v1 v2 v3 M = dp_bi (dp_den true xs xl d 2 [.ref 108, .int v1, .int (5 : Int32)] M) (fun r2 M1 => dp_bi (dp_den true xs xl d 117 [.ref 75, .int v2, .int r2] M1) (fun r4 M3 => if r4 = 0 then (some (.inl (some (.int (0 : Int32))), M3)) else (dp_bi (dp_den true xs xl d 2 [.ref 108, .int v1, .int (2 : Int32)] M3) (fun r6 M5 => dp_bi (dp_den true xs xl d 2 [.ref 108, .int v1, .int (5 : Int32)] M5) (fun r8 M7 => dp_bi (dp_den true xs xl d 119 [.ref 75, .int v2, .int r6, .int r8, .long v3] M7) (fun r10 M9 => if v1 < 0 ∨ 400 ≤ Int32.toNatClampNeg v1 then none else dp_w (dp_setI M9 109 (Int32.toNatClampNeg v1) r10) (fun M11 => some (.inl (some (.int (1 : Int32))), M11)))))))) := by
  have hF := dp_den_grow (md := true) (xs := xs) (xl := xl) d
  unfold D_X0_addAsk_0
  refine dp_s1 hF (i := .aload_n 0) rfl (fun _ => rfl) ?_
  refine dp_s1 hF (i := .getfield 37) rfl (fun _ => rfl) ?_
  refine dp_s1 hF (i := .iload_n 2) rfl (fun _ => rfl) ?_
  refine dp_s1 hF (i := .aload_n 0) rfl (fun _ => rfl) ?_
  refine dp_s1 hF (i := .iload_n 1) rfl (fun _ => rfl) ?_
  refine dp_s1 hF (i := .iconst 5) rfl (fun _ => rfl) ?_
  refine dp_si (mj := dp_m_X0_small) (i := .invokevirtual 67) rfl rfl (Or.inl rfl) rfl (fun _ => rfl) (fun r2 M1 => ?_)
  refine dp_si (mj := dp_m_X5_isInSpan) (i := .invokevirtual 92) rfl rfl (Or.inr rfl) rfl (fun _ => rfl) (fun r4 M3 => ?_)
  refine dp_s2 hF (i := .ifCond .ne 5) (a := (17, [some (.ref 108), some (.int v1), some (.int v2), some (.long v3), none], [], M3)) (b := (19, [some (.ref 108), some (.int v1), some (.int v2), some (.long v3), none], [], M3)) rfl (fun _ => rfl) ?_ ?_
  · refine dp_s1 hF (i := .iconst 0) rfl (fun _ => rfl) ?_
    exact dp_s0 hF (i := .ireturn) rfl (fun _ => rfl)
  refine dp_s1 hF (i := .aload_n 0) rfl (fun _ => rfl) ?_
  refine dp_s1 hF (i := .getfield 11) rfl (fun _ => rfl) ?_
  refine dp_s1 hF (i := .iload_n 1) rfl (fun _ => rfl) ?_
  refine dp_s1 hF (i := .aload_n 0) rfl (fun _ => rfl) ?_
  refine dp_s1 hF (i := .getfield 37) rfl (fun _ => rfl) ?_
  refine dp_s1 hF (i := .iload_n 2) rfl (fun _ => rfl) ?_
  refine dp_s1 hF (i := .aload_n 0) rfl (fun _ => rfl) ?_
  refine dp_s1 hF (i := .iload_n 1) rfl (fun _ => rfl) ?_
  refine dp_s1 hF (i := .iconst 2) rfl (fun _ => rfl) ?_
  refine dp_si (mj := dp_m_X0_small) (i := .invokevirtual 67) rfl rfl (Or.inl rfl) rfl (fun _ => rfl) (fun r6 M5 => ?_)
  refine dp_s1 hF (i := .aload_n 0) rfl (fun _ => rfl) ?_
  refine dp_s1 hF (i := .iload_n 1) rfl (fun _ => rfl) ?_
  refine dp_s1 hF (i := .iconst 5) rfl (fun _ => rfl) ?_
  refine dp_si (mj := dp_m_X0_small) (i := .invokevirtual 67) rfl rfl (Or.inl rfl) rfl (fun _ => rfl) (fun r8 M7 => ?_)
  refine dp_s1 hF (i := .lload_n 3) rfl (fun _ => rfl) ?_
  refine dp_si (mj := dp_m_X5_addAsk) (i := .invokevirtual 96) rfl rfl (Or.inl rfl) rfl (fun _ => rfl) (fun r10 M9 => ?_)
  refine dp_s3w (dp_setI M9 109 (Int32.toNatClampNeg v1) r10) (fun (M11 : dp_M) => (46, [some (.ref 108), some (.int v1), some (.int v2), some (.long v3), none], [], M11)) hF (i := .iastore) rfl (fun _ => rfl) (fun M11 => ?_)
  refine dp_s1 hF (i := .iconst 1) rfl (fun _ => rfl) ?_
  exact dp_s0 hF (i := .ireturn) rfl (fun _ => rfl)
noncomputable def D_X0_valueWithOne_0 (xs : Nat → Int32) (xl d : Nat) (p1 : Nat) (v2 : Int64) (v4 : Int32) (v5 : Int64) (M : dp_M) : Option dp_Res := dp_lim true xs xl (dp_den true xs xl d) dp_m_X0_valueWithOne (0, [some (.ref 108), some (.ref p1), some (.long v2), none, some (.int v4), some (.long v5), none], [], M)
theorem D_X0_valueWithOne_0_den (xs : Nat → Int32) (xl d : Nat) (a0 : Nat) (a1 : Int64) (a2 : Int32) (a3 : Int64) (M : dp_M) : dp_den true xs xl (d + 1) 12 [.ref 108, .ref a0, .long a1, .int a2, .long a3] M = D_X0_valueWithOne_0 xs xl d a0 a1 a2 a3 M := rfl
set_option maxRecDepth 20000 in
theorem D_X0_valueWithOne_0_eq (xs : Nat → Int32) (xl d : Nat) (p1 : Nat) (v2 : Int64) (v4 : Int32) (v5 : Int64) (M : dp_M) : D_X0_valueWithOne_0 xs xl d p1 v2 v4 v5 M = if v4 < 0 ∨ 8 ≤ Int32.toNatClampNeg v4 then none else dp_w (dp_setJ M 112 (Int32.toNatClampNeg v4) v5) (fun M1 => if dp_t true M1 p1 = 16 then dp_bl (dp_den true xs xl d 138 [.ref p1, .long v2, .ref 112, .ref 113] M1) (fun r3 M2 => some (.inl (some (.long r3)), M2)) else none) := by
  have hF := dp_den_grow (md := true) (xs := xs) (xl := xl) d
  unfold D_X0_valueWithOne_0
  refine dp_s1 hF (i := .aload_n 0) rfl (fun _ => rfl) ?_
  refine dp_s1 hF (i := .getfield 27) rfl (fun _ => rfl) ?_
  refine dp_s1 hF (i := .iload 4) rfl (fun _ => rfl) ?_
  refine dp_s1 hF (i := .lload 5) rfl (fun _ => rfl) ?_
  refine dp_s3w (dp_setJ M 112 (Int32.toNatClampNeg v4) v5) (fun (M1 : dp_M) => (9, [some (.ref 108), some (.ref p1), some (.long v2), none, some (.int v4), some (.long v5), none], [], M1)) hF (i := .lastore) rfl (fun _ => rfl) (fun M1 => ?_)
  refine dp_s1 hF (i := .aload_n 1) rfl (fun _ => rfl) ?_
  refine dp_s1 hF (i := .lload_n 2) rfl (fun _ => rfl) ?_
  refine dp_s1 hF (i := .aload_n 0) rfl (fun _ => rfl) ?_
  refine dp_s1 hF (i := .getfield 27) rfl (fun _ => rfl) ?_
  refine dp_s1 hF (i := .aload_n 0) rfl (fun _ => rfl) ?_
  refine dp_s1 hF (i := .getfield 30) rfl (fun _ => rfl) ?_
  refine dp_sl4 (mj := dp_m_X6_valueAt) (i := .invokevirtual 100) rfl rfl rfl rfl (fun _ => rfl) (fun r3 M2 => ?_)
  exact dp_s0 hF (i := .lreturn) rfl (fun _ => rfl)
noncomputable def D_X0_reckon_0 (xs : Nat → Int32) (xl d : Nat) (v1 : Int32) (v2 : Int32) (M : dp_M) : Option dp_Res := dp_lim true xs xl (dp_den true xs xl d) dp_m_X0_reckon (0, [some (.ref 108), some (.int v1), some (.int v2), none, none, none, none, none, none], [], M)
noncomputable def D_X0_reckon_33 (xs : Nat → Int32) (xl d : Nat) (v1 : Int32) (v2 : Int32) (v3 : Int32) (v4 : Int64) (v6 : Int32) (M : dp_M) : Option dp_Res := dp_lim true xs xl (dp_den true xs xl d) dp_m_X0_reckon (33, [some (.ref 108), some (.int v1), some (.int v2), some (.int v3), some (.long v4), none, some (.int v6), none, none], [], M)
noncomputable def D_X0_reckon_91 (xs : Nat → Int32) (xl d : Nat) (v1 : Int32) (v2 : Int32) (v3 : Int32) (v4 : Int64) (v6 : Int32) (vs0 : Int32) (M : dp_M) : Option dp_Res := dp_lim true xs xl (dp_den true xs xl d) dp_m_X0_reckon (91, [some (.ref 108), some (.int v1), some (.int v2), some (.int v3), some (.long v4), none, some (.int v6), some .null, none], [.int vs0], M)
noncomputable def D_X0_reckon_91_a (xs : Nat → Int32) (xl d : Nat) (v1 : Int32) (v2 : Int32) (v3 : Int32) (v4 : Int64) (v6 : Int32) (p7 : Nat) (vs0 : Int32) (M : dp_M) : Option dp_Res := dp_lim true xs xl (dp_den true xs xl d) dp_m_X0_reckon (91, [some (.ref 108), some (.int v1), some (.int v2), some (.int v3), some (.long v4), none, some (.int v6), some (.ref p7), none], [.int vs0], M)
noncomputable def D_X0_reckon_33_a (xs : Nat → Int32) (xl d : Nat) (v1 : Int32) (v2 : Int32) (v3 : Int32) (v4 : Int64) (v6 : Int32) (v8 : Int32) (M : dp_M) : Option dp_Res := dp_lim true xs xl (dp_den true xs xl d) dp_m_X0_reckon (33, [some (.ref 108), some (.int v1), some (.int v2), some (.int v3), some (.long v4), none, some (.int v6), some .null, some (.int v8)], [], M)
noncomputable def D_X0_reckon_33_b (xs : Nat → Int32) (xl d : Nat) (v1 : Int32) (v2 : Int32) (v3 : Int32) (v4 : Int64) (v6 : Int32) (p7 : Nat) (v8 : Int32) (M : dp_M) : Option dp_Res := dp_lim true xs xl (dp_den true xs xl d) dp_m_X0_reckon (33, [some (.ref 108), some (.int v1), some (.int v2), some (.int v3), some (.long v4), none, some (.int v6), some (.ref p7), some (.int v8)], [], M)
noncomputable def D_X0_reckon_91_b (xs : Nat → Int32) (xl d : Nat) (v1 : Int32) (v2 : Int32) (v3 : Int32) (v4 : Int64) (v6 : Int32) (v8 : Int32) (vs0 : Int32) (M : dp_M) : Option dp_Res := dp_lim true xs xl (dp_den true xs xl d) dp_m_X0_reckon (91, [some (.ref 108), some (.int v1), some (.int v2), some (.int v3), some (.long v4), none, some (.int v6), some .null, some (.int v8)], [.int vs0], M)
noncomputable def D_X0_reckon_91_c (xs : Nat → Int32) (xl d : Nat) (v1 : Int32) (v2 : Int32) (v3 : Int32) (v4 : Int64) (v6 : Int32) (p7 : Nat) (v8 : Int32) (vs0 : Int32) (M : dp_M) : Option dp_Res := dp_lim true xs xl (dp_den true xs xl d) dp_m_X0_reckon (91, [some (.ref 108), some (.int v1), some (.int v2), some (.int v3), some (.long v4), none, some (.int v6), some (.ref p7), some (.int v8)], [.int vs0], M)
theorem D_X0_reckon_0_den (xs : Nat → Int32) (xl d : Nat) (a0 : Int32) (a1 : Int32) (M : dp_M) : dp_den true xs xl (d + 1) 13 [.ref 108, .int a0, .int a1] M = D_X0_reckon_0 xs xl d a0 a1 M := rfl
set_option maxRecDepth 20000 in
theorem D_X0_reckon_0_eq (xs : Nat → Int32) (xl d : Nat) (v1 : Int32) (v2 : Int32) (M : dp_M) : D_X0_reckon_0 xs xl d v1 v2 M = dp_bi (dp_den true xs xl d 2 [.ref 108, .int v1, .int (3 : Int32)] M) (fun r2 M1 => dp_bi (dp_den true xs xl d 2 [.ref 108, .int v1, .int (4 : Int32)] M1) (fun r4 M3 => dp_bi (dp_den true xs xl d 2 [.ref 108, .int v1, .int (5 : Int32)] M3) (fun r6 M5 => dp_bi (dp_den true xs xl d 223 [.ref 51, .int r2, .int r4, .int r6, .int v2] M5) (fun r8 M7 => dp_w (0 : Int64) (fun y9 => dp_w (0 : Int32) (fun y10 => D_X0_reckon_33 xs xl d v1 v2 r8 y9 y10 M7)))))) := by
  have hF := dp_den_grow (md := true) (xs := xs) (xl := xl) d
  unfold D_X0_reckon_0
  refine dp_s1 hF (i := .aload_n 0) rfl (fun _ => rfl) ?_
  refine dp_s1 hF (i := .getfield 33) rfl (fun _ => rfl) ?_
  refine dp_s1 hF (i := .aload_n 0) rfl (fun _ => rfl) ?_
  refine dp_s1 hF (i := .iload_n 1) rfl (fun _ => rfl) ?_
  refine dp_s1 hF (i := .iconst 3) rfl (fun _ => rfl) ?_
  refine dp_si (mj := dp_m_X0_small) (i := .invokevirtual 67) rfl rfl (Or.inl rfl) rfl (fun _ => rfl) (fun r2 M1 => ?_)
  refine dp_s1 hF (i := .aload_n 0) rfl (fun _ => rfl) ?_
  refine dp_s1 hF (i := .iload_n 1) rfl (fun _ => rfl) ?_
  refine dp_s1 hF (i := .iconst 4) rfl (fun _ => rfl) ?_
  refine dp_si (mj := dp_m_X0_small) (i := .invokevirtual 67) rfl rfl (Or.inl rfl) rfl (fun _ => rfl) (fun r4 M3 => ?_)
  refine dp_s1 hF (i := .aload_n 0) rfl (fun _ => rfl) ?_
  refine dp_s1 hF (i := .iload_n 1) rfl (fun _ => rfl) ?_
  refine dp_s1 hF (i := .iconst 5) rfl (fun _ => rfl) ?_
  refine dp_si (mj := dp_m_X0_small) (i := .invokevirtual 67) rfl rfl (Or.inl rfl) rfl (fun _ => rfl) (fun r6 M5 => ?_)
  refine dp_s1 hF (i := .iload_n 2) rfl (fun _ => rfl) ?_
  refine dp_si (mj := dp_m_X9_find) (i := .invokevirtual 104) rfl rfl (Or.inl rfl) rfl (fun _ => rfl) (fun r8 M7 => ?_)
  refine dp_s1 hF (i := .istore_n 3) rfl (fun _ => rfl) ?_
  refine dp_s1 hF (i := .lconst 0) rfl (fun _ => rfl) ?_
  refine dp_s1w (0 : Int64) (fun (y9 : Int64) => (30, [some (.ref 108), some (.int v1), some (.int v2), some (.int r8), some (.long y9), none, none, none, none], [], M7)) hF (i := .lstore 4) rfl (fun _ => rfl) (fun y9 => ?_)
  refine dp_s1 hF (i := .iconst 0) rfl (fun _ => rfl) ?_
  refine dp_s1w (0 : Int32) (fun (y10 : Int32) => (33, [some (.ref 108), some (.int v1), some (.int v2), some (.int r8), some (.long y9), none, some (.int y10), none, none], [], M7)) hF (i := .istore 6) rfl (fun _ => rfl) (fun y10 => ?_)
  exact rfl
set_option maxRecDepth 20000 in
theorem D_X0_reckon_33_eq (xs : Nat → Int32) (xl d : Nat) (v1 : Int32) (v2 : Int32) (v3 : Int32) (v4 : Int64) (v6 : Int32) (M : dp_M) : D_X0_reckon_33 xs xl d v1 v2 v3 v4 v6 M = if v3 ≤ v6 then (if (lg_cmp v4 (1000000000 : Int64)) ≤ 0 then (some (.inl (some (.long v4)), M)) else (some (.inl (some (.long (-1 : Int64))), M))) else (if v6 < 0 ∨ 300 ≤ Int32.toNatClampNeg v6 then none else (if (dp_I M 58 (Int32.toNatClampNeg v6)) < 0 ∨ 301 ≤ Int32.toNatClampNeg (dp_I M 58 (Int32.toNatClampNeg v6)) then none else dp_o (dp_R M 59 (Int32.toNatClampNeg (dp_I M 58 (Int32.toNatClampNeg v6)))) (D_X0_reckon_91 xs xl d v1 v2 v3 v4 v6 (0 : Int32) M) (fun q1 => if v6 < 0 ∨ 300 ≤ Int32.toNatClampNeg v6 then none else (if (dp_I M 58 (Int32.toNatClampNeg v6)) < 0 ∨ 301 ≤ Int32.toNatClampNeg (dp_I M 58 (Int32.toNatClampNeg v6)) then none else (dp_bi (dp_den true xs xl d 14 [.ref 108, .int v1, .int (dp_I M 53 (Int32.toNatClampNeg (dp_I M 58 (Int32.toNatClampNeg v6))))] M) (fun r3 M2 => D_X0_reckon_91_a xs xl d v1 v2 v3 v4 v6 q1 r3 M2)))))) := by
  have hF := dp_den_grow (md := true) (xs := xs) (xl := xl) d
  unfold D_X0_reckon_33
  refine dp_s1 hF (i := .iload 6) rfl (fun _ => rfl) ?_
  refine dp_s1 hF (i := .iload_n 3) rfl (fun _ => rfl) ?_
  refine dp_s2 hF (i := .if_icmp .ge 104) (a := (140, [some (.ref 108), some (.int v1), some (.int v2), some (.int v3), some (.long v4), none, some (.int v6), none, none], [], M)) (b := (39, [some (.ref 108), some (.int v1), some (.int v2), some (.int v3), some (.long v4), none, some (.int v6), none, none], [], M)) rfl (fun _ => rfl) ?_ ?_
  · refine dp_s1 hF (i := .lload 4) rfl (fun _ => rfl) ?_
    refine dp_s1 hF (i := .ldc2_w 131) rfl (fun _ => rfl) ?_
    refine dp_s1 hF (i := .lcmp) rfl (fun _ => rfl) ?_
    refine dp_s2 hF (i := .ifCond .le 9) (a := (155, [some (.ref 108), some (.int v1), some (.int v2), some (.int v3), some (.long v4), none, some (.int v6), none, none], [], M)) (b := (149, [some (.ref 108), some (.int v1), some (.int v2), some (.int v3), some (.long v4), none, some (.int v6), none, none], [], M)) rfl (fun _ => rfl) ?_ ?_
    · refine dp_s1 hF (i := .lload 4) rfl (fun _ => rfl) ?_
      exact dp_s0 hF (i := .lreturn) rfl (fun _ => rfl)
    refine dp_s1 hF (i := .ldc2_w 65) rfl (fun _ => rfl) ?_
    refine dp_s1 hF (i := .goto 5) rfl (fun _ => rfl) ?_
    exact dp_s0 hF (i := .lreturn) rfl (fun _ => rfl)
  refine dp_s1 hF (i := .aload_n 0) rfl (fun _ => rfl) ?_
  refine dp_s1 hF (i := .getfield 33) rfl (fun _ => rfl) ?_
  refine dp_s1 hF (i := .getfield 110) rfl (fun _ => rfl) ?_
  refine dp_s1 hF (i := .aload_n 0) rfl (fun _ => rfl) ?_
  refine dp_s1 hF (i := .getfield 33) rfl (fun _ => rfl) ?_
  refine dp_s1 hF (i := .getfield 114) rfl (fun _ => rfl) ?_
  refine dp_s1 hF (i := .iload 6) rfl (fun _ => rfl) ?_
  refine dp_s3 hF (i := .iaload) rfl (fun _ => rfl) ?_
  refine dp_s3o hF (i := .aaload) (x := dp_R M 59 (Int32.toNatClampNeg (dp_I M 58 (Int32.toNatClampNeg v6)))) rfl (fun _ => rfl) ?_ (fun q1 => ?_)
  · refine dp_s1 hF (i := .astore 7) rfl (fun _ => rfl) ?_
    refine dp_s1 hF (i := .aload 7) rfl (fun _ => rfl) ?_
    refine dp_s1 hF (i := .ifnonnull 7) rfl (fun _ => rfl) ?_
    refine dp_s1 hF (i := .iconst 0) rfl (fun _ => rfl) ?_
    refine dp_s1 hF (i := .goto 26) rfl (fun _ => rfl) ?_
    exact rfl
  refine dp_s1 hF (i := .astore 7) rfl (fun _ => rfl) ?_
  refine dp_s1 hF (i := .aload 7) rfl (fun _ => rfl) ?_
  refine dp_s1 hF (i := .ifnonnull 7) rfl (fun _ => rfl) ?_
  refine dp_s1 hF (i := .aload_n 0) rfl (fun _ => rfl) ?_
  refine dp_s1 hF (i := .iload_n 1) rfl (fun _ => rfl) ?_
  refine dp_s1 hF (i := .aload_n 0) rfl (fun _ => rfl) ?_
  refine dp_s1 hF (i := .getfield 33) rfl (fun _ => rfl) ?_
  refine dp_s1 hF (i := .getfield 117) rfl (fun _ => rfl) ?_
  refine dp_s1 hF (i := .aload_n 0) rfl (fun _ => rfl) ?_
  refine dp_s1 hF (i := .getfield 33) rfl (fun _ => rfl) ?_
  refine dp_s1 hF (i := .getfield 114) rfl (fun _ => rfl) ?_
  refine dp_s1 hF (i := .iload 6) rfl (fun _ => rfl) ?_
  refine dp_s3 hF (i := .iaload) rfl (fun _ => rfl) ?_
  refine dp_s3 hF (i := .iaload) rfl (fun _ => rfl) ?_
  refine dp_si (mj := dp_m_X0_baseOf) (i := .invokevirtual 120) rfl rfl (Or.inl rfl) rfl (fun _ => rfl) (fun r3 M2 => ?_)
  exact rfl
set_option maxRecDepth 20000 in
theorem D_X0_reckon_91_eq (xs : Nat → Int32) (xl d : Nat) (v1 : Int32) (v2 : Int32) (v3 : Int32) (v4 : Int64) (v6 : Int32) (vs0 : Int32) (M : dp_M) : D_X0_reckon_91 xs xl d v1 v2 v3 v4 v6 vs0 M = dp_w (v6 + (1 : Int32)) (fun y1 => D_X0_reckon_33_a xs xl d v1 v2 v3 v4 y1 vs0 M) := by
  have hF := dp_den_grow (md := true) (xs := xs) (xl := xl) d
  unfold D_X0_reckon_91
  refine dp_s1 hF (i := .istore 8) rfl (fun _ => rfl) ?_
  refine dp_s1 hF (i := .aload 7) rfl (fun _ => rfl) ?_
  refine dp_s1 hF (i := .ifnull 39) rfl (fun _ => rfl) ?_
  refine dp_s1w (v6 + (1 : Int32)) (fun (y1 : Int32) => (137, [some (.ref 108), some (.int v1), some (.int v2), some (.int v3), some (.long v4), none, some (.int y1), some .null, some (.int vs0)], [], M)) hF (i := .iinc 6 1) rfl (fun _ => rfl) (fun y1 => ?_)
  refine dp_s1 hF (i := .goto (-104)) rfl (fun _ => rfl) ?_
  exact rfl
set_option maxRecDepth 20000 in
theorem D_X0_reckon_91_a_eq (xs : Nat → Int32) (xl d : Nat) (v1 : Int32) (v2 : Int32) (v3 : Int32) (v4 : Int64) (v6 : Int32) (p7 : Nat) (vs0 : Int32) (M : dp_M) : D_X0_reckon_91_a xs xl d v1 v2 v3 v4 v6 p7 vs0 M = if vs0 = 0 then (dp_w (v6 + (1 : Int32)) (fun y1 => D_X0_reckon_33_b xs xl d v1 v2 v3 v4 y1 p7 vs0 M)) else (dp_bi (dp_den true xs xl d 15 [.ref 108, .int v1, .ref p7] M) (fun r3 M2 => if r3 = 0 then (dp_bl (dp_den true xs xl d 16 [.ref 108, .int v1, .ref p7, .int vs0] M2) (fun r5 M4 => dp_w (v4 + r5) (fun y6 => dp_w (v6 + (1 : Int32)) (fun y7 => D_X0_reckon_33_b xs xl d v1 v2 v3 y6 y7 p7 vs0 M4)))) else (some (.inl (some (.long (-1 : Int64))), M2)))) := by
  have hF := dp_den_grow (md := true) (xs := xs) (xl := xl) d
  unfold D_X0_reckon_91_a
  refine dp_s1 hF (i := .istore 8) rfl (fun _ => rfl) ?_
  refine dp_s1 hF (i := .aload 7) rfl (fun _ => rfl) ?_
  refine dp_s1 hF (i := .ifnull 39) rfl (fun _ => rfl) ?_
  refine dp_s1 hF (i := .iload 8) rfl (fun _ => rfl) ?_
  refine dp_s2 hF (i := .ifCond .ne 6) (a := (103, [some (.ref 108), some (.int v1), some (.int v2), some (.int v3), some (.long v4), none, some (.int v6), some (.ref p7), some (.int vs0)], [], M)) (b := (106, [some (.ref 108), some (.int v1), some (.int v2), some (.int v3), some (.long v4), none, some (.int v6), some (.ref p7), some (.int vs0)], [], M)) rfl (fun _ => rfl) ?_ ?_
  · refine dp_s1 hF (i := .goto 31) rfl (fun _ => rfl) ?_
    refine dp_s1w (v6 + (1 : Int32)) (fun (y1 : Int32) => (137, [some (.ref 108), some (.int v1), some (.int v2), some (.int v3), some (.long v4), none, some (.int y1), some (.ref p7), some (.int vs0)], [], M)) hF (i := .iinc 6 1) rfl (fun _ => rfl) (fun y1 => ?_)
    refine dp_s1 hF (i := .goto (-104)) rfl (fun _ => rfl) ?_
    exact rfl
  refine dp_s1 hF (i := .aload_n 0) rfl (fun _ => rfl) ?_
  refine dp_s1 hF (i := .iload_n 1) rfl (fun _ => rfl) ?_
  refine dp_s1 hF (i := .aload 7) rfl (fun _ => rfl) ?_
  refine dp_si (mj := dp_m_X0_lacksAmount) (i := .invokevirtual 123) rfl rfl (Or.inr rfl) rfl (fun _ => rfl) (fun r3 M2 => ?_)
  refine dp_s2 hF (i := .ifCond .eq 7) (a := (120, [some (.ref 108), some (.int v1), some (.int v2), some (.int v3), some (.long v4), none, some (.int v6), some (.ref p7), some (.int vs0)], [], M2)) (b := (116, [some (.ref 108), some (.int v1), some (.int v2), some (.int v3), some (.long v4), none, some (.int v6), some (.ref p7), some (.int vs0)], [], M2)) rfl (fun _ => rfl) ?_ ?_
  · refine dp_s1 hF (i := .lload 4) rfl (fun _ => rfl) ?_
    refine dp_s1 hF (i := .aload_n 0) rfl (fun _ => rfl) ?_
    refine dp_s1 hF (i := .iload_n 1) rfl (fun _ => rfl) ?_
    refine dp_s1 hF (i := .aload 7) rfl (fun _ => rfl) ?_
    refine dp_s1 hF (i := .iload 8) rfl (fun _ => rfl) ?_
    refine dp_sl9 (mj := dp_m_X0_centsOf) (i := .invokevirtual 127) rfl rfl rfl rfl (fun _ => rfl) (fun r5 M4 => ?_)
    refine dp_s1 hF (i := .ladd) rfl (fun _ => rfl) ?_
    refine dp_s1w (v4 + r5) (fun (y6 : Int64) => (134, [some (.ref 108), some (.int v1), some (.int v2), some (.int v3), some (.long y6), none, some (.int v6), some (.ref p7), some (.int vs0)], [], M4)) hF (i := .lstore 4) rfl (fun _ => rfl) (fun y6 => ?_)
    refine dp_s1w (v6 + (1 : Int32)) (fun (y7 : Int32) => (137, [some (.ref 108), some (.int v1), some (.int v2), some (.int v3), some (.long y6), none, some (.int y7), some (.ref p7), some (.int vs0)], [], M4)) hF (i := .iinc 6 1) rfl (fun _ => rfl) (fun y7 => ?_)
    refine dp_s1 hF (i := .goto (-104)) rfl (fun _ => rfl) ?_
    exact rfl
  refine dp_s1 hF (i := .ldc2_w 65) rfl (fun _ => rfl) ?_
  exact dp_s0 hF (i := .lreturn) rfl (fun _ => rfl)
set_option maxRecDepth 20000 in
theorem D_X0_reckon_33_a_eq (xs : Nat → Int32) (xl d : Nat) (v1 : Int32) (v2 : Int32) (v3 : Int32) (v4 : Int64) (v6 : Int32) (v8 : Int32) (M : dp_M) : D_X0_reckon_33_a xs xl d v1 v2 v3 v4 v6 v8 M = if v3 ≤ v6 then (if (lg_cmp v4 (1000000000 : Int64)) ≤ 0 then (some (.inl (some (.long v4)), M)) else (some (.inl (some (.long (-1 : Int64))), M))) else (if v6 < 0 ∨ 300 ≤ Int32.toNatClampNeg v6 then none else (if (dp_I M 58 (Int32.toNatClampNeg v6)) < 0 ∨ 301 ≤ Int32.toNatClampNeg (dp_I M 58 (Int32.toNatClampNeg v6)) then none else dp_o (dp_R M 59 (Int32.toNatClampNeg (dp_I M 58 (Int32.toNatClampNeg v6)))) (D_X0_reckon_91_b xs xl d v1 v2 v3 v4 v6 v8 (0 : Int32) M) (fun q1 => if v6 < 0 ∨ 300 ≤ Int32.toNatClampNeg v6 then none else (if (dp_I M 58 (Int32.toNatClampNeg v6)) < 0 ∨ 301 ≤ Int32.toNatClampNeg (dp_I M 58 (Int32.toNatClampNeg v6)) then none else (dp_bi (dp_den true xs xl d 14 [.ref 108, .int v1, .int (dp_I M 53 (Int32.toNatClampNeg (dp_I M 58 (Int32.toNatClampNeg v6))))] M) (fun r3 M2 => D_X0_reckon_91_c xs xl d v1 v2 v3 v4 v6 q1 v8 r3 M2)))))) := by
  have hF := dp_den_grow (md := true) (xs := xs) (xl := xl) d
  unfold D_X0_reckon_33_a
  refine dp_s1 hF (i := .iload 6) rfl (fun _ => rfl) ?_
  refine dp_s1 hF (i := .iload_n 3) rfl (fun _ => rfl) ?_
  refine dp_s2 hF (i := .if_icmp .ge 104) (a := (140, [some (.ref 108), some (.int v1), some (.int v2), some (.int v3), some (.long v4), none, some (.int v6), some .null, some (.int v8)], [], M)) (b := (39, [some (.ref 108), some (.int v1), some (.int v2), some (.int v3), some (.long v4), none, some (.int v6), some .null, some (.int v8)], [], M)) rfl (fun _ => rfl) ?_ ?_
  · refine dp_s1 hF (i := .lload 4) rfl (fun _ => rfl) ?_
    refine dp_s1 hF (i := .ldc2_w 131) rfl (fun _ => rfl) ?_
    refine dp_s1 hF (i := .lcmp) rfl (fun _ => rfl) ?_
    refine dp_s2 hF (i := .ifCond .le 9) (a := (155, [some (.ref 108), some (.int v1), some (.int v2), some (.int v3), some (.long v4), none, some (.int v6), some .null, some (.int v8)], [], M)) (b := (149, [some (.ref 108), some (.int v1), some (.int v2), some (.int v3), some (.long v4), none, some (.int v6), some .null, some (.int v8)], [], M)) rfl (fun _ => rfl) ?_ ?_
    · refine dp_s1 hF (i := .lload 4) rfl (fun _ => rfl) ?_
      exact dp_s0 hF (i := .lreturn) rfl (fun _ => rfl)
    refine dp_s1 hF (i := .ldc2_w 65) rfl (fun _ => rfl) ?_
    refine dp_s1 hF (i := .goto 5) rfl (fun _ => rfl) ?_
    exact dp_s0 hF (i := .lreturn) rfl (fun _ => rfl)
  refine dp_s1 hF (i := .aload_n 0) rfl (fun _ => rfl) ?_
  refine dp_s1 hF (i := .getfield 33) rfl (fun _ => rfl) ?_
  refine dp_s1 hF (i := .getfield 110) rfl (fun _ => rfl) ?_
  refine dp_s1 hF (i := .aload_n 0) rfl (fun _ => rfl) ?_
  refine dp_s1 hF (i := .getfield 33) rfl (fun _ => rfl) ?_
  refine dp_s1 hF (i := .getfield 114) rfl (fun _ => rfl) ?_
  refine dp_s1 hF (i := .iload 6) rfl (fun _ => rfl) ?_
  refine dp_s3 hF (i := .iaload) rfl (fun _ => rfl) ?_
  refine dp_s3o hF (i := .aaload) (x := dp_R M 59 (Int32.toNatClampNeg (dp_I M 58 (Int32.toNatClampNeg v6)))) rfl (fun _ => rfl) ?_ (fun q1 => ?_)
  · refine dp_s1 hF (i := .astore 7) rfl (fun _ => rfl) ?_
    refine dp_s1 hF (i := .aload 7) rfl (fun _ => rfl) ?_
    refine dp_s1 hF (i := .ifnonnull 7) rfl (fun _ => rfl) ?_
    refine dp_s1 hF (i := .iconst 0) rfl (fun _ => rfl) ?_
    refine dp_s1 hF (i := .goto 26) rfl (fun _ => rfl) ?_
    exact rfl
  refine dp_s1 hF (i := .astore 7) rfl (fun _ => rfl) ?_
  refine dp_s1 hF (i := .aload 7) rfl (fun _ => rfl) ?_
  refine dp_s1 hF (i := .ifnonnull 7) rfl (fun _ => rfl) ?_
  refine dp_s1 hF (i := .aload_n 0) rfl (fun _ => rfl) ?_
  refine dp_s1 hF (i := .iload_n 1) rfl (fun _ => rfl) ?_
  refine dp_s1 hF (i := .aload_n 0) rfl (fun _ => rfl) ?_
  refine dp_s1 hF (i := .getfield 33) rfl (fun _ => rfl) ?_
  refine dp_s1 hF (i := .getfield 117) rfl (fun _ => rfl) ?_
  refine dp_s1 hF (i := .aload_n 0) rfl (fun _ => rfl) ?_
  refine dp_s1 hF (i := .getfield 33) rfl (fun _ => rfl) ?_
  refine dp_s1 hF (i := .getfield 114) rfl (fun _ => rfl) ?_
  refine dp_s1 hF (i := .iload 6) rfl (fun _ => rfl) ?_
  refine dp_s3 hF (i := .iaload) rfl (fun _ => rfl) ?_
  refine dp_s3 hF (i := .iaload) rfl (fun _ => rfl) ?_
  refine dp_si (mj := dp_m_X0_baseOf) (i := .invokevirtual 120) rfl rfl (Or.inl rfl) rfl (fun _ => rfl) (fun r3 M2 => ?_)
  exact rfl
set_option maxRecDepth 20000 in
theorem D_X0_reckon_33_b_eq (xs : Nat → Int32) (xl d : Nat) (v1 : Int32) (v2 : Int32) (v3 : Int32) (v4 : Int64) (v6 : Int32) (p7 : Nat) (v8 : Int32) (M : dp_M) : D_X0_reckon_33_b xs xl d v1 v2 v3 v4 v6 p7 v8 M = if v3 ≤ v6 then (if (lg_cmp v4 (1000000000 : Int64)) ≤ 0 then (some (.inl (some (.long v4)), M)) else (some (.inl (some (.long (-1 : Int64))), M))) else (if v6 < 0 ∨ 300 ≤ Int32.toNatClampNeg v6 then none else (if (dp_I M 58 (Int32.toNatClampNeg v6)) < 0 ∨ 301 ≤ Int32.toNatClampNeg (dp_I M 58 (Int32.toNatClampNeg v6)) then none else dp_o (dp_R M 59 (Int32.toNatClampNeg (dp_I M 58 (Int32.toNatClampNeg v6)))) (D_X0_reckon_91_b xs xl d v1 v2 v3 v4 v6 v8 (0 : Int32) M) (fun q1 => if v6 < 0 ∨ 300 ≤ Int32.toNatClampNeg v6 then none else (if (dp_I M 58 (Int32.toNatClampNeg v6)) < 0 ∨ 301 ≤ Int32.toNatClampNeg (dp_I M 58 (Int32.toNatClampNeg v6)) then none else (dp_bi (dp_den true xs xl d 14 [.ref 108, .int v1, .int (dp_I M 53 (Int32.toNatClampNeg (dp_I M 58 (Int32.toNatClampNeg v6))))] M) (fun r3 M2 => D_X0_reckon_91_c xs xl d v1 v2 v3 v4 v6 q1 v8 r3 M2)))))) := by
  have hF := dp_den_grow (md := true) (xs := xs) (xl := xl) d
  unfold D_X0_reckon_33_b
  refine dp_s1 hF (i := .iload 6) rfl (fun _ => rfl) ?_
  refine dp_s1 hF (i := .iload_n 3) rfl (fun _ => rfl) ?_
  refine dp_s2 hF (i := .if_icmp .ge 104) (a := (140, [some (.ref 108), some (.int v1), some (.int v2), some (.int v3), some (.long v4), none, some (.int v6), some (.ref p7), some (.int v8)], [], M)) (b := (39, [some (.ref 108), some (.int v1), some (.int v2), some (.int v3), some (.long v4), none, some (.int v6), some (.ref p7), some (.int v8)], [], M)) rfl (fun _ => rfl) ?_ ?_
  · refine dp_s1 hF (i := .lload 4) rfl (fun _ => rfl) ?_
    refine dp_s1 hF (i := .ldc2_w 131) rfl (fun _ => rfl) ?_
    refine dp_s1 hF (i := .lcmp) rfl (fun _ => rfl) ?_
    refine dp_s2 hF (i := .ifCond .le 9) (a := (155, [some (.ref 108), some (.int v1), some (.int v2), some (.int v3), some (.long v4), none, some (.int v6), some (.ref p7), some (.int v8)], [], M)) (b := (149, [some (.ref 108), some (.int v1), some (.int v2), some (.int v3), some (.long v4), none, some (.int v6), some (.ref p7), some (.int v8)], [], M)) rfl (fun _ => rfl) ?_ ?_
    · refine dp_s1 hF (i := .lload 4) rfl (fun _ => rfl) ?_
      exact dp_s0 hF (i := .lreturn) rfl (fun _ => rfl)
    refine dp_s1 hF (i := .ldc2_w 65) rfl (fun _ => rfl) ?_
    refine dp_s1 hF (i := .goto 5) rfl (fun _ => rfl) ?_
    exact dp_s0 hF (i := .lreturn) rfl (fun _ => rfl)
  refine dp_s1 hF (i := .aload_n 0) rfl (fun _ => rfl) ?_
  refine dp_s1 hF (i := .getfield 33) rfl (fun _ => rfl) ?_
  refine dp_s1 hF (i := .getfield 110) rfl (fun _ => rfl) ?_
  refine dp_s1 hF (i := .aload_n 0) rfl (fun _ => rfl) ?_
  refine dp_s1 hF (i := .getfield 33) rfl (fun _ => rfl) ?_
  refine dp_s1 hF (i := .getfield 114) rfl (fun _ => rfl) ?_
  refine dp_s1 hF (i := .iload 6) rfl (fun _ => rfl) ?_
  refine dp_s3 hF (i := .iaload) rfl (fun _ => rfl) ?_
  refine dp_s3o hF (i := .aaload) (x := dp_R M 59 (Int32.toNatClampNeg (dp_I M 58 (Int32.toNatClampNeg v6)))) rfl (fun _ => rfl) ?_ (fun q1 => ?_)
  · refine dp_s1 hF (i := .astore 7) rfl (fun _ => rfl) ?_
    refine dp_s1 hF (i := .aload 7) rfl (fun _ => rfl) ?_
    refine dp_s1 hF (i := .ifnonnull 7) rfl (fun _ => rfl) ?_
    refine dp_s1 hF (i := .iconst 0) rfl (fun _ => rfl) ?_
    refine dp_s1 hF (i := .goto 26) rfl (fun _ => rfl) ?_
    exact rfl
  refine dp_s1 hF (i := .astore 7) rfl (fun _ => rfl) ?_
  refine dp_s1 hF (i := .aload 7) rfl (fun _ => rfl) ?_
  refine dp_s1 hF (i := .ifnonnull 7) rfl (fun _ => rfl) ?_
  refine dp_s1 hF (i := .aload_n 0) rfl (fun _ => rfl) ?_
  refine dp_s1 hF (i := .iload_n 1) rfl (fun _ => rfl) ?_
  refine dp_s1 hF (i := .aload_n 0) rfl (fun _ => rfl) ?_
  refine dp_s1 hF (i := .getfield 33) rfl (fun _ => rfl) ?_
  refine dp_s1 hF (i := .getfield 117) rfl (fun _ => rfl) ?_
  refine dp_s1 hF (i := .aload_n 0) rfl (fun _ => rfl) ?_
  refine dp_s1 hF (i := .getfield 33) rfl (fun _ => rfl) ?_
  refine dp_s1 hF (i := .getfield 114) rfl (fun _ => rfl) ?_
  refine dp_s1 hF (i := .iload 6) rfl (fun _ => rfl) ?_
  refine dp_s3 hF (i := .iaload) rfl (fun _ => rfl) ?_
  refine dp_s3 hF (i := .iaload) rfl (fun _ => rfl) ?_
  refine dp_si (mj := dp_m_X0_baseOf) (i := .invokevirtual 120) rfl rfl (Or.inl rfl) rfl (fun _ => rfl) (fun r3 M2 => ?_)
  exact rfl
set_option maxRecDepth 20000 in
theorem D_X0_reckon_91_b_eq (xs : Nat → Int32) (xl d : Nat) (v1 : Int32) (v2 : Int32) (v3 : Int32) (v4 : Int64) (v6 : Int32) (v8 : Int32) (vs0 : Int32) (M : dp_M) : D_X0_reckon_91_b xs xl d v1 v2 v3 v4 v6 v8 vs0 M = dp_w (v6 + (1 : Int32)) (fun y1 => D_X0_reckon_33_a xs xl d v1 v2 v3 v4 y1 vs0 M) := by
  have hF := dp_den_grow (md := true) (xs := xs) (xl := xl) d
  unfold D_X0_reckon_91_b
  refine dp_s1 hF (i := .istore 8) rfl (fun _ => rfl) ?_
  refine dp_s1 hF (i := .aload 7) rfl (fun _ => rfl) ?_
  refine dp_s1 hF (i := .ifnull 39) rfl (fun _ => rfl) ?_
  refine dp_s1w (v6 + (1 : Int32)) (fun (y1 : Int32) => (137, [some (.ref 108), some (.int v1), some (.int v2), some (.int v3), some (.long v4), none, some (.int y1), some .null, some (.int vs0)], [], M)) hF (i := .iinc 6 1) rfl (fun _ => rfl) (fun y1 => ?_)
  refine dp_s1 hF (i := .goto (-104)) rfl (fun _ => rfl) ?_
  exact rfl
set_option maxRecDepth 20000 in
theorem D_X0_reckon_91_c_eq (xs : Nat → Int32) (xl d : Nat) (v1 : Int32) (v2 : Int32) (v3 : Int32) (v4 : Int64) (v6 : Int32) (p7 : Nat) (v8 : Int32) (vs0 : Int32) (M : dp_M) : D_X0_reckon_91_c xs xl d v1 v2 v3 v4 v6 p7 v8 vs0 M = if vs0 = 0 then (dp_w (v6 + (1 : Int32)) (fun y1 => D_X0_reckon_33_b xs xl d v1 v2 v3 v4 y1 p7 vs0 M)) else (dp_bi (dp_den true xs xl d 15 [.ref 108, .int v1, .ref p7] M) (fun r3 M2 => if r3 = 0 then (dp_bl (dp_den true xs xl d 16 [.ref 108, .int v1, .ref p7, .int vs0] M2) (fun r5 M4 => dp_w (v4 + r5) (fun y6 => dp_w (v6 + (1 : Int32)) (fun y7 => D_X0_reckon_33_b xs xl d v1 v2 v3 y6 y7 p7 vs0 M4)))) else (some (.inl (some (.long (-1 : Int64))), M2)))) := by
  have hF := dp_den_grow (md := true) (xs := xs) (xl := xl) d
  unfold D_X0_reckon_91_c
  refine dp_s1 hF (i := .istore 8) rfl (fun _ => rfl) ?_
  refine dp_s1 hF (i := .aload 7) rfl (fun _ => rfl) ?_
  refine dp_s1 hF (i := .ifnull 39) rfl (fun _ => rfl) ?_
  refine dp_s1 hF (i := .iload 8) rfl (fun _ => rfl) ?_
  refine dp_s2 hF (i := .ifCond .ne 6) (a := (103, [some (.ref 108), some (.int v1), some (.int v2), some (.int v3), some (.long v4), none, some (.int v6), some (.ref p7), some (.int vs0)], [], M)) (b := (106, [some (.ref 108), some (.int v1), some (.int v2), some (.int v3), some (.long v4), none, some (.int v6), some (.ref p7), some (.int vs0)], [], M)) rfl (fun _ => rfl) ?_ ?_
  · refine dp_s1 hF (i := .goto 31) rfl (fun _ => rfl) ?_
    refine dp_s1w (v6 + (1 : Int32)) (fun (y1 : Int32) => (137, [some (.ref 108), some (.int v1), some (.int v2), some (.int v3), some (.long v4), none, some (.int y1), some (.ref p7), some (.int vs0)], [], M)) hF (i := .iinc 6 1) rfl (fun _ => rfl) (fun y1 => ?_)
    refine dp_s1 hF (i := .goto (-104)) rfl (fun _ => rfl) ?_
    exact rfl
  refine dp_s1 hF (i := .aload_n 0) rfl (fun _ => rfl) ?_
  refine dp_s1 hF (i := .iload_n 1) rfl (fun _ => rfl) ?_
  refine dp_s1 hF (i := .aload 7) rfl (fun _ => rfl) ?_
  refine dp_si (mj := dp_m_X0_lacksAmount) (i := .invokevirtual 123) rfl rfl (Or.inr rfl) rfl (fun _ => rfl) (fun r3 M2 => ?_)
  refine dp_s2 hF (i := .ifCond .eq 7) (a := (120, [some (.ref 108), some (.int v1), some (.int v2), some (.int v3), some (.long v4), none, some (.int v6), some (.ref p7), some (.int vs0)], [], M2)) (b := (116, [some (.ref 108), some (.int v1), some (.int v2), some (.int v3), some (.long v4), none, some (.int v6), some (.ref p7), some (.int vs0)], [], M2)) rfl (fun _ => rfl) ?_ ?_
  · refine dp_s1 hF (i := .lload 4) rfl (fun _ => rfl) ?_
    refine dp_s1 hF (i := .aload_n 0) rfl (fun _ => rfl) ?_
    refine dp_s1 hF (i := .iload_n 1) rfl (fun _ => rfl) ?_
    refine dp_s1 hF (i := .aload 7) rfl (fun _ => rfl) ?_
    refine dp_s1 hF (i := .iload 8) rfl (fun _ => rfl) ?_
    refine dp_sl9 (mj := dp_m_X0_centsOf) (i := .invokevirtual 127) rfl rfl rfl rfl (fun _ => rfl) (fun r5 M4 => ?_)
    refine dp_s1 hF (i := .ladd) rfl (fun _ => rfl) ?_
    refine dp_s1w (v4 + r5) (fun (y6 : Int64) => (134, [some (.ref 108), some (.int v1), some (.int v2), some (.int v3), some (.long y6), none, some (.int v6), some (.ref p7), some (.int vs0)], [], M4)) hF (i := .lstore 4) rfl (fun _ => rfl) (fun y6 => ?_)
    refine dp_s1w (v6 + (1 : Int32)) (fun (y7 : Int32) => (137, [some (.ref 108), some (.int v1), some (.int v2), some (.int v3), some (.long y6), none, some (.int y7), some (.ref p7), some (.int vs0)], [], M4)) hF (i := .iinc 6 1) rfl (fun _ => rfl) (fun y7 => ?_)
    refine dp_s1 hF (i := .goto (-104)) rfl (fun _ => rfl) ?_
    exact rfl
  refine dp_s1 hF (i := .ldc2_w 65) rfl (fun _ => rfl) ?_
  exact dp_s0 hF (i := .lreturn) rfl (fun _ => rfl)
noncomputable def D_X0_baseOf_0 (xs : Nat → Int32) (xl d : Nat) (v1 : Int32) (v2 : Int32) (M : dp_M) : Option dp_Res := dp_lim true xs xl (dp_den true xs xl d) dp_m_X0_baseOf (0, [some (.ref 108), some (.int v1), some (.int v2), none], [], M)
theorem D_X0_baseOf_0_den (xs : Nat → Int32) (xl d : Nat) (a0 : Int32) (a1 : Int32) (M : dp_M) : dp_den true xs xl (d + 1) 14 [.ref 108, .int a0, .int a1] M = D_X0_baseOf_0 xs xl d a0 a1 M := rfl
set_option maxRecDepth 20000 in
theorem D_X0_baseOf_0_eq (xs : Nat → Int32) (xl d : Nat) (v1 : Int32) (v2 : Int32) (M : dp_M) : D_X0_baseOf_0 xs xl d v1 v2 M = if v1 < 0 ∨ 400 ≤ Int32.toNatClampNeg v1 then none else (dp_w (dp_I M 109 (Int32.toNatClampNeg v1)) (fun y1 => if v2 ≤ (1 : Int32) then (if v2 = (1 : Int32) then (if y1 = (-1 : Int32) then (some (.inl (some (.int (0 : Int32))), M)) else (if y1 < 0 ∨ 400 ≤ Int32.toNatClampNeg y1 then none else (if (lg_cmp (dp_J M 86 (Int32.toNatClampNeg y1)) (0 : Int64)) ≤ 0 then (some (.inl (some (.int (0 : Int32))), M)) else (some (.inl (some (.int (2 : Int32))), M))))) else (if y1 = (-1 : Int32) then (some (.inl (some (.int (1 : Int32))), M)) else (if y1 < 0 ∨ 400 ≤ Int32.toNatClampNeg y1 then none else (if y1 < 0 ∨ 400 ≤ Int32.toNatClampNeg y1 then none else (if 0 ≤ (lg_cmp (dp_J M 86 (Int32.toNatClampNeg y1)) (dp_J M 85 (Int32.toNatClampNeg y1))) then (some (.inl (some (.int (0 : Int32))), M)) else (some (.inl (some (.int (3 : Int32))), M))))))) else (some (.inl (some (.int (1 : Int32))), M)))) := by
  have hF := dp_den_grow (md := true) (xs := xs) (xl := xl) d
  unfold D_X0_baseOf_0
  refine dp_s1 hF (i := .aload_n 0) rfl (fun _ => rfl) ?_
  refine dp_s1 hF (i := .getfield 11) rfl (fun _ => rfl) ?_
  refine dp_s1 hF (i := .iload_n 1) rfl (fun _ => rfl) ?_
  refine dp_s3 hF (i := .iaload) rfl (fun _ => rfl) ?_
  refine dp_s1w (dp_I M 109 (Int32.toNatClampNeg v1)) (fun (y1 : Int32) => (7, [some (.ref 108), some (.int v1), some (.int v2), some (.int y1)], [], M)) hF (i := .istore_n 3) rfl (fun _ => rfl) (fun y1 => ?_)
  refine dp_s1 hF (i := .iload_n 2) rfl (fun _ => rfl) ?_
  refine dp_s1 hF (i := .iconst 1) rfl (fun _ => rfl) ?_
  refine dp_s2 hF (i := .if_icmp .le 5) (a := (14, [some (.ref 108), some (.int v1), some (.int v2), some (.int y1)], [], M)) (b := (12, [some (.ref 108), some (.int v1), some (.int v2), some (.int y1)], [], M)) rfl (fun _ => rfl) ?_ ?_
  · refine dp_s1 hF (i := .iload_n 2) rfl (fun _ => rfl) ?_
    refine dp_s1 hF (i := .iconst 1) rfl (fun _ => rfl) ?_
    refine dp_s2 hF (i := .if_icmp .ne 28) (a := (19, [some (.ref 108), some (.int v1), some (.int v2), some (.int y1)], [], M)) (b := (44, [some (.ref 108), some (.int v1), some (.int v2), some (.int y1)], [], M)) rfl (fun _ => rfl) ?_ ?_
    · refine dp_s1 hF (i := .iload_n 3) rfl (fun _ => rfl) ?_
      refine dp_s1 hF (i := .iconst (-1)) rfl (fun _ => rfl) ?_
      refine dp_s2 hF (i := .if_icmp .eq 21) (a := (42, [some (.ref 108), some (.int v1), some (.int v2), some (.int y1)], [], M)) (b := (24, [some (.ref 108), some (.int v1), some (.int v2), some (.int y1)], [], M)) rfl (fun _ => rfl) ?_ ?_
      · refine dp_s1 hF (i := .iconst 0) rfl (fun _ => rfl) ?_
        exact dp_s0 hF (i := .ireturn) rfl (fun _ => rfl)
      refine dp_s1 hF (i := .aload_n 0) rfl (fun _ => rfl) ?_
      refine dp_s1 hF (i := .getfield 37) rfl (fun _ => rfl) ?_
      refine dp_s1 hF (i := .getfield 86) rfl (fun _ => rfl) ?_
      refine dp_s1 hF (i := .iload_n 3) rfl (fun _ => rfl) ?_
      refine dp_s3 hF (i := .laload) rfl (fun _ => rfl) ?_
      refine dp_s1 hF (i := .lconst 0) rfl (fun _ => rfl) ?_
      refine dp_s1 hF (i := .lcmp) rfl (fun _ => rfl) ?_
      refine dp_s2 hF (i := .ifCond .le 7) (a := (42, [some (.ref 108), some (.int v1), some (.int v2), some (.int y1)], [], M)) (b := (38, [some (.ref 108), some (.int v1), some (.int v2), some (.int y1)], [], M)) rfl (fun _ => rfl) ?_ ?_
      · refine dp_s1 hF (i := .iconst 0) rfl (fun _ => rfl) ?_
        exact dp_s0 hF (i := .ireturn) rfl (fun _ => rfl)
      refine dp_s1 hF (i := .iconst 2) rfl (fun _ => rfl) ?_
      refine dp_s1 hF (i := .goto 4) rfl (fun _ => rfl) ?_
      exact dp_s0 hF (i := .ireturn) rfl (fun _ => rfl)
    refine dp_s1 hF (i := .iload_n 3) rfl (fun _ => rfl) ?_
    refine dp_s1 hF (i := .iconst (-1)) rfl (fun _ => rfl) ?_
    refine dp_s2 hF (i := .if_icmp .ne 5) (a := (49, [some (.ref 108), some (.int v1), some (.int v2), some (.int y1)], [], M)) (b := (51, [some (.ref 108), some (.int v1), some (.int v2), some (.int y1)], [], M)) rfl (fun _ => rfl) ?_ ?_
    · refine dp_s1 hF (i := .iconst 1) rfl (fun _ => rfl) ?_
      exact dp_s0 hF (i := .ireturn) rfl (fun _ => rfl)
    refine dp_s1 hF (i := .aload_n 0) rfl (fun _ => rfl) ?_
    refine dp_s1 hF (i := .getfield 37) rfl (fun _ => rfl) ?_
    refine dp_s1 hF (i := .getfield 86) rfl (fun _ => rfl) ?_
    refine dp_s1 hF (i := .iload_n 3) rfl (fun _ => rfl) ?_
    refine dp_s3 hF (i := .laload) rfl (fun _ => rfl) ?_
    refine dp_s1 hF (i := .aload_n 0) rfl (fun _ => rfl) ?_
    refine dp_s1 hF (i := .getfield 37) rfl (fun _ => rfl) ?_
    refine dp_s1 hF (i := .getfield 83) rfl (fun _ => rfl) ?_
    refine dp_s1 hF (i := .iload_n 3) rfl (fun _ => rfl) ?_
    refine dp_s3 hF (i := .laload) rfl (fun _ => rfl) ?_
    refine dp_s1 hF (i := .lcmp) rfl (fun _ => rfl) ?_
    refine dp_s2 hF (i := .ifCond .ge 7) (a := (77, [some (.ref 108), some (.int v1), some (.int v2), some (.int y1)], [], M)) (b := (73, [some (.ref 108), some (.int v1), some (.int v2), some (.int y1)], [], M)) rfl (fun _ => rfl) ?_ ?_
    · refine dp_s1 hF (i := .iconst 0) rfl (fun _ => rfl) ?_
      exact dp_s0 hF (i := .ireturn) rfl (fun _ => rfl)
    refine dp_s1 hF (i := .iconst 3) rfl (fun _ => rfl) ?_
    refine dp_s1 hF (i := .goto 4) rfl (fun _ => rfl) ?_
    exact dp_s0 hF (i := .ireturn) rfl (fun _ => rfl)
  refine dp_s1 hF (i := .iconst 1) rfl (fun _ => rfl) ?_
  exact dp_s0 hF (i := .ireturn) rfl (fun _ => rfl)
noncomputable def D_X0_lacksAmount_0 (xs : Nat → Int32) (xl d : Nat) (v1 : Int32) (p2 : Nat) (M : dp_M) : Option dp_Res := dp_lim true xs xl (dp_den true xs xl d) dp_m_X0_lacksAmount (0, [some (.ref 108), some (.int v1), some (.ref p2), none], [], M)
noncomputable def D_X0_lacksAmount_2 (xs : Nat → Int32) (xl d : Nat) (v1 : Int32) (p2 : Nat) (v3 : Int32) (M : dp_M) : Option dp_Res := dp_lim true xs xl (dp_den true xs xl d) dp_m_X0_lacksAmount (2, [some (.ref 108), some (.int v1), some (.ref p2), some (.int v3)], [], M)
theorem D_X0_lacksAmount_0_den (xs : Nat → Int32) (xl d : Nat) (a0 : Int32) (a1 : Nat) (M : dp_M) : dp_den true xs xl (d + 1) 15 [.ref 108, .int a0, .ref a1] M = D_X0_lacksAmount_0 xs xl d a0 a1 M := rfl
set_option maxRecDepth 20000 in
theorem D_X0_lacksAmount_0_eq (xs : Nat → Int32) (xl d : Nat) (v1 : Int32) (p2 : Nat) (M : dp_M) : D_X0_lacksAmount_0 xs xl d v1 p2 M = dp_w (0 : Int32) (fun y1 => D_X0_lacksAmount_2 xs xl d v1 p2 y1 M) := by
  have hF := dp_den_grow (md := true) (xs := xs) (xl := xl) d
  unfold D_X0_lacksAmount_0
  refine dp_s1 hF (i := .iconst 0) rfl (fun _ => rfl) ?_
  refine dp_s1w (0 : Int32) (fun (y1 : Int32) => (2, [some (.ref 108), some (.int v1), some (.ref p2), some (.int y1)], [], M)) hF (i := .istore_n 3) rfl (fun _ => rfl) (fun y1 => ?_)
  exact rfl
set_option maxRecDepth 20000 in
theorem D_X0_lacksAmount_2_eq (xs : Nat → Int32) (xl d : Nat) (v1 : Int32) (p2 : Nat) (v3 : Int32) (M : dp_M) : D_X0_lacksAmount_2 xs xl d v1 p2 v3 M = if (8 : Int32) ≤ v3 then (some (.inl (some (.int (0 : Int32))), M)) else (if dp_t true M p2 = 16 then (if (((dp_I M p2 1) >>> (v3 &&& 31)) &&& (1 : Int32)) = (1 : Int32) then (dp_bl (dp_den true xs xl d 1 [.ref 108, .int v1, .int ((15 : Int32) + v3)] M) (fun r2 M1 => if (lg_cmp r2 (-1 : Int64)) = 0 then (some (.inl (some (.int (1 : Int32))), M1)) else (dp_w (v3 + (1 : Int32)) (fun y3 => D_X0_lacksAmount_2 xs xl d v1 p2 y3 M1)))) else (dp_w (v3 + (1 : Int32)) (fun y4 => D_X0_lacksAmount_2 xs xl d v1 p2 y4 M))) else none) := by
  have hF := dp_den_grow (md := true) (xs := xs) (xl := xl) d
  unfold D_X0_lacksAmount_2
  refine dp_s1 hF (i := .iload_n 3) rfl (fun _ => rfl) ?_
  refine dp_s1 hF (i := .bipush 8) rfl (fun _ => rfl) ?_
  refine dp_s2 hF (i := .if_icmp .ge 39) (a := (44, [some (.ref 108), some (.int v1), some (.ref p2), some (.int v3)], [], M)) (b := (8, [some (.ref 108), some (.int v1), some (.ref p2), some (.int v3)], [], M)) rfl (fun _ => rfl) ?_ ?_
  · refine dp_s1 hF (i := .iconst 0) rfl (fun _ => rfl) ?_
    exact dp_s0 hF (i := .ireturn) rfl (fun _ => rfl)
  refine dp_s1 hF (i := .aload_n 2) rfl (fun _ => rfl) ?_
  refine dp_s4 hF (i := .getfield 133) rfl (fun _ => rfl) ?_
  refine dp_s1 hF (i := .iload_n 3) rfl (fun _ => rfl) ?_
  refine dp_s1 hF (i := .ishr) rfl (fun _ => rfl) ?_
  refine dp_s1 hF (i := .iconst 1) rfl (fun _ => rfl) ?_
  refine dp_s1 hF (i := .iand) rfl (fun _ => rfl) ?_
  refine dp_s1 hF (i := .iconst 1) rfl (fun _ => rfl) ?_
  refine dp_s2 hF (i := .if_icmp .ne 21) (a := (20, [some (.ref 108), some (.int v1), some (.ref p2), some (.int v3)], [], M)) (b := (38, [some (.ref 108), some (.int v1), some (.ref p2), some (.int v3)], [], M)) rfl (fun _ => rfl) ?_ ?_
  · refine dp_s1 hF (i := .aload_n 0) rfl (fun _ => rfl) ?_
    refine dp_s1 hF (i := .iload_n 1) rfl (fun _ => rfl) ?_
    refine dp_s1 hF (i := .bipush 15) rfl (fun _ => rfl) ?_
    refine dp_s1 hF (i := .iload_n 3) rfl (fun _ => rfl) ?_
    refine dp_s1 hF (i := .iadd) rfl (fun _ => rfl) ?_
    refine dp_sl9 (mj := dp_m_X0_get) (i := .invokevirtual 53) rfl rfl rfl rfl (fun _ => rfl) (fun r2 M1 => ?_)
    refine dp_s1 hF (i := .ldc2_w 65) rfl (fun _ => rfl) ?_
    refine dp_s1 hF (i := .lcmp) rfl (fun _ => rfl) ?_
    refine dp_s2 hF (i := .ifCond .ne 5) (a := (36, [some (.ref 108), some (.int v1), some (.ref p2), some (.int v3)], [], M1)) (b := (38, [some (.ref 108), some (.int v1), some (.ref p2), some (.int v3)], [], M1)) rfl (fun _ => rfl) ?_ ?_
    · refine dp_s1 hF (i := .iconst 1) rfl (fun _ => rfl) ?_
      exact dp_s0 hF (i := .ireturn) rfl (fun _ => rfl)
    refine dp_s1w (v3 + (1 : Int32)) (fun (y3 : Int32) => (41, [some (.ref 108), some (.int v1), some (.ref p2), some (.int y3)], [], M1)) hF (i := .iinc 3 1) rfl (fun _ => rfl) (fun y3 => ?_)
    refine dp_s1 hF (i := .goto (-39)) rfl (fun _ => rfl) ?_
    exact rfl
  refine dp_s1w (v3 + (1 : Int32)) (fun (y4 : Int32) => (41, [some (.ref 108), some (.int v1), some (.ref p2), some (.int y4)], [], M)) hF (i := .iinc 3 1) rfl (fun _ => rfl) (fun y4 => ?_)
  refine dp_s1 hF (i := .goto (-39)) rfl (fun _ => rfl) ?_
  exact rfl
noncomputable def D_X0_centsOf_0 (xs : Nat → Int32) (xl d : Nat) (v1 : Int32) (p2 : Nat) (v3 : Int32) (M : dp_M) : Option dp_Res := dp_lim true xs xl (dp_den true xs xl d) dp_m_X0_centsOf (0, [some (.ref 108), some (.int v1), some (.ref p2), some (.int v3), none, none], [], M)
noncomputable def D_X0_centsOf_3 (xs : Nat → Int32) (xl d : Nat) (v1 : Int32) (p2 : Nat) (v3 : Int32) (v4 : Int32) (M : dp_M) : Option dp_Res := dp_lim true xs xl (dp_den true xs xl d) dp_m_X0_centsOf (3, [some (.ref 108), some (.int v1), some (.ref p2), some (.int v3), some (.int v4), none], [], M)
theorem D_X0_centsOf_0_den (xs : Nat → Int32) (xl d : Nat) (a0 : Int32) (a1 : Nat) (a2 : Int32) (M : dp_M) : dp_den true xs xl (d + 1) 16 [.ref 108, .int a0, .ref a1, .int a2] M = D_X0_centsOf_0 xs xl d a0 a1 a2 M := rfl
set_option maxRecDepth 20000 in
theorem D_X0_centsOf_0_eq (xs : Nat → Int32) (xl d : Nat) (v1 : Int32) (p2 : Nat) (v3 : Int32) (M : dp_M) : D_X0_centsOf_0 xs xl d v1 p2 v3 M = dp_w (0 : Int32) (fun y1 => D_X0_centsOf_3 xs xl d v1 p2 v3 y1 M) := by
  have hF := dp_den_grow (md := true) (xs := xs) (xl := xl) d
  unfold D_X0_centsOf_0
  refine dp_s1 hF (i := .iconst 0) rfl (fun _ => rfl) ?_
  refine dp_s1w (0 : Int32) (fun (y1 : Int32) => (3, [some (.ref 108), some (.int v1), some (.ref p2), some (.int v3), some (.int y1), none], [], M)) hF (i := .istore 4) rfl (fun _ => rfl) (fun y1 => ?_)
  exact rfl
set_option maxRecDepth 20000 in
theorem D_X0_centsOf_3_eq (xs : Nat → Int32) (xl d : Nat) (v1 : Int32) (p2 : Nat) (v3 : Int32) (v4 : Int32) (M : dp_M) : D_X0_centsOf_3 xs xl d v1 p2 v3 v4 M = if (8 : Int32) ≤ v4 then (dp_bl (dp_den true xs xl d 1 [.ref 108, .int v1, .int (6 : Int32)] M) (fun r2 M1 => dp_bl (dp_den true xs xl d 17 [.ref 108, .int v1, .long r2, .int v3] M1) (fun r4 M3 => if dp_t true M3 p2 = 16 then dp_bl (dp_den true xs xl d 138 [.ref p2, .long r4, .ref 112, .ref 113] M3) (fun r6 M5 => some (.inl (some (.long ((r6 + (500000 : Int64)) / (1000000 : Int64)))), M5)) else none))) else (dp_bl (dp_den true xs xl d 1 [.ref 108, .int v1, .int ((15 : Int32) + v4)] M) (fun r8 M7 => dp_bl (dp_den true xs xl d 17 [.ref 108, .int v1, .long (if r8 < (0 : Int64) then (0 : Int64) else r8), .int v3] M7) (fun r10 M9 => if v4 < 0 ∨ 8 ≤ Int32.toNatClampNeg v4 then none else dp_w (dp_setJ M9 112 (Int32.toNatClampNeg v4) r10) (fun M11 => dp_w (v4 + (1 : Int32)) (fun y12 => D_X0_centsOf_3 xs xl d v1 p2 v3 y12 M11))))) := by
  have hF := dp_den_grow (md := true) (xs := xs) (xl := xl) d
  unfold D_X0_centsOf_3
  refine dp_s1 hF (i := .iload 4) rfl (fun _ => rfl) ?_
  refine dp_s1 hF (i := .bipush 8) rfl (fun _ => rfl) ?_
  refine dp_s2 hF (i := .if_icmp .ge 36) (a := (43, [some (.ref 108), some (.int v1), some (.ref p2), some (.int v3), some (.int v4), none], [], M)) (b := (10, [some (.ref 108), some (.int v1), some (.ref p2), some (.int v3), some (.int v4), none], [], M)) rfl (fun _ => rfl) ?_ ?_
  · refine dp_s1 hF (i := .aload_n 2) rfl (fun _ => rfl) ?_
    refine dp_s1 hF (i := .aload_n 0) rfl (fun _ => rfl) ?_
    refine dp_s1 hF (i := .iload_n 1) rfl (fun _ => rfl) ?_
    refine dp_s1 hF (i := .aload_n 0) rfl (fun _ => rfl) ?_
    refine dp_s1 hF (i := .iload_n 1) rfl (fun _ => rfl) ?_
    refine dp_s1 hF (i := .bipush 6) rfl (fun _ => rfl) ?_
    refine dp_sl9 (mj := dp_m_X0_get) (i := .invokevirtual 53) rfl rfl rfl rfl (fun _ => rfl) (fun r2 M1 => ?_)
    refine dp_s1 hF (i := .iload_n 3) rfl (fun _ => rfl) ?_
    refine dp_sl9 (mj := dp_m_X0_onBase) (i := .invokevirtual 142) rfl rfl rfl rfl (fun _ => rfl) (fun r4 M3 => ?_)
    refine dp_s1 hF (i := .aload_n 0) rfl (fun _ => rfl) ?_
    refine dp_s1 hF (i := .getfield 27) rfl (fun _ => rfl) ?_
    refine dp_s1 hF (i := .aload_n 0) rfl (fun _ => rfl) ?_
    refine dp_s1 hF (i := .getfield 30) rfl (fun _ => rfl) ?_
    refine dp_sl4 (mj := dp_m_X6_valueAt) (i := .invokevirtual 100) rfl rfl rfl rfl (fun _ => rfl) (fun r6 M5 => ?_)
    refine dp_s1 hF (i := .lstore 4) rfl (fun _ => rfl) ?_
    refine dp_s1 hF (i := .lload 4) rfl (fun _ => rfl) ?_
    refine dp_s1 hF (i := .ldc2_w 146) rfl (fun _ => rfl) ?_
    refine dp_s1 hF (i := .ladd) rfl (fun _ => rfl) ?_
    refine dp_s1 hF (i := .ldc2_w 148) rfl (fun _ => rfl) ?_
    refine dp_s1 hF (i := .ldiv) rfl (fun _ => rfl) ?_
    exact dp_s0 hF (i := .lreturn) rfl (fun _ => rfl)
  refine dp_s1 hF (i := .aload_n 0) rfl (fun _ => rfl) ?_
  refine dp_s1 hF (i := .getfield 27) rfl (fun _ => rfl) ?_
  refine dp_s1 hF (i := .iload 4) rfl (fun _ => rfl) ?_
  refine dp_s1 hF (i := .aload_n 0) rfl (fun _ => rfl) ?_
  refine dp_s1 hF (i := .iload_n 1) rfl (fun _ => rfl) ?_
  refine dp_s1 hF (i := .lconst 0) rfl (fun _ => rfl) ?_
  refine dp_s1 hF (i := .aload_n 0) rfl (fun _ => rfl) ?_
  refine dp_s1 hF (i := .iload_n 1) rfl (fun _ => rfl) ?_
  refine dp_s1 hF (i := .bipush 15) rfl (fun _ => rfl) ?_
  refine dp_s1 hF (i := .iload 4) rfl (fun _ => rfl) ?_
  refine dp_s1 hF (i := .iadd) rfl (fun _ => rfl) ?_
  refine dp_sl9 (mj := dp_m_X0_get) (i := .invokevirtual 53) rfl rfl rfl rfl (fun _ => rfl) (fun r8 M7 => ?_)
  refine dp_s1 hF (i := .invokestatic 136) rfl (fun _ => rfl) ?_
  refine dp_s1 hF (i := .iload_n 3) rfl (fun _ => rfl) ?_
  refine dp_sl9 (mj := dp_m_X0_onBase) (i := .invokevirtual 142) rfl rfl rfl rfl (fun _ => rfl) (fun r10 M9 => ?_)
  refine dp_s3w (dp_setJ M9 112 (Int32.toNatClampNeg v4) r10) (fun (M11 : dp_M) => (37, [some (.ref 108), some (.int v1), some (.ref p2), some (.int v3), some (.int v4), none], [], M11)) hF (i := .lastore) rfl (fun _ => rfl) (fun M11 => ?_)
  refine dp_s1w (v4 + (1 : Int32)) (fun (y12 : Int32) => (40, [some (.ref 108), some (.int v1), some (.ref p2), some (.int v3), some (.int y12), none], [], M11)) hF (i := .iinc 4 1) rfl (fun _ => rfl) (fun y12 => ?_)
  refine dp_s1 hF (i := .goto (-37)) rfl (fun _ => rfl) ?_
  exact rfl
noncomputable def D_X0_onBase_0 (xs : Nat → Int32) (xl d : Nat) (v1 : Int32) (v2 : Int64) (v4 : Int32) (M : dp_M) : Option dp_Res := dp_lim true xs xl (dp_den true xs xl d) dp_m_X0_onBase (0, [some (.ref 108), some (.int v1), some (.long v2), none, some (.int v4), none, none, none], [], M)
theorem D_X0_onBase_0_den (xs : Nat → Int32) (xl d : Nat) (a0 : Int32) (a1 : Int64) (a2 : Int32) (M : dp_M) : dp_den true xs xl (d + 1) 17 [.ref 108, .int a0, .long a1, .int a2] M = D_X0_onBase_0 xs xl d a0 a1 a2 M := rfl
set_option maxRecDepth 20000 in
theorem D_X0_onBase_0_eq (xs : Nat → Int32) (xl d : Nat) (v1 : Int32) (v2 : Int64) (v4 : Int32) (M : dp_M) : D_X0_onBase_0 xs xl d v1 v2 v4 M = if v1 < 0 ∨ 400 ≤ Int32.toNatClampNeg v1 then none else (dp_w (dp_I M 109 (Int32.toNatClampNeg v1)) (fun y1 => if v4 = (1 : Int32) then (some (.inl (some (.long v2)), M)) else (if y1 = (-1 : Int32) then (some (.inl (some (.long v2)), M)) else (if y1 < 0 ∨ 400 ≤ Int32.toNatClampNeg y1 then none else (if 0 < (lg_cmp (dp_J M 85 (Int32.toNatClampNeg y1)) (0 : Int64)) then (if y1 < 0 ∨ 400 ≤ Int32.toNatClampNeg y1 then none else (if y1 < 0 ∨ 400 ≤ Int32.toNatClampNeg y1 then none else (if (dp_J M 85 (Int32.toNatClampNeg y1)) = 0 then none else (dp_w ((v2 * (dp_J M 86 (Int32.toNatClampNeg y1))) / (dp_J M 85 (Int32.toNatClampNeg y1))) (fun y2 => if v4 = (2 : Int32) then (some (.inl (some (.long y2)), M)) else (some (.inl (some (.long (v2 - y2))), M))))))) else (some (.inl (some (.long v2)), M))))))) := by
  have hF := dp_den_grow (md := true) (xs := xs) (xl := xl) d
  unfold D_X0_onBase_0
  refine dp_s1 hF (i := .aload_n 0) rfl (fun _ => rfl) ?_
  refine dp_s1 hF (i := .getfield 11) rfl (fun _ => rfl) ?_
  refine dp_s1 hF (i := .iload_n 1) rfl (fun _ => rfl) ?_
  refine dp_s3 hF (i := .iaload) rfl (fun _ => rfl) ?_
  refine dp_s1w (dp_I M 109 (Int32.toNatClampNeg v1)) (fun (y1 : Int32) => (8, [some (.ref 108), some (.int v1), some (.long v2), none, some (.int v4), some (.int y1), none, none], [], M)) hF (i := .istore 5) rfl (fun _ => rfl) (fun y1 => ?_)
  refine dp_s1 hF (i := .iload 4) rfl (fun _ => rfl) ?_
  refine dp_s1 hF (i := .iconst 1) rfl (fun _ => rfl) ?_
  refine dp_s2 hF (i := .if_icmp .eq 24) (a := (35, [some (.ref 108), some (.int v1), some (.long v2), none, some (.int v4), some (.int y1), none, none], [], M)) (b := (14, [some (.ref 108), some (.int v1), some (.long v2), none, some (.int v4), some (.int y1), none, none], [], M)) rfl (fun _ => rfl) ?_ ?_
  · refine dp_s1 hF (i := .lload_n 2) rfl (fun _ => rfl) ?_
    exact dp_s0 hF (i := .lreturn) rfl (fun _ => rfl)
  refine dp_s1 hF (i := .iload 5) rfl (fun _ => rfl) ?_
  refine dp_s1 hF (i := .iconst (-1)) rfl (fun _ => rfl) ?_
  refine dp_s2 hF (i := .if_icmp .eq 18) (a := (35, [some (.ref 108), some (.int v1), some (.long v2), none, some (.int v4), some (.int y1), none, none], [], M)) (b := (20, [some (.ref 108), some (.int v1), some (.long v2), none, some (.int v4), some (.int y1), none, none], [], M)) rfl (fun _ => rfl) ?_ ?_
  · refine dp_s1 hF (i := .lload_n 2) rfl (fun _ => rfl) ?_
    exact dp_s0 hF (i := .lreturn) rfl (fun _ => rfl)
  refine dp_s1 hF (i := .aload_n 0) rfl (fun _ => rfl) ?_
  refine dp_s1 hF (i := .getfield 37) rfl (fun _ => rfl) ?_
  refine dp_s1 hF (i := .getfield 83) rfl (fun _ => rfl) ?_
  refine dp_s1 hF (i := .iload 5) rfl (fun _ => rfl) ?_
  refine dp_s3 hF (i := .laload) rfl (fun _ => rfl) ?_
  refine dp_s1 hF (i := .lconst 0) rfl (fun _ => rfl) ?_
  refine dp_s1 hF (i := .lcmp) rfl (fun _ => rfl) ?_
  refine dp_s2 hF (i := .ifCond .gt 5) (a := (37, [some (.ref 108), some (.int v1), some (.long v2), none, some (.int v4), some (.int y1), none, none], [], M)) (b := (35, [some (.ref 108), some (.int v1), some (.long v2), none, some (.int v4), some (.int y1), none, none], [], M)) rfl (fun _ => rfl) ?_ ?_
  · refine dp_s1 hF (i := .lload_n 2) rfl (fun _ => rfl) ?_
    refine dp_s1 hF (i := .aload_n 0) rfl (fun _ => rfl) ?_
    refine dp_s1 hF (i := .getfield 37) rfl (fun _ => rfl) ?_
    refine dp_s1 hF (i := .getfield 86) rfl (fun _ => rfl) ?_
    refine dp_s1 hF (i := .iload 5) rfl (fun _ => rfl) ?_
    refine dp_s3 hF (i := .laload) rfl (fun _ => rfl) ?_
    refine dp_s1 hF (i := .lmul) rfl (fun _ => rfl) ?_
    refine dp_s1 hF (i := .aload_n 0) rfl (fun _ => rfl) ?_
    refine dp_s1 hF (i := .getfield 37) rfl (fun _ => rfl) ?_
    refine dp_s1 hF (i := .getfield 83) rfl (fun _ => rfl) ?_
    refine dp_s1 hF (i := .iload 5) rfl (fun _ => rfl) ?_
    refine dp_s3 hF (i := .laload) rfl (fun _ => rfl) ?_
    refine dp_s3 hF (i := .ldiv) rfl (fun _ => rfl) ?_
    refine dp_s1w ((v2 * (dp_J M 86 (Int32.toNatClampNeg y1))) / (dp_J M 85 (Int32.toNatClampNeg y1))) (fun (y2 : Int64) => (62, [some (.ref 108), some (.int v1), some (.long v2), none, some (.int v4), some (.int y1), some (.long y2), none], [], M)) hF (i := .lstore 6) rfl (fun _ => rfl) (fun y2 => ?_)
    refine dp_s1 hF (i := .iload 4) rfl (fun _ => rfl) ?_
    refine dp_s1 hF (i := .iconst 2) rfl (fun _ => rfl) ?_
    refine dp_s2 hF (i := .if_icmp .ne 8) (a := (68, [some (.ref 108), some (.int v1), some (.long v2), none, some (.int v4), some (.int y1), some (.long y2), none], [], M)) (b := (73, [some (.ref 108), some (.int v1), some (.long v2), none, some (.int v4), some (.int y1), some (.long y2), none], [], M)) rfl (fun _ => rfl) ?_ ?_
    · refine dp_s1 hF (i := .lload 6) rfl (fun _ => rfl) ?_
      refine dp_s1 hF (i := .goto 7) rfl (fun _ => rfl) ?_
      exact dp_s0 hF (i := .lreturn) rfl (fun _ => rfl)
    refine dp_s1 hF (i := .lload_n 2) rfl (fun _ => rfl) ?_
    refine dp_s1 hF (i := .lload 6) rfl (fun _ => rfl) ?_
    refine dp_s1 hF (i := .lsub) rfl (fun _ => rfl) ?_
    exact dp_s0 hF (i := .lreturn) rfl (fun _ => rfl)
  refine dp_s1 hF (i := .lload_n 2) rfl (fun _ => rfl) ?_
  exact dp_s0 hF (i := .lreturn) rfl (fun _ => rfl)
noncomputable def D_X0_secure_0 (xs : Nat → Int32) (xl d : Nat) (v1 : Int32) (v2 : Int64) (M : dp_M) : Option dp_Res := dp_lim true xs xl (dp_den true xs xl d) dp_m_X0_secure (0, [some (.ref 108), some (.int v1), some (.long v2), none, none, none], [], M)
noncomputable def D_X0_secure_73 (xs : Nat → Int32) (xl d : Nat) (v1 : Int32) (v2 : Int64) (v4 : Int32) (M : dp_M) : Option dp_Res := dp_lim true xs xl (dp_den true xs xl d) dp_m_X0_secure (73, [some (.ref 108), some (.int v1), some (.long v2), none, some (.int v4), none], [], M)
noncomputable def D_X0_secure_73_a (xs : Nat → Int32) (xl d : Nat) (v1 : Int32) (v2 : Int64) (v4 : Int32) (v5 : Int32) (M : dp_M) : Option dp_Res := dp_lim true xs xl (dp_den true xs xl d) dp_m_X0_secure (73, [some (.ref 108), some (.int v1), some (.long v2), none, some (.int v4), some (.int v5)], [], M)
theorem D_X0_secure_0_den (xs : Nat → Int32) (xl d : Nat) (a0 : Int32) (a1 : Int64) (M : dp_M) : dp_den true xs xl (d + 1) 18 [.ref 108, .int a0, .long a1] M = D_X0_secure_0 xs xl d a0 a1 M := rfl
set_option maxRecDepth 20000 in
theorem D_X0_secure_0_eq (xs : Nat → Int32) (xl d : Nat) (v1 : Int32) (v2 : Int64) (M : dp_M) : D_X0_secure_0 xs xl d v1 v2 M = dp_bi (dp_den true xs xl d 2 [.ref 108, .int v1, .int (1 : Int32)] M) (fun r2 M1 => if (lg_cmp v2 (0 : Int64)) ≤ 0 then (D_X0_secure_73 xs xl d v1 v2 r2 M1) else (dp_bi (dp_den true xs xl d 2 [.ref 108, .int v1, .int (2 : Int32)] M1) (fun r4 M3 => dp_bi (dp_den true xs xl d 200 [.ref 90, .int r2, .int r4, .long v2] M3) (fun r6 M5 => if 0 < r6 then (dp_bv (dp_den true xs xl d 3 [.ref 108, .int v1, .int (9 : Int32), .long (Int32.toInt64 r6)] M5) (fun M7 => D_X0_secure_73_a xs xl d v1 v2 r2 r6 M7)) else (if r6 = (-1 : Int32) then (some (.inl (some (.long (-1 : Int64))), M5)) else (dp_bl (dp_den true xs xl d 195 [.ref 90, .int r2] M5) (fun r9 M8 => some (.inl (some (.long ((-2 : Int64) - r9))), M8)))))))) := by
  have hF := dp_den_grow (md := true) (xs := xs) (xl := xl) d
  unfold D_X0_secure_0
  refine dp_s1 hF (i := .aload_n 0) rfl (fun _ => rfl) ?_
  refine dp_s1 hF (i := .iload_n 1) rfl (fun _ => rfl) ?_
  refine dp_s1 hF (i := .iconst 1) rfl (fun _ => rfl) ?_
  refine dp_si (mj := dp_m_X0_small) (i := .invokevirtual 67) rfl rfl (Or.inl rfl) rfl (fun _ => rfl) (fun r2 M1 => ?_)
  refine dp_s1 hF (i := .istore 4) rfl (fun _ => rfl) ?_
  refine dp_s1 hF (i := .lload_n 2) rfl (fun _ => rfl) ?_
  refine dp_s1 hF (i := .lconst 0) rfl (fun _ => rfl) ?_
  refine dp_s1 hF (i := .lcmp) rfl (fun _ => rfl) ?_
  refine dp_s2 hF (i := .ifCond .le 62) (a := (73, [some (.ref 108), some (.int v1), some (.long v2), none, some (.int r2), none], [], M1)) (b := (14, [some (.ref 108), some (.int v1), some (.long v2), none, some (.int r2), none], [], M1)) rfl (fun _ => rfl) ?_ ?_
  · exact rfl
  refine dp_s1 hF (i := .aload_n 0) rfl (fun _ => rfl) ?_
  refine dp_s1 hF (i := .getfield 41) rfl (fun _ => rfl) ?_
  refine dp_s1 hF (i := .iload 4) rfl (fun _ => rfl) ?_
  refine dp_s1 hF (i := .aload_n 0) rfl (fun _ => rfl) ?_
  refine dp_s1 hF (i := .iload_n 1) rfl (fun _ => rfl) ?_
  refine dp_s1 hF (i := .iconst 2) rfl (fun _ => rfl) ?_
  refine dp_si (mj := dp_m_X0_small) (i := .invokevirtual 67) rfl rfl (Or.inl rfl) rfl (fun _ => rfl) (fun r4 M3 => ?_)
  refine dp_s1 hF (i := .lload_n 2) rfl (fun _ => rfl) ?_
  refine dp_si (mj := dp_m_X8_cover) (i := .invokevirtual 150) rfl rfl (Or.inl rfl) rfl (fun _ => rfl) (fun r6 M5 => ?_)
  refine dp_s1 hF (i := .istore 5) rfl (fun _ => rfl) ?_
  refine dp_s1 hF (i := .iload 5) rfl (fun _ => rfl) ?_
  refine dp_s2 hF (i := .ifCond .gt 29) (a := (63, [some (.ref 108), some (.int v1), some (.long v2), none, some (.int r2), some (.int r6)], [], M5)) (b := (37, [some (.ref 108), some (.int v1), some (.long v2), none, some (.int r2), some (.int r6)], [], M5)) rfl (fun _ => rfl) ?_ ?_
  · refine dp_s1 hF (i := .aload_n 0) rfl (fun _ => rfl) ?_
    refine dp_s1 hF (i := .iload_n 1) rfl (fun _ => rfl) ?_
    refine dp_s1 hF (i := .bipush 9) rfl (fun _ => rfl) ?_
    refine dp_s1 hF (i := .iload 5) rfl (fun _ => rfl) ?_
    refine dp_s1 hF (i := .i2l) rfl (fun _ => rfl) ?_
    refine dp_sv (mj := dp_m_X0_set) (i := .invokevirtual 61) rfl rfl rfl rfl (fun _ => rfl) (fun M7 => ?_)
    exact rfl
  refine dp_s1 hF (i := .iload 5) rfl (fun _ => rfl) ?_
  refine dp_s1 hF (i := .iconst (-1)) rfl (fun _ => rfl) ?_
  refine dp_s2 hF (i := .if_icmp .ne 9) (a := (43, [some (.ref 108), some (.int v1), some (.long v2), none, some (.int r2), some (.int r6)], [], M5)) (b := (49, [some (.ref 108), some (.int v1), some (.long v2), none, some (.int r2), some (.int r6)], [], M5)) rfl (fun _ => rfl) ?_ ?_
  · refine dp_s1 hF (i := .ldc2_w 65) rfl (fun _ => rfl) ?_
    refine dp_s1 hF (i := .goto 16) rfl (fun _ => rfl) ?_
    exact dp_s0 hF (i := .lreturn) rfl (fun _ => rfl)
  refine dp_s1 hF (i := .ldc2_w 156) rfl (fun _ => rfl) ?_
  refine dp_s1 hF (i := .aload_n 0) rfl (fun _ => rfl) ?_
  refine dp_s1 hF (i := .getfield 41) rfl (fun _ => rfl) ?_
  refine dp_s1 hF (i := .iload 4) rfl (fun _ => rfl) ?_
  refine dp_sl9 (mj := dp_m_X8_freeOf) (i := .invokevirtual 158) rfl rfl rfl rfl (fun _ => rfl) (fun r9 M8 => ?_)
  refine dp_s1 hF (i := .lsub) rfl (fun _ => rfl) ?_
  exact dp_s0 hF (i := .lreturn) rfl (fun _ => rfl)
set_option maxRecDepth 20000 in
theorem D_X0_secure_73_eq (xs : Nat → Int32) (xl d : Nat) (v1 : Int32) (v2 : Int64) (v4 : Int32) (M : dp_M) : D_X0_secure_73 xs xl d v1 v2 v4 M = dp_bv (dp_den true xs xl d 3 [.ref 108, .int v1, .int (8 : Int32), .long v2] M) (fun M1 => dp_bv (dp_den true xs xl d 3 [.ref 108, .int v1, .int (7 : Int32), .long (1 : Int64)] M1) (fun M2 => dp_bi (dp_den true xs xl d 2 [.ref 108, .int v1, .int (0 : Int32)] M2) (fun r4 M3 => dp_bv (dp_den true xs xl d 29 [.ref 37, .int r4, .int (1 : Int32)] M3) (fun M5 => some (.inl (some (.long v2)), M5))))) := by
  have hF := dp_den_grow (md := true) (xs := xs) (xl := xl) d
  unfold D_X0_secure_73
  refine dp_s1 hF (i := .aload_n 0) rfl (fun _ => rfl) ?_
  refine dp_s1 hF (i := .iload_n 1) rfl (fun _ => rfl) ?_
  refine dp_s1 hF (i := .bipush 8) rfl (fun _ => rfl) ?_
  refine dp_s1 hF (i := .lload_n 2) rfl (fun _ => rfl) ?_
  refine dp_sv (mj := dp_m_X0_set) (i := .invokevirtual 61) rfl rfl rfl rfl (fun _ => rfl) (fun M1 => ?_)
  refine dp_s1 hF (i := .aload_n 0) rfl (fun _ => rfl) ?_
  refine dp_s1 hF (i := .iload_n 1) rfl (fun _ => rfl) ?_
  refine dp_s1 hF (i := .bipush 7) rfl (fun _ => rfl) ?_
  refine dp_s1 hF (i := .lconst 1) rfl (fun _ => rfl) ?_
  refine dp_sv (mj := dp_m_X0_set) (i := .invokevirtual 61) rfl rfl rfl rfl (fun _ => rfl) (fun M2 => ?_)
  refine dp_s1 hF (i := .aload_n 0) rfl (fun _ => rfl) ?_
  refine dp_s1 hF (i := .getfield 49) rfl (fun _ => rfl) ?_
  refine dp_s1 hF (i := .aload_n 0) rfl (fun _ => rfl) ?_
  refine dp_s1 hF (i := .iload_n 1) rfl (fun _ => rfl) ?_
  refine dp_s1 hF (i := .iconst 0) rfl (fun _ => rfl) ?_
  refine dp_si (mj := dp_m_X0_small) (i := .invokevirtual 67) rfl rfl (Or.inl rfl) rfl (fun _ => rfl) (fun r4 M3 => ?_)
  refine dp_s1 hF (i := .iconst 1) rfl (fun _ => rfl) ?_
  refine dp_sv (mj := dp_m_X1_setFree) (i := .invokevirtual 162) rfl rfl rfl rfl (fun _ => rfl) (fun M5 => ?_)
  refine dp_s1 hF (i := .lload_n 2) rfl (fun _ => rfl) ?_
  exact dp_s0 hF (i := .lreturn) rfl (fun _ => rfl)
set_option maxRecDepth 20000 in
theorem D_X0_secure_73_a_eq (xs : Nat → Int32) (xl d : Nat) (v1 : Int32) (v2 : Int64) (v4 : Int32) (v5 : Int32) (M : dp_M) : D_X0_secure_73_a xs xl d v1 v2 v4 v5 M = dp_bv (dp_den true xs xl d 3 [.ref 108, .int v1, .int (8 : Int32), .long v2] M) (fun M1 => dp_bv (dp_den true xs xl d 3 [.ref 108, .int v1, .int (7 : Int32), .long (1 : Int64)] M1) (fun M2 => dp_bi (dp_den true xs xl d 2 [.ref 108, .int v1, .int (0 : Int32)] M2) (fun r4 M3 => dp_bv (dp_den true xs xl d 29 [.ref 37, .int r4, .int (1 : Int32)] M3) (fun M5 => some (.inl (some (.long v2)), M5))))) := by
  have hF := dp_den_grow (md := true) (xs := xs) (xl := xl) d
  unfold D_X0_secure_73_a
  refine dp_s1 hF (i := .aload_n 0) rfl (fun _ => rfl) ?_
  refine dp_s1 hF (i := .iload_n 1) rfl (fun _ => rfl) ?_
  refine dp_s1 hF (i := .bipush 8) rfl (fun _ => rfl) ?_
  refine dp_s1 hF (i := .lload_n 2) rfl (fun _ => rfl) ?_
  refine dp_sv (mj := dp_m_X0_set) (i := .invokevirtual 61) rfl rfl rfl rfl (fun _ => rfl) (fun M1 => ?_)
  refine dp_s1 hF (i := .aload_n 0) rfl (fun _ => rfl) ?_
  refine dp_s1 hF (i := .iload_n 1) rfl (fun _ => rfl) ?_
  refine dp_s1 hF (i := .bipush 7) rfl (fun _ => rfl) ?_
  refine dp_s1 hF (i := .lconst 1) rfl (fun _ => rfl) ?_
  refine dp_sv (mj := dp_m_X0_set) (i := .invokevirtual 61) rfl rfl rfl rfl (fun _ => rfl) (fun M2 => ?_)
  refine dp_s1 hF (i := .aload_n 0) rfl (fun _ => rfl) ?_
  refine dp_s1 hF (i := .getfield 49) rfl (fun _ => rfl) ?_
  refine dp_s1 hF (i := .aload_n 0) rfl (fun _ => rfl) ?_
  refine dp_s1 hF (i := .iload_n 1) rfl (fun _ => rfl) ?_
  refine dp_s1 hF (i := .iconst 0) rfl (fun _ => rfl) ?_
  refine dp_si (mj := dp_m_X0_small) (i := .invokevirtual 67) rfl rfl (Or.inl rfl) rfl (fun _ => rfl) (fun r4 M3 => ?_)
  refine dp_s1 hF (i := .iconst 1) rfl (fun _ => rfl) ?_
  refine dp_sv (mj := dp_m_X1_setFree) (i := .invokevirtual 162) rfl rfl rfl rfl (fun _ => rfl) (fun M5 => ?_)
  refine dp_s1 hF (i := .lload_n 2) rfl (fun _ => rfl) ?_
  exact dp_s0 hF (i := .lreturn) rfl (fun _ => rfl)
noncomputable def D_X0_book_0 (xs : Nat → Int32) (xl d : Nat) (v1 : Int32) (v2 : Int32) (v3 : Int64) (v5 : Int64) (M : dp_M) : Option dp_Res := dp_lim true xs xl (dp_den true xs xl d) dp_m_X0_book (0, [some (.ref 108), some (.int v1), some (.int v2), some (.long v3), none, some (.long v5), none, none], [], M)
noncomputable def D_X0_book_36 (xs : Nat → Int32) (xl d : Nat) (v1 : Int32) (v2 : Int32) (v3 : Int64) (v5 : Int64) (v7 : Int32) (M : dp_M) : Option dp_Res := dp_lim true xs xl (dp_den true xs xl d) dp_m_X0_book (36, [some (.ref 108), some (.int v1), some (.int v2), some (.long v3), none, some (.long v5), none, some (.int v7)], [], M)
noncomputable def D_X0_book_62 (xs : Nat → Int32) (xl d : Nat) (v1 : Int32) (v2 : Int32) (v3 : Int64) (v5 : Int64) (v7 : Int32) (M : dp_M) : Option dp_Res := dp_lim true xs xl (dp_den true xs xl d) dp_m_X0_book (62, [some (.ref 108), some (.int v1), some (.int v2), some (.long v3), none, some (.long v5), none, some (.int v7)], [], M)
theorem D_X0_book_0_den (xs : Nat → Int32) (xl d : Nat) (a0 : Int32) (a1 : Int32) (a2 : Int64) (a3 : Int64) (M : dp_M) : dp_den true xs xl (d + 1) 19 [.ref 108, .int a0, .int a1, .long a2, .long a3] M = D_X0_book_0 xs xl d a0 a1 a2 a3 M := rfl
set_option maxRecDepth 20000 in
theorem D_X0_book_0_eq (xs : Nat → Int32) (xl d : Nat) (v1 : Int32) (v2 : Int32) (v3 : Int64) (v5 : Int64) (M : dp_M) : D_X0_book_0 xs xl d v1 v2 v3 v5 M = dp_bi (dp_den true xs xl d 2 [.ref 108, .int v1, .int (5 : Int32)] M) (fun r2 M1 => dp_bi (dp_den true xs xl d 82 [.ref 97, .int r2, .int v2] M1) (fun r4 M3 => if (lg_cmp v3 (0 : Int64)) = 0 then (D_X0_book_36 xs xl d v1 v2 v3 v5 r4 M3) else (dp_bi (dp_den true xs xl d 83 [.ref 97, .int r4, .int (9 : Int32), .long (-v3)] M3) (fun r6 M5 => D_X0_book_36 xs xl d v1 v2 v3 v5 r4 M5)))) := by
  have hF := dp_den_grow (md := true) (xs := xs) (xl := xl) d
  unfold D_X0_book_0
  refine dp_s1 hF (i := .aload_n 0) rfl (fun _ => rfl) ?_
  refine dp_s1 hF (i := .getfield 45) rfl (fun _ => rfl) ?_
  refine dp_s1 hF (i := .aload_n 0) rfl (fun _ => rfl) ?_
  refine dp_s1 hF (i := .iload_n 1) rfl (fun _ => rfl) ?_
  refine dp_s1 hF (i := .iconst 5) rfl (fun _ => rfl) ?_
  refine dp_si (mj := dp_m_X0_small) (i := .invokevirtual 67) rfl rfl (Or.inl rfl) rfl (fun _ => rfl) (fun r2 M1 => ?_)
  refine dp_s1 hF (i := .iload_n 2) rfl (fun _ => rfl) ?_
  refine dp_si (mj := dp_m_X3_begin) (i := .invokevirtual 166) rfl rfl (Or.inl rfl) rfl (fun _ => rfl) (fun r4 M3 => ?_)
  refine dp_s1 hF (i := .istore 7) rfl (fun _ => rfl) ?_
  refine dp_s1 hF (i := .lload_n 3) rfl (fun _ => rfl) ?_
  refine dp_s1 hF (i := .lconst 0) rfl (fun _ => rfl) ?_
  refine dp_s1 hF (i := .lcmp) rfl (fun _ => rfl) ?_
  refine dp_s2 hF (i := .ifCond .eq 17) (a := (36, [some (.ref 108), some (.int v1), some (.int v2), some (.long v3), none, some (.long v5), none, some (.int r4)], [], M3)) (b := (22, [some (.ref 108), some (.int v1), some (.int v2), some (.long v3), none, some (.long v5), none, some (.int r4)], [], M3)) rfl (fun _ => rfl) ?_ ?_
  · exact rfl
  refine dp_s1 hF (i := .aload_n 0) rfl (fun _ => rfl) ?_
  refine dp_s1 hF (i := .getfield 45) rfl (fun _ => rfl) ?_
  refine dp_s1 hF (i := .iload 7) rfl (fun _ => rfl) ?_
  refine dp_s1 hF (i := .bipush 9) rfl (fun _ => rfl) ?_
  refine dp_s1 hF (i := .lload_n 3) rfl (fun _ => rfl) ?_
  refine dp_s1 hF (i := .lneg) rfl (fun _ => rfl) ?_
  refine dp_si (mj := dp_m_X3_addEntry) (i := .invokevirtual 171) rfl rfl (Or.inr rfl) rfl (fun _ => rfl) (fun r6 M5 => ?_)
  refine dp_s1 hF (i := .pop) rfl (fun _ => rfl) ?_
  exact rfl
set_option maxRecDepth 20000 in
theorem D_X0_book_36_eq (xs : Nat → Int32) (xl d : Nat) (v1 : Int32) (v2 : Int32) (v3 : Int64) (v5 : Int64) (v7 : Int32) (M : dp_M) : D_X0_book_36 xs xl d v1 v2 v3 v5 v7 M = if (lg_cmp v5 (0 : Int64)) = 0 then (D_X0_book_62 xs xl d v1 v2 v3 v5 v7 M) else (dp_bi (dp_den true xs xl d 2 [.ref 108, .int v1, .int (1 : Int32)] M) (fun r2 M1 => dp_bi (dp_den true xs xl d 83 [.ref 97, .int v7, .int r2, .long (-v5)] M1) (fun r4 M3 => D_X0_book_62 xs xl d v1 v2 v3 v5 v7 M3))) := by
  have hF := dp_den_grow (md := true) (xs := xs) (xl := xl) d
  unfold D_X0_book_36
  refine dp_s1 hF (i := .lload 5) rfl (fun _ => rfl) ?_
  refine dp_s1 hF (i := .lconst 0) rfl (fun _ => rfl) ?_
  refine dp_s1 hF (i := .lcmp) rfl (fun _ => rfl) ?_
  refine dp_s2 hF (i := .ifCond .eq 22) (a := (62, [some (.ref 108), some (.int v1), some (.int v2), some (.long v3), none, some (.long v5), none, some (.int v7)], [], M)) (b := (43, [some (.ref 108), some (.int v1), some (.int v2), some (.long v3), none, some (.long v5), none, some (.int v7)], [], M)) rfl (fun _ => rfl) ?_ ?_
  · exact rfl
  refine dp_s1 hF (i := .aload_n 0) rfl (fun _ => rfl) ?_
  refine dp_s1 hF (i := .getfield 45) rfl (fun _ => rfl) ?_
  refine dp_s1 hF (i := .iload 7) rfl (fun _ => rfl) ?_
  refine dp_s1 hF (i := .aload_n 0) rfl (fun _ => rfl) ?_
  refine dp_s1 hF (i := .iload_n 1) rfl (fun _ => rfl) ?_
  refine dp_s1 hF (i := .iconst 1) rfl (fun _ => rfl) ?_
  refine dp_si (mj := dp_m_X0_small) (i := .invokevirtual 67) rfl rfl (Or.inl rfl) rfl (fun _ => rfl) (fun r2 M1 => ?_)
  refine dp_s1 hF (i := .lload 5) rfl (fun _ => rfl) ?_
  refine dp_s1 hF (i := .lneg) rfl (fun _ => rfl) ?_
  refine dp_si (mj := dp_m_X3_addEntry) (i := .invokevirtual 171) rfl rfl (Or.inr rfl) rfl (fun _ => rfl) (fun r4 M3 => ?_)
  refine dp_s1 hF (i := .pop) rfl (fun _ => rfl) ?_
  exact rfl
set_option maxRecDepth 20000 in
theorem D_X0_book_62_eq (xs : Nat → Int32) (xl d : Nat) (v1 : Int32) (v2 : Int32) (v3 : Int64) (v5 : Int64) (v7 : Int32) (M : dp_M) : D_X0_book_62 xs xl d v1 v2 v3 v5 v7 M = dp_bi (dp_den true xs xl d 83 [.ref 97, .int v7, .int (8 : Int32), .long (v3 + v5)] M) (fun r2 M1 => dp_bv (dp_den true xs xl d 93 [.ref 97, .int v7] M1) (fun M3 => dp_bv (dp_den true xs xl d 3 [.ref 108, .int v1, .int (10 : Int32), .long (Int32.toInt64 v7)] M3) (fun M4 => some (.inl (some (.int v7)), M4)))) := by
  have hF := dp_den_grow (md := true) (xs := xs) (xl := xl) d
  unfold D_X0_book_62
  refine dp_s1 hF (i := .aload_n 0) rfl (fun _ => rfl) ?_
  refine dp_s1 hF (i := .getfield 45) rfl (fun _ => rfl) ?_
  refine dp_s1 hF (i := .iload 7) rfl (fun _ => rfl) ?_
  refine dp_s1 hF (i := .bipush 8) rfl (fun _ => rfl) ?_
  refine dp_s1 hF (i := .lload_n 3) rfl (fun _ => rfl) ?_
  refine dp_s1 hF (i := .lload 5) rfl (fun _ => rfl) ?_
  refine dp_s1 hF (i := .ladd) rfl (fun _ => rfl) ?_
  refine dp_si (mj := dp_m_X3_addEntry) (i := .invokevirtual 171) rfl rfl (Or.inr rfl) rfl (fun _ => rfl) (fun r2 M1 => ?_)
  refine dp_s1 hF (i := .pop) rfl (fun _ => rfl) ?_
  refine dp_s1 hF (i := .aload_n 0) rfl (fun _ => rfl) ?_
  refine dp_s1 hF (i := .getfield 45) rfl (fun _ => rfl) ?_
  refine dp_s1 hF (i := .iload 7) rfl (fun _ => rfl) ?_
  refine dp_sv (mj := dp_m_X3_enter) (i := .invokevirtual 175) rfl rfl rfl rfl (fun _ => rfl) (fun M3 => ?_)
  refine dp_s1 hF (i := .aload_n 0) rfl (fun _ => rfl) ?_
  refine dp_s1 hF (i := .iload_n 1) rfl (fun _ => rfl) ?_
  refine dp_s1 hF (i := .bipush 10) rfl (fun _ => rfl) ?_
  refine dp_s1 hF (i := .iload 7) rfl (fun _ => rfl) ?_
  refine dp_s1 hF (i := .i2l) rfl (fun _ => rfl) ?_
  refine dp_sv (mj := dp_m_X0_set) (i := .invokevirtual 61) rfl rfl rfl rfl (fun _ => rfl) (fun M4 => ?_)
  refine dp_s1 hF (i := .iload 7) rfl (fun _ => rfl) ?_
  exact dp_s0 hF (i := .ireturn) rfl (fun _ => rfl)
noncomputable def D_X0_settle_0 (xs : Nat → Int32) (xl d : Nat) (v1 : Int32) (v2 : Int32) (M : dp_M) : Option dp_Res := dp_lim true xs xl (dp_den true xs xl d) dp_m_X0_settle (0, [some (.ref 108), some (.int v1), some (.int v2)], [], M)
theorem D_X0_settle_0_den (xs : Nat → Int32) (xl d : Nat) (a0 : Int32) (a1 : Int32) (M : dp_M) : dp_den true xs xl (d + 1) 20 [.ref 108, .int a0, .int a1] M = D_X0_settle_0 xs xl d a0 a1 M := rfl
set_option maxRecDepth 20000 in
theorem D_X0_settle_0_eq (xs : Nat → Int32) (xl d : Nat) (v1 : Int32) (v2 : Int32) (M : dp_M) : D_X0_settle_0 xs xl d v1 v2 M = dp_bv (dp_den true xs xl d 3 [.ref 108, .int v1, .int (7 : Int32), .long (2 : Int64)] M) (fun M1 => dp_bl (dp_den true xs xl d 6 [.ref 108, .int v1] M1) (fun r3 M2 => if (lg_cmp r3 (0 : Int64)) = 0 then (some (.inl (some (.int (-1 : Int32))), M2)) else (dp_bi (dp_den true xs xl d 2 [.ref 108, .int v1, .int (9 : Int32)] M2) (fun r5 M4 => dp_bl (dp_den true xs xl d 207 [.ref 90, .int r5, .int (2 : Int32)] M4) (fun r7 M6 => dp_bl (dp_den true xs xl d 6 [.ref 108, .int v1] M6) (fun r9 M8 => dp_bi (dp_den true xs xl d 19 [.ref 108, .int v1, .int v2, .long (0 : Int64), .long r9] M8) (fun r11 M10 => some (.inl (some (.int r11)), M10)))))))) := by
  have hF := dp_den_grow (md := true) (xs := xs) (xl := xl) d
  unfold D_X0_settle_0
  refine dp_s1 hF (i := .aload_n 0) rfl (fun _ => rfl) ?_
  refine dp_s1 hF (i := .iload_n 1) rfl (fun _ => rfl) ?_
  refine dp_s1 hF (i := .bipush 7) rfl (fun _ => rfl) ?_
  refine dp_s1 hF (i := .ldc2_w 179) rfl (fun _ => rfl) ?_
  refine dp_sv (mj := dp_m_X0_set) (i := .invokevirtual 61) rfl rfl rfl rfl (fun _ => rfl) (fun M1 => ?_)
  refine dp_s1 hF (i := .aload_n 0) rfl (fun _ => rfl) ?_
  refine dp_s1 hF (i := .iload_n 1) rfl (fun _ => rfl) ?_
  refine dp_sl9 (mj := dp_m_X0_dutyOf) (i := .invokevirtual 181) rfl rfl rfl rfl (fun _ => rfl) (fun r3 M2 => ?_)
  refine dp_s1 hF (i := .lconst 0) rfl (fun _ => rfl) ?_
  refine dp_s1 hF (i := .lcmp) rfl (fun _ => rfl) ?_
  refine dp_s2 hF (i := .ifCond .ne 5) (a := (20, [some (.ref 108), some (.int v1), some (.int v2)], [], M2)) (b := (22, [some (.ref 108), some (.int v1), some (.int v2)], [], M2)) rfl (fun _ => rfl) ?_ ?_
  · refine dp_s1 hF (i := .iconst (-1)) rfl (fun _ => rfl) ?_
    exact dp_s0 hF (i := .ireturn) rfl (fun _ => rfl)
  refine dp_s1 hF (i := .aload_n 0) rfl (fun _ => rfl) ?_
  refine dp_s1 hF (i := .getfield 41) rfl (fun _ => rfl) ?_
  refine dp_s1 hF (i := .aload_n 0) rfl (fun _ => rfl) ?_
  refine dp_s1 hF (i := .iload_n 1) rfl (fun _ => rfl) ?_
  refine dp_s1 hF (i := .bipush 9) rfl (fun _ => rfl) ?_
  refine dp_si (mj := dp_m_X0_small) (i := .invokevirtual 67) rfl rfl (Or.inl rfl) rfl (fun _ => rfl) (fun r5 M4 => ?_)
  refine dp_s1 hF (i := .iconst 2) rfl (fun _ => rfl) ?_
  refine dp_sl9 (mj := dp_m_X8_finish) (i := .invokevirtual 184) rfl rfl rfl rfl (fun _ => rfl) (fun r7 M6 => ?_)
  refine dp_s1 hF (i := .pop2) rfl (fun _ => rfl) ?_
  refine dp_s1 hF (i := .aload_n 0) rfl (fun _ => rfl) ?_
  refine dp_s1 hF (i := .iload_n 1) rfl (fun _ => rfl) ?_
  refine dp_s1 hF (i := .iload_n 2) rfl (fun _ => rfl) ?_
  refine dp_s1 hF (i := .lconst 0) rfl (fun _ => rfl) ?_
  refine dp_s1 hF (i := .aload_n 0) rfl (fun _ => rfl) ?_
  refine dp_s1 hF (i := .iload_n 1) rfl (fun _ => rfl) ?_
  refine dp_sl9 (mj := dp_m_X0_dutyOf) (i := .invokevirtual 181) rfl rfl rfl rfl (fun _ => rfl) (fun r9 M8 => ?_)
  refine dp_si (mj := dp_m_X0_book) (i := .invokevirtual 187) rfl rfl (Or.inl rfl) rfl (fun _ => rfl) (fun r11 M10 => ?_)
  exact dp_s0 hF (i := .ireturn) rfl (fun _ => rfl)
noncomputable def D_X0_claimEntries_0 (xs : Nat → Int32) (xl d : Nat) (v1 : Int32) (M : dp_M) : Option dp_Res := dp_lim true xs xl (dp_den true xs xl d) dp_m_X0_claimEntries (0, [some (.ref 108), some (.int v1), none, none], [], M)
theorem D_X0_claimEntries_0_den (xs : Nat → Int32) (xl d : Nat) (a0 : Int32) (M : dp_M) : dp_den true xs xl (d + 1) 21 [.ref 108, .int a0] M = D_X0_claimEntries_0 xs xl d a0 M := rfl
set_option maxRecDepth 20000 in
theorem D_X0_claimEntries_0_eq (xs : Nat → Int32) (xl d : Nat) (v1 : Int32) (M : dp_M) : D_X0_claimEntries_0 xs xl d v1 M = dp_bi (dp_den true xs xl d 2 [.ref 108, .int v1, .int (9 : Int32)] M) (fun r2 M1 => dp_bl (dp_den true xs xl d 206 [.ref 90, .int r2] M1) (fun r4 M3 => if (lg_cmp r4 (0 : Int64)) ≤ 0 then (dp_bl (dp_den true xs xl d 6 [.ref 108, .int v1] M3) (fun r6 M5 => if 0 ≤ (lg_cmp r4 r6) then (some (.inl (some (.int (((1 : Int32) + (0 : Int32)) + (0 : Int32)))), M5)) else (some (.inl (some (.int (((1 : Int32) + (0 : Int32)) + (1 : Int32)))), M5)))) else (dp_bl (dp_den true xs xl d 6 [.ref 108, .int v1] M3) (fun r8 M7 => if 0 ≤ (lg_cmp r4 r8) then (some (.inl (some (.int (((1 : Int32) + (1 : Int32)) + (0 : Int32)))), M7)) else (some (.inl (some (.int (((1 : Int32) + (1 : Int32)) + (1 : Int32)))), M7)))))) := by
  have hF := dp_den_grow (md := true) (xs := xs) (xl := xl) d
  unfold D_X0_claimEntries_0
  refine dp_s1 hF (i := .aload_n 0) rfl (fun _ => rfl) ?_
  refine dp_s1 hF (i := .getfield 41) rfl (fun _ => rfl) ?_
  refine dp_s1 hF (i := .aload_n 0) rfl (fun _ => rfl) ?_
  refine dp_s1 hF (i := .iload_n 1) rfl (fun _ => rfl) ?_
  refine dp_s1 hF (i := .bipush 9) rfl (fun _ => rfl) ?_
  refine dp_si (mj := dp_m_X0_small) (i := .invokevirtual 67) rfl rfl (Or.inl rfl) rfl (fun _ => rfl) (fun r2 M1 => ?_)
  refine dp_sl9 (mj := dp_m_X8_claimable) (i := .invokevirtual 191) rfl rfl rfl rfl (fun _ => rfl) (fun r4 M3 => ?_)
  refine dp_s1 hF (i := .lstore_n 2) rfl (fun _ => rfl) ?_
  refine dp_s1 hF (i := .iconst 1) rfl (fun _ => rfl) ?_
  refine dp_s1 hF (i := .lload_n 2) rfl (fun _ => rfl) ?_
  refine dp_s1 hF (i := .lconst 0) rfl (fun _ => rfl) ?_
  refine dp_s1 hF (i := .lcmp) rfl (fun _ => rfl) ?_
  refine dp_s2 hF (i := .ifCond .le 7) (a := (26, [some (.ref 108), some (.int v1), some (.long r4), none], [.int (1 : Int32)], M3)) (b := (22, [some (.ref 108), some (.int v1), some (.long r4), none], [.int (1 : Int32)], M3)) rfl (fun _ => rfl) ?_ ?_
  · refine dp_s1 hF (i := .iconst 0) rfl (fun _ => rfl) ?_
    refine dp_s1 hF (i := .iadd) rfl (fun _ => rfl) ?_
    refine dp_s1 hF (i := .lload_n 2) rfl (fun _ => rfl) ?_
    refine dp_s1 hF (i := .aload_n 0) rfl (fun _ => rfl) ?_
    refine dp_s1 hF (i := .iload_n 1) rfl (fun _ => rfl) ?_
    refine dp_sl9 (mj := dp_m_X0_dutyOf) (i := .invokevirtual 181) rfl rfl rfl rfl (fun _ => rfl) (fun r6 M5 => ?_)
    refine dp_s1 hF (i := .lcmp) rfl (fun _ => rfl) ?_
    refine dp_s2 hF (i := .ifCond .ge 7) (a := (42, [some (.ref 108), some (.int v1), some (.long r4), none], [.int ((1 : Int32) + (0 : Int32))], M5)) (b := (38, [some (.ref 108), some (.int v1), some (.long r4), none], [.int ((1 : Int32) + (0 : Int32))], M5)) rfl (fun _ => rfl) ?_ ?_
    · refine dp_s1 hF (i := .iconst 0) rfl (fun _ => rfl) ?_
      refine dp_s1 hF (i := .iadd) rfl (fun _ => rfl) ?_
      exact dp_s0 hF (i := .ireturn) rfl (fun _ => rfl)
    refine dp_s1 hF (i := .iconst 1) rfl (fun _ => rfl) ?_
    refine dp_s1 hF (i := .goto 4) rfl (fun _ => rfl) ?_
    refine dp_s1 hF (i := .iadd) rfl (fun _ => rfl) ?_
    exact dp_s0 hF (i := .ireturn) rfl (fun _ => rfl)
  refine dp_s1 hF (i := .iconst 1) rfl (fun _ => rfl) ?_
  refine dp_s1 hF (i := .goto 4) rfl (fun _ => rfl) ?_
  refine dp_s1 hF (i := .iadd) rfl (fun _ => rfl) ?_
  refine dp_s1 hF (i := .lload_n 2) rfl (fun _ => rfl) ?_
  refine dp_s1 hF (i := .aload_n 0) rfl (fun _ => rfl) ?_
  refine dp_s1 hF (i := .iload_n 1) rfl (fun _ => rfl) ?_
  refine dp_sl9 (mj := dp_m_X0_dutyOf) (i := .invokevirtual 181) rfl rfl rfl rfl (fun _ => rfl) (fun r8 M7 => ?_)
  refine dp_s1 hF (i := .lcmp) rfl (fun _ => rfl) ?_
  refine dp_s2 hF (i := .ifCond .ge 7) (a := (42, [some (.ref 108), some (.int v1), some (.long r4), none], [.int ((1 : Int32) + (1 : Int32))], M7)) (b := (38, [some (.ref 108), some (.int v1), some (.long r4), none], [.int ((1 : Int32) + (1 : Int32))], M7)) rfl (fun _ => rfl) ?_ ?_
  · refine dp_s1 hF (i := .iconst 0) rfl (fun _ => rfl) ?_
    refine dp_s1 hF (i := .iadd) rfl (fun _ => rfl) ?_
    exact dp_s0 hF (i := .ireturn) rfl (fun _ => rfl)
  refine dp_s1 hF (i := .iconst 1) rfl (fun _ => rfl) ?_
  refine dp_s1 hF (i := .goto 4) rfl (fun _ => rfl) ?_
  refine dp_s1 hF (i := .iadd) rfl (fun _ => rfl) ?_
  exact dp_s0 hF (i := .ireturn) rfl (fun _ => rfl)
noncomputable def D_X0_callIn_0 (xs : Nat → Int32) (xl d : Nat) (v1 : Int32) (v2 : Int32) (M : dp_M) : Option dp_Res := dp_lim true xs xl (dp_den true xs xl d) dp_m_X0_callIn (0, [some (.ref 108), some (.int v1), some (.int v2), none, none], [], M)
theorem D_X0_callIn_0_den (xs : Nat → Int32) (xl d : Nat) (a0 : Int32) (a1 : Int32) (M : dp_M) : dp_den true xs xl (d + 1) 22 [.ref 108, .int a0, .int a1] M = D_X0_callIn_0 xs xl d a0 a1 M := rfl
set_option maxRecDepth 20000 in
theorem D_X0_callIn_0_eq (xs : Nat → Int32) (xl d : Nat) (v1 : Int32) (v2 : Int32) (M : dp_M) : D_X0_callIn_0 xs xl d v1 v2 M = dp_bi (dp_den true xs xl d 2 [.ref 108, .int v1, .int (9 : Int32)] M) (fun r2 M1 => dp_bl (dp_den true xs xl d 207 [.ref 90, .int r2, .int (3 : Int32)] M1) (fun r4 M3 => dp_bl (dp_den true xs xl d 6 [.ref 108, .int v1] M3) (fun r6 M5 => dp_bi (dp_den true xs xl d 19 [.ref 108, .int v1, .int v2, .long r4, .long (r6 - r4)] M5) (fun r8 M7 => dp_bv (dp_den true xs xl d 3 [.ref 108, .int v1, .int (7 : Int32), .long (3 : Int64)] M7) (fun M9 => some (.inl (some (.long r4)), M9)))))) := by
  have hF := dp_den_grow (md := true) (xs := xs) (xl := xl) d
  unfold D_X0_callIn_0
  refine dp_s1 hF (i := .aload_n 0) rfl (fun _ => rfl) ?_
  refine dp_s1 hF (i := .getfield 41) rfl (fun _ => rfl) ?_
  refine dp_s1 hF (i := .aload_n 0) rfl (fun _ => rfl) ?_
  refine dp_s1 hF (i := .iload_n 1) rfl (fun _ => rfl) ?_
  refine dp_s1 hF (i := .bipush 9) rfl (fun _ => rfl) ?_
  refine dp_si (mj := dp_m_X0_small) (i := .invokevirtual 67) rfl rfl (Or.inl rfl) rfl (fun _ => rfl) (fun r2 M1 => ?_)
  refine dp_s1 hF (i := .iconst 3) rfl (fun _ => rfl) ?_
  refine dp_sl9 (mj := dp_m_X8_finish) (i := .invokevirtual 184) rfl rfl rfl rfl (fun _ => rfl) (fun r4 M3 => ?_)
  refine dp_s1 hF (i := .lstore_n 3) rfl (fun _ => rfl) ?_
  refine dp_s1 hF (i := .aload_n 0) rfl (fun _ => rfl) ?_
  refine dp_s1 hF (i := .iload_n 1) rfl (fun _ => rfl) ?_
  refine dp_s1 hF (i := .iload_n 2) rfl (fun _ => rfl) ?_
  refine dp_s1 hF (i := .lload_n 3) rfl (fun _ => rfl) ?_
  refine dp_s1 hF (i := .aload_n 0) rfl (fun _ => rfl) ?_
  refine dp_s1 hF (i := .iload_n 1) rfl (fun _ => rfl) ?_
  refine dp_sl9 (mj := dp_m_X0_dutyOf) (i := .invokevirtual 181) rfl rfl rfl rfl (fun _ => rfl) (fun r6 M5 => ?_)
  refine dp_s1 hF (i := .lload_n 3) rfl (fun _ => rfl) ?_
  refine dp_s1 hF (i := .lsub) rfl (fun _ => rfl) ?_
  refine dp_si (mj := dp_m_X0_book) (i := .invokevirtual 187) rfl rfl (Or.inl rfl) rfl (fun _ => rfl) (fun r8 M7 => ?_)
  refine dp_s1 hF (i := .pop) rfl (fun _ => rfl) ?_
  refine dp_s1 hF (i := .aload_n 0) rfl (fun _ => rfl) ?_
  refine dp_s1 hF (i := .iload_n 1) rfl (fun _ => rfl) ?_
  refine dp_s1 hF (i := .bipush 7) rfl (fun _ => rfl) ?_
  refine dp_s1 hF (i := .ldc2_w 194) rfl (fun _ => rfl) ?_
  refine dp_sv (mj := dp_m_X0_set) (i := .invokevirtual 61) rfl rfl rfl rfl (fun _ => rfl) (fun M9 => ?_)
  refine dp_s1 hF (i := .lload_n 3) rfl (fun _ => rfl) ?_
  exact dp_s0 hF (i := .lreturn) rfl (fun _ => rfl)
noncomputable def D_X0_setRight_0 (xs : Nat → Int32) (xl d : Nat) (v1 : Int32) (v2 : Int64) (v4 : Int32) (M : dp_M) : Option dp_Res := dp_lim true xs xl (dp_den true xs xl d) dp_m_X0_setRight (0, [some (.ref 108), some (.int v1), some (.long v2), none, some (.int v4), none, none], [], M)
theorem D_X0_setRight_0_den (xs : Nat → Int32) (xl d : Nat) (a0 : Int32) (a1 : Int64) (a2 : Int32) (M : dp_M) : dp_den true xs xl (d + 1) 23 [.ref 108, .int a0, .long a1, .int a2] M = D_X0_setRight_0 xs xl d a0 a1 a2 M := rfl
set_option maxRecDepth 20000 in
theorem D_X0_setRight_0_eq (xs : Nat → Int32) (xl d : Nat) (v1 : Int32) (v2 : Int64) (v4 : Int32) (M : dp_M) : D_X0_setRight_0 xs xl d v1 v2 v4 M = dp_bl (dp_den true xs xl d 6 [.ref 108, .int v1] M) (fun r2 M1 => dp_w (v2 - r2) (fun y3 => if (lg_cmp y3 (0 : Int64)) = 0 then (some (.inl (some (.long y3)), M1)) else (dp_bi (dp_den true xs xl d 19 [.ref 108, .int v1, .int v4, .long (0 : Int64), .long y3] M1) (fun r5 M4 => dp_bv (dp_den true xs xl d 3 [.ref 108, .int v1, .int (8 : Int32), .long v2] M4) (fun M6 => some (.inl (some (.long y3)), M6)))))) := by
  have hF := dp_den_grow (md := true) (xs := xs) (xl := xl) d
  unfold D_X0_setRight_0
  refine dp_s1 hF (i := .lload_n 2) rfl (fun _ => rfl) ?_
  refine dp_s1 hF (i := .aload_n 0) rfl (fun _ => rfl) ?_
  refine dp_s1 hF (i := .iload_n 1) rfl (fun _ => rfl) ?_
  refine dp_sl9 (mj := dp_m_X0_dutyOf) (i := .invokevirtual 181) rfl rfl rfl rfl (fun _ => rfl) (fun r2 M1 => ?_)
  refine dp_s1 hF (i := .lsub) rfl (fun _ => rfl) ?_
  refine dp_s1w (v2 - r2) (fun (y3 : Int64) => (9, [some (.ref 108), some (.int v1), some (.long v2), none, some (.int v4), some (.long y3), none], [], M1)) hF (i := .lstore 5) rfl (fun _ => rfl) (fun y3 => ?_)
  refine dp_s1 hF (i := .lload 5) rfl (fun _ => rfl) ?_
  refine dp_s1 hF (i := .lconst 0) rfl (fun _ => rfl) ?_
  refine dp_s1 hF (i := .lcmp) rfl (fun _ => rfl) ?_
  refine dp_s2 hF (i := .ifCond .eq 22) (a := (35, [some (.ref 108), some (.int v1), some (.long v2), none, some (.int v4), some (.long y3), none], [], M1)) (b := (16, [some (.ref 108), some (.int v1), some (.long v2), none, some (.int v4), some (.long y3), none], [], M1)) rfl (fun _ => rfl) ?_ ?_
  · refine dp_s1 hF (i := .lload 5) rfl (fun _ => rfl) ?_
    exact dp_s0 hF (i := .lreturn) rfl (fun _ => rfl)
  refine dp_s1 hF (i := .aload_n 0) rfl (fun _ => rfl) ?_
  refine dp_s1 hF (i := .iload_n 1) rfl (fun _ => rfl) ?_
  refine dp_s1 hF (i := .iload 4) rfl (fun _ => rfl) ?_
  refine dp_s1 hF (i := .lconst 0) rfl (fun _ => rfl) ?_
  refine dp_s1 hF (i := .lload 5) rfl (fun _ => rfl) ?_
  refine dp_si (mj := dp_m_X0_book) (i := .invokevirtual 187) rfl rfl (Or.inl rfl) rfl (fun _ => rfl) (fun r5 M4 => ?_)
  refine dp_s1 hF (i := .pop) rfl (fun _ => rfl) ?_
  refine dp_s1 hF (i := .aload_n 0) rfl (fun _ => rfl) ?_
  refine dp_s1 hF (i := .iload_n 1) rfl (fun _ => rfl) ?_
  refine dp_s1 hF (i := .bipush 8) rfl (fun _ => rfl) ?_
  refine dp_s1 hF (i := .lload_n 2) rfl (fun _ => rfl) ?_
  refine dp_sv (mj := dp_m_X0_set) (i := .invokevirtual 61) rfl rfl rfl rfl (fun _ => rfl) (fun M6 => ?_)
  refine dp_s1 hF (i := .lload 5) rfl (fun _ => rfl) ?_
  exact dp_s0 hF (i := .lreturn) rfl (fun _ => rfl)
noncomputable def D_X0_giveUp_0 (xs : Nat → Int32) (xl d : Nat) (v1 : Int32) (M : dp_M) : Option dp_Res := dp_lim true xs xl (dp_den true xs xl d) dp_m_X0_giveUp (0, [some (.ref 108), some (.int v1), none, none], [], M)
noncomputable def D_X0_giveUp_29 (xs : Nat → Int32) (xl d : Nat) (v1 : Int32) (v2 : Int32) (vs0 : Int32) (M : dp_M) : Option dp_Res := dp_lim true xs xl (dp_den true xs xl d) dp_m_X0_giveUp (29, [some (.ref 108), some (.int v1), some (.int v2), none], [.int vs0], M)
noncomputable def D_X0_giveUp_75 (xs : Nat → Int32) (xl d : Nat) (v1 : Int32) (v2 : Int32) (v3 : Int32) (M : dp_M) : Option dp_Res := dp_lim true xs xl (dp_den true xs xl d) dp_m_X0_giveUp (75, [some (.ref 108), some (.int v1), some (.int v2), some (.int v3)], [], M)
noncomputable def D_X0_giveUp_100 (xs : Nat → Int32) (xl d : Nat) (v1 : Int32) (v2 : Int32) (v3 : Int32) (M : dp_M) : Option dp_Res := dp_lim true xs xl (dp_den true xs xl d) dp_m_X0_giveUp (100, [some (.ref 108), some (.int v1), some (.int v2), some (.int v3)], [], M)
theorem D_X0_giveUp_0_den (xs : Nat → Int32) (xl d : Nat) (a0 : Int32) (M : dp_M) : dp_den true xs xl (d + 1) 24 [.ref 108, .int a0] M = D_X0_giveUp_0 xs xl d a0 M := rfl
set_option maxRecDepth 20000 in
theorem D_X0_giveUp_0_eq (xs : Nat → Int32) (xl d : Nat) (v1 : Int32) (M : dp_M) : D_X0_giveUp_0 xs xl d v1 M = dp_bi (dp_den true xs xl d 2 [.ref 108, .int v1, .int (0 : Int32)] M) (fun r2 M1 => dp_bi (dp_den true xs xl d 5 [.ref 108, .int v1] M1) (fun r4 M3 => if r4 = 0 then (D_X0_giveUp_29 xs xl d v1 r2 (1 : Int32) M3) else (dp_bi (dp_den true xs xl d 5 [.ref 108, .int v1] M3) (fun r6 M5 => if r6 = (1 : Int32) then (D_X0_giveUp_29 xs xl d v1 r2 (1 : Int32) M5) else (D_X0_giveUp_29 xs xl d v1 r2 (0 : Int32) M5))))) := by
  have hF := dp_den_grow (md := true) (xs := xs) (xl := xl) d
  unfold D_X0_giveUp_0
  refine dp_s1 hF (i := .aload_n 0) rfl (fun _ => rfl) ?_
  refine dp_s1 hF (i := .iload_n 1) rfl (fun _ => rfl) ?_
  refine dp_s1 hF (i := .iconst 0) rfl (fun _ => rfl) ?_
  refine dp_si (mj := dp_m_X0_small) (i := .invokevirtual 67) rfl rfl (Or.inl rfl) rfl (fun _ => rfl) (fun r2 M1 => ?_)
  refine dp_s1 hF (i := .istore_n 2) rfl (fun _ => rfl) ?_
  refine dp_s1 hF (i := .aload_n 0) rfl (fun _ => rfl) ?_
  refine dp_s1 hF (i := .iload_n 1) rfl (fun _ => rfl) ?_
  refine dp_si (mj := dp_m_X0_stateOf) (i := .invokevirtual 71) rfl rfl (Or.inl rfl) rfl (fun _ => rfl) (fun r4 M3 => ?_)
  refine dp_s2 hF (i := .ifCond .eq 12) (a := (24, [some (.ref 108), some (.int v1), some (.int r2), none], [], M3)) (b := (15, [some (.ref 108), some (.int v1), some (.int r2), none], [], M3)) rfl (fun _ => rfl) ?_ ?_
  · refine dp_s1 hF (i := .iconst 1) rfl (fun _ => rfl) ?_
    refine dp_s1 hF (i := .goto 4) rfl (fun _ => rfl) ?_
    exact rfl
  refine dp_s1 hF (i := .aload_n 0) rfl (fun _ => rfl) ?_
  refine dp_s1 hF (i := .iload_n 1) rfl (fun _ => rfl) ?_
  refine dp_si (mj := dp_m_X0_stateOf) (i := .invokevirtual 71) rfl rfl (Or.inl rfl) rfl (fun _ => rfl) (fun r6 M5 => ?_)
  refine dp_s1 hF (i := .iconst 1) rfl (fun _ => rfl) ?_
  refine dp_s2 hF (i := .if_icmp .ne 7) (a := (24, [some (.ref 108), some (.int v1), some (.int r2), none], [], M5)) (b := (28, [some (.ref 108), some (.int v1), some (.int r2), none], [], M5)) rfl (fun _ => rfl) ?_ ?_
  · refine dp_s1 hF (i := .iconst 1) rfl (fun _ => rfl) ?_
    refine dp_s1 hF (i := .goto 4) rfl (fun _ => rfl) ?_
    exact rfl
  refine dp_s1 hF (i := .iconst 0) rfl (fun _ => rfl) ?_
  exact rfl
set_option maxRecDepth 20000 in
theorem D_X0_giveUp_29_eq (xs : Nat → Int32) (xl d : Nat) (v1 : Int32) (v2 : Int32) (vs0 : Int32) (M : dp_M) : D_X0_giveUp_29 xs xl d v1 v2 vs0 M = if vs0 = 0 then (some (.inl (some (.int (0 : Int32))), M)) else (dp_bi (dp_den true xs xl d 30 [.ref 37, .int v2] M) (fun r2 M1 => if r2 = 0 then (dp_bl (dp_den true xs xl d 1 [.ref 108, .int v1, .int (9 : Int32)] M1) (fun r4 M3 => if (lg_cmp r4 (0 : Int64)) ≤ 0 then (D_X0_giveUp_75 xs xl d v1 v2 vs0 M3) else (dp_bi (dp_den true xs xl d 2 [.ref 108, .int v1, .int (9 : Int32)] M3) (fun r6 M5 => dp_bl (dp_den true xs xl d 207 [.ref 90, .int r6, .int (1 : Int32)] M5) (fun r8 M7 => D_X0_giveUp_75 xs xl d v1 v2 vs0 M7))))) else (some (.inl (some (.int (0 : Int32))), M1)))) := by
  have hF := dp_den_grow (md := true) (xs := xs) (xl := xl) d
  unfold D_X0_giveUp_29
  refine dp_s1 hF (i := .istore_n 3) rfl (fun _ => rfl) ?_
  refine dp_s1 hF (i := .iload_n 3) rfl (fun _ => rfl) ?_
  refine dp_s2 hF (i := .ifCond .eq 14) (a := (45, [some (.ref 108), some (.int v1), some (.int v2), some (.int vs0)], [], M)) (b := (34, [some (.ref 108), some (.int v1), some (.int v2), some (.int vs0)], [], M)) rfl (fun _ => rfl) ?_ ?_
  · refine dp_s1 hF (i := .iconst 0) rfl (fun _ => rfl) ?_
    exact dp_s0 hF (i := .ireturn) rfl (fun _ => rfl)
  refine dp_s1 hF (i := .aload_n 0) rfl (fun _ => rfl) ?_
  refine dp_s1 hF (i := .getfield 49) rfl (fun _ => rfl) ?_
  refine dp_s1 hF (i := .iload_n 2) rfl (fun _ => rfl) ?_
  refine dp_si (mj := dp_m_X1_isBehind) (i := .invokevirtual 196) rfl rfl (Or.inr rfl) rfl (fun _ => rfl) (fun r2 M1 => ?_)
  refine dp_s2 hF (i := .ifCond .eq 5) (a := (47, [some (.ref 108), some (.int v1), some (.int v2), some (.int vs0)], [], M1)) (b := (45, [some (.ref 108), some (.int v1), some (.int v2), some (.int vs0)], [], M1)) rfl (fun _ => rfl) ?_ ?_
  · refine dp_s1 hF (i := .aload_n 0) rfl (fun _ => rfl) ?_
    refine dp_s1 hF (i := .iload_n 1) rfl (fun _ => rfl) ?_
    refine dp_s1 hF (i := .bipush 9) rfl (fun _ => rfl) ?_
    refine dp_sl9 (mj := dp_m_X0_get) (i := .invokevirtual 53) rfl rfl rfl rfl (fun _ => rfl) (fun r4 M3 => ?_)
    refine dp_s1 hF (i := .lconst 0) rfl (fun _ => rfl) ?_
    refine dp_s1 hF (i := .lcmp) rfl (fun _ => rfl) ?_
    refine dp_s2 hF (i := .ifCond .le 19) (a := (75, [some (.ref 108), some (.int v1), some (.int v2), some (.int vs0)], [], M3)) (b := (59, [some (.ref 108), some (.int v1), some (.int v2), some (.int vs0)], [], M3)) rfl (fun _ => rfl) ?_ ?_
    · exact rfl
    refine dp_s1 hF (i := .aload_n 0) rfl (fun _ => rfl) ?_
    refine dp_s1 hF (i := .getfield 41) rfl (fun _ => rfl) ?_
    refine dp_s1 hF (i := .aload_n 0) rfl (fun _ => rfl) ?_
    refine dp_s1 hF (i := .iload_n 1) rfl (fun _ => rfl) ?_
    refine dp_s1 hF (i := .bipush 9) rfl (fun _ => rfl) ?_
    refine dp_si (mj := dp_m_X0_small) (i := .invokevirtual 67) rfl rfl (Or.inl rfl) rfl (fun _ => rfl) (fun r6 M5 => ?_)
    refine dp_s1 hF (i := .iconst 1) rfl (fun _ => rfl) ?_
    refine dp_sl9 (mj := dp_m_X8_finish) (i := .invokevirtual 184) rfl rfl rfl rfl (fun _ => rfl) (fun r8 M7 => ?_)
    refine dp_s1 hF (i := .pop2) rfl (fun _ => rfl) ?_
    exact rfl
  refine dp_s1 hF (i := .iconst 0) rfl (fun _ => rfl) ?_
  exact dp_s0 hF (i := .ireturn) rfl (fun _ => rfl)
set_option maxRecDepth 20000 in
theorem D_X0_giveUp_75_eq (xs : Nat → Int32) (xl d : Nat) (v1 : Int32) (v2 : Int32) (v3 : Int32) (M : dp_M) : D_X0_giveUp_75 xs xl d v1 v2 v3 M = if v1 < 0 ∨ 400 ≤ Int32.toNatClampNeg v1 then none else (if (dp_I M 109 (Int32.toNatClampNeg v1)) = (-1 : Int32) then (D_X0_giveUp_100 xs xl d v1 v2 v3 M) else (if v1 < 0 ∨ 400 ≤ Int32.toNatClampNeg v1 then none else (dp_bi (dp_den true xs xl d 120 [.ref 75, .int (dp_I M 109 (Int32.toNatClampNeg v1)), .long (0 : Int64)] M) (fun r2 M1 => D_X0_giveUp_100 xs xl d v1 v2 v3 M1)))) := by
  have hF := dp_den_grow (md := true) (xs := xs) (xl := xl) d
  unfold D_X0_giveUp_75
  refine dp_s1 hF (i := .aload_n 0) rfl (fun _ => rfl) ?_
  refine dp_s1 hF (i := .getfield 11) rfl (fun _ => rfl) ?_
  refine dp_s1 hF (i := .iload_n 1) rfl (fun _ => rfl) ?_
  refine dp_s3 hF (i := .iaload) rfl (fun _ => rfl) ?_
  refine dp_s1 hF (i := .iconst (-1)) rfl (fun _ => rfl) ?_
  refine dp_s2 hF (i := .if_icmp .eq 18) (a := (100, [some (.ref 108), some (.int v1), some (.int v2), some (.int v3)], [], M)) (b := (85, [some (.ref 108), some (.int v1), some (.int v2), some (.int v3)], [], M)) rfl (fun _ => rfl) ?_ ?_
  · exact rfl
  refine dp_s1 hF (i := .aload_n 0) rfl (fun _ => rfl) ?_
  refine dp_s1 hF (i := .getfield 37) rfl (fun _ => rfl) ?_
  refine dp_s1 hF (i := .aload_n 0) rfl (fun _ => rfl) ?_
  refine dp_s1 hF (i := .getfield 11) rfl (fun _ => rfl) ?_
  refine dp_s1 hF (i := .iload_n 1) rfl (fun _ => rfl) ?_
  refine dp_s3 hF (i := .iaload) rfl (fun _ => rfl) ?_
  refine dp_s1 hF (i := .lconst 0) rfl (fun _ => rfl) ?_
  refine dp_si (mj := dp_m_X5_changeAsk) (i := .invokevirtual 200) rfl rfl (Or.inl rfl) rfl (fun _ => rfl) (fun r2 M1 => ?_)
  refine dp_s1 hF (i := .pop) rfl (fun _ => rfl) ?_
  exact rfl
set_option maxRecDepth 20000 in
theorem D_X0_giveUp_100_eq (xs : Nat → Int32) (xl d : Nat) (v1 : Int32) (v2 : Int32) (v3 : Int32) (M : dp_M) : D_X0_giveUp_100 xs xl d v1 v2 v3 M = dp_bv (dp_den true xs xl d 3 [.ref 108, .int v1, .int (7 : Int32), .long (4 : Int64)] M) (fun M1 => if v2 < 0 ∨ 300 ≤ Int32.toNatClampNeg v2 then none else dp_w (dp_setI M1 110 (Int32.toNatClampNeg v2) ((0 : Int32) &&& 1)) (fun M2 => dp_bv (dp_den true xs xl d 29 [.ref 37, .int v2, .int (0 : Int32)] M2) (fun M3 => some (.inl (some (.int (1 : Int32))), M3)))) := by
  have hF := dp_den_grow (md := true) (xs := xs) (xl := xl) d
  unfold D_X0_giveUp_100
  refine dp_s1 hF (i := .aload_n 0) rfl (fun _ => rfl) ?_
  refine dp_s1 hF (i := .iload_n 1) rfl (fun _ => rfl) ?_
  refine dp_s1 hF (i := .bipush 7) rfl (fun _ => rfl) ?_
  refine dp_s1 hF (i := .ldc2_w 204) rfl (fun _ => rfl) ?_
  refine dp_sv (mj := dp_m_X0_set) (i := .invokevirtual 61) rfl rfl rfl rfl (fun _ => rfl) (fun M1 => ?_)
  refine dp_s1 hF (i := .aload_n 0) rfl (fun _ => rfl) ?_
  refine dp_s1 hF (i := .getfield 17) rfl (fun _ => rfl) ?_
  refine dp_s1 hF (i := .iload_n 2) rfl (fun _ => rfl) ?_
  refine dp_s1 hF (i := .iconst 0) rfl (fun _ => rfl) ?_
  refine dp_s3w (dp_setI M1 110 (Int32.toNatClampNeg v2) ((0 : Int32) &&& 1)) (fun (M2 : dp_M) => (117, [some (.ref 108), some (.int v1), some (.int v2), some (.int v3)], [], M2)) hF (i := .bastore) rfl (fun _ => rfl) (fun M2 => ?_)
  refine dp_s1 hF (i := .aload_n 0) rfl (fun _ => rfl) ?_
  refine dp_s1 hF (i := .getfield 49) rfl (fun _ => rfl) ?_
  refine dp_s1 hF (i := .iload_n 2) rfl (fun _ => rfl) ?_
  refine dp_s1 hF (i := .iconst 0) rfl (fun _ => rfl) ?_
  refine dp_sv (mj := dp_m_X1_setFree) (i := .invokevirtual 162) rfl rfl rfl rfl (fun _ => rfl) (fun M3 => ?_)
  refine dp_s1 hF (i := .iconst 1) rfl (fun _ => rfl) ?_
  exact dp_s0 hF (i := .ireturn) rfl (fun _ => rfl)
