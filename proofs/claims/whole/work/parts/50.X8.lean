noncomputable def D_X8_get_0 (xs : Nat → Int32) (xl d : Nat) (v1 : Int32) (v2 : Int32) (M : dp_M) : Option dp_Res := dp_lim true xs xl (dp_den true xs xl d) dp_m_X8_get (0, [some (.ref 90), some (.int v1), some (.int v2)], [], M)
theorem D_X8_get_0_den (xs : Nat → Int32) (xl d : Nat) (a0 : Int32) (a1 : Int32) (M : dp_M) : dp_den true xs xl (d + 1) 183 [.ref 90, .int a0, .int a1] M = D_X8_get_0 xs xl d a0 a1 M := rfl
set_option maxRecDepth 20000 in
theorem D_X8_get_0_eq (xs : Nat → Int32) (xl d : Nat) (v1 : Int32) (v2 : Int32) (M : dp_M) : D_X8_get_0 xs xl d v1 v2 M = if ((v1 * (16 : Int32)) + v2) < 0 ∨ 656 ≤ Int32.toNatClampNeg ((v1 * (16 : Int32)) + v2) then none else (some (.inl (some (.long (dp_J M 95 (Int32.toNatClampNeg ((v1 * (16 : Int32)) + v2))))), M)) := by
  have hF := dp_den_grow (md := true) (xs := xs) (xl := xl) d
  unfold D_X8_get_0
  refine dp_s1 hF (i := .aload_n 0) rfl (fun _ => rfl) ?_
  refine dp_s1 hF (i := .getfield 25) rfl (fun _ => rfl) ?_
  refine dp_s1 hF (i := .iload_n 1) rfl (fun _ => rfl) ?_
  refine dp_s1 hF (i := .bipush 16) rfl (fun _ => rfl) ?_
  refine dp_s1 hF (i := .imul) rfl (fun _ => rfl) ?_
  refine dp_s1 hF (i := .iload_n 2) rfl (fun _ => rfl) ?_
  refine dp_s1 hF (i := .iadd) rfl (fun _ => rfl) ?_
  refine dp_s3 hF (i := .laload) rfl (fun _ => rfl) ?_
  exact dp_s0 hF (i := .lreturn) rfl (fun _ => rfl)
noncomputable def D_X8_set_0 (xs : Nat → Int32) (xl d : Nat) (v1 : Int32) (v2 : Int32) (v3 : Int64) (M : dp_M) : Option dp_Res := dp_lim true xs xl (dp_den true xs xl d) dp_m_X8_set (0, [some (.ref 90), some (.int v1), some (.int v2), some (.long v3), none], [], M)
theorem D_X8_set_0_den (xs : Nat → Int32) (xl d : Nat) (a0 : Int32) (a1 : Int32) (a2 : Int64) (M : dp_M) : dp_den true xs xl (d + 1) 184 [.ref 90, .int a0, .int a1, .long a2] M = D_X8_set_0 xs xl d a0 a1 a2 M := rfl
set_option maxRecDepth 20000 in
theorem D_X8_set_0_eq (xs : Nat → Int32) (xl d : Nat) (v1 : Int32) (v2 : Int32) (v3 : Int64) (M : dp_M) : D_X8_set_0 xs xl d v1 v2 v3 M = if ((v1 * (16 : Int32)) + v2) < 0 ∨ 656 ≤ Int32.toNatClampNeg ((v1 * (16 : Int32)) + v2) then none else dp_w (dp_setJ M 95 (Int32.toNatClampNeg ((v1 * (16 : Int32)) + v2)) v3) (fun M1 => some (.inl none, M1)) := by
  have hF := dp_den_grow (md := true) (xs := xs) (xl := xl) d
  unfold D_X8_set_0
  refine dp_s1 hF (i := .aload_n 0) rfl (fun _ => rfl) ?_
  refine dp_s1 hF (i := .getfield 25) rfl (fun _ => rfl) ?_
  refine dp_s1 hF (i := .iload_n 1) rfl (fun _ => rfl) ?_
  refine dp_s1 hF (i := .bipush 16) rfl (fun _ => rfl) ?_
  refine dp_s1 hF (i := .imul) rfl (fun _ => rfl) ?_
  refine dp_s1 hF (i := .iload_n 2) rfl (fun _ => rfl) ?_
  refine dp_s1 hF (i := .iadd) rfl (fun _ => rfl) ?_
  refine dp_s1 hF (i := .lload_n 3) rfl (fun _ => rfl) ?_
  refine dp_s3w (dp_setJ M 95 (Int32.toNatClampNeg ((v1 * (16 : Int32)) + v2)) v3) (fun (M1 : dp_M) => (12, [some (.ref 90), some (.int v1), some (.int v2), some (.long v3), none], [], M1)) hF (i := .lastore) rfl (fun _ => rfl) (fun M1 => ?_)
  exact dp_s0 hF (i := .return_) rfl (fun _ => rfl)
noncomputable def D_X8_addGuarantee_0 (xs : Nat → Int32) (xl d : Nat) (v1 : Int32) (v2 : Int64) (v4 : Int32) (v5 : Int32) (v6 : Int32) (v7 : Int32) (M : dp_M) : Option dp_Res := dp_lim true xs xl (dp_den true xs xl d) dp_m_X8_addGuarantee (0, [some (.ref 90), some (.int v1), some (.long v2), none, some (.int v4), some (.int v5), some (.int v6), some (.int v7), none], [], M)
noncomputable def D_X8_addGuarantee_70 (xs : Nat → Int32) (xl d : Nat) (v1 : Int32) (v2 : Int64) (v4 : Int32) (v5 : Int32) (v6 : Int32) (v7 : Int32) (v8 : Int32) (vs0 : Int64) (vs1 : Int32) (vs2 : Int32) (M : dp_M) : Option dp_Res := dp_lim true xs xl (dp_den true xs xl d) dp_m_X8_addGuarantee (70, [some (.ref 90), some (.int v1), some (.long v2), none, some (.int v4), some (.int v5), some (.int v6), some (.int v7), some (.int v8)], [.long vs0, .int vs1, .int vs2, .ref 90], M)
theorem D_X8_addGuarantee_0_den (xs : Nat → Int32) (xl d : Nat) (a0 : Int32) (a1 : Int64) (a2 : Int32) (a3 : Int32) (a4 : Int32) (a5 : Int32) (M : dp_M) : dp_den true xs xl (d + 1) 185 [.ref 90, .int a0, .long a1, .int a2, .int a3, .int a4, .int a5] M = D_X8_addGuarantee_0 xs xl d a0 a1 a2 a3 a4 a5 M := rfl
set_option maxRecDepth 20000 in
theorem D_X8_addGuarantee_0_eq (xs : Nat → Int32) (xl d : Nat) (v1 : Int32) (v2 : Int64) (v4 : Int32) (v5 : Int32) (v6 : Int32) (v7 : Int32) (M : dp_M) : D_X8_addGuarantee_0 xs xl d v1 v2 v4 v5 v6 v7 M = dp_w (dp_setI M 90 0 ((dp_I M 90 0) + (1 : Int32))) (fun M1 => dp_w (dp_I M1 90 0) (fun y2 => dp_bv (dp_den true xs xl d 184 [.ref 90, .int y2, .int (0 : Int32), .long (Int32.toInt64 v1)] M1) (fun M3 => dp_bv (dp_den true xs xl d 184 [.ref 90, .int y2, .int (1 : Int32), .long v2] M3) (fun M4 => dp_bv (dp_den true xs xl d 184 [.ref 90, .int y2, .int (9 : Int32), .long (Int32.toInt64 v4)] M4) (fun M5 => dp_bv (dp_den true xs xl d 184 [.ref 90, .int y2, .int (10 : Int32), .long (Int32.toInt64 v5)] M5) (fun M6 => if v6 = 0 then (D_X8_addGuarantee_70 xs xl d v1 v2 v4 v5 v6 v7 y2 (0 : Int64) (11 : Int32) y2 M6) else (D_X8_addGuarantee_70 xs xl d v1 v2 v4 v5 v6 v7 y2 (1 : Int64) (11 : Int32) y2 M6))))))) := by
  have hF := dp_den_grow (md := true) (xs := xs) (xl := xl) d
  unfold D_X8_addGuarantee_0
  refine dp_s1 hF (i := .aload_n 0) rfl (fun _ => rfl) ?_
  refine dp_s1 hF (i := .dup) rfl (fun _ => rfl) ?_
  refine dp_s1 hF (i := .getfield 34) rfl (fun _ => rfl) ?_
  refine dp_s1 hF (i := .iconst 1) rfl (fun _ => rfl) ?_
  refine dp_s1 hF (i := .iadd) rfl (fun _ => rfl) ?_
  refine dp_s1w (dp_setI M 90 0 ((dp_I M 90 0) + (1 : Int32))) (fun (M1 : dp_M) => (10, [some (.ref 90), some (.int v1), some (.long v2), none, some (.int v4), some (.int v5), some (.int v6), some (.int v7), none], [], M1)) hF (i := .putfield 34) rfl (fun _ => rfl) (fun M1 => ?_)
  refine dp_s1 hF (i := .aload_n 0) rfl (fun _ => rfl) ?_
  refine dp_s1 hF (i := .getfield 34) rfl (fun _ => rfl) ?_
  refine dp_s1w (dp_I M1 90 0) (fun (y2 : Int32) => (16, [some (.ref 90), some (.int v1), some (.long v2), none, some (.int v4), some (.int v5), some (.int v6), some (.int v7), some (.int y2)], [], M1)) hF (i := .istore 8) rfl (fun _ => rfl) (fun y2 => ?_)
  refine dp_s1 hF (i := .aload_n 0) rfl (fun _ => rfl) ?_
  refine dp_s1 hF (i := .iload 8) rfl (fun _ => rfl) ?_
  refine dp_s1 hF (i := .iconst 0) rfl (fun _ => rfl) ?_
  refine dp_s1 hF (i := .iload_n 1) rfl (fun _ => rfl) ?_
  refine dp_s1 hF (i := .i2l) rfl (fun _ => rfl) ?_
  refine dp_sv (mj := dp_m_X8_set) (i := .invokevirtual 38) rfl rfl rfl rfl (fun _ => rfl) (fun M3 => ?_)
  refine dp_s1 hF (i := .aload_n 0) rfl (fun _ => rfl) ?_
  refine dp_s1 hF (i := .iload 8) rfl (fun _ => rfl) ?_
  refine dp_s1 hF (i := .iconst 1) rfl (fun _ => rfl) ?_
  refine dp_s1 hF (i := .lload_n 2) rfl (fun _ => rfl) ?_
  refine dp_sv (mj := dp_m_X8_set) (i := .invokevirtual 38) rfl rfl rfl rfl (fun _ => rfl) (fun M4 => ?_)
  refine dp_s1 hF (i := .aload_n 0) rfl (fun _ => rfl) ?_
  refine dp_s1 hF (i := .iload 8) rfl (fun _ => rfl) ?_
  refine dp_s1 hF (i := .bipush 9) rfl (fun _ => rfl) ?_
  refine dp_s1 hF (i := .iload 4) rfl (fun _ => rfl) ?_
  refine dp_s1 hF (i := .i2l) rfl (fun _ => rfl) ?_
  refine dp_sv (mj := dp_m_X8_set) (i := .invokevirtual 38) rfl rfl rfl rfl (fun _ => rfl) (fun M5 => ?_)
  refine dp_s1 hF (i := .aload_n 0) rfl (fun _ => rfl) ?_
  refine dp_s1 hF (i := .iload 8) rfl (fun _ => rfl) ?_
  refine dp_s1 hF (i := .bipush 10) rfl (fun _ => rfl) ?_
  refine dp_s1 hF (i := .iload 5) rfl (fun _ => rfl) ?_
  refine dp_s1 hF (i := .i2l) rfl (fun _ => rfl) ?_
  refine dp_sv (mj := dp_m_X8_set) (i := .invokevirtual 38) rfl rfl rfl rfl (fun _ => rfl) (fun M6 => ?_)
  refine dp_s1 hF (i := .aload_n 0) rfl (fun _ => rfl) ?_
  refine dp_s1 hF (i := .iload 8) rfl (fun _ => rfl) ?_
  refine dp_s1 hF (i := .bipush 11) rfl (fun _ => rfl) ?_
  refine dp_s1 hF (i := .iload 6) rfl (fun _ => rfl) ?_
  refine dp_s2 hF (i := .ifCond .eq 7) (a := (69, [some (.ref 90), some (.int v1), some (.long v2), none, some (.int v4), some (.int v5), some (.int v6), some (.int v7), some (.int y2)], [.int (11 : Int32), .int y2, .ref 90], M6)) (b := (65, [some (.ref 90), some (.int v1), some (.long v2), none, some (.int v4), some (.int v5), some (.int v6), some (.int v7), some (.int y2)], [.int (11 : Int32), .int y2, .ref 90], M6)) rfl (fun _ => rfl) ?_ ?_
  · refine dp_s1 hF (i := .lconst 0) rfl (fun _ => rfl) ?_
    exact rfl
  refine dp_s1 hF (i := .lconst 1) rfl (fun _ => rfl) ?_
  refine dp_s1 hF (i := .goto 4) rfl (fun _ => rfl) ?_
  exact rfl
set_option maxRecDepth 20000 in
theorem D_X8_addGuarantee_70_eq (xs : Nat → Int32) (xl d : Nat) (v1 : Int32) (v2 : Int64) (v4 : Int32) (v5 : Int32) (v6 : Int32) (v7 : Int32) (v8 : Int32) (vs0 : Int64) (vs1 : Int32) (vs2 : Int32) (M : dp_M) : D_X8_addGuarantee_70 xs xl d v1 v2 v4 v5 v6 v7 v8 vs0 vs1 vs2 M = dp_bv (dp_den true xs xl d 184 [.ref 90, .int vs2, .int vs1, .long vs0] M) (fun M1 => dp_bv (dp_den true xs xl d 184 [.ref 90, .int v8, .int (12 : Int32), .long (Int32.toInt64 v7)] M1) (fun M2 => dp_bv (dp_den true xs xl d 184 [.ref 90, .int v8, .int (13 : Int32), .long (Int32.toInt64 (dp_I M2 90 3))] M2) (fun M3 => if v1 < 0 ∨ 8 ≤ Int32.toNatClampNeg v1 then none else (if ((v1 * (40 : Int32)) + (dp_I M3 91 (Int32.toNatClampNeg v1))) < 0 ∨ 320 ≤ Int32.toNatClampNeg ((v1 * (40 : Int32)) + (dp_I M3 91 (Int32.toNatClampNeg v1))) then none else dp_w (dp_setI M3 94 (Int32.toNatClampNeg ((v1 * (40 : Int32)) + (dp_I M3 91 (Int32.toNatClampNeg v1)))) v8) (fun M4 => if v1 < 0 ∨ 8 ≤ Int32.toNatClampNeg v1 then none else (if v1 < 0 ∨ 8 ≤ Int32.toNatClampNeg v1 then none else dp_w (dp_setI M4 91 (Int32.toNatClampNeg v1) ((dp_I M4 91 (Int32.toNatClampNeg v1)) + (1 : Int32))) (fun M5 => some (.inl (some (.int v8)), M5)))))))) := by
  have hF := dp_den_grow (md := true) (xs := xs) (xl := xl) d
  unfold D_X8_addGuarantee_70
  refine dp_sv (mj := dp_m_X8_set) (i := .invokevirtual 38) rfl rfl rfl rfl (fun _ => rfl) (fun M1 => ?_)
  refine dp_s1 hF (i := .aload_n 0) rfl (fun _ => rfl) ?_
  refine dp_s1 hF (i := .iload 8) rfl (fun _ => rfl) ?_
  refine dp_s1 hF (i := .bipush 12) rfl (fun _ => rfl) ?_
  refine dp_s1 hF (i := .iload 7) rfl (fun _ => rfl) ?_
  refine dp_s1 hF (i := .i2l) rfl (fun _ => rfl) ?_
  refine dp_sv (mj := dp_m_X8_set) (i := .invokevirtual 38) rfl rfl rfl rfl (fun _ => rfl) (fun M2 => ?_)
  refine dp_s1 hF (i := .aload_n 0) rfl (fun _ => rfl) ?_
  refine dp_s1 hF (i := .iload 8) rfl (fun _ => rfl) ?_
  refine dp_s1 hF (i := .bipush 13) rfl (fun _ => rfl) ?_
  refine dp_s1 hF (i := .aload_n 0) rfl (fun _ => rfl) ?_
  refine dp_s1 hF (i := .getfield 42) rfl (fun _ => rfl) ?_
  refine dp_s1 hF (i := .i2l) rfl (fun _ => rfl) ?_
  refine dp_sv (mj := dp_m_X8_set) (i := .invokevirtual 38) rfl rfl rfl rfl (fun _ => rfl) (fun M3 => ?_)
  refine dp_s1 hF (i := .aload_n 0) rfl (fun _ => rfl) ?_
  refine dp_s1 hF (i := .getfield 22) rfl (fun _ => rfl) ?_
  refine dp_s1 hF (i := .iload_n 1) rfl (fun _ => rfl) ?_
  refine dp_s1 hF (i := .bipush 40) rfl (fun _ => rfl) ?_
  refine dp_s1 hF (i := .imul) rfl (fun _ => rfl) ?_
  refine dp_s1 hF (i := .aload_n 0) rfl (fun _ => rfl) ?_
  refine dp_s1 hF (i := .getfield 11) rfl (fun _ => rfl) ?_
  refine dp_s1 hF (i := .iload_n 1) rfl (fun _ => rfl) ?_
  refine dp_s3 hF (i := .iaload) rfl (fun _ => rfl) ?_
  refine dp_s1 hF (i := .iadd) rfl (fun _ => rfl) ?_
  refine dp_s1 hF (i := .iload 8) rfl (fun _ => rfl) ?_
  refine dp_s3w (dp_setI M3 94 (Int32.toNatClampNeg ((v1 * (40 : Int32)) + (dp_I M3 91 (Int32.toNatClampNeg v1)))) v8) (fun (M4 : dp_M) => (115, [some (.ref 90), some (.int v1), some (.long v2), none, some (.int v4), some (.int v5), some (.int v6), some (.int v7), some (.int v8)], [], M4)) hF (i := .iastore) rfl (fun _ => rfl) (fun M4 => ?_)
  refine dp_s1 hF (i := .aload_n 0) rfl (fun _ => rfl) ?_
  refine dp_s1 hF (i := .getfield 11) rfl (fun _ => rfl) ?_
  refine dp_s1 hF (i := .iload_n 1) rfl (fun _ => rfl) ?_
  refine dp_s1 hF (i := .dup2) rfl (fun _ => rfl) ?_
  refine dp_s3 hF (i := .iaload) rfl (fun _ => rfl) ?_
  refine dp_s1 hF (i := .iconst 1) rfl (fun _ => rfl) ?_
  refine dp_s1 hF (i := .iadd) rfl (fun _ => rfl) ?_
  refine dp_s3w (dp_setI M4 91 (Int32.toNatClampNeg v1) ((dp_I M4 91 (Int32.toNatClampNeg v1)) + (1 : Int32))) (fun (M5 : dp_M) => (125, [some (.ref 90), some (.int v1), some (.long v2), none, some (.int v4), some (.int v5), some (.int v6), some (.int v7), some (.int v8)], [], M5)) hF (i := .iastore) rfl (fun _ => rfl) (fun M5 => ?_)
  refine dp_s1 hF (i := .iload 8) rfl (fun _ => rfl) ?_
  exact dp_s0 hF (i := .ireturn) rfl (fun _ => rfl)
noncomputable def D_X8_inTurn_0 (xs : Nat → Int32) (xl d : Nat) (v1 : Int32) (v2 : Int32) (M : dp_M) : Option dp_Res := dp_lim true xs xl (dp_den true xs xl d) dp_m_X8_inTurn (0, [some (.ref 90), some (.int v1), some (.int v2)], [], M)
theorem D_X8_inTurn_0_den (xs : Nat → Int32) (xl d : Nat) (a0 : Int32) (a1 : Int32) (M : dp_M) : dp_den true xs xl (d + 1) 186 [.ref 90, .int a0, .int a1] M = D_X8_inTurn_0 xs xl d a0 a1 M := rfl
set_option maxRecDepth 20000 in
theorem D_X8_inTurn_0_eq (xs : Nat → Int32) (xl d : Nat) (v1 : Int32) (v2 : Int32) (M : dp_M) : D_X8_inTurn_0 xs xl d v1 v2 M = if ((v1 * (40 : Int32)) + v2) < 0 ∨ 320 ≤ Int32.toNatClampNeg ((v1 * (40 : Int32)) + v2) then none else (some (.inl (some (.int (dp_I M 94 (Int32.toNatClampNeg ((v1 * (40 : Int32)) + v2))))), M)) := by
  have hF := dp_den_grow (md := true) (xs := xs) (xl := xl) d
  unfold D_X8_inTurn_0
  refine dp_s1 hF (i := .aload_n 0) rfl (fun _ => rfl) ?_
  refine dp_s1 hF (i := .getfield 22) rfl (fun _ => rfl) ?_
  refine dp_s1 hF (i := .iload_n 1) rfl (fun _ => rfl) ?_
  refine dp_s1 hF (i := .bipush 40) rfl (fun _ => rfl) ?_
  refine dp_s1 hF (i := .imul) rfl (fun _ => rfl) ?_
  refine dp_s1 hF (i := .iload_n 2) rfl (fun _ => rfl) ?_
  refine dp_s1 hF (i := .iadd) rfl (fun _ => rfl) ?_
  refine dp_s3 hF (i := .iaload) rfl (fun _ => rfl) ?_
  exact dp_s0 hF (i := .ireturn) rfl (fun _ => rfl)
noncomputable def D_X8_moveToFront_0 (xs : Nat → Int32) (xl d : Nat) (v1 : Int32) (M : dp_M) : Option dp_Res := dp_lim true xs xl (dp_den true xs xl d) dp_m_X8_moveToFront (0, [some (.ref 90), some (.int v1), none, none, none, none, none], [], M)
noncomputable def D_X8_moveToFront_31 (xs : Nat → Int32) (xl d : Nat) (v1 : Int32) (v2 : Int32) (v3 : Int32) (v4 : Int32) (v5 : Int32) (M : dp_M) : Option dp_Res := dp_lim true xs xl (dp_den true xs xl d) dp_m_X8_moveToFront (31, [some (.ref 90), some (.int v1), some (.int v2), some (.int v3), some (.int v4), some (.int v5), none], [], M)
noncomputable def D_X8_moveToFront_31_a (xs : Nat → Int32) (xl d : Nat) (v1 : Int32) (v2 : Int32) (v3 : Int32) (v4 : Int32) (v5 : Int32) (v6 : Int32) (M : dp_M) : Option dp_Res := dp_lim true xs xl (dp_den true xs xl d) dp_m_X8_moveToFront (31, [some (.ref 90), some (.int v1), some (.int v2), some (.int v3), some (.int v4), some (.int v5), some (.int v6)], [], M)
theorem D_X8_moveToFront_0_den (xs : Nat → Int32) (xl d : Nat) (a0 : Int32) (M : dp_M) : dp_den true xs xl (d + 1) 187 [.ref 90, .int a0] M = D_X8_moveToFront_0 xs xl d a0 M := rfl
set_option maxRecDepth 20000 in
theorem D_X8_moveToFront_0_eq (xs : Nat → Int32) (xl d : Nat) (v1 : Int32) (M : dp_M) : D_X8_moveToFront_0 xs xl d v1 M = dp_bl (dp_den true xs xl d 183 [.ref 90, .int v1, .int (0 : Int32)] M) (fun r2 M1 => dp_w (Int64.toInt32 r2) (fun y3 => dp_w (y3 * (40 : Int32)) (fun y4 => if y4 < 0 ∨ 320 ≤ Int32.toNatClampNeg y4 then none else (if (dp_I M1 94 (Int32.toNatClampNeg y4)) = v1 then (some (.inl (some (.int (0 : Int32))), M1)) else (D_X8_moveToFront_31 xs xl d v1 y3 y4 v1 y4 M1))))) := by
  have hF := dp_den_grow (md := true) (xs := xs) (xl := xl) d
  unfold D_X8_moveToFront_0
  refine dp_s1 hF (i := .aload_n 0) rfl (fun _ => rfl) ?_
  refine dp_s1 hF (i := .iload_n 1) rfl (fun _ => rfl) ?_
  refine dp_s1 hF (i := .iconst 0) rfl (fun _ => rfl) ?_
  refine dp_sl9 (mj := dp_m_X8_get) (i := .invokevirtual 45) rfl rfl rfl rfl (fun _ => rfl) (fun r2 M1 => ?_)
  refine dp_s1 hF (i := .l2i) rfl (fun _ => rfl) ?_
  refine dp_s1w (Int64.toInt32 r2) (fun (y3 : Int32) => (8, [some (.ref 90), some (.int v1), some (.int y3), none, none, none, none], [], M1)) hF (i := .istore_n 2) rfl (fun _ => rfl) (fun y3 => ?_)
  refine dp_s1 hF (i := .iload_n 2) rfl (fun _ => rfl) ?_
  refine dp_s1 hF (i := .bipush 40) rfl (fun _ => rfl) ?_
  refine dp_s1 hF (i := .imul) rfl (fun _ => rfl) ?_
  refine dp_s1w (y3 * (40 : Int32)) (fun (y4 : Int32) => (13, [some (.ref 90), some (.int v1), some (.int y3), some (.int y4), none, none, none], [], M1)) hF (i := .istore_n 3) rfl (fun _ => rfl) (fun y4 => ?_)
  refine dp_s1 hF (i := .aload_n 0) rfl (fun _ => rfl) ?_
  refine dp_s1 hF (i := .getfield 22) rfl (fun _ => rfl) ?_
  refine dp_s1 hF (i := .iload_n 3) rfl (fun _ => rfl) ?_
  refine dp_s3 hF (i := .iaload) rfl (fun _ => rfl) ?_
  refine dp_s1 hF (i := .iload_n 1) rfl (fun _ => rfl) ?_
  refine dp_s2 hF (i := .if_icmp .ne 5) (a := (23, [some (.ref 90), some (.int v1), some (.int y3), some (.int y4), none, none, none], [], M1)) (b := (25, [some (.ref 90), some (.int v1), some (.int y3), some (.int y4), none, none, none], [], M1)) rfl (fun _ => rfl) ?_ ?_
  · refine dp_s1 hF (i := .iconst 0) rfl (fun _ => rfl) ?_
    exact dp_s0 hF (i := .ireturn) rfl (fun _ => rfl)
  refine dp_s1 hF (i := .iload_n 1) rfl (fun _ => rfl) ?_
  refine dp_s1 hF (i := .istore 4) rfl (fun _ => rfl) ?_
  refine dp_s1 hF (i := .iload_n 3) rfl (fun _ => rfl) ?_
  refine dp_s1 hF (i := .istore 5) rfl (fun _ => rfl) ?_
  exact rfl
set_option maxRecDepth 20000 in
theorem D_X8_moveToFront_31_eq (xs : Nat → Int32) (xl d : Nat) (v1 : Int32) (v2 : Int32) (v3 : Int32) (v4 : Int32) (v5 : Int32) (M : dp_M) : D_X8_moveToFront_31 xs xl d v1 v2 v3 v4 v5 M = if v2 < 0 ∨ 8 ≤ Int32.toNatClampNeg v2 then none else (if (v3 + (dp_I M 91 (Int32.toNatClampNeg v2))) ≤ v5 then (some (.inl (some (.int (1 : Int32))), M)) else (if v5 < 0 ∨ 320 ≤ Int32.toNatClampNeg v5 then none else (dp_w (dp_I M 94 (Int32.toNatClampNeg v5)) (fun y1 => if v5 < 0 ∨ 320 ≤ Int32.toNatClampNeg v5 then none else dp_w (dp_setI M 94 (Int32.toNatClampNeg v5) v4) (fun M2 => if y1 = v1 then (some (.inl (some (.int (1 : Int32))), M2)) else (dp_w (v5 + (1 : Int32)) (fun y3 => D_X8_moveToFront_31_a xs xl d v1 v2 v3 y1 y3 y1 M2))))))) := by
  have hF := dp_den_grow (md := true) (xs := xs) (xl := xl) d
  unfold D_X8_moveToFront_31
  refine dp_s1 hF (i := .iload 5) rfl (fun _ => rfl) ?_
  refine dp_s1 hF (i := .iload_n 3) rfl (fun _ => rfl) ?_
  refine dp_s1 hF (i := .aload_n 0) rfl (fun _ => rfl) ?_
  refine dp_s1 hF (i := .getfield 11) rfl (fun _ => rfl) ?_
  refine dp_s1 hF (i := .iload_n 2) rfl (fun _ => rfl) ?_
  refine dp_s3 hF (i := .iaload) rfl (fun _ => rfl) ?_
  refine dp_s1 hF (i := .iadd) rfl (fun _ => rfl) ?_
  refine dp_s2 hF (i := .if_icmp .ge 40) (a := (81, [some (.ref 90), some (.int v1), some (.int v2), some (.int v3), some (.int v4), some (.int v5), none], [], M)) (b := (44, [some (.ref 90), some (.int v1), some (.int v2), some (.int v3), some (.int v4), some (.int v5), none], [], M)) rfl (fun _ => rfl) ?_ ?_
  · refine dp_s1 hF (i := .iconst 1) rfl (fun _ => rfl) ?_
    exact dp_s0 hF (i := .ireturn) rfl (fun _ => rfl)
  refine dp_s1 hF (i := .aload_n 0) rfl (fun _ => rfl) ?_
  refine dp_s1 hF (i := .getfield 22) rfl (fun _ => rfl) ?_
  refine dp_s1 hF (i := .iload 5) rfl (fun _ => rfl) ?_
  refine dp_s3 hF (i := .iaload) rfl (fun _ => rfl) ?_
  refine dp_s1w (dp_I M 94 (Int32.toNatClampNeg v5)) (fun (y1 : Int32) => (53, [some (.ref 90), some (.int v1), some (.int v2), some (.int v3), some (.int v4), some (.int v5), some (.int y1)], [], M)) hF (i := .istore 6) rfl (fun _ => rfl) (fun y1 => ?_)
  refine dp_s1 hF (i := .aload_n 0) rfl (fun _ => rfl) ?_
  refine dp_s1 hF (i := .getfield 22) rfl (fun _ => rfl) ?_
  refine dp_s1 hF (i := .iload 5) rfl (fun _ => rfl) ?_
  refine dp_s1 hF (i := .iload 4) rfl (fun _ => rfl) ?_
  refine dp_s3w (dp_setI M 94 (Int32.toNatClampNeg v5) v4) (fun (M2 : dp_M) => (62, [some (.ref 90), some (.int v1), some (.int v2), some (.int v3), some (.int v4), some (.int v5), some (.int y1)], [], M2)) hF (i := .iastore) rfl (fun _ => rfl) (fun M2 => ?_)
  refine dp_s1 hF (i := .iload 6) rfl (fun _ => rfl) ?_
  refine dp_s1 hF (i := .istore 4) rfl (fun _ => rfl) ?_
  refine dp_s1 hF (i := .iload 6) rfl (fun _ => rfl) ?_
  refine dp_s1 hF (i := .iload_n 1) rfl (fun _ => rfl) ?_
  refine dp_s2 hF (i := .if_icmp .ne 6) (a := (72, [some (.ref 90), some (.int v1), some (.int v2), some (.int v3), some (.int y1), some (.int v5), some (.int y1)], [], M2)) (b := (75, [some (.ref 90), some (.int v1), some (.int v2), some (.int v3), some (.int y1), some (.int v5), some (.int y1)], [], M2)) rfl (fun _ => rfl) ?_ ?_
  · refine dp_s1 hF (i := .goto 9) rfl (fun _ => rfl) ?_
    refine dp_s1 hF (i := .iconst 1) rfl (fun _ => rfl) ?_
    exact dp_s0 hF (i := .ireturn) rfl (fun _ => rfl)
  refine dp_s1w (v5 + (1 : Int32)) (fun (y3 : Int32) => (78, [some (.ref 90), some (.int v1), some (.int v2), some (.int v3), some (.int y1), some (.int y3), some (.int y1)], [], M2)) hF (i := .iinc 5 1) rfl (fun _ => rfl) (fun y3 => ?_)
  refine dp_s1 hF (i := .goto (-47)) rfl (fun _ => rfl) ?_
  exact rfl
set_option maxRecDepth 20000 in
theorem D_X8_moveToFront_31_a_eq (xs : Nat → Int32) (xl d : Nat) (v1 : Int32) (v2 : Int32) (v3 : Int32) (v4 : Int32) (v5 : Int32) (v6 : Int32) (M : dp_M) : D_X8_moveToFront_31_a xs xl d v1 v2 v3 v4 v5 v6 M = if v2 < 0 ∨ 8 ≤ Int32.toNatClampNeg v2 then none else (if (v3 + (dp_I M 91 (Int32.toNatClampNeg v2))) ≤ v5 then (some (.inl (some (.int (1 : Int32))), M)) else (if v5 < 0 ∨ 320 ≤ Int32.toNatClampNeg v5 then none else (dp_w (dp_I M 94 (Int32.toNatClampNeg v5)) (fun y1 => if v5 < 0 ∨ 320 ≤ Int32.toNatClampNeg v5 then none else dp_w (dp_setI M 94 (Int32.toNatClampNeg v5) v4) (fun M2 => if y1 = v1 then (some (.inl (some (.int (1 : Int32))), M2)) else (dp_w (v5 + (1 : Int32)) (fun y3 => D_X8_moveToFront_31_a xs xl d v1 v2 v3 y1 y3 y1 M2))))))) := by
  have hF := dp_den_grow (md := true) (xs := xs) (xl := xl) d
  unfold D_X8_moveToFront_31_a
  refine dp_s1 hF (i := .iload 5) rfl (fun _ => rfl) ?_
  refine dp_s1 hF (i := .iload_n 3) rfl (fun _ => rfl) ?_
  refine dp_s1 hF (i := .aload_n 0) rfl (fun _ => rfl) ?_
  refine dp_s1 hF (i := .getfield 11) rfl (fun _ => rfl) ?_
  refine dp_s1 hF (i := .iload_n 2) rfl (fun _ => rfl) ?_
  refine dp_s3 hF (i := .iaload) rfl (fun _ => rfl) ?_
  refine dp_s1 hF (i := .iadd) rfl (fun _ => rfl) ?_
  refine dp_s2 hF (i := .if_icmp .ge 40) (a := (81, [some (.ref 90), some (.int v1), some (.int v2), some (.int v3), some (.int v4), some (.int v5), some (.int v6)], [], M)) (b := (44, [some (.ref 90), some (.int v1), some (.int v2), some (.int v3), some (.int v4), some (.int v5), some (.int v6)], [], M)) rfl (fun _ => rfl) ?_ ?_
  · refine dp_s1 hF (i := .iconst 1) rfl (fun _ => rfl) ?_
    exact dp_s0 hF (i := .ireturn) rfl (fun _ => rfl)
  refine dp_s1 hF (i := .aload_n 0) rfl (fun _ => rfl) ?_
  refine dp_s1 hF (i := .getfield 22) rfl (fun _ => rfl) ?_
  refine dp_s1 hF (i := .iload 5) rfl (fun _ => rfl) ?_
  refine dp_s3 hF (i := .iaload) rfl (fun _ => rfl) ?_
  refine dp_s1w (dp_I M 94 (Int32.toNatClampNeg v5)) (fun (y1 : Int32) => (53, [some (.ref 90), some (.int v1), some (.int v2), some (.int v3), some (.int v4), some (.int v5), some (.int y1)], [], M)) hF (i := .istore 6) rfl (fun _ => rfl) (fun y1 => ?_)
  refine dp_s1 hF (i := .aload_n 0) rfl (fun _ => rfl) ?_
  refine dp_s1 hF (i := .getfield 22) rfl (fun _ => rfl) ?_
  refine dp_s1 hF (i := .iload 5) rfl (fun _ => rfl) ?_
  refine dp_s1 hF (i := .iload 4) rfl (fun _ => rfl) ?_
  refine dp_s3w (dp_setI M 94 (Int32.toNatClampNeg v5) v4) (fun (M2 : dp_M) => (62, [some (.ref 90), some (.int v1), some (.int v2), some (.int v3), some (.int v4), some (.int v5), some (.int y1)], [], M2)) hF (i := .iastore) rfl (fun _ => rfl) (fun M2 => ?_)
  refine dp_s1 hF (i := .iload 6) rfl (fun _ => rfl) ?_
  refine dp_s1 hF (i := .istore 4) rfl (fun _ => rfl) ?_
  refine dp_s1 hF (i := .iload 6) rfl (fun _ => rfl) ?_
  refine dp_s1 hF (i := .iload_n 1) rfl (fun _ => rfl) ?_
  refine dp_s2 hF (i := .if_icmp .ne 6) (a := (72, [some (.ref 90), some (.int v1), some (.int v2), some (.int v3), some (.int y1), some (.int v5), some (.int y1)], [], M2)) (b := (75, [some (.ref 90), some (.int v1), some (.int v2), some (.int v3), some (.int y1), some (.int v5), some (.int y1)], [], M2)) rfl (fun _ => rfl) ?_ ?_
  · refine dp_s1 hF (i := .goto 9) rfl (fun _ => rfl) ?_
    refine dp_s1 hF (i := .iconst 1) rfl (fun _ => rfl) ?_
    exact dp_s0 hF (i := .ireturn) rfl (fun _ => rfl)
  refine dp_s1w (v5 + (1 : Int32)) (fun (y3 : Int32) => (78, [some (.ref 90), some (.int v1), some (.int v2), some (.int v3), some (.int y1), some (.int y3), some (.int y1)], [], M2)) hF (i := .iinc 5 1) rfl (fun _ => rfl) (fun y3 => ?_)
  refine dp_s1 hF (i := .goto (-47)) rfl (fun _ => rfl) ?_
  exact rfl
noncomputable def D_X8_closeOne_0 (xs : Nat → Int32) (xl d : Nat) (v1 : Int32) (M : dp_M) : Option dp_Res := dp_lim true xs xl (dp_den true xs xl d) dp_m_X8_closeOne (0, [some (.ref 90), some (.int v1)], [], M)
theorem D_X8_closeOne_0_den (xs : Nat → Int32) (xl d : Nat) (a0 : Int32) (M : dp_M) : dp_den true xs xl (d + 1) 188 [.ref 90, .int a0] M = D_X8_closeOne_0 xs xl d a0 M := rfl
set_option maxRecDepth 20000 in
theorem D_X8_closeOne_0_eq (xs : Nat → Int32) (xl d : Nat) (v1 : Int32) (M : dp_M) : D_X8_closeOne_0 xs xl d v1 M = dp_bl (dp_den true xs xl d 183 [.ref 90, .int v1, .int (6 : Int32)] M) (fun r2 M1 => if (lg_cmp r2 (1 : Int64)) = 0 then (some (.inl (some (.int (0 : Int32))), M1)) else (dp_bv (dp_den true xs xl d 184 [.ref 90, .int v1, .int (6 : Int32), .long (1 : Int64)] M1) (fun M3 => dp_bv (dp_den true xs xl d 184 [.ref 90, .int v1, .int (15 : Int32), .long (Int32.toInt64 (dp_I M3 90 3))] M3) (fun M4 => some (.inl (some (.int (1 : Int32))), M4))))) := by
  have hF := dp_den_grow (md := true) (xs := xs) (xl := xl) d
  unfold D_X8_closeOne_0
  refine dp_s1 hF (i := .aload_n 0) rfl (fun _ => rfl) ?_
  refine dp_s1 hF (i := .iload_n 1) rfl (fun _ => rfl) ?_
  refine dp_s1 hF (i := .bipush 6) rfl (fun _ => rfl) ?_
  refine dp_sl9 (mj := dp_m_X8_get) (i := .invokevirtual 45) rfl rfl rfl rfl (fun _ => rfl) (fun r2 M1 => ?_)
  refine dp_s1 hF (i := .lconst 1) rfl (fun _ => rfl) ?_
  refine dp_s1 hF (i := .lcmp) rfl (fun _ => rfl) ?_
  refine dp_s2 hF (i := .ifCond .ne 5) (a := (12, [some (.ref 90), some (.int v1)], [], M1)) (b := (14, [some (.ref 90), some (.int v1)], [], M1)) rfl (fun _ => rfl) ?_ ?_
  · refine dp_s1 hF (i := .iconst 0) rfl (fun _ => rfl) ?_
    exact dp_s0 hF (i := .ireturn) rfl (fun _ => rfl)
  refine dp_s1 hF (i := .aload_n 0) rfl (fun _ => rfl) ?_
  refine dp_s1 hF (i := .iload_n 1) rfl (fun _ => rfl) ?_
  refine dp_s1 hF (i := .bipush 6) rfl (fun _ => rfl) ?_
  refine dp_s1 hF (i := .lconst 1) rfl (fun _ => rfl) ?_
  refine dp_sv (mj := dp_m_X8_set) (i := .invokevirtual 38) rfl rfl rfl rfl (fun _ => rfl) (fun M3 => ?_)
  refine dp_s1 hF (i := .aload_n 0) rfl (fun _ => rfl) ?_
  refine dp_s1 hF (i := .iload_n 1) rfl (fun _ => rfl) ?_
  refine dp_s1 hF (i := .bipush 15) rfl (fun _ => rfl) ?_
  refine dp_s1 hF (i := .aload_n 0) rfl (fun _ => rfl) ?_
  refine dp_s1 hF (i := .getfield 42) rfl (fun _ => rfl) ?_
  refine dp_s1 hF (i := .i2l) rfl (fun _ => rfl) ?_
  refine dp_sv (mj := dp_m_X8_set) (i := .invokevirtual 38) rfl rfl rfl rfl (fun _ => rfl) (fun M4 => ?_)
  refine dp_s1 hF (i := .iconst 1) rfl (fun _ => rfl) ?_
  exact dp_s0 hF (i := .ireturn) rfl (fun _ => rfl)
noncomputable def D_X8_latestRow_0 (xs : Nat → Int32) (xl d : Nat) (v1 : Int32) (M : dp_M) : Option dp_Res := dp_lim true xs xl (dp_den true xs xl d) dp_m_X8_latestRow (0, [some (.ref 90), some (.int v1), none, none, none, none], [], M)
noncomputable def D_X8_latestRow_27 (xs : Nat → Int32) (xl d : Nat) (v1 : Int32) (vs0 : Int64) (M : dp_M) : Option dp_Res := dp_lim true xs xl (dp_den true xs xl d) dp_m_X8_latestRow (27, [some (.ref 90), some (.int v1), none, none, none, none], [.long vs0], M)
theorem D_X8_latestRow_0_den (xs : Nat → Int32) (xl d : Nat) (a0 : Int32) (M : dp_M) : dp_den true xs xl (d + 1) 189 [.ref 90, .int a0] M = D_X8_latestRow_0 xs xl d a0 M := rfl
set_option maxRecDepth 20000 in
theorem D_X8_latestRow_0_eq (xs : Nat → Int32) (xl d : Nat) (v1 : Int32) (M : dp_M) : D_X8_latestRow_0 xs xl d v1 M = dp_bl (dp_den true xs xl d 183 [.ref 90, .int v1, .int (6 : Int32)] M) (fun r2 M1 => if (lg_cmp r2 (1 : Int64)) = 0 then (dp_bl (dp_den true xs xl d 183 [.ref 90, .int v1, .int (15 : Int32)] M1) (fun r4 M3 => D_X8_latestRow_27 xs xl d v1 r4 M3)) else (D_X8_latestRow_27 xs xl d v1 (Int32.toInt64 (dp_I M1 90 3)) M1)) := by
  have hF := dp_den_grow (md := true) (xs := xs) (xl := xl) d
  unfold D_X8_latestRow_0
  refine dp_s1 hF (i := .aload_n 0) rfl (fun _ => rfl) ?_
  refine dp_s1 hF (i := .iload_n 1) rfl (fun _ => rfl) ?_
  refine dp_s1 hF (i := .bipush 6) rfl (fun _ => rfl) ?_
  refine dp_sl9 (mj := dp_m_X8_get) (i := .invokevirtual 45) rfl rfl rfl rfl (fun _ => rfl) (fun r2 M1 => ?_)
  refine dp_s1 hF (i := .lconst 1) rfl (fun _ => rfl) ?_
  refine dp_s1 hF (i := .lcmp) rfl (fun _ => rfl) ?_
  refine dp_s2 hF (i := .ifCond .ne 13) (a := (12, [some (.ref 90), some (.int v1), none, none, none, none], [], M1)) (b := (22, [some (.ref 90), some (.int v1), none, none, none, none], [], M1)) rfl (fun _ => rfl) ?_ ?_
  · refine dp_s1 hF (i := .aload_n 0) rfl (fun _ => rfl) ?_
    refine dp_s1 hF (i := .iload_n 1) rfl (fun _ => rfl) ?_
    refine dp_s1 hF (i := .bipush 15) rfl (fun _ => rfl) ?_
    refine dp_sl9 (mj := dp_m_X8_get) (i := .invokevirtual 45) rfl rfl rfl rfl (fun _ => rfl) (fun r4 M3 => ?_)
    refine dp_s1 hF (i := .goto 8) rfl (fun _ => rfl) ?_
    exact rfl
  refine dp_s1 hF (i := .aload_n 0) rfl (fun _ => rfl) ?_
  refine dp_s1 hF (i := .getfield 42) rfl (fun _ => rfl) ?_
  refine dp_s1 hF (i := .i2l) rfl (fun _ => rfl) ?_
  exact rfl
set_option maxRecDepth 20000 in
theorem D_X8_latestRow_27_eq (xs : Nat → Int32) (xl d : Nat) (v1 : Int32) (vs0 : Int64) (M : dp_M) : D_X8_latestRow_27 xs xl d v1 vs0 M = dp_bl (dp_den true xs xl d 183 [.ref 90, .int v1, .int (13 : Int32)] M) (fun r2 M1 => dp_w (if (vs0 - r2) < (0 : Int64) then (0 : Int64) else (vs0 - r2)) (fun y3 => dp_bl (dp_den true xs xl d 183 [.ref 90, .int v1, .int (1 : Int32)] M1) (fun r5 M4 => dp_bl (dp_den true xs xl d 183 [.ref 90, .int v1, .int (12 : Int32)] M4) (fun r7 M6 => some (.inl (some (.long (((r5 * r7) * y3) / (3650000 : Int64)))), M6))))) := by
  have hF := dp_den_grow (md := true) (xs := xs) (xl := xl) d
  unfold D_X8_latestRow_27
  refine dp_s1 hF (i := .lstore_n 2) rfl (fun _ => rfl) ?_
  refine dp_s1 hF (i := .lconst 0) rfl (fun _ => rfl) ?_
  refine dp_s1 hF (i := .lload_n 2) rfl (fun _ => rfl) ?_
  refine dp_s1 hF (i := .aload_n 0) rfl (fun _ => rfl) ?_
  refine dp_s1 hF (i := .iload_n 1) rfl (fun _ => rfl) ?_
  refine dp_s1 hF (i := .bipush 13) rfl (fun _ => rfl) ?_
  refine dp_sl9 (mj := dp_m_X8_get) (i := .invokevirtual 45) rfl rfl rfl rfl (fun _ => rfl) (fun r2 M1 => ?_)
  refine dp_s1 hF (i := .lsub) rfl (fun _ => rfl) ?_
  refine dp_s1 hF (i := .invokestatic 49) rfl (fun _ => rfl) ?_
  refine dp_s1w (if (vs0 - r2) < (0 : Int64) then (0 : Int64) else (vs0 - r2)) (fun (y3 : Int64) => (43, [some (.ref 90), some (.int v1), some (.long vs0), none, some (.long y3), none], [], M1)) hF (i := .lstore 4) rfl (fun _ => rfl) (fun y3 => ?_)
  refine dp_s1 hF (i := .aload_n 0) rfl (fun _ => rfl) ?_
  refine dp_s1 hF (i := .iload_n 1) rfl (fun _ => rfl) ?_
  refine dp_s1 hF (i := .iconst 1) rfl (fun _ => rfl) ?_
  refine dp_sl9 (mj := dp_m_X8_get) (i := .invokevirtual 45) rfl rfl rfl rfl (fun _ => rfl) (fun r5 M4 => ?_)
  refine dp_s1 hF (i := .aload_n 0) rfl (fun _ => rfl) ?_
  refine dp_s1 hF (i := .iload_n 1) rfl (fun _ => rfl) ?_
  refine dp_s1 hF (i := .bipush 12) rfl (fun _ => rfl) ?_
  refine dp_sl9 (mj := dp_m_X8_get) (i := .invokevirtual 45) rfl rfl rfl rfl (fun _ => rfl) (fun r7 M6 => ?_)
  refine dp_s1 hF (i := .lmul) rfl (fun _ => rfl) ?_
  refine dp_s1 hF (i := .lload 4) rfl (fun _ => rfl) ?_
  refine dp_s1 hF (i := .lmul) rfl (fun _ => rfl) ?_
  refine dp_s1 hF (i := .ldc2_w 55) rfl (fun _ => rfl) ?_
  refine dp_s1 hF (i := .ldiv) rfl (fun _ => rfl) ?_
  exact dp_s0 hF (i := .lreturn) rfl (fun _ => rfl)
noncomputable def D_X8_interestOf_0 (xs : Nat → Int32) (xl d : Nat) (v1 : Int32) (M : dp_M) : Option dp_Res := dp_lim true xs xl (dp_den true xs xl d) dp_m_X8_interestOf (0, [some (.ref 90), some (.int v1)], [], M)
theorem D_X8_interestOf_0_den (xs : Nat → Int32) (xl d : Nat) (a0 : Int32) (M : dp_M) : dp_den true xs xl (d + 1) 190 [.ref 90, .int a0] M = D_X8_interestOf_0 xs xl d a0 M := rfl
set_option maxRecDepth 20000 in
theorem D_X8_interestOf_0_eq (xs : Nat → Int32) (xl d : Nat) (v1 : Int32) (M : dp_M) : D_X8_interestOf_0 xs xl d v1 M = dp_bl (dp_den true xs xl d 183 [.ref 90, .int v1, .int (14 : Int32)] M) (fun r2 M1 => dp_bl (dp_den true xs xl d 189 [.ref 90, .int v1] M1) (fun r4 M3 => some (.inl (some (.long (r2 + r4))), M3))) := by
  have hF := dp_den_grow (md := true) (xs := xs) (xl := xl) d
  unfold D_X8_interestOf_0
  refine dp_s1 hF (i := .aload_n 0) rfl (fun _ => rfl) ?_
  refine dp_s1 hF (i := .iload_n 1) rfl (fun _ => rfl) ?_
  refine dp_s1 hF (i := .bipush 14) rfl (fun _ => rfl) ?_
  refine dp_sl9 (mj := dp_m_X8_get) (i := .invokevirtual 45) rfl rfl rfl rfl (fun _ => rfl) (fun r2 M1 => ?_)
  refine dp_s1 hF (i := .aload_n 0) rfl (fun _ => rfl) ?_
  refine dp_s1 hF (i := .iload_n 1) rfl (fun _ => rfl) ?_
  refine dp_sl9 (mj := dp_m_X8_latestRow) (i := .invokevirtual 57) rfl rfl rfl rfl (fun _ => rfl) (fun r4 M3 => ?_)
  refine dp_s1 hF (i := .ladd) rfl (fun _ => rfl) ?_
  exact dp_s0 hF (i := .lreturn) rfl (fun _ => rfl)
noncomputable def D_X8_lessen_0 (xs : Nat → Int32) (xl d : Nat) (v1 : Int32) (v2 : Int64) (M : dp_M) : Option dp_Res := dp_lim true xs xl (dp_den true xs xl d) dp_m_X8_lessen (0, [some (.ref 90), some (.int v1), some (.long v2), none], [], M)
theorem D_X8_lessen_0_den (xs : Nat → Int32) (xl d : Nat) (a0 : Int32) (a1 : Int64) (M : dp_M) : dp_den true xs xl (d + 1) 191 [.ref 90, .int a0, .long a1] M = D_X8_lessen_0 xs xl d a0 a1 M := rfl
set_option maxRecDepth 20000 in
theorem D_X8_lessen_0_eq (xs : Nat → Int32) (xl d : Nat) (v1 : Int32) (v2 : Int64) (M : dp_M) : D_X8_lessen_0 xs xl d v1 v2 M = if 0 < (lg_cmp v2 (0 : Int64)) then (dp_bl (dp_den true xs xl d 190 [.ref 90, .int v1] M) (fun r2 M1 => dp_bv (dp_den true xs xl d 184 [.ref 90, .int v1, .int (14 : Int32), .long r2] M1) (fun M3 => dp_bv (dp_den true xs xl d 184 [.ref 90, .int v1, .int (13 : Int32), .long (Int32.toInt64 (dp_I M3 90 3))] M3) (fun M4 => dp_bl (dp_den true xs xl d 183 [.ref 90, .int v1, .int (1 : Int32)] M4) (fun r6 M5 => dp_bv (dp_den true xs xl d 184 [.ref 90, .int v1, .int (1 : Int32), .long (r6 - v2)] M5) (fun M7 => dp_bl (dp_den true xs xl d 183 [.ref 90, .int v1, .int (8 : Int32)] M7) (fun r9 M8 => dp_bv (dp_den true xs xl d 184 [.ref 90, .int v1, .int (8 : Int32), .long (r9 + v2)] M8) (fun M10 => some (.inl none, M10))))))))) else (some (.inl none, M)) := by
  have hF := dp_den_grow (md := true) (xs := xs) (xl := xl) d
  unfold D_X8_lessen_0
  refine dp_s1 hF (i := .lload_n 2) rfl (fun _ => rfl) ?_
  refine dp_s1 hF (i := .lconst 0) rfl (fun _ => rfl) ?_
  refine dp_s1 hF (i := .lcmp) rfl (fun _ => rfl) ?_
  refine dp_s2 hF (i := .ifCond .gt 4) (a := (7, [some (.ref 90), some (.int v1), some (.long v2), none], [], M)) (b := (6, [some (.ref 90), some (.int v1), some (.long v2), none], [], M)) rfl (fun _ => rfl) ?_ ?_
  · refine dp_s1 hF (i := .aload_n 0) rfl (fun _ => rfl) ?_
    refine dp_s1 hF (i := .iload_n 1) rfl (fun _ => rfl) ?_
    refine dp_s1 hF (i := .bipush 14) rfl (fun _ => rfl) ?_
    refine dp_s1 hF (i := .aload_n 0) rfl (fun _ => rfl) ?_
    refine dp_s1 hF (i := .iload_n 1) rfl (fun _ => rfl) ?_
    refine dp_sl9 (mj := dp_m_X8_interestOf) (i := .invokevirtual 61) rfl rfl rfl rfl (fun _ => rfl) (fun r2 M1 => ?_)
    refine dp_sv (mj := dp_m_X8_set) (i := .invokevirtual 38) rfl rfl rfl rfl (fun _ => rfl) (fun M3 => ?_)
    refine dp_s1 hF (i := .aload_n 0) rfl (fun _ => rfl) ?_
    refine dp_s1 hF (i := .iload_n 1) rfl (fun _ => rfl) ?_
    refine dp_s1 hF (i := .bipush 13) rfl (fun _ => rfl) ?_
    refine dp_s1 hF (i := .aload_n 0) rfl (fun _ => rfl) ?_
    refine dp_s1 hF (i := .getfield 42) rfl (fun _ => rfl) ?_
    refine dp_s1 hF (i := .i2l) rfl (fun _ => rfl) ?_
    refine dp_sv (mj := dp_m_X8_set) (i := .invokevirtual 38) rfl rfl rfl rfl (fun _ => rfl) (fun M4 => ?_)
    refine dp_s1 hF (i := .aload_n 0) rfl (fun _ => rfl) ?_
    refine dp_s1 hF (i := .iload_n 1) rfl (fun _ => rfl) ?_
    refine dp_s1 hF (i := .iconst 1) rfl (fun _ => rfl) ?_
    refine dp_s1 hF (i := .aload_n 0) rfl (fun _ => rfl) ?_
    refine dp_s1 hF (i := .iload_n 1) rfl (fun _ => rfl) ?_
    refine dp_s1 hF (i := .iconst 1) rfl (fun _ => rfl) ?_
    refine dp_sl9 (mj := dp_m_X8_get) (i := .invokevirtual 45) rfl rfl rfl rfl (fun _ => rfl) (fun r6 M5 => ?_)
    refine dp_s1 hF (i := .lload_n 2) rfl (fun _ => rfl) ?_
    refine dp_s1 hF (i := .lsub) rfl (fun _ => rfl) ?_
    refine dp_sv (mj := dp_m_X8_set) (i := .invokevirtual 38) rfl rfl rfl rfl (fun _ => rfl) (fun M7 => ?_)
    refine dp_s1 hF (i := .aload_n 0) rfl (fun _ => rfl) ?_
    refine dp_s1 hF (i := .iload_n 1) rfl (fun _ => rfl) ?_
    refine dp_s1 hF (i := .bipush 8) rfl (fun _ => rfl) ?_
    refine dp_s1 hF (i := .aload_n 0) rfl (fun _ => rfl) ?_
    refine dp_s1 hF (i := .iload_n 1) rfl (fun _ => rfl) ?_
    refine dp_s1 hF (i := .bipush 8) rfl (fun _ => rfl) ?_
    refine dp_sl9 (mj := dp_m_X8_get) (i := .invokevirtual 45) rfl rfl rfl rfl (fun _ => rfl) (fun r9 M8 => ?_)
    refine dp_s1 hF (i := .lload_n 2) rfl (fun _ => rfl) ?_
    refine dp_s1 hF (i := .ladd) rfl (fun _ => rfl) ?_
    refine dp_sv (mj := dp_m_X8_set) (i := .invokevirtual 38) rfl rfl rfl rfl (fun _ => rfl) (fun M10 => ?_)
    exact dp_s0 hF (i := .return_) rfl (fun _ => rfl)
  exact dp_s0 hF (i := .return_) rfl (fun _ => rfl)
noncomputable def D_X8_neededFor_0 (xs : Nat → Int32) (xl d : Nat) (v1 : Int32) (v2 : Int64) (M : dp_M) : Option dp_Res := dp_lim true xs xl (dp_den true xs xl d) dp_m_X8_neededFor (0, [some (.ref 90), some (.int v1), some (.long v2), none, none, none], [], M)
theorem D_X8_neededFor_0_den (xs : Nat → Int32) (xl d : Nat) (a0 : Int32) (a1 : Int64) (M : dp_M) : dp_den true xs xl (d + 1) 192 [.ref 90, .int a0, .long a1] M = D_X8_neededFor_0 xs xl d a0 a1 M := rfl
set_option maxRecDepth 20000 in
theorem D_X8_neededFor_0_eq (xs : Nat → Int32) (xl d : Nat) (v1 : Int32) (v2 : Int64) (M : dp_M) : D_X8_neededFor_0 xs xl d v1 v2 M = dp_bl (dp_den true xs xl d 183 [.ref 90, .int v1, .int (10 : Int32)] M) (fun r2 M1 => dp_w (if r2 < (1 : Int64) then (1 : Int64) else r2) (fun y3 => dp_bl (dp_den true xs xl d 183 [.ref 90, .int v1, .int (9 : Int32)] M1) (fun r5 M4 => if y3 = 0 then none else (some (.inl (some (.long ((((v2 * r5) + y3) - (1 : Int64)) / y3))), M4))))) := by
  have hF := dp_den_grow (md := true) (xs := xs) (xl := xl) d
  unfold D_X8_neededFor_0
  refine dp_s1 hF (i := .lconst 1) rfl (fun _ => rfl) ?_
  refine dp_s1 hF (i := .aload_n 0) rfl (fun _ => rfl) ?_
  refine dp_s1 hF (i := .iload_n 1) rfl (fun _ => rfl) ?_
  refine dp_s1 hF (i := .bipush 10) rfl (fun _ => rfl) ?_
  refine dp_sl9 (mj := dp_m_X8_get) (i := .invokevirtual 45) rfl rfl rfl rfl (fun _ => rfl) (fun r2 M1 => ?_)
  refine dp_s1 hF (i := .invokestatic 49) rfl (fun _ => rfl) ?_
  refine dp_s1w (if r2 < (1 : Int64) then (1 : Int64) else r2) (fun (y3 : Int64) => (13, [some (.ref 90), some (.int v1), some (.long v2), none, some (.long y3), none], [], M1)) hF (i := .lstore 4) rfl (fun _ => rfl) (fun y3 => ?_)
  refine dp_s1 hF (i := .lload_n 2) rfl (fun _ => rfl) ?_
  refine dp_s1 hF (i := .aload_n 0) rfl (fun _ => rfl) ?_
  refine dp_s1 hF (i := .iload_n 1) rfl (fun _ => rfl) ?_
  refine dp_s1 hF (i := .bipush 9) rfl (fun _ => rfl) ?_
  refine dp_sl9 (mj := dp_m_X8_get) (i := .invokevirtual 45) rfl rfl rfl rfl (fun _ => rfl) (fun r5 M4 => ?_)
  refine dp_s1 hF (i := .lmul) rfl (fun _ => rfl) ?_
  refine dp_s1 hF (i := .lload 4) rfl (fun _ => rfl) ?_
  refine dp_s1 hF (i := .ladd) rfl (fun _ => rfl) ?_
  refine dp_s1 hF (i := .lconst 1) rfl (fun _ => rfl) ?_
  refine dp_s1 hF (i := .lsub) rfl (fun _ => rfl) ?_
  refine dp_s1 hF (i := .lload 4) rfl (fun _ => rfl) ?_
  refine dp_s3 hF (i := .ldiv) rfl (fun _ => rfl) ?_
  exact dp_s0 hF (i := .lreturn) rfl (fun _ => rfl)
noncomputable def D_X8_freeIn_0 (xs : Nat → Int32) (xl d : Nat) (v1 : Int32) (M : dp_M) : Option dp_Res := dp_lim true xs xl (dp_den true xs xl d) dp_m_X8_freeIn (0, [some (.ref 90), some (.int v1)], [], M)
theorem D_X8_freeIn_0_den (xs : Nat → Int32) (xl d : Nat) (a0 : Int32) (M : dp_M) : dp_den true xs xl (d + 1) 193 [.ref 90, .int a0] M = D_X8_freeIn_0 xs xl d a0 M := rfl
set_option maxRecDepth 20000 in
theorem D_X8_freeIn_0_eq (xs : Nat → Int32) (xl d : Nat) (v1 : Int32) (M : dp_M) : D_X8_freeIn_0 xs xl d v1 M = dp_bl (dp_den true xs xl d 183 [.ref 90, .int v1, .int (1 : Int32)] M) (fun r2 M1 => dp_bl (dp_den true xs xl d 183 [.ref 90, .int v1, .int (2 : Int32)] M1) (fun r4 M3 => some (.inl (some (.long (if (r2 - r4) < (0 : Int64) then (0 : Int64) else (r2 - r4)))), M3))) := by
  have hF := dp_den_grow (md := true) (xs := xs) (xl := xl) d
  unfold D_X8_freeIn_0
  refine dp_s1 hF (i := .lconst 0) rfl (fun _ => rfl) ?_
  refine dp_s1 hF (i := .aload_n 0) rfl (fun _ => rfl) ?_
  refine dp_s1 hF (i := .iload_n 1) rfl (fun _ => rfl) ?_
  refine dp_s1 hF (i := .iconst 1) rfl (fun _ => rfl) ?_
  refine dp_sl9 (mj := dp_m_X8_get) (i := .invokevirtual 45) rfl rfl rfl rfl (fun _ => rfl) (fun r2 M1 => ?_)
  refine dp_s1 hF (i := .aload_n 0) rfl (fun _ => rfl) ?_
  refine dp_s1 hF (i := .iload_n 1) rfl (fun _ => rfl) ?_
  refine dp_s1 hF (i := .iconst 2) rfl (fun _ => rfl) ?_
  refine dp_sl9 (mj := dp_m_X8_get) (i := .invokevirtual 45) rfl rfl rfl rfl (fun _ => rfl) (fun r4 M3 => ?_)
  refine dp_s1 hF (i := .lsub) rfl (fun _ => rfl) ?_
  refine dp_s1 hF (i := .invokestatic 49) rfl (fun _ => rfl) ?_
  exact dp_s0 hF (i := .lreturn) rfl (fun _ => rfl)
noncomputable def D_X8_mayCover_0 (xs : Nat → Int32) (xl d : Nat) (v1 : Int32) (M : dp_M) : Option dp_Res := dp_lim true xs xl (dp_den true xs xl d) dp_m_X8_mayCover (0, [some (.ref 90), some (.int v1), none, none, none], [], M)
noncomputable def D_X8_mayCover_28 (xs : Nat → Int32) (xl d : Nat) (v1 : Int32) (vs0 : Int32) (M : dp_M) : Option dp_Res := dp_lim true xs xl (dp_den true xs xl d) dp_m_X8_mayCover (28, [some (.ref 90), some (.int v1), none, none, none], [.int vs0], M)
theorem D_X8_mayCover_0_den (xs : Nat → Int32) (xl d : Nat) (a0 : Int32) (M : dp_M) : dp_den true xs xl (d + 1) 194 [.ref 90, .int a0] M = D_X8_mayCover_0 xs xl d a0 M := rfl
set_option maxRecDepth 20000 in
theorem D_X8_mayCover_0_eq (xs : Nat → Int32) (xl d : Nat) (v1 : Int32) (M : dp_M) : D_X8_mayCover_0 xs xl d v1 M = dp_bl (dp_den true xs xl d 183 [.ref 90, .int v1, .int (11 : Int32)] M) (fun r2 M1 => if (lg_cmp r2 (1 : Int64)) = 0 then (dp_bl (dp_den true xs xl d 183 [.ref 90, .int v1, .int (5 : Int32)] M1) (fun r4 M3 => if (lg_cmp r4 (0 : Int64)) ≤ 0 then (D_X8_mayCover_28 xs xl d v1 (0 : Int32) M3) else (D_X8_mayCover_28 xs xl d v1 (1 : Int32) M3))) else (D_X8_mayCover_28 xs xl d v1 (0 : Int32) M1)) := by
  have hF := dp_den_grow (md := true) (xs := xs) (xl := xl) d
  unfold D_X8_mayCover_0
  refine dp_s1 hF (i := .aload_n 0) rfl (fun _ => rfl) ?_
  refine dp_s1 hF (i := .iload_n 1) rfl (fun _ => rfl) ?_
  refine dp_s1 hF (i := .bipush 11) rfl (fun _ => rfl) ?_
  refine dp_sl9 (mj := dp_m_X8_get) (i := .invokevirtual 45) rfl rfl rfl rfl (fun _ => rfl) (fun r2 M1 => ?_)
  refine dp_s1 hF (i := .lconst 1) rfl (fun _ => rfl) ?_
  refine dp_s1 hF (i := .lcmp) rfl (fun _ => rfl) ?_
  refine dp_s2 hF (i := .ifCond .ne 18) (a := (12, [some (.ref 90), some (.int v1), none, none, none], [], M1)) (b := (27, [some (.ref 90), some (.int v1), none, none, none], [], M1)) rfl (fun _ => rfl) ?_ ?_
  · refine dp_s1 hF (i := .aload_n 0) rfl (fun _ => rfl) ?_
    refine dp_s1 hF (i := .iload_n 1) rfl (fun _ => rfl) ?_
    refine dp_s1 hF (i := .iconst 5) rfl (fun _ => rfl) ?_
    refine dp_sl9 (mj := dp_m_X8_get) (i := .invokevirtual 45) rfl rfl rfl rfl (fun _ => rfl) (fun r4 M3 => ?_)
    refine dp_s1 hF (i := .lconst 0) rfl (fun _ => rfl) ?_
    refine dp_s1 hF (i := .lcmp) rfl (fun _ => rfl) ?_
    refine dp_s2 hF (i := .ifCond .le 7) (a := (27, [some (.ref 90), some (.int v1), none, none, none], [], M3)) (b := (23, [some (.ref 90), some (.int v1), none, none, none], [], M3)) rfl (fun _ => rfl) ?_ ?_
    · refine dp_s1 hF (i := .iconst 0) rfl (fun _ => rfl) ?_
      exact rfl
    refine dp_s1 hF (i := .iconst 1) rfl (fun _ => rfl) ?_
    refine dp_s1 hF (i := .goto 4) rfl (fun _ => rfl) ?_
    exact rfl
  refine dp_s1 hF (i := .iconst 0) rfl (fun _ => rfl) ?_
  exact rfl
set_option maxRecDepth 20000 in
theorem D_X8_mayCover_28_eq (xs : Nat → Int32) (xl d : Nat) (v1 : Int32) (vs0 : Int32) (M : dp_M) : D_X8_mayCover_28 xs xl d v1 vs0 M = if vs0 = 0 then (dp_bl (dp_den true xs xl d 183 [.ref 90, .int v1, .int (6 : Int32)] M) (fun r2 M1 => if (lg_cmp r2 (1 : Int64)) = 0 then (some (.inl (some (.long (0 : Int64))), M1)) else (dp_bl (dp_den true xs xl d 183 [.ref 90, .int v1, .int (9 : Int32)] M1) (fun r4 M3 => if 0 < (lg_cmp r4 (0 : Int64)) then (dp_bl (dp_den true xs xl d 193 [.ref 90, .int v1] M3) (fun r6 M5 => dp_bl (dp_den true xs xl d 183 [.ref 90, .int v1, .int (10 : Int32)] M5) (fun r8 M7 => if r4 = 0 then none else (some (.inl (some (.long ((r6 * r8) / r4))), M7))))) else (some (.inl (some (.long (1000000000 : Int64))), M3)))))) else (some (.inl (some (.long (0 : Int64))), M)) := by
  have hF := dp_den_grow (md := true) (xs := xs) (xl := xl) d
  unfold D_X8_mayCover_28
  refine dp_s1 hF (i := .istore_n 2) rfl (fun _ => rfl) ?_
  refine dp_s1 hF (i := .iload_n 2) rfl (fun _ => rfl) ?_
  refine dp_s2 hF (i := .ifCond .ne 15) (a := (33, [some (.ref 90), some (.int v1), some (.int vs0), none, none], [], M)) (b := (45, [some (.ref 90), some (.int v1), some (.int vs0), none, none], [], M)) rfl (fun _ => rfl) ?_ ?_
  · refine dp_s1 hF (i := .aload_n 0) rfl (fun _ => rfl) ?_
    refine dp_s1 hF (i := .iload_n 1) rfl (fun _ => rfl) ?_
    refine dp_s1 hF (i := .bipush 6) rfl (fun _ => rfl) ?_
    refine dp_sl9 (mj := dp_m_X8_get) (i := .invokevirtual 45) rfl rfl rfl rfl (fun _ => rfl) (fun r2 M1 => ?_)
    refine dp_s1 hF (i := .lconst 1) rfl (fun _ => rfl) ?_
    refine dp_s1 hF (i := .lcmp) rfl (fun _ => rfl) ?_
    refine dp_s2 hF (i := .ifCond .ne 5) (a := (45, [some (.ref 90), some (.int v1), some (.int vs0), none, none], [], M1)) (b := (47, [some (.ref 90), some (.int v1), some (.int vs0), none, none], [], M1)) rfl (fun _ => rfl) ?_ ?_
    · refine dp_s1 hF (i := .lconst 0) rfl (fun _ => rfl) ?_
      exact dp_s0 hF (i := .lreturn) rfl (fun _ => rfl)
    refine dp_s1 hF (i := .aload_n 0) rfl (fun _ => rfl) ?_
    refine dp_s1 hF (i := .iload_n 1) rfl (fun _ => rfl) ?_
    refine dp_s1 hF (i := .bipush 9) rfl (fun _ => rfl) ?_
    refine dp_sl9 (mj := dp_m_X8_get) (i := .invokevirtual 45) rfl rfl rfl rfl (fun _ => rfl) (fun r4 M3 => ?_)
    refine dp_s1 hF (i := .lstore_n 3) rfl (fun _ => rfl) ?_
    refine dp_s1 hF (i := .lload_n 3) rfl (fun _ => rfl) ?_
    refine dp_s1 hF (i := .lconst 0) rfl (fun _ => rfl) ?_
    refine dp_s1 hF (i := .lcmp) rfl (fun _ => rfl) ?_
    refine dp_s2 hF (i := .ifCond .gt 9) (a := (67, [some (.ref 90), some (.int v1), some (.int vs0), some (.long r4), none], [], M3)) (b := (61, [some (.ref 90), some (.int v1), some (.int vs0), some (.long r4), none], [], M3)) rfl (fun _ => rfl) ?_ ?_
    · refine dp_s1 hF (i := .aload_n 0) rfl (fun _ => rfl) ?_
      refine dp_s1 hF (i := .iload_n 1) rfl (fun _ => rfl) ?_
      refine dp_sl9 (mj := dp_m_X8_freeIn) (i := .invokevirtual 66) rfl rfl rfl rfl (fun _ => rfl) (fun r6 M5 => ?_)
      refine dp_s1 hF (i := .aload_n 0) rfl (fun _ => rfl) ?_
      refine dp_s1 hF (i := .iload_n 1) rfl (fun _ => rfl) ?_
      refine dp_s1 hF (i := .bipush 10) rfl (fun _ => rfl) ?_
      refine dp_sl9 (mj := dp_m_X8_get) (i := .invokevirtual 45) rfl rfl rfl rfl (fun _ => rfl) (fun r8 M7 => ?_)
      refine dp_s1 hF (i := .lmul) rfl (fun _ => rfl) ?_
      refine dp_s1 hF (i := .lload_n 3) rfl (fun _ => rfl) ?_
      refine dp_s3 hF (i := .ldiv) rfl (fun _ => rfl) ?_
      exact dp_s0 hF (i := .lreturn) rfl (fun _ => rfl)
    refine dp_s1 hF (i := .ldc2_w 64) rfl (fun _ => rfl) ?_
    refine dp_s1 hF (i := .goto 18) rfl (fun _ => rfl) ?_
    exact dp_s0 hF (i := .lreturn) rfl (fun _ => rfl)
  refine dp_s1 hF (i := .lconst 0) rfl (fun _ => rfl) ?_
  exact dp_s0 hF (i := .lreturn) rfl (fun _ => rfl)
noncomputable def D_X8_freeOf_0 (xs : Nat → Int32) (xl d : Nat) (v1 : Int32) (M : dp_M) : Option dp_Res := dp_lim true xs xl (dp_den true xs xl d) dp_m_X8_freeOf (0, [some (.ref 90), some (.int v1), none, none, none], [], M)
noncomputable def D_X8_freeOf_5 (xs : Nat → Int32) (xl d : Nat) (v1 : Int32) (v2 : Int64) (v4 : Int32) (M : dp_M) : Option dp_Res := dp_lim true xs xl (dp_den true xs xl d) dp_m_X8_freeOf (5, [some (.ref 90), some (.int v1), some (.long v2), none, some (.int v4)], [], M)
theorem D_X8_freeOf_0_den (xs : Nat → Int32) (xl d : Nat) (a0 : Int32) (M : dp_M) : dp_den true xs xl (d + 1) 195 [.ref 90, .int a0] M = D_X8_freeOf_0 xs xl d a0 M := rfl
set_option maxRecDepth 20000 in
theorem D_X8_freeOf_0_eq (xs : Nat → Int32) (xl d : Nat) (v1 : Int32) (M : dp_M) : D_X8_freeOf_0 xs xl d v1 M = dp_w (0 : Int64) (fun y1 => dp_w (0 : Int32) (fun y2 => D_X8_freeOf_5 xs xl d v1 y1 y2 M)) := by
  have hF := dp_den_grow (md := true) (xs := xs) (xl := xl) d
  unfold D_X8_freeOf_0
  refine dp_s1 hF (i := .lconst 0) rfl (fun _ => rfl) ?_
  refine dp_s1w (0 : Int64) (fun (y1 : Int64) => (2, [some (.ref 90), some (.int v1), some (.long y1), none, none], [], M)) hF (i := .lstore_n 2) rfl (fun _ => rfl) (fun y1 => ?_)
  refine dp_s1 hF (i := .iconst 0) rfl (fun _ => rfl) ?_
  refine dp_s1w (0 : Int32) (fun (y2 : Int32) => (5, [some (.ref 90), some (.int v1), some (.long y1), none, some (.int y2)], [], M)) hF (i := .istore 4) rfl (fun _ => rfl) (fun y2 => ?_)
  exact rfl
set_option maxRecDepth 20000 in
theorem D_X8_freeOf_5_eq (xs : Nat → Int32) (xl d : Nat) (v1 : Int32) (v2 : Int64) (v4 : Int32) (M : dp_M) : D_X8_freeOf_5 xs xl d v1 v2 v4 M = if v1 < 0 ∨ 8 ≤ Int32.toNatClampNeg v1 then none else (if (dp_I M 91 (Int32.toNatClampNeg v1)) ≤ v4 then (some (.inl (some (.long (if (2000000000 : Int64) < v2 then (2000000000 : Int64) else v2))), M)) else (dp_bi (dp_den true xs xl d 186 [.ref 90, .int v1, .int v4] M) (fun r2 M1 => dp_bl (dp_den true xs xl d 194 [.ref 90, .int r2] M1) (fun r4 M3 => dp_w (v2 + r4) (fun y5 => dp_w (v4 + (1 : Int32)) (fun y6 => D_X8_freeOf_5 xs xl d v1 y5 y6 M3)))))) := by
  have hF := dp_den_grow (md := true) (xs := xs) (xl := xl) d
  unfold D_X8_freeOf_5
  refine dp_s1 hF (i := .iload 4) rfl (fun _ => rfl) ?_
  refine dp_s1 hF (i := .aload_n 0) rfl (fun _ => rfl) ?_
  refine dp_s1 hF (i := .getfield 11) rfl (fun _ => rfl) ?_
  refine dp_s1 hF (i := .iload_n 1) rfl (fun _ => rfl) ?_
  refine dp_s3 hF (i := .iaload) rfl (fun _ => rfl) ?_
  refine dp_s2 hF (i := .if_icmp .ge 23) (a := (36, [some (.ref 90), some (.int v1), some (.long v2), none, some (.int v4)], [], M)) (b := (16, [some (.ref 90), some (.int v1), some (.long v2), none, some (.int v4)], [], M)) rfl (fun _ => rfl) ?_ ?_
  · refine dp_s1 hF (i := .lload_n 2) rfl (fun _ => rfl) ?_
    refine dp_s1 hF (i := .ldc2_w 76) rfl (fun _ => rfl) ?_
    refine dp_s1 hF (i := .invokestatic 78) rfl (fun _ => rfl) ?_
    exact dp_s0 hF (i := .lreturn) rfl (fun _ => rfl)
  refine dp_s1 hF (i := .lload_n 2) rfl (fun _ => rfl) ?_
  refine dp_s1 hF (i := .aload_n 0) rfl (fun _ => rfl) ?_
  refine dp_s1 hF (i := .aload_n 0) rfl (fun _ => rfl) ?_
  refine dp_s1 hF (i := .iload_n 1) rfl (fun _ => rfl) ?_
  refine dp_s1 hF (i := .iload 4) rfl (fun _ => rfl) ?_
  refine dp_si (mj := dp_m_X8_inTurn) (i := .invokevirtual 69) rfl rfl (Or.inl rfl) rfl (fun _ => rfl) (fun r2 M1 => ?_)
  refine dp_sl9 (mj := dp_m_X8_mayCover) (i := .invokevirtual 73) rfl rfl rfl rfl (fun _ => rfl) (fun r4 M3 => ?_)
  refine dp_s1 hF (i := .ladd) rfl (fun _ => rfl) ?_
  refine dp_s1w (v2 + r4) (fun (y5 : Int64) => (30, [some (.ref 90), some (.int v1), some (.long y5), none, some (.int v4)], [], M3)) hF (i := .lstore_n 2) rfl (fun _ => rfl) (fun y5 => ?_)
  refine dp_s1w (v4 + (1 : Int32)) (fun (y6 : Int32) => (33, [some (.ref 90), some (.int v1), some (.long y5), none, some (.int y6)], [], M3)) hF (i := .iinc 4 1) rfl (fun _ => rfl) (fun y6 => ?_)
  refine dp_s1 hF (i := .goto (-28)) rfl (fun _ => rfl) ?_
  exact rfl
noncomputable def D_X8_fact_0 (xs : Nat → Int32) (xl d : Nat) (v1 : Int32) (v2 : Int32) (M : dp_M) : Option dp_Res := dp_lim true xs xl (dp_den true xs xl d) dp_m_X8_fact (0, [some (.ref 90), some (.int v1), some (.int v2)], [], M)
theorem D_X8_fact_0_den (xs : Nat → Int32) (xl d : Nat) (a0 : Int32) (a1 : Int32) (M : dp_M) : dp_den true xs xl (d + 1) 196 [.ref 90, .int a0, .int a1] M = D_X8_fact_0 xs xl d a0 a1 M := rfl
set_option maxRecDepth 20000 in
theorem D_X8_fact_0_eq (xs : Nat → Int32) (xl d : Nat) (v1 : Int32) (v2 : Int32) (M : dp_M) : D_X8_fact_0 xs xl d v1 v2 M = if v2 = (3 : Int32) then (dp_bl (dp_den true xs xl d 193 [.ref 90, .int v1] M) (fun r4 M3 => some (.inl (some (.long r4)), M3))) else if v2 = (4 : Int32) then (dp_bl (dp_den true xs xl d 194 [.ref 90, .int v1] M) (fun r6 M5 => some (.inl (some (.long r6)), M5))) else if v2 = (5 : Int32) then (dp_bl (dp_den true xs xl d 183 [.ref 90, .int v1, .int v2] M) (fun r8 M7 => some (.inl (some (.long r8)), M7))) else if v2 = (6 : Int32) then (dp_bl (dp_den true xs xl d 183 [.ref 90, .int v1, .int v2] M) (fun r10 M9 => some (.inl (some (.long r10)), M9))) else if v2 = (7 : Int32) then (dp_bl (dp_den true xs xl d 183 [.ref 90, .int v1, .int (2 : Int32)] M) (fun r12 M11 => dp_bl (dp_den true xs xl d 183 [.ref 90, .int v1, .int (1 : Int32)] M11) (fun r14 M13 => some (.inl (some (.long (if (r12 - r14) < (0 : Int64) then (0 : Int64) else (r12 - r14)))), M13)))) else (dp_bl (dp_den true xs xl d 183 [.ref 90, .int v1, .int v2] M) (fun r2 M1 => some (.inl (some (.long r2)), M1))) := by
  have hF := dp_den_grow (md := true) (xs := xs) (xl := xl) d
  unfold D_X8_fact_0
  refine dp_s1 hF (i := .iload_n 2) rfl (fun _ => rfl) ?_
  refine (dp_s (E := fun k => if v2 = (3 : Int32) then k (36, [some (.ref 90), some (.int v1), some (.int v2)], [], M) else if v2 = (4 : Int32) then k (42, [some (.ref 90), some (.int v1), some (.int v2)], [], M) else if v2 = (5 : Int32) then k (66, [some (.ref 90), some (.int v1), some (.int v2)], [], M) else if v2 = (6 : Int32) then k (66, [some (.ref 90), some (.int v1), some (.int v2)], [], M) else if v2 = (7 : Int32) then k (48, [some (.ref 90), some (.int v1), some (.int v2)], [], M) else k (66, [some (.ref 90), some (.int v1), some (.int v2)], [], M)) hF (i := .tableswitch 65 3 7 #[35, 41, 65, 65, 47]) rfl (fun _ => rfl)).trans ?_
  refine dp_ifc ?_ ?_
  · refine dp_s1 hF (i := .aload_n 0) rfl (fun _ => rfl) ?_
    refine dp_s1 hF (i := .iload_n 1) rfl (fun _ => rfl) ?_
    refine dp_sl9 (mj := dp_m_X8_freeIn) (i := .invokevirtual 66) rfl rfl rfl rfl (fun _ => rfl) (fun r4 M3 => ?_)
    exact dp_s0 hF (i := .lreturn) rfl (fun _ => rfl)
  refine dp_ifc ?_ ?_
  · refine dp_s1 hF (i := .aload_n 0) rfl (fun _ => rfl) ?_
    refine dp_s1 hF (i := .iload_n 1) rfl (fun _ => rfl) ?_
    refine dp_sl9 (mj := dp_m_X8_mayCover) (i := .invokevirtual 73) rfl rfl rfl rfl (fun _ => rfl) (fun r6 M5 => ?_)
    exact dp_s0 hF (i := .lreturn) rfl (fun _ => rfl)
  refine dp_ifc ?_ ?_
  · refine dp_s1 hF (i := .aload_n 0) rfl (fun _ => rfl) ?_
    refine dp_s1 hF (i := .iload_n 1) rfl (fun _ => rfl) ?_
    refine dp_s1 hF (i := .iload_n 2) rfl (fun _ => rfl) ?_
    refine dp_sl9 (mj := dp_m_X8_get) (i := .invokevirtual 45) rfl rfl rfl rfl (fun _ => rfl) (fun r8 M7 => ?_)
    exact dp_s0 hF (i := .lreturn) rfl (fun _ => rfl)
  refine dp_ifc ?_ ?_
  · refine dp_s1 hF (i := .aload_n 0) rfl (fun _ => rfl) ?_
    refine dp_s1 hF (i := .iload_n 1) rfl (fun _ => rfl) ?_
    refine dp_s1 hF (i := .iload_n 2) rfl (fun _ => rfl) ?_
    refine dp_sl9 (mj := dp_m_X8_get) (i := .invokevirtual 45) rfl rfl rfl rfl (fun _ => rfl) (fun r10 M9 => ?_)
    exact dp_s0 hF (i := .lreturn) rfl (fun _ => rfl)
  refine dp_ifc ?_ ?_
  · refine dp_s1 hF (i := .lconst 0) rfl (fun _ => rfl) ?_
    refine dp_s1 hF (i := .aload_n 0) rfl (fun _ => rfl) ?_
    refine dp_s1 hF (i := .iload_n 1) rfl (fun _ => rfl) ?_
    refine dp_s1 hF (i := .iconst 2) rfl (fun _ => rfl) ?_
    refine dp_sl9 (mj := dp_m_X8_get) (i := .invokevirtual 45) rfl rfl rfl rfl (fun _ => rfl) (fun r12 M11 => ?_)
    refine dp_s1 hF (i := .aload_n 0) rfl (fun _ => rfl) ?_
    refine dp_s1 hF (i := .iload_n 1) rfl (fun _ => rfl) ?_
    refine dp_s1 hF (i := .iconst 1) rfl (fun _ => rfl) ?_
    refine dp_sl9 (mj := dp_m_X8_get) (i := .invokevirtual 45) rfl rfl rfl rfl (fun _ => rfl) (fun r14 M13 => ?_)
    refine dp_s1 hF (i := .lsub) rfl (fun _ => rfl) ?_
    refine dp_s1 hF (i := .invokestatic 49) rfl (fun _ => rfl) ?_
    exact dp_s0 hF (i := .lreturn) rfl (fun _ => rfl)
  refine dp_s1 hF (i := .aload_n 0) rfl (fun _ => rfl) ?_
  refine dp_s1 hF (i := .iload_n 1) rfl (fun _ => rfl) ?_
  refine dp_s1 hF (i := .iload_n 2) rfl (fun _ => rfl) ?_
  refine dp_sl9 (mj := dp_m_X8_get) (i := .invokevirtual 45) rfl rfl rfl rfl (fun _ => rfl) (fun r2 M1 => ?_)
  exact dp_s0 hF (i := .lreturn) rfl (fun _ => rfl)
noncomputable def D_X8_hasFact_0 (xs : Nat → Int32) (xl d : Nat) (v1 : Int32) (v2 : Int32) (M : dp_M) : Option dp_Res := dp_lim true xs xl (dp_den true xs xl d) dp_m_X8_hasFact (0, [some (.ref 90), some (.int v1), some (.int v2), none], [], M)
noncomputable def D_X8_hasFact_27 (xs : Nat → Int32) (xl d : Nat) (v1 : Int32) (v2 : Int32) (vs0 : Int32) (M : dp_M) : Option dp_Res := dp_lim true xs xl (dp_den true xs xl d) dp_m_X8_hasFact (27, [some (.ref 90), some (.int v1), some (.int v2), none], [.int vs0], M)
theorem D_X8_hasFact_0_den (xs : Nat → Int32) (xl d : Nat) (a0 : Int32) (a1 : Int32) (M : dp_M) : dp_den true xs xl (d + 1) 197 [.ref 90, .int a0, .int a1] M = D_X8_hasFact_0 xs xl d a0 a1 M := rfl
set_option maxRecDepth 20000 in
theorem D_X8_hasFact_0_eq (xs : Nat → Int32) (xl d : Nat) (v1 : Int32) (v2 : Int32) (M : dp_M) : D_X8_hasFact_0 xs xl d v1 v2 M = if v2 < 0 then (if (8 : Int32) ≤ v2 then (D_X8_hasFact_27 xs xl d v1 v2 (v2 - (8 : Int32)) M) else (D_X8_hasFact_27 xs xl d v1 v2 (v2 - (4 : Int32)) M)) else (if (3 : Int32) < v2 then (if (8 : Int32) ≤ v2 then (D_X8_hasFact_27 xs xl d v1 v2 (v2 - (8 : Int32)) M) else (D_X8_hasFact_27 xs xl d v1 v2 (v2 - (4 : Int32)) M)) else (some (.inl (some (.int (1 : Int32))), M))) := by
  have hF := dp_den_grow (md := true) (xs := xs) (xl := xl) d
  unfold D_X8_hasFact_0
  refine dp_s1 hF (i := .iload_n 2) rfl (fun _ => rfl) ?_
  refine dp_s2 hF (i := .ifCond .lt 10) (a := (11, [some (.ref 90), some (.int v1), some (.int v2), none], [], M)) (b := (4, [some (.ref 90), some (.int v1), some (.int v2), none], [], M)) rfl (fun _ => rfl) ?_ ?_
  · refine dp_s1 hF (i := .iload_n 2) rfl (fun _ => rfl) ?_
    refine dp_s1 hF (i := .bipush 8) rfl (fun _ => rfl) ?_
    refine dp_s2 hF (i := .if_icmp .ge 9) (a := (23, [some (.ref 90), some (.int v1), some (.int v2), none], [], M)) (b := (17, [some (.ref 90), some (.int v1), some (.int v2), none], [], M)) rfl (fun _ => rfl) ?_ ?_
    · refine dp_s1 hF (i := .iload_n 2) rfl (fun _ => rfl) ?_
      refine dp_s1 hF (i := .bipush 8) rfl (fun _ => rfl) ?_
      refine dp_s1 hF (i := .isub) rfl (fun _ => rfl) ?_
      exact rfl
    refine dp_s1 hF (i := .iload_n 2) rfl (fun _ => rfl) ?_
    refine dp_s1 hF (i := .iconst 4) rfl (fun _ => rfl) ?_
    refine dp_s1 hF (i := .isub) rfl (fun _ => rfl) ?_
    refine dp_s1 hF (i := .goto 7) rfl (fun _ => rfl) ?_
    exact rfl
  refine dp_s1 hF (i := .iload_n 2) rfl (fun _ => rfl) ?_
  refine dp_s1 hF (i := .iconst 3) rfl (fun _ => rfl) ?_
  refine dp_s2 hF (i := .if_icmp .gt 5) (a := (11, [some (.ref 90), some (.int v1), some (.int v2), none], [], M)) (b := (9, [some (.ref 90), some (.int v1), some (.int v2), none], [], M)) rfl (fun _ => rfl) ?_ ?_
  · refine dp_s1 hF (i := .iload_n 2) rfl (fun _ => rfl) ?_
    refine dp_s1 hF (i := .bipush 8) rfl (fun _ => rfl) ?_
    refine dp_s2 hF (i := .if_icmp .ge 9) (a := (23, [some (.ref 90), some (.int v1), some (.int v2), none], [], M)) (b := (17, [some (.ref 90), some (.int v1), some (.int v2), none], [], M)) rfl (fun _ => rfl) ?_ ?_
    · refine dp_s1 hF (i := .iload_n 2) rfl (fun _ => rfl) ?_
      refine dp_s1 hF (i := .bipush 8) rfl (fun _ => rfl) ?_
      refine dp_s1 hF (i := .isub) rfl (fun _ => rfl) ?_
      exact rfl
    refine dp_s1 hF (i := .iload_n 2) rfl (fun _ => rfl) ?_
    refine dp_s1 hF (i := .iconst 4) rfl (fun _ => rfl) ?_
    refine dp_s1 hF (i := .isub) rfl (fun _ => rfl) ?_
    refine dp_s1 hF (i := .goto 7) rfl (fun _ => rfl) ?_
    exact rfl
  refine dp_s1 hF (i := .iconst 1) rfl (fun _ => rfl) ?_
  exact dp_s0 hF (i := .ireturn) rfl (fun _ => rfl)
set_option maxRecDepth 20000 in
theorem D_X8_hasFact_27_eq (xs : Nat → Int32) (xl d : Nat) (v1 : Int32) (v2 : Int32) (vs0 : Int32) (M : dp_M) : D_X8_hasFact_27 xs xl d v1 v2 vs0 M = if vs0 < 0 then (some (.inl (some (.int (0 : Int32))), M)) else (dp_bi (dp_den true xs xl d 199 [.ref 90, .int v1] M) (fun r2 M1 => if r2 ≤ vs0 then (some (.inl (some (.int (0 : Int32))), M1)) else (some (.inl (some (.int (1 : Int32))), M1)))) := by
  have hF := dp_den_grow (md := true) (xs := xs) (xl := xl) d
  unfold D_X8_hasFact_27
  refine dp_s1 hF (i := .istore_n 3) rfl (fun _ => rfl) ?_
  refine dp_s1 hF (i := .iload_n 3) rfl (fun _ => rfl) ?_
  refine dp_s2 hF (i := .ifCond .lt 16) (a := (45, [some (.ref 90), some (.int v1), some (.int v2), some (.int vs0)], [], M)) (b := (32, [some (.ref 90), some (.int v1), some (.int v2), some (.int vs0)], [], M)) rfl (fun _ => rfl) ?_ ?_
  · refine dp_s1 hF (i := .iconst 0) rfl (fun _ => rfl) ?_
    exact dp_s0 hF (i := .ireturn) rfl (fun _ => rfl)
  refine dp_s1 hF (i := .iload_n 3) rfl (fun _ => rfl) ?_
  refine dp_s1 hF (i := .aload_n 0) rfl (fun _ => rfl) ?_
  refine dp_s1 hF (i := .iload_n 1) rfl (fun _ => rfl) ?_
  refine dp_si (mj := dp_m_X8_partsOf) (i := .invokevirtual 81) rfl rfl (Or.inl rfl) rfl (fun _ => rfl) (fun r2 M1 => ?_)
  refine dp_s2 hF (i := .if_icmp .ge 7) (a := (45, [some (.ref 90), some (.int v1), some (.int v2), some (.int vs0)], [], M1)) (b := (41, [some (.ref 90), some (.int v1), some (.int v2), some (.int vs0)], [], M1)) rfl (fun _ => rfl) ?_ ?_
  · refine dp_s1 hF (i := .iconst 0) rfl (fun _ => rfl) ?_
    exact dp_s0 hF (i := .ireturn) rfl (fun _ => rfl)
  refine dp_s1 hF (i := .iconst 1) rfl (fun _ => rfl) ?_
  refine dp_s1 hF (i := .goto 4) rfl (fun _ => rfl) ?_
  exact dp_s0 hF (i := .ireturn) rfl (fun _ => rfl)
noncomputable def D_X8_factOfReservation_0 (xs : Nat → Int32) (xl d : Nat) (v1 : Int32) (v2 : Int32) (M : dp_M) : Option dp_Res := dp_lim true xs xl (dp_den true xs xl d) dp_m_X8_factOfReservation (0, [some (.ref 90), some (.int v1), some (.int v2)], [], M)
theorem D_X8_factOfReservation_0_den (xs : Nat → Int32) (xl d : Nat) (a0 : Int32) (a1 : Int32) (M : dp_M) : dp_den true xs xl (d + 1) 198 [.ref 90, .int a0, .int a1] M = D_X8_factOfReservation_0 xs xl d a0 a1 M := rfl
set_option maxRecDepth 20000 in
theorem D_X8_factOfReservation_0_eq (xs : Nat → Int32) (xl d : Nat) (v1 : Int32) (v2 : Int32) (M : dp_M) : D_X8_factOfReservation_0 xs xl d v1 v2 M = if ((v1 * (12 : Int32)) + v2) < 0 ∨ 4812 ≤ Int32.toNatClampNeg ((v1 * (12 : Int32)) + v2) then none else (some (.inl (some (.long (dp_J M 96 (Int32.toNatClampNeg ((v1 * (12 : Int32)) + v2))))), M)) := by
  have hF := dp_den_grow (md := true) (xs := xs) (xl := xl) d
  unfold D_X8_factOfReservation_0
  refine dp_s1 hF (i := .aload_n 0) rfl (fun _ => rfl) ?_
  refine dp_s1 hF (i := .getfield 31) rfl (fun _ => rfl) ?_
  refine dp_s1 hF (i := .iload_n 1) rfl (fun _ => rfl) ?_
  refine dp_s1 hF (i := .bipush 12) rfl (fun _ => rfl) ?_
  refine dp_s1 hF (i := .imul) rfl (fun _ => rfl) ?_
  refine dp_s1 hF (i := .iload_n 2) rfl (fun _ => rfl) ?_
  refine dp_s1 hF (i := .iadd) rfl (fun _ => rfl) ?_
  refine dp_s3 hF (i := .laload) rfl (fun _ => rfl) ?_
  exact dp_s0 hF (i := .lreturn) rfl (fun _ => rfl)
noncomputable def D_X8_partsOf_0 (xs : Nat → Int32) (xl d : Nat) (v1 : Int32) (M : dp_M) : Option dp_Res := dp_lim true xs xl (dp_den true xs xl d) dp_m_X8_partsOf (0, [some (.ref 90), some (.int v1)], [], M)
theorem D_X8_partsOf_0_den (xs : Nat → Int32) (xl d : Nat) (a0 : Int32) (M : dp_M) : dp_den true xs xl (d + 1) 199 [.ref 90, .int a0] M = D_X8_partsOf_0 xs xl d a0 M := rfl
set_option maxRecDepth 20000 in
theorem D_X8_partsOf_0_eq (xs : Nat → Int32) (xl d : Nat) (v1 : Int32) (M : dp_M) : D_X8_partsOf_0 xs xl d v1 M = if ((v1 * (12 : Int32)) + (3 : Int32)) < 0 ∨ 4812 ≤ Int32.toNatClampNeg ((v1 * (12 : Int32)) + (3 : Int32)) then none else (some (.inl (some (.int (Int64.toInt32 (dp_J M 96 (Int32.toNatClampNeg ((v1 * (12 : Int32)) + (3 : Int32))))))), M)) := by
  have hF := dp_den_grow (md := true) (xs := xs) (xl := xl) d
  unfold D_X8_partsOf_0
  refine dp_s1 hF (i := .aload_n 0) rfl (fun _ => rfl) ?_
  refine dp_s1 hF (i := .getfield 31) rfl (fun _ => rfl) ?_
  refine dp_s1 hF (i := .iload_n 1) rfl (fun _ => rfl) ?_
  refine dp_s1 hF (i := .bipush 12) rfl (fun _ => rfl) ?_
  refine dp_s1 hF (i := .imul) rfl (fun _ => rfl) ?_
  refine dp_s1 hF (i := .iconst 3) rfl (fun _ => rfl) ?_
  refine dp_s1 hF (i := .iadd) rfl (fun _ => rfl) ?_
  refine dp_s3 hF (i := .laload) rfl (fun _ => rfl) ?_
  refine dp_s1 hF (i := .l2i) rfl (fun _ => rfl) ?_
  exact dp_s0 hF (i := .ireturn) rfl (fun _ => rfl)
noncomputable def D_X8_cover_0 (xs : Nat → Int32) (xl d : Nat) (v1 : Int32) (v2 : Int32) (v3 : Int64) (M : dp_M) : Option dp_Res := dp_lim true xs xl (dp_den true xs xl d) dp_m_X8_cover (0, [some (.ref 90), some (.int v1), some (.int v2), some (.long v3), none, none, none], [], M)
noncomputable def D_X8_cover_78 (xs : Nat → Int32) (xl d : Nat) (v1 : Int32) (v2 : Int32) (v3 : Int64) (v5 : Int32) (v6 : Int32) (M : dp_M) : Option dp_Res := dp_lim true xs xl (dp_den true xs xl d) dp_m_X8_cover (78, [some (.ref 90), some (.int v1), some (.int v2), some (.long v3), none, some (.int v5), some (.int v6)], [], M)
theorem D_X8_cover_0_den (xs : Nat → Int32) (xl d : Nat) (a0 : Int32) (a1 : Int32) (a2 : Int64) (M : dp_M) : dp_den true xs xl (d + 1) 200 [.ref 90, .int a0, .int a1, .long a2] M = D_X8_cover_0 xs xl d a0 a1 a2 M := rfl
set_option maxRecDepth 20000 in
theorem D_X8_cover_0_eq (xs : Nat → Int32) (xl d : Nat) (v1 : Int32) (v2 : Int32) (v3 : Int64) (M : dp_M) : D_X8_cover_0 xs xl d v1 v2 v3 M = dp_w ((dp_I M 90 1) + (1 : Int32)) (fun y1 => if (400 : Int32) ≤ (dp_I M 90 1) then (some (.inl (some (.int (0 : Int32))), M)) else (dp_bi (dp_den true xs xl d 201 [.ref 90, .int y1, .int v1, .long v3] M) (fun r3 M2 => if r3 = 0 then (some (.inl (some (.int (0 : Int32))), M2)) else (if v2 < 0 ∨ 4 ≤ Int32.toNatClampNeg v2 then none else (if (dp_I M2 92 (Int32.toNatClampNeg v2)) = 0 then (dp_w (dp_setI M2 90 1 y1) (fun M4 => dp_w (dp_setI M4 90 2 ((dp_I M4 90 2) + (1 : Int32))) (fun M5 => dp_w (0 : Int32) (fun y6 => D_X8_cover_78 xs xl d v1 v2 v3 y1 y6 M5)))) else (if v2 < 0 ∨ 4 ≤ Int32.toNatClampNeg v2 then none else dp_w (dp_setI M2 92 (Int32.toNatClampNeg v2) ((0 : Int32) &&& 1)) (fun M7 => if v2 < 0 ∨ 4 ≤ Int32.toNatClampNeg v2 then none else (if v2 < 0 ∨ 4 ≤ Int32.toNatClampNeg v2 then none else dp_w (dp_setI M7 93 (Int32.toNatClampNeg v2) ((dp_I M7 93 (Int32.toNatClampNeg v2)) + (1 : Int32))) (fun M8 => some (.inl (some (.int (-1 : Int32))), M8)))))))))) := by
  have hF := dp_den_grow (md := true) (xs := xs) (xl := xl) d
  unfold D_X8_cover_0
  refine dp_s1 hF (i := .aload_n 0) rfl (fun _ => rfl) ?_
  refine dp_s1 hF (i := .getfield 85) rfl (fun _ => rfl) ?_
  refine dp_s1 hF (i := .iconst 1) rfl (fun _ => rfl) ?_
  refine dp_s1 hF (i := .iadd) rfl (fun _ => rfl) ?_
  refine dp_s1w ((dp_I M 90 1) + (1 : Int32)) (fun (y1 : Int32) => (8, [some (.ref 90), some (.int v1), some (.int v2), some (.long v3), none, some (.int y1), none], [], M)) hF (i := .istore 5) rfl (fun _ => rfl) (fun y1 => ?_)
  refine dp_s1 hF (i := .aload_n 0) rfl (fun _ => rfl) ?_
  refine dp_s1 hF (i := .getfield 85) rfl (fun _ => rfl) ?_
  refine dp_s1 hF (i := .sipush 400) rfl (fun _ => rfl) ?_
  refine dp_s2 hF (i := .if_icmp .ge 14) (a := (29, [some (.ref 90), some (.int v1), some (.int v2), some (.long v3), none, some (.int y1), none], [], M)) (b := (18, [some (.ref 90), some (.int v1), some (.int v2), some (.long v3), none, some (.int y1), none], [], M)) rfl (fun _ => rfl) ?_ ?_
  · refine dp_s1 hF (i := .iconst 0) rfl (fun _ => rfl) ?_
    exact dp_s0 hF (i := .ireturn) rfl (fun _ => rfl)
  refine dp_s1 hF (i := .aload_n 0) rfl (fun _ => rfl) ?_
  refine dp_s1 hF (i := .iload 5) rfl (fun _ => rfl) ?_
  refine dp_s1 hF (i := .iload_n 1) rfl (fun _ => rfl) ?_
  refine dp_s1 hF (i := .lload_n 3) rfl (fun _ => rfl) ?_
  refine dp_si (mj := dp_m_X8_spread) (i := .invokevirtual 88) rfl rfl (Or.inr rfl) rfl (fun _ => rfl) (fun r3 M2 => ?_)
  refine dp_s2 hF (i := .ifCond .ne 5) (a := (29, [some (.ref 90), some (.int v1), some (.int v2), some (.long v3), none, some (.int y1), none], [], M2)) (b := (31, [some (.ref 90), some (.int v1), some (.int v2), some (.long v3), none, some (.int y1), none], [], M2)) rfl (fun _ => rfl) ?_ ?_
  · refine dp_s1 hF (i := .iconst 0) rfl (fun _ => rfl) ?_
    exact dp_s0 hF (i := .ireturn) rfl (fun _ => rfl)
  refine dp_s1 hF (i := .aload_n 0) rfl (fun _ => rfl) ?_
  refine dp_s1 hF (i := .getfield 15) rfl (fun _ => rfl) ?_
  refine dp_s1 hF (i := .iload_n 2) rfl (fun _ => rfl) ?_
  refine dp_s3 hF (i := .baload) rfl (fun _ => rfl) ?_
  refine dp_s2 hF (i := .ifCond .eq 22) (a := (59, [some (.ref 90), some (.int v1), some (.int v2), some (.long v3), none, some (.int y1), none], [], M2)) (b := (40, [some (.ref 90), some (.int v1), some (.int v2), some (.long v3), none, some (.int y1), none], [], M2)) rfl (fun _ => rfl) ?_ ?_
  · refine dp_s1 hF (i := .aload_n 0) rfl (fun _ => rfl) ?_
    refine dp_s1 hF (i := .iload 5) rfl (fun _ => rfl) ?_
    refine dp_s1w (dp_setI M2 90 1 y1) (fun (M4 : dp_M) => (65, [some (.ref 90), some (.int v1), some (.int v2), some (.long v3), none, some (.int y1), none], [], M4)) hF (i := .putfield 85) rfl (fun _ => rfl) (fun M4 => ?_)
    refine dp_s1 hF (i := .aload_n 0) rfl (fun _ => rfl) ?_
    refine dp_s1 hF (i := .dup) rfl (fun _ => rfl) ?_
    refine dp_s1 hF (i := .getfield 92) rfl (fun _ => rfl) ?_
    refine dp_s1 hF (i := .iconst 1) rfl (fun _ => rfl) ?_
    refine dp_s1 hF (i := .iadd) rfl (fun _ => rfl) ?_
    refine dp_s1w (dp_setI M4 90 2 ((dp_I M4 90 2) + (1 : Int32))) (fun (M5 : dp_M) => (75, [some (.ref 90), some (.int v1), some (.int v2), some (.long v3), none, some (.int y1), none], [], M5)) hF (i := .putfield 92) rfl (fun _ => rfl) (fun M5 => ?_)
    refine dp_s1 hF (i := .iconst 0) rfl (fun _ => rfl) ?_
    refine dp_s1w (0 : Int32) (fun (y6 : Int32) => (78, [some (.ref 90), some (.int v1), some (.int v2), some (.long v3), none, some (.int y1), some (.int y6)], [], M5)) hF (i := .istore 6) rfl (fun _ => rfl) (fun y6 => ?_)
    exact rfl
  refine dp_s1 hF (i := .aload_n 0) rfl (fun _ => rfl) ?_
  refine dp_s1 hF (i := .getfield 15) rfl (fun _ => rfl) ?_
  refine dp_s1 hF (i := .iload_n 2) rfl (fun _ => rfl) ?_
  refine dp_s1 hF (i := .iconst 0) rfl (fun _ => rfl) ?_
  refine dp_s3w (dp_setI M2 92 (Int32.toNatClampNeg v2) ((0 : Int32) &&& 1)) (fun (M7 : dp_M) => (47, [some (.ref 90), some (.int v1), some (.int v2), some (.long v3), none, some (.int y1), none], [], M7)) hF (i := .bastore) rfl (fun _ => rfl) (fun M7 => ?_)
  refine dp_s1 hF (i := .aload_n 0) rfl (fun _ => rfl) ?_
  refine dp_s1 hF (i := .getfield 19) rfl (fun _ => rfl) ?_
  refine dp_s1 hF (i := .iload_n 2) rfl (fun _ => rfl) ?_
  refine dp_s1 hF (i := .dup2) rfl (fun _ => rfl) ?_
  refine dp_s3 hF (i := .iaload) rfl (fun _ => rfl) ?_
  refine dp_s1 hF (i := .iconst 1) rfl (fun _ => rfl) ?_
  refine dp_s1 hF (i := .iadd) rfl (fun _ => rfl) ?_
  refine dp_s3w (dp_setI M7 93 (Int32.toNatClampNeg v2) ((dp_I M7 93 (Int32.toNatClampNeg v2)) + (1 : Int32))) (fun (M8 : dp_M) => (57, [some (.ref 90), some (.int v1), some (.int v2), some (.long v3), none, some (.int y1), none], [], M8)) hF (i := .iastore) rfl (fun _ => rfl) (fun M8 => ?_)
  refine dp_s1 hF (i := .iconst (-1)) rfl (fun _ => rfl) ?_
  exact dp_s0 hF (i := .ireturn) rfl (fun _ => rfl)
set_option maxRecDepth 20000 in
theorem D_X8_cover_78_eq (xs : Nat → Int32) (xl d : Nat) (v1 : Int32) (v2 : Int32) (v3 : Int64) (v5 : Int32) (v6 : Int32) (M : dp_M) : D_X8_cover_78 xs xl d v1 v2 v3 v5 v6 M = dp_bi (dp_den true xs xl d 199 [.ref 90, .int v5] M) (fun r2 M1 => if r2 ≤ v6 then (some (.inl (some (.int v5)), M1)) else (dp_bv (dp_den true xs xl d 204 [.ref 90, .int v5, .int v6, .int (1 : Int32)] M1) (fun M3 => dp_w (v6 + (1 : Int32)) (fun y4 => D_X8_cover_78 xs xl d v1 v2 v3 v5 y4 M3)))) := by
  have hF := dp_den_grow (md := true) (xs := xs) (xl := xl) d
  unfold D_X8_cover_78
  refine dp_s1 hF (i := .iload 6) rfl (fun _ => rfl) ?_
  refine dp_s1 hF (i := .aload_n 0) rfl (fun _ => rfl) ?_
  refine dp_s1 hF (i := .iload 5) rfl (fun _ => rfl) ?_
  refine dp_si (mj := dp_m_X8_partsOf) (i := .invokevirtual 81) rfl rfl (Or.inl rfl) rfl (fun _ => rfl) (fun r2 M1 => ?_)
  refine dp_s2 hF (i := .if_icmp .ge 18) (a := (104, [some (.ref 90), some (.int v1), some (.int v2), some (.long v3), none, some (.int v5), some (.int v6)], [], M1)) (b := (89, [some (.ref 90), some (.int v1), some (.int v2), some (.long v3), none, some (.int v5), some (.int v6)], [], M1)) rfl (fun _ => rfl) ?_ ?_
  · refine dp_s1 hF (i := .iload 5) rfl (fun _ => rfl) ?_
    exact dp_s0 hF (i := .ireturn) rfl (fun _ => rfl)
  refine dp_s1 hF (i := .aload_n 0) rfl (fun _ => rfl) ?_
  refine dp_s1 hF (i := .iload 5) rfl (fun _ => rfl) ?_
  refine dp_s1 hF (i := .iload 6) rfl (fun _ => rfl) ?_
  refine dp_s1 hF (i := .iconst 1) rfl (fun _ => rfl) ?_
  refine dp_sv (mj := dp_m_X8_use) (i := .invokevirtual 95) rfl rfl rfl rfl (fun _ => rfl) (fun M3 => ?_)
  refine dp_s1w (v6 + (1 : Int32)) (fun (y4 : Int32) => (101, [some (.ref 90), some (.int v1), some (.int v2), some (.long v3), none, some (.int v5), some (.int y4)], [], M3)) hF (i := .iinc 6 1) rfl (fun _ => rfl) (fun y4 => ?_)
  refine dp_s1 hF (i := .goto (-23)) rfl (fun _ => rfl) ?_
  exact rfl
noncomputable def D_X8_spread_0 (xs : Nat → Int32) (xl d : Nat) (v1 : Int32) (v2 : Int32) (v3 : Int64) (M : dp_M) : Option dp_Res := dp_lim true xs xl (dp_den true xs xl d) dp_m_X8_spread (0, [some (.ref 90), some (.int v1), some (.int v2), some (.long v3), none, none, none, none, none, none, none, none, none], [], M)
noncomputable def D_X8_spread_15 (xs : Nat → Int32) (xl d : Nat) (v1 : Int32) (v2 : Int32) (v3 : Int64) (v5 : Int32) (v6 : Int32) (v7 : Int64) (v9 : Int32) (M : dp_M) : Option dp_Res := dp_lim true xs xl (dp_den true xs xl d) dp_m_X8_spread (15, [some (.ref 90), some (.int v1), some (.int v2), some (.long v3), none, some (.int v5), some (.int v6), some (.long v7), none, some (.int v9), none, none, none], [], M)
noncomputable def D_X8_spread_116 (xs : Nat → Int32) (xl d : Nat) (v1 : Int32) (v2 : Int32) (v3 : Int64) (v5 : Int32) (v6 : Int32) (v7 : Int64) (v9 : Int32) (M : dp_M) : Option dp_Res := dp_lim true xs xl (dp_den true xs xl d) dp_m_X8_spread (116, [some (.ref 90), some (.int v1), some (.int v2), some (.long v3), none, some (.int v5), some (.int v6), some (.long v7), none, some (.int v9), none, none, none], [], M)
noncomputable def D_X8_spread_15_a (xs : Nat → Int32) (xl d : Nat) (v1 : Int32) (v2 : Int32) (v3 : Int64) (v5 : Int32) (v6 : Int32) (v7 : Int64) (v9 : Int32) (v10 : Int32) (v11 : Int64) (M : dp_M) : Option dp_Res := dp_lim true xs xl (dp_den true xs xl d) dp_m_X8_spread (15, [some (.ref 90), some (.int v1), some (.int v2), some (.long v3), none, some (.int v5), some (.int v6), some (.long v7), none, some (.int v9), some (.int v10), some (.long v11), none], [], M)
noncomputable def D_X8_spread_116_a (xs : Nat → Int32) (xl d : Nat) (v1 : Int32) (v2 : Int32) (v3 : Int64) (v5 : Int32) (v6 : Int32) (v7 : Int64) (v9 : Int32) (v10 : Int32) (v11 : Int64) (M : dp_M) : Option dp_Res := dp_lim true xs xl (dp_den true xs xl d) dp_m_X8_spread (116, [some (.ref 90), some (.int v1), some (.int v2), some (.long v3), none, some (.int v5), some (.int v6), some (.long v7), none, some (.int v9), some (.int v10), some (.long v11), none], [], M)
theorem D_X8_spread_0_den (xs : Nat → Int32) (xl d : Nat) (a0 : Int32) (a1 : Int32) (a2 : Int64) (M : dp_M) : dp_den true xs xl (d + 1) 201 [.ref 90, .int a0, .int a1, .long a2] M = D_X8_spread_0 xs xl d a0 a1 a2 M := rfl
set_option maxRecDepth 20000 in
theorem D_X8_spread_0_eq (xs : Nat → Int32) (xl d : Nat) (v1 : Int32) (v2 : Int32) (v3 : Int64) (M : dp_M) : D_X8_spread_0 xs xl d v1 v2 v3 M = dp_w (v1 * (12 : Int32)) (fun y1 => dp_w (0 : Int32) (fun y2 => dp_w (0 : Int32) (fun y3 => D_X8_spread_15 xs xl d v1 v2 v3 y1 y2 v3 y3 M))) := by
  have hF := dp_den_grow (md := true) (xs := xs) (xl := xl) d
  unfold D_X8_spread_0
  refine dp_s1 hF (i := .iload_n 1) rfl (fun _ => rfl) ?_
  refine dp_s1 hF (i := .bipush 12) rfl (fun _ => rfl) ?_
  refine dp_s1 hF (i := .imul) rfl (fun _ => rfl) ?_
  refine dp_s1w (v1 * (12 : Int32)) (fun (y1 : Int32) => (6, [some (.ref 90), some (.int v1), some (.int v2), some (.long v3), none, some (.int y1), none, none, none, none, none, none, none], [], M)) hF (i := .istore 5) rfl (fun _ => rfl) (fun y1 => ?_)
  refine dp_s1 hF (i := .iconst 0) rfl (fun _ => rfl) ?_
  refine dp_s1w (0 : Int32) (fun (y2 : Int32) => (9, [some (.ref 90), some (.int v1), some (.int v2), some (.long v3), none, some (.int y1), some (.int y2), none, none, none, none, none, none], [], M)) hF (i := .istore 6) rfl (fun _ => rfl) (fun y2 => ?_)
  refine dp_s1 hF (i := .lload_n 3) rfl (fun _ => rfl) ?_
  refine dp_s1 hF (i := .lstore 7) rfl (fun _ => rfl) ?_
  refine dp_s1 hF (i := .iconst 0) rfl (fun _ => rfl) ?_
  refine dp_s1w (0 : Int32) (fun (y3 : Int32) => (15, [some (.ref 90), some (.int v1), some (.int v2), some (.long v3), none, some (.int y1), some (.int y2), some (.long v3), none, some (.int y3), none, none, none], [], M)) hF (i := .istore 9) rfl (fun _ => rfl) (fun y3 => ?_)
  exact rfl
set_option maxRecDepth 20000 in
theorem D_X8_spread_15_eq (xs : Nat → Int32) (xl d : Nat) (v1 : Int32) (v2 : Int32) (v3 : Int64) (v5 : Int32) (v6 : Int32) (v7 : Int64) (v9 : Int32) (M : dp_M) : D_X8_spread_15 xs xl d v1 v2 v3 v5 v6 v7 v9 M = if v2 < 0 ∨ 8 ≤ Int32.toNatClampNeg v2 then none else (if (dp_I M 91 (Int32.toNatClampNeg v2)) ≤ v9 then (D_X8_spread_116 xs xl d v1 v2 v3 v5 v6 v7 v9 M) else (if (lg_cmp v7 (0 : Int64)) ≤ 0 then (D_X8_spread_116 xs xl d v1 v2 v3 v5 v6 v7 v9 M) else (dp_bi (dp_den true xs xl d 186 [.ref 90, .int v2, .int v9] M) (fun r2 M1 => dp_bl (dp_den true xs xl d 194 [.ref 90, .int r2] M1) (fun r4 M3 => dp_w (if r4 < v7 then r4 else v7) (fun y5 => if (lg_cmp y5 (0 : Int64)) ≤ 0 then (dp_w (v9 + (1 : Int32)) (fun y6 => D_X8_spread_15_a xs xl d v1 v2 v3 v5 v6 v7 y6 r2 y5 M3)) else (if v6 < (4 : Int32) then (if ((v5 + (4 : Int32)) + v6) < 0 ∨ 4812 ≤ Int32.toNatClampNeg ((v5 + (4 : Int32)) + v6) then none else dp_w (dp_setJ M3 96 (Int32.toNatClampNeg ((v5 + (4 : Int32)) + v6)) (Int32.toInt64 r2)) (fun M7 => if ((v5 + (8 : Int32)) + v6) < 0 ∨ 4812 ≤ Int32.toNatClampNeg ((v5 + (8 : Int32)) + v6) then none else dp_w (dp_setJ M7 96 (Int32.toNatClampNeg ((v5 + (8 : Int32)) + v6)) y5) (fun M8 => dp_w (v6 + (1 : Int32)) (fun y9 => dp_w (v7 - y5) (fun y10 => dp_w (v9 + (1 : Int32)) (fun y11 => D_X8_spread_15_a xs xl d v1 v2 v3 v5 y9 y10 y11 r2 y5 M8)))))) else (some (.inl (some (.int (0 : Int32))), M3))))))))) := by
  have hF := dp_den_grow (md := true) (xs := xs) (xl := xl) d
  unfold D_X8_spread_15
  refine dp_s1 hF (i := .iload 9) rfl (fun _ => rfl) ?_
  refine dp_s1 hF (i := .aload_n 0) rfl (fun _ => rfl) ?_
  refine dp_s1 hF (i := .getfield 11) rfl (fun _ => rfl) ?_
  refine dp_s1 hF (i := .iload_n 2) rfl (fun _ => rfl) ?_
  refine dp_s3 hF (i := .iaload) rfl (fun _ => rfl) ?_
  refine dp_s2 hF (i := .if_icmp .ge 93) (a := (116, [some (.ref 90), some (.int v1), some (.int v2), some (.long v3), none, some (.int v5), some (.int v6), some (.long v7), none, some (.int v9), none, none, none], [], M)) (b := (26, [some (.ref 90), some (.int v1), some (.int v2), some (.long v3), none, some (.int v5), some (.int v6), some (.long v7), none, some (.int v9), none, none, none], [], M)) rfl (fun _ => rfl) ?_ ?_
  · exact rfl
  refine dp_s1 hF (i := .lload 7) rfl (fun _ => rfl) ?_
  refine dp_s1 hF (i := .lconst 0) rfl (fun _ => rfl) ?_
  refine dp_s1 hF (i := .lcmp) rfl (fun _ => rfl) ?_
  refine dp_s2 hF (i := .ifCond .le 86) (a := (116, [some (.ref 90), some (.int v1), some (.int v2), some (.long v3), none, some (.int v5), some (.int v6), some (.long v7), none, some (.int v9), none, none, none], [], M)) (b := (33, [some (.ref 90), some (.int v1), some (.int v2), some (.long v3), none, some (.int v5), some (.int v6), some (.long v7), none, some (.int v9), none, none, none], [], M)) rfl (fun _ => rfl) ?_ ?_
  · exact rfl
  refine dp_s1 hF (i := .aload_n 0) rfl (fun _ => rfl) ?_
  refine dp_s1 hF (i := .iload_n 2) rfl (fun _ => rfl) ?_
  refine dp_s1 hF (i := .iload 9) rfl (fun _ => rfl) ?_
  refine dp_si (mj := dp_m_X8_inTurn) (i := .invokevirtual 69) rfl rfl (Or.inl rfl) rfl (fun _ => rfl) (fun r2 M1 => ?_)
  refine dp_s1 hF (i := .istore 10) rfl (fun _ => rfl) ?_
  refine dp_s1 hF (i := .lload 7) rfl (fun _ => rfl) ?_
  refine dp_s1 hF (i := .aload_n 0) rfl (fun _ => rfl) ?_
  refine dp_s1 hF (i := .iload 10) rfl (fun _ => rfl) ?_
  refine dp_sl9 (mj := dp_m_X8_mayCover) (i := .invokevirtual 73) rfl rfl rfl rfl (fun _ => rfl) (fun r4 M3 => ?_)
  refine dp_s1 hF (i := .invokestatic 78) rfl (fun _ => rfl) ?_
  refine dp_s1w (if r4 < v7 then r4 else v7) (fun (y5 : Int64) => (55, [some (.ref 90), some (.int v1), some (.int v2), some (.long v3), none, some (.int v5), some (.int v6), some (.long v7), none, some (.int v9), some (.int r2), some (.long y5), none], [], M3)) hF (i := .lstore 11) rfl (fun _ => rfl) (fun y5 => ?_)
  refine dp_s1 hF (i := .lload 11) rfl (fun _ => rfl) ?_
  refine dp_s1 hF (i := .lconst 0) rfl (fun _ => rfl) ?_
  refine dp_s1 hF (i := .lcmp) rfl (fun _ => rfl) ?_
  refine dp_s2 hF (i := .ifCond .le 51) (a := (110, [some (.ref 90), some (.int v1), some (.int v2), some (.long v3), none, some (.int v5), some (.int v6), some (.long v7), none, some (.int v9), some (.int r2), some (.long y5), none], [], M3)) (b := (62, [some (.ref 90), some (.int v1), some (.int v2), some (.long v3), none, some (.int v5), some (.int v6), some (.long v7), none, some (.int v9), some (.int r2), some (.long y5), none], [], M3)) rfl (fun _ => rfl) ?_ ?_
  · refine dp_s1w (v9 + (1 : Int32)) (fun (y6 : Int32) => (113, [some (.ref 90), some (.int v1), some (.int v2), some (.long v3), none, some (.int v5), some (.int v6), some (.long v7), none, some (.int y6), some (.int r2), some (.long y5), none], [], M3)) hF (i := .iinc 9 1) rfl (fun _ => rfl) (fun y6 => ?_)
    refine dp_s1 hF (i := .goto (-98)) rfl (fun _ => rfl) ?_
    exact rfl
  refine dp_s1 hF (i := .iload 6) rfl (fun _ => rfl) ?_
  refine dp_s1 hF (i := .iconst 4) rfl (fun _ => rfl) ?_
  refine dp_s2 hF (i := .if_icmp .lt 5) (a := (70, [some (.ref 90), some (.int v1), some (.int v2), some (.long v3), none, some (.int v5), some (.int v6), some (.long v7), none, some (.int v9), some (.int r2), some (.long y5), none], [], M3)) (b := (68, [some (.ref 90), some (.int v1), some (.int v2), some (.long v3), none, some (.int v5), some (.int v6), some (.long v7), none, some (.int v9), some (.int r2), some (.long y5), none], [], M3)) rfl (fun _ => rfl) ?_ ?_
  · refine dp_s1 hF (i := .aload_n 0) rfl (fun _ => rfl) ?_
    refine dp_s1 hF (i := .getfield 31) rfl (fun _ => rfl) ?_
    refine dp_s1 hF (i := .iload 5) rfl (fun _ => rfl) ?_
    refine dp_s1 hF (i := .iconst 4) rfl (fun _ => rfl) ?_
    refine dp_s1 hF (i := .iadd) rfl (fun _ => rfl) ?_
    refine dp_s1 hF (i := .iload 6) rfl (fun _ => rfl) ?_
    refine dp_s1 hF (i := .iadd) rfl (fun _ => rfl) ?_
    refine dp_s1 hF (i := .iload 10) rfl (fun _ => rfl) ?_
    refine dp_s1 hF (i := .i2l) rfl (fun _ => rfl) ?_
    refine dp_s3w (dp_setJ M3 96 (Int32.toNatClampNeg ((v5 + (4 : Int32)) + v6)) (Int32.toInt64 r2)) (fun (M7 : dp_M) => (85, [some (.ref 90), some (.int v1), some (.int v2), some (.long v3), none, some (.int v5), some (.int v6), some (.long v7), none, some (.int v9), some (.int r2), some (.long y5), none], [], M7)) hF (i := .lastore) rfl (fun _ => rfl) (fun M7 => ?_)
    refine dp_s1 hF (i := .aload_n 0) rfl (fun _ => rfl) ?_
    refine dp_s1 hF (i := .getfield 31) rfl (fun _ => rfl) ?_
    refine dp_s1 hF (i := .iload 5) rfl (fun _ => rfl) ?_
    refine dp_s1 hF (i := .bipush 8) rfl (fun _ => rfl) ?_
    refine dp_s1 hF (i := .iadd) rfl (fun _ => rfl) ?_
    refine dp_s1 hF (i := .iload 6) rfl (fun _ => rfl) ?_
    refine dp_s1 hF (i := .iadd) rfl (fun _ => rfl) ?_
    refine dp_s1 hF (i := .lload 11) rfl (fun _ => rfl) ?_
    refine dp_s3w (dp_setJ M7 96 (Int32.toNatClampNeg ((v5 + (8 : Int32)) + v6)) y5) (fun (M8 : dp_M) => (100, [some (.ref 90), some (.int v1), some (.int v2), some (.long v3), none, some (.int v5), some (.int v6), some (.long v7), none, some (.int v9), some (.int r2), some (.long y5), none], [], M8)) hF (i := .lastore) rfl (fun _ => rfl) (fun M8 => ?_)
    refine dp_s1w (v6 + (1 : Int32)) (fun (y9 : Int32) => (103, [some (.ref 90), some (.int v1), some (.int v2), some (.long v3), none, some (.int v5), some (.int y9), some (.long v7), none, some (.int v9), some (.int r2), some (.long y5), none], [], M8)) hF (i := .iinc 6 1) rfl (fun _ => rfl) (fun y9 => ?_)
    refine dp_s1 hF (i := .lload 7) rfl (fun _ => rfl) ?_
    refine dp_s1 hF (i := .lload 11) rfl (fun _ => rfl) ?_
    refine dp_s1 hF (i := .lsub) rfl (fun _ => rfl) ?_
    refine dp_s1w (v7 - y5) (fun (y10 : Int64) => (110, [some (.ref 90), some (.int v1), some (.int v2), some (.long v3), none, some (.int v5), some (.int y9), some (.long y10), none, some (.int v9), some (.int r2), some (.long y5), none], [], M8)) hF (i := .lstore 7) rfl (fun _ => rfl) (fun y10 => ?_)
    refine dp_s1w (v9 + (1 : Int32)) (fun (y11 : Int32) => (113, [some (.ref 90), some (.int v1), some (.int v2), some (.long v3), none, some (.int v5), some (.int y9), some (.long y10), none, some (.int y11), some (.int r2), some (.long y5), none], [], M8)) hF (i := .iinc 9 1) rfl (fun _ => rfl) (fun y11 => ?_)
    refine dp_s1 hF (i := .goto (-98)) rfl (fun _ => rfl) ?_
    exact rfl
  refine dp_s1 hF (i := .iconst 0) rfl (fun _ => rfl) ?_
  exact dp_s0 hF (i := .ireturn) rfl (fun _ => rfl)
set_option maxRecDepth 20000 in
theorem D_X8_spread_116_eq (xs : Nat → Int32) (xl d : Nat) (v1 : Int32) (v2 : Int32) (v3 : Int64) (v5 : Int32) (v6 : Int32) (v7 : Int64) (v9 : Int32) (M : dp_M) : D_X8_spread_116 xs xl d v1 v2 v3 v5 v6 v7 v9 M = if v5 < 0 ∨ 4812 ≤ Int32.toNatClampNeg v5 then none else dp_w (dp_setJ M 96 (Int32.toNatClampNeg v5) (Int32.toInt64 v2)) (fun M1 => if (v5 + (1 : Int32)) < 0 ∨ 4812 ≤ Int32.toNatClampNeg (v5 + (1 : Int32)) then none else dp_w (dp_setJ M1 96 (Int32.toNatClampNeg (v5 + (1 : Int32))) v3) (fun M2 => if (v5 + (2 : Int32)) < 0 ∨ 4812 ≤ Int32.toNatClampNeg (v5 + (2 : Int32)) then none else dp_w (dp_setJ M2 96 (Int32.toNatClampNeg (v5 + (2 : Int32))) (0 : Int64)) (fun M3 => if (v5 + (3 : Int32)) < 0 ∨ 4812 ≤ Int32.toNatClampNeg (v5 + (3 : Int32)) then none else dp_w (dp_setJ M3 96 (Int32.toNatClampNeg (v5 + (3 : Int32))) (Int32.toInt64 v6)) (fun M4 => if (lg_cmp v7 (0 : Int64)) = 0 then (some (.inl (some (.int (1 : Int32))), M4)) else (some (.inl (some (.int (0 : Int32))), M4)))))) := by
  have hF := dp_den_grow (md := true) (xs := xs) (xl := xl) d
  unfold D_X8_spread_116
  refine dp_s1 hF (i := .aload_n 0) rfl (fun _ => rfl) ?_
  refine dp_s1 hF (i := .getfield 31) rfl (fun _ => rfl) ?_
  refine dp_s1 hF (i := .iload 5) rfl (fun _ => rfl) ?_
  refine dp_s1 hF (i := .iload_n 2) rfl (fun _ => rfl) ?_
  refine dp_s1 hF (i := .i2l) rfl (fun _ => rfl) ?_
  refine dp_s3w (dp_setJ M 96 (Int32.toNatClampNeg v5) (Int32.toInt64 v2)) (fun (M1 : dp_M) => (125, [some (.ref 90), some (.int v1), some (.int v2), some (.long v3), none, some (.int v5), some (.int v6), some (.long v7), none, some (.int v9), none, none, none], [], M1)) hF (i := .lastore) rfl (fun _ => rfl) (fun M1 => ?_)
  refine dp_s1 hF (i := .aload_n 0) rfl (fun _ => rfl) ?_
  refine dp_s1 hF (i := .getfield 31) rfl (fun _ => rfl) ?_
  refine dp_s1 hF (i := .iload 5) rfl (fun _ => rfl) ?_
  refine dp_s1 hF (i := .iconst 1) rfl (fun _ => rfl) ?_
  refine dp_s1 hF (i := .iadd) rfl (fun _ => rfl) ?_
  refine dp_s1 hF (i := .lload_n 3) rfl (fun _ => rfl) ?_
  refine dp_s3w (dp_setJ M1 96 (Int32.toNatClampNeg (v5 + (1 : Int32))) v3) (fun (M2 : dp_M) => (135, [some (.ref 90), some (.int v1), some (.int v2), some (.long v3), none, some (.int v5), some (.int v6), some (.long v7), none, some (.int v9), none, none, none], [], M2)) hF (i := .lastore) rfl (fun _ => rfl) (fun M2 => ?_)
  refine dp_s1 hF (i := .aload_n 0) rfl (fun _ => rfl) ?_
  refine dp_s1 hF (i := .getfield 31) rfl (fun _ => rfl) ?_
  refine dp_s1 hF (i := .iload 5) rfl (fun _ => rfl) ?_
  refine dp_s1 hF (i := .iconst 2) rfl (fun _ => rfl) ?_
  refine dp_s1 hF (i := .iadd) rfl (fun _ => rfl) ?_
  refine dp_s1 hF (i := .lconst 0) rfl (fun _ => rfl) ?_
  refine dp_s3w (dp_setJ M2 96 (Int32.toNatClampNeg (v5 + (2 : Int32))) (0 : Int64)) (fun (M3 : dp_M) => (145, [some (.ref 90), some (.int v1), some (.int v2), some (.long v3), none, some (.int v5), some (.int v6), some (.long v7), none, some (.int v9), none, none, none], [], M3)) hF (i := .lastore) rfl (fun _ => rfl) (fun M3 => ?_)
  refine dp_s1 hF (i := .aload_n 0) rfl (fun _ => rfl) ?_
  refine dp_s1 hF (i := .getfield 31) rfl (fun _ => rfl) ?_
  refine dp_s1 hF (i := .iload 5) rfl (fun _ => rfl) ?_
  refine dp_s1 hF (i := .iconst 3) rfl (fun _ => rfl) ?_
  refine dp_s1 hF (i := .iadd) rfl (fun _ => rfl) ?_
  refine dp_s1 hF (i := .iload 6) rfl (fun _ => rfl) ?_
  refine dp_s1 hF (i := .i2l) rfl (fun _ => rfl) ?_
  refine dp_s3w (dp_setJ M3 96 (Int32.toNatClampNeg (v5 + (3 : Int32))) (Int32.toInt64 v6)) (fun (M4 : dp_M) => (157, [some (.ref 90), some (.int v1), some (.int v2), some (.long v3), none, some (.int v5), some (.int v6), some (.long v7), none, some (.int v9), none, none, none], [], M4)) hF (i := .lastore) rfl (fun _ => rfl) (fun M4 => ?_)
  refine dp_s1 hF (i := .lload 7) rfl (fun _ => rfl) ?_
  refine dp_s1 hF (i := .lconst 0) rfl (fun _ => rfl) ?_
  refine dp_s1 hF (i := .lcmp) rfl (fun _ => rfl) ?_
  refine dp_s2 hF (i := .ifCond .ne 7) (a := (164, [some (.ref 90), some (.int v1), some (.int v2), some (.long v3), none, some (.int v5), some (.int v6), some (.long v7), none, some (.int v9), none, none, none], [], M4)) (b := (168, [some (.ref 90), some (.int v1), some (.int v2), some (.long v3), none, some (.int v5), some (.int v6), some (.long v7), none, some (.int v9), none, none, none], [], M4)) rfl (fun _ => rfl) ?_ ?_
  · refine dp_s1 hF (i := .iconst 1) rfl (fun _ => rfl) ?_
    refine dp_s1 hF (i := .goto 4) rfl (fun _ => rfl) ?_
    exact dp_s0 hF (i := .ireturn) rfl (fun _ => rfl)
  refine dp_s1 hF (i := .iconst 0) rfl (fun _ => rfl) ?_
  exact dp_s0 hF (i := .ireturn) rfl (fun _ => rfl)
set_option maxRecDepth 20000 in
theorem D_X8_spread_15_a_eq (xs : Nat → Int32) (xl d : Nat) (v1 : Int32) (v2 : Int32) (v3 : Int64) (v5 : Int32) (v6 : Int32) (v7 : Int64) (v9 : Int32) (v10 : Int32) (v11 : Int64) (M : dp_M) : D_X8_spread_15_a xs xl d v1 v2 v3 v5 v6 v7 v9 v10 v11 M = if v2 < 0 ∨ 8 ≤ Int32.toNatClampNeg v2 then none else (if (dp_I M 91 (Int32.toNatClampNeg v2)) ≤ v9 then (D_X8_spread_116_a xs xl d v1 v2 v3 v5 v6 v7 v9 v10 v11 M) else (if (lg_cmp v7 (0 : Int64)) ≤ 0 then (D_X8_spread_116_a xs xl d v1 v2 v3 v5 v6 v7 v9 v10 v11 M) else (dp_bi (dp_den true xs xl d 186 [.ref 90, .int v2, .int v9] M) (fun r2 M1 => dp_bl (dp_den true xs xl d 194 [.ref 90, .int r2] M1) (fun r4 M3 => dp_w (if r4 < v7 then r4 else v7) (fun y5 => if (lg_cmp y5 (0 : Int64)) ≤ 0 then (dp_w (v9 + (1 : Int32)) (fun y6 => D_X8_spread_15_a xs xl d v1 v2 v3 v5 v6 v7 y6 r2 y5 M3)) else (if v6 < (4 : Int32) then (if ((v5 + (4 : Int32)) + v6) < 0 ∨ 4812 ≤ Int32.toNatClampNeg ((v5 + (4 : Int32)) + v6) then none else dp_w (dp_setJ M3 96 (Int32.toNatClampNeg ((v5 + (4 : Int32)) + v6)) (Int32.toInt64 r2)) (fun M7 => if ((v5 + (8 : Int32)) + v6) < 0 ∨ 4812 ≤ Int32.toNatClampNeg ((v5 + (8 : Int32)) + v6) then none else dp_w (dp_setJ M7 96 (Int32.toNatClampNeg ((v5 + (8 : Int32)) + v6)) y5) (fun M8 => dp_w (v6 + (1 : Int32)) (fun y9 => dp_w (v7 - y5) (fun y10 => dp_w (v9 + (1 : Int32)) (fun y11 => D_X8_spread_15_a xs xl d v1 v2 v3 v5 y9 y10 y11 r2 y5 M8)))))) else (some (.inl (some (.int (0 : Int32))), M3))))))))) := by
  have hF := dp_den_grow (md := true) (xs := xs) (xl := xl) d
  unfold D_X8_spread_15_a
  refine dp_s1 hF (i := .iload 9) rfl (fun _ => rfl) ?_
  refine dp_s1 hF (i := .aload_n 0) rfl (fun _ => rfl) ?_
  refine dp_s1 hF (i := .getfield 11) rfl (fun _ => rfl) ?_
  refine dp_s1 hF (i := .iload_n 2) rfl (fun _ => rfl) ?_
  refine dp_s3 hF (i := .iaload) rfl (fun _ => rfl) ?_
  refine dp_s2 hF (i := .if_icmp .ge 93) (a := (116, [some (.ref 90), some (.int v1), some (.int v2), some (.long v3), none, some (.int v5), some (.int v6), some (.long v7), none, some (.int v9), some (.int v10), some (.long v11), none], [], M)) (b := (26, [some (.ref 90), some (.int v1), some (.int v2), some (.long v3), none, some (.int v5), some (.int v6), some (.long v7), none, some (.int v9), some (.int v10), some (.long v11), none], [], M)) rfl (fun _ => rfl) ?_ ?_
  · exact rfl
  refine dp_s1 hF (i := .lload 7) rfl (fun _ => rfl) ?_
  refine dp_s1 hF (i := .lconst 0) rfl (fun _ => rfl) ?_
  refine dp_s1 hF (i := .lcmp) rfl (fun _ => rfl) ?_
  refine dp_s2 hF (i := .ifCond .le 86) (a := (116, [some (.ref 90), some (.int v1), some (.int v2), some (.long v3), none, some (.int v5), some (.int v6), some (.long v7), none, some (.int v9), some (.int v10), some (.long v11), none], [], M)) (b := (33, [some (.ref 90), some (.int v1), some (.int v2), some (.long v3), none, some (.int v5), some (.int v6), some (.long v7), none, some (.int v9), some (.int v10), some (.long v11), none], [], M)) rfl (fun _ => rfl) ?_ ?_
  · exact rfl
  refine dp_s1 hF (i := .aload_n 0) rfl (fun _ => rfl) ?_
  refine dp_s1 hF (i := .iload_n 2) rfl (fun _ => rfl) ?_
  refine dp_s1 hF (i := .iload 9) rfl (fun _ => rfl) ?_
  refine dp_si (mj := dp_m_X8_inTurn) (i := .invokevirtual 69) rfl rfl (Or.inl rfl) rfl (fun _ => rfl) (fun r2 M1 => ?_)
  refine dp_s1 hF (i := .istore 10) rfl (fun _ => rfl) ?_
  refine dp_s1 hF (i := .lload 7) rfl (fun _ => rfl) ?_
  refine dp_s1 hF (i := .aload_n 0) rfl (fun _ => rfl) ?_
  refine dp_s1 hF (i := .iload 10) rfl (fun _ => rfl) ?_
  refine dp_sl9 (mj := dp_m_X8_mayCover) (i := .invokevirtual 73) rfl rfl rfl rfl (fun _ => rfl) (fun r4 M3 => ?_)
  refine dp_s1 hF (i := .invokestatic 78) rfl (fun _ => rfl) ?_
  refine dp_s1w (if r4 < v7 then r4 else v7) (fun (y5 : Int64) => (55, [some (.ref 90), some (.int v1), some (.int v2), some (.long v3), none, some (.int v5), some (.int v6), some (.long v7), none, some (.int v9), some (.int r2), some (.long y5), none], [], M3)) hF (i := .lstore 11) rfl (fun _ => rfl) (fun y5 => ?_)
  refine dp_s1 hF (i := .lload 11) rfl (fun _ => rfl) ?_
  refine dp_s1 hF (i := .lconst 0) rfl (fun _ => rfl) ?_
  refine dp_s1 hF (i := .lcmp) rfl (fun _ => rfl) ?_
  refine dp_s2 hF (i := .ifCond .le 51) (a := (110, [some (.ref 90), some (.int v1), some (.int v2), some (.long v3), none, some (.int v5), some (.int v6), some (.long v7), none, some (.int v9), some (.int r2), some (.long y5), none], [], M3)) (b := (62, [some (.ref 90), some (.int v1), some (.int v2), some (.long v3), none, some (.int v5), some (.int v6), some (.long v7), none, some (.int v9), some (.int r2), some (.long y5), none], [], M3)) rfl (fun _ => rfl) ?_ ?_
  · refine dp_s1w (v9 + (1 : Int32)) (fun (y6 : Int32) => (113, [some (.ref 90), some (.int v1), some (.int v2), some (.long v3), none, some (.int v5), some (.int v6), some (.long v7), none, some (.int y6), some (.int r2), some (.long y5), none], [], M3)) hF (i := .iinc 9 1) rfl (fun _ => rfl) (fun y6 => ?_)
    refine dp_s1 hF (i := .goto (-98)) rfl (fun _ => rfl) ?_
    exact rfl
  refine dp_s1 hF (i := .iload 6) rfl (fun _ => rfl) ?_
  refine dp_s1 hF (i := .iconst 4) rfl (fun _ => rfl) ?_
  refine dp_s2 hF (i := .if_icmp .lt 5) (a := (70, [some (.ref 90), some (.int v1), some (.int v2), some (.long v3), none, some (.int v5), some (.int v6), some (.long v7), none, some (.int v9), some (.int r2), some (.long y5), none], [], M3)) (b := (68, [some (.ref 90), some (.int v1), some (.int v2), some (.long v3), none, some (.int v5), some (.int v6), some (.long v7), none, some (.int v9), some (.int r2), some (.long y5), none], [], M3)) rfl (fun _ => rfl) ?_ ?_
  · refine dp_s1 hF (i := .aload_n 0) rfl (fun _ => rfl) ?_
    refine dp_s1 hF (i := .getfield 31) rfl (fun _ => rfl) ?_
    refine dp_s1 hF (i := .iload 5) rfl (fun _ => rfl) ?_
    refine dp_s1 hF (i := .iconst 4) rfl (fun _ => rfl) ?_
    refine dp_s1 hF (i := .iadd) rfl (fun _ => rfl) ?_
    refine dp_s1 hF (i := .iload 6) rfl (fun _ => rfl) ?_
    refine dp_s1 hF (i := .iadd) rfl (fun _ => rfl) ?_
    refine dp_s1 hF (i := .iload 10) rfl (fun _ => rfl) ?_
    refine dp_s1 hF (i := .i2l) rfl (fun _ => rfl) ?_
    refine dp_s3w (dp_setJ M3 96 (Int32.toNatClampNeg ((v5 + (4 : Int32)) + v6)) (Int32.toInt64 r2)) (fun (M7 : dp_M) => (85, [some (.ref 90), some (.int v1), some (.int v2), some (.long v3), none, some (.int v5), some (.int v6), some (.long v7), none, some (.int v9), some (.int r2), some (.long y5), none], [], M7)) hF (i := .lastore) rfl (fun _ => rfl) (fun M7 => ?_)
    refine dp_s1 hF (i := .aload_n 0) rfl (fun _ => rfl) ?_
    refine dp_s1 hF (i := .getfield 31) rfl (fun _ => rfl) ?_
    refine dp_s1 hF (i := .iload 5) rfl (fun _ => rfl) ?_
    refine dp_s1 hF (i := .bipush 8) rfl (fun _ => rfl) ?_
    refine dp_s1 hF (i := .iadd) rfl (fun _ => rfl) ?_
    refine dp_s1 hF (i := .iload 6) rfl (fun _ => rfl) ?_
    refine dp_s1 hF (i := .iadd) rfl (fun _ => rfl) ?_
    refine dp_s1 hF (i := .lload 11) rfl (fun _ => rfl) ?_
    refine dp_s3w (dp_setJ M7 96 (Int32.toNatClampNeg ((v5 + (8 : Int32)) + v6)) y5) (fun (M8 : dp_M) => (100, [some (.ref 90), some (.int v1), some (.int v2), some (.long v3), none, some (.int v5), some (.int v6), some (.long v7), none, some (.int v9), some (.int r2), some (.long y5), none], [], M8)) hF (i := .lastore) rfl (fun _ => rfl) (fun M8 => ?_)
    refine dp_s1w (v6 + (1 : Int32)) (fun (y9 : Int32) => (103, [some (.ref 90), some (.int v1), some (.int v2), some (.long v3), none, some (.int v5), some (.int y9), some (.long v7), none, some (.int v9), some (.int r2), some (.long y5), none], [], M8)) hF (i := .iinc 6 1) rfl (fun _ => rfl) (fun y9 => ?_)
    refine dp_s1 hF (i := .lload 7) rfl (fun _ => rfl) ?_
    refine dp_s1 hF (i := .lload 11) rfl (fun _ => rfl) ?_
    refine dp_s1 hF (i := .lsub) rfl (fun _ => rfl) ?_
    refine dp_s1w (v7 - y5) (fun (y10 : Int64) => (110, [some (.ref 90), some (.int v1), some (.int v2), some (.long v3), none, some (.int v5), some (.int y9), some (.long y10), none, some (.int v9), some (.int r2), some (.long y5), none], [], M8)) hF (i := .lstore 7) rfl (fun _ => rfl) (fun y10 => ?_)
    refine dp_s1w (v9 + (1 : Int32)) (fun (y11 : Int32) => (113, [some (.ref 90), some (.int v1), some (.int v2), some (.long v3), none, some (.int v5), some (.int y9), some (.long y10), none, some (.int y11), some (.int r2), some (.long y5), none], [], M8)) hF (i := .iinc 9 1) rfl (fun _ => rfl) (fun y11 => ?_)
    refine dp_s1 hF (i := .goto (-98)) rfl (fun _ => rfl) ?_
    exact rfl
  refine dp_s1 hF (i := .iconst 0) rfl (fun _ => rfl) ?_
  exact dp_s0 hF (i := .ireturn) rfl (fun _ => rfl)
set_option maxRecDepth 20000 in
theorem D_X8_spread_116_a_eq (xs : Nat → Int32) (xl d : Nat) (v1 : Int32) (v2 : Int32) (v3 : Int64) (v5 : Int32) (v6 : Int32) (v7 : Int64) (v9 : Int32) (v10 : Int32) (v11 : Int64) (M : dp_M) : D_X8_spread_116_a xs xl d v1 v2 v3 v5 v6 v7 v9 v10 v11 M = if v5 < 0 ∨ 4812 ≤ Int32.toNatClampNeg v5 then none else dp_w (dp_setJ M 96 (Int32.toNatClampNeg v5) (Int32.toInt64 v2)) (fun M1 => if (v5 + (1 : Int32)) < 0 ∨ 4812 ≤ Int32.toNatClampNeg (v5 + (1 : Int32)) then none else dp_w (dp_setJ M1 96 (Int32.toNatClampNeg (v5 + (1 : Int32))) v3) (fun M2 => if (v5 + (2 : Int32)) < 0 ∨ 4812 ≤ Int32.toNatClampNeg (v5 + (2 : Int32)) then none else dp_w (dp_setJ M2 96 (Int32.toNatClampNeg (v5 + (2 : Int32))) (0 : Int64)) (fun M3 => if (v5 + (3 : Int32)) < 0 ∨ 4812 ≤ Int32.toNatClampNeg (v5 + (3 : Int32)) then none else dp_w (dp_setJ M3 96 (Int32.toNatClampNeg (v5 + (3 : Int32))) (Int32.toInt64 v6)) (fun M4 => if (lg_cmp v7 (0 : Int64)) = 0 then (some (.inl (some (.int (1 : Int32))), M4)) else (some (.inl (some (.int (0 : Int32))), M4)))))) := by
  have hF := dp_den_grow (md := true) (xs := xs) (xl := xl) d
  unfold D_X8_spread_116_a
  refine dp_s1 hF (i := .aload_n 0) rfl (fun _ => rfl) ?_
  refine dp_s1 hF (i := .getfield 31) rfl (fun _ => rfl) ?_
  refine dp_s1 hF (i := .iload 5) rfl (fun _ => rfl) ?_
  refine dp_s1 hF (i := .iload_n 2) rfl (fun _ => rfl) ?_
  refine dp_s1 hF (i := .i2l) rfl (fun _ => rfl) ?_
  refine dp_s3w (dp_setJ M 96 (Int32.toNatClampNeg v5) (Int32.toInt64 v2)) (fun (M1 : dp_M) => (125, [some (.ref 90), some (.int v1), some (.int v2), some (.long v3), none, some (.int v5), some (.int v6), some (.long v7), none, some (.int v9), some (.int v10), some (.long v11), none], [], M1)) hF (i := .lastore) rfl (fun _ => rfl) (fun M1 => ?_)
  refine dp_s1 hF (i := .aload_n 0) rfl (fun _ => rfl) ?_
  refine dp_s1 hF (i := .getfield 31) rfl (fun _ => rfl) ?_
  refine dp_s1 hF (i := .iload 5) rfl (fun _ => rfl) ?_
  refine dp_s1 hF (i := .iconst 1) rfl (fun _ => rfl) ?_
  refine dp_s1 hF (i := .iadd) rfl (fun _ => rfl) ?_
  refine dp_s1 hF (i := .lload_n 3) rfl (fun _ => rfl) ?_
  refine dp_s3w (dp_setJ M1 96 (Int32.toNatClampNeg (v5 + (1 : Int32))) v3) (fun (M2 : dp_M) => (135, [some (.ref 90), some (.int v1), some (.int v2), some (.long v3), none, some (.int v5), some (.int v6), some (.long v7), none, some (.int v9), some (.int v10), some (.long v11), none], [], M2)) hF (i := .lastore) rfl (fun _ => rfl) (fun M2 => ?_)
  refine dp_s1 hF (i := .aload_n 0) rfl (fun _ => rfl) ?_
  refine dp_s1 hF (i := .getfield 31) rfl (fun _ => rfl) ?_
  refine dp_s1 hF (i := .iload 5) rfl (fun _ => rfl) ?_
  refine dp_s1 hF (i := .iconst 2) rfl (fun _ => rfl) ?_
  refine dp_s1 hF (i := .iadd) rfl (fun _ => rfl) ?_
  refine dp_s1 hF (i := .lconst 0) rfl (fun _ => rfl) ?_
  refine dp_s3w (dp_setJ M2 96 (Int32.toNatClampNeg (v5 + (2 : Int32))) (0 : Int64)) (fun (M3 : dp_M) => (145, [some (.ref 90), some (.int v1), some (.int v2), some (.long v3), none, some (.int v5), some (.int v6), some (.long v7), none, some (.int v9), some (.int v10), some (.long v11), none], [], M3)) hF (i := .lastore) rfl (fun _ => rfl) (fun M3 => ?_)
  refine dp_s1 hF (i := .aload_n 0) rfl (fun _ => rfl) ?_
  refine dp_s1 hF (i := .getfield 31) rfl (fun _ => rfl) ?_
  refine dp_s1 hF (i := .iload 5) rfl (fun _ => rfl) ?_
  refine dp_s1 hF (i := .iconst 3) rfl (fun _ => rfl) ?_
  refine dp_s1 hF (i := .iadd) rfl (fun _ => rfl) ?_
  refine dp_s1 hF (i := .iload 6) rfl (fun _ => rfl) ?_
  refine dp_s1 hF (i := .i2l) rfl (fun _ => rfl) ?_
  refine dp_s3w (dp_setJ M3 96 (Int32.toNatClampNeg (v5 + (3 : Int32))) (Int32.toInt64 v6)) (fun (M4 : dp_M) => (157, [some (.ref 90), some (.int v1), some (.int v2), some (.long v3), none, some (.int v5), some (.int v6), some (.long v7), none, some (.int v9), some (.int v10), some (.long v11), none], [], M4)) hF (i := .lastore) rfl (fun _ => rfl) (fun M4 => ?_)
  refine dp_s1 hF (i := .lload 7) rfl (fun _ => rfl) ?_
  refine dp_s1 hF (i := .lconst 0) rfl (fun _ => rfl) ?_
  refine dp_s1 hF (i := .lcmp) rfl (fun _ => rfl) ?_
  refine dp_s2 hF (i := .ifCond .ne 7) (a := (164, [some (.ref 90), some (.int v1), some (.int v2), some (.long v3), none, some (.int v5), some (.int v6), some (.long v7), none, some (.int v9), some (.int v10), some (.long v11), none], [], M4)) (b := (168, [some (.ref 90), some (.int v1), some (.int v2), some (.long v3), none, some (.int v5), some (.int v6), some (.long v7), none, some (.int v9), some (.int v10), some (.long v11), none], [], M4)) rfl (fun _ => rfl) ?_ ?_
  · refine dp_s1 hF (i := .iconst 1) rfl (fun _ => rfl) ?_
    refine dp_s1 hF (i := .goto 4) rfl (fun _ => rfl) ?_
    exact dp_s0 hF (i := .ireturn) rfl (fun _ => rfl)
  refine dp_s1 hF (i := .iconst 0) rfl (fun _ => rfl) ?_
  exact dp_s0 hF (i := .ireturn) rfl (fun _ => rfl)
noncomputable def D_X8_guaranteeOf_0 (xs : Nat → Int32) (xl d : Nat) (v1 : Int32) (v2 : Int32) (M : dp_M) : Option dp_Res := dp_lim true xs xl (dp_den true xs xl d) dp_m_X8_guaranteeOf (0, [some (.ref 90), some (.int v1), some (.int v2)], [], M)
theorem D_X8_guaranteeOf_0_den (xs : Nat → Int32) (xl d : Nat) (a0 : Int32) (a1 : Int32) (M : dp_M) : dp_den true xs xl (d + 1) 202 [.ref 90, .int a0, .int a1] M = D_X8_guaranteeOf_0 xs xl d a0 a1 M := rfl
set_option maxRecDepth 20000 in
theorem D_X8_guaranteeOf_0_eq (xs : Nat → Int32) (xl d : Nat) (v1 : Int32) (v2 : Int32) (M : dp_M) : D_X8_guaranteeOf_0 xs xl d v1 v2 M = if (((v1 * (12 : Int32)) + (4 : Int32)) + v2) < 0 ∨ 4812 ≤ Int32.toNatClampNeg (((v1 * (12 : Int32)) + (4 : Int32)) + v2) then none else (some (.inl (some (.int (Int64.toInt32 (dp_J M 96 (Int32.toNatClampNeg (((v1 * (12 : Int32)) + (4 : Int32)) + v2)))))), M)) := by
  have hF := dp_den_grow (md := true) (xs := xs) (xl := xl) d
  unfold D_X8_guaranteeOf_0
  refine dp_s1 hF (i := .aload_n 0) rfl (fun _ => rfl) ?_
  refine dp_s1 hF (i := .getfield 31) rfl (fun _ => rfl) ?_
  refine dp_s1 hF (i := .iload_n 1) rfl (fun _ => rfl) ?_
  refine dp_s1 hF (i := .bipush 12) rfl (fun _ => rfl) ?_
  refine dp_s1 hF (i := .imul) rfl (fun _ => rfl) ?_
  refine dp_s1 hF (i := .iconst 4) rfl (fun _ => rfl) ?_
  refine dp_s1 hF (i := .iadd) rfl (fun _ => rfl) ?_
  refine dp_s1 hF (i := .iload_n 2) rfl (fun _ => rfl) ?_
  refine dp_s1 hF (i := .iadd) rfl (fun _ => rfl) ?_
  refine dp_s3 hF (i := .laload) rfl (fun _ => rfl) ?_
  refine dp_s1 hF (i := .l2i) rfl (fun _ => rfl) ?_
  exact dp_s0 hF (i := .ireturn) rfl (fun _ => rfl)
noncomputable def D_X8_coveredBy_0 (xs : Nat → Int32) (xl d : Nat) (v1 : Int32) (v2 : Int32) (M : dp_M) : Option dp_Res := dp_lim true xs xl (dp_den true xs xl d) dp_m_X8_coveredBy (0, [some (.ref 90), some (.int v1), some (.int v2)], [], M)
theorem D_X8_coveredBy_0_den (xs : Nat → Int32) (xl d : Nat) (a0 : Int32) (a1 : Int32) (M : dp_M) : dp_den true xs xl (d + 1) 203 [.ref 90, .int a0, .int a1] M = D_X8_coveredBy_0 xs xl d a0 a1 M := rfl
set_option maxRecDepth 20000 in
theorem D_X8_coveredBy_0_eq (xs : Nat → Int32) (xl d : Nat) (v1 : Int32) (v2 : Int32) (M : dp_M) : D_X8_coveredBy_0 xs xl d v1 v2 M = if (((v1 * (12 : Int32)) + (8 : Int32)) + v2) < 0 ∨ 4812 ≤ Int32.toNatClampNeg (((v1 * (12 : Int32)) + (8 : Int32)) + v2) then none else (some (.inl (some (.long (dp_J M 96 (Int32.toNatClampNeg (((v1 * (12 : Int32)) + (8 : Int32)) + v2))))), M)) := by
  have hF := dp_den_grow (md := true) (xs := xs) (xl := xl) d
  unfold D_X8_coveredBy_0
  refine dp_s1 hF (i := .aload_n 0) rfl (fun _ => rfl) ?_
  refine dp_s1 hF (i := .getfield 31) rfl (fun _ => rfl) ?_
  refine dp_s1 hF (i := .iload_n 1) rfl (fun _ => rfl) ?_
  refine dp_s1 hF (i := .bipush 12) rfl (fun _ => rfl) ?_
  refine dp_s1 hF (i := .imul) rfl (fun _ => rfl) ?_
  refine dp_s1 hF (i := .bipush 8) rfl (fun _ => rfl) ?_
  refine dp_s1 hF (i := .iadd) rfl (fun _ => rfl) ?_
  refine dp_s1 hF (i := .iload_n 2) rfl (fun _ => rfl) ?_
  refine dp_s1 hF (i := .iadd) rfl (fun _ => rfl) ?_
  refine dp_s3 hF (i := .laload) rfl (fun _ => rfl) ?_
  exact dp_s0 hF (i := .lreturn) rfl (fun _ => rfl)
noncomputable def D_X8_use_0 (xs : Nat → Int32) (xl d : Nat) (v1 : Int32) (v2 : Int32) (v3 : Int32) (M : dp_M) : Option dp_Res := dp_lim true xs xl (dp_den true xs xl d) dp_m_X8_use (0, [some (.ref 90), some (.int v1), some (.int v2), some (.int v3), none, none, none], [], M)
theorem D_X8_use_0_den (xs : Nat → Int32) (xl d : Nat) (a0 : Int32) (a1 : Int32) (a2 : Int32) (M : dp_M) : dp_den true xs xl (d + 1) 204 [.ref 90, .int a0, .int a1, .int a2] M = D_X8_use_0 xs xl d a0 a1 a2 M := rfl
set_option maxRecDepth 20000 in
theorem D_X8_use_0_eq (xs : Nat → Int32) (xl d : Nat) (v1 : Int32) (v2 : Int32) (v3 : Int32) (M : dp_M) : D_X8_use_0 xs xl d v1 v2 v3 M = dp_bi (dp_den true xs xl d 202 [.ref 90, .int v1, .int v2] M) (fun r2 M1 => dp_bl (dp_den true xs xl d 203 [.ref 90, .int v1, .int v2] M1) (fun r4 M3 => dp_bl (dp_den true xs xl d 192 [.ref 90, .int r2, .long r4] M3) (fun r6 M5 => dp_bl (dp_den true xs xl d 183 [.ref 90, .int r2, .int (2 : Int32)] M5) (fun r8 M7 => dp_bv (dp_den true xs xl d 184 [.ref 90, .int r2, .int (2 : Int32), .long (r8 + ((Int32.toInt64 v3) * r6))] M7) (fun M9 => dp_bl (dp_den true xs xl d 183 [.ref 90, .int r2, .int (5 : Int32)] M9) (fun r11 M10 => dp_bv (dp_den true xs xl d 184 [.ref 90, .int r2, .int (5 : Int32), .long (r11 + (Int32.toInt64 v3))] M10) (fun M12 => some (.inl none, M12)))))))) := by
  have hF := dp_den_grow (md := true) (xs := xs) (xl := xl) d
  unfold D_X8_use_0
  refine dp_s1 hF (i := .aload_n 0) rfl (fun _ => rfl) ?_
  refine dp_s1 hF (i := .iload_n 1) rfl (fun _ => rfl) ?_
  refine dp_s1 hF (i := .iload_n 2) rfl (fun _ => rfl) ?_
  refine dp_si (mj := dp_m_X8_guaranteeOf) (i := .invokevirtual 99) rfl rfl (Or.inl rfl) rfl (fun _ => rfl) (fun r2 M1 => ?_)
  refine dp_s1 hF (i := .istore 4) rfl (fun _ => rfl) ?_
  refine dp_s1 hF (i := .aload_n 0) rfl (fun _ => rfl) ?_
  refine dp_s1 hF (i := .iload 4) rfl (fun _ => rfl) ?_
  refine dp_s1 hF (i := .aload_n 0) rfl (fun _ => rfl) ?_
  refine dp_s1 hF (i := .iload_n 1) rfl (fun _ => rfl) ?_
  refine dp_s1 hF (i := .iload_n 2) rfl (fun _ => rfl) ?_
  refine dp_sl9 (mj := dp_m_X8_coveredBy) (i := .invokevirtual 102) rfl rfl rfl rfl (fun _ => rfl) (fun r4 M3 => ?_)
  refine dp_sl9 (mj := dp_m_X8_neededFor) (i := .invokevirtual 105) rfl rfl rfl rfl (fun _ => rfl) (fun r6 M5 => ?_)
  refine dp_s1 hF (i := .lstore 5) rfl (fun _ => rfl) ?_
  refine dp_s1 hF (i := .aload_n 0) rfl (fun _ => rfl) ?_
  refine dp_s1 hF (i := .iload 4) rfl (fun _ => rfl) ?_
  refine dp_s1 hF (i := .iconst 2) rfl (fun _ => rfl) ?_
  refine dp_s1 hF (i := .aload_n 0) rfl (fun _ => rfl) ?_
  refine dp_s1 hF (i := .iload 4) rfl (fun _ => rfl) ?_
  refine dp_s1 hF (i := .iconst 2) rfl (fun _ => rfl) ?_
  refine dp_sl9 (mj := dp_m_X8_get) (i := .invokevirtual 45) rfl rfl rfl rfl (fun _ => rfl) (fun r8 M7 => ?_)
  refine dp_s1 hF (i := .iload_n 3) rfl (fun _ => rfl) ?_
  refine dp_s1 hF (i := .i2l) rfl (fun _ => rfl) ?_
  refine dp_s1 hF (i := .lload 5) rfl (fun _ => rfl) ?_
  refine dp_s1 hF (i := .lmul) rfl (fun _ => rfl) ?_
  refine dp_s1 hF (i := .ladd) rfl (fun _ => rfl) ?_
  refine dp_sv (mj := dp_m_X8_set) (i := .invokevirtual 38) rfl rfl rfl rfl (fun _ => rfl) (fun M9 => ?_)
  refine dp_s1 hF (i := .aload_n 0) rfl (fun _ => rfl) ?_
  refine dp_s1 hF (i := .iload 4) rfl (fun _ => rfl) ?_
  refine dp_s1 hF (i := .iconst 5) rfl (fun _ => rfl) ?_
  refine dp_s1 hF (i := .aload_n 0) rfl (fun _ => rfl) ?_
  refine dp_s1 hF (i := .iload 4) rfl (fun _ => rfl) ?_
  refine dp_s1 hF (i := .iconst 5) rfl (fun _ => rfl) ?_
  refine dp_sl9 (mj := dp_m_X8_get) (i := .invokevirtual 45) rfl rfl rfl rfl (fun _ => rfl) (fun r11 M10 => ?_)
  refine dp_s1 hF (i := .iload_n 3) rfl (fun _ => rfl) ?_
  refine dp_s1 hF (i := .i2l) rfl (fun _ => rfl) ?_
  refine dp_s1 hF (i := .ladd) rfl (fun _ => rfl) ?_
  refine dp_sv (mj := dp_m_X8_set) (i := .invokevirtual 38) rfl rfl rfl rfl (fun _ => rfl) (fun M12 => ?_)
  exact dp_s0 hF (i := .return_) rfl (fun _ => rfl)
noncomputable def D_X8_claimableBy_0 (xs : Nat → Int32) (xl d : Nat) (v1 : Int32) (v2 : Int32) (M : dp_M) : Option dp_Res := dp_lim true xs xl (dp_den true xs xl d) dp_m_X8_claimableBy (0, [some (.ref 90), some (.int v1), some (.int v2)], [], M)
theorem D_X8_claimableBy_0_den (xs : Nat → Int32) (xl d : Nat) (a0 : Int32) (a1 : Int32) (M : dp_M) : dp_den true xs xl (d + 1) 205 [.ref 90, .int a0, .int a1] M = D_X8_claimableBy_0 xs xl d a0 a1 M := rfl
set_option maxRecDepth 20000 in
theorem D_X8_claimableBy_0_eq (xs : Nat → Int32) (xl d : Nat) (v1 : Int32) (v2 : Int32) (M : dp_M) : D_X8_claimableBy_0 xs xl d v1 v2 M = dp_bi (dp_den true xs xl d 202 [.ref 90, .int v1, .int v2] M) (fun r2 M1 => dp_bl (dp_den true xs xl d 183 [.ref 90, .int r2, .int (1 : Int32)] M1) (fun r4 M3 => dp_bl (dp_den true xs xl d 203 [.ref 90, .int v1, .int v2] M3) (fun r6 M5 => some (.inl (some (.long (if r6 < r4 then r6 else r4))), M5)))) := by
  have hF := dp_den_grow (md := true) (xs := xs) (xl := xl) d
  unfold D_X8_claimableBy_0
  refine dp_s1 hF (i := .aload_n 0) rfl (fun _ => rfl) ?_
  refine dp_s1 hF (i := .aload_n 0) rfl (fun _ => rfl) ?_
  refine dp_s1 hF (i := .iload_n 1) rfl (fun _ => rfl) ?_
  refine dp_s1 hF (i := .iload_n 2) rfl (fun _ => rfl) ?_
  refine dp_si (mj := dp_m_X8_guaranteeOf) (i := .invokevirtual 99) rfl rfl (Or.inl rfl) rfl (fun _ => rfl) (fun r2 M1 => ?_)
  refine dp_s1 hF (i := .iconst 1) rfl (fun _ => rfl) ?_
  refine dp_sl9 (mj := dp_m_X8_get) (i := .invokevirtual 45) rfl rfl rfl rfl (fun _ => rfl) (fun r4 M3 => ?_)
  refine dp_s1 hF (i := .aload_n 0) rfl (fun _ => rfl) ?_
  refine dp_s1 hF (i := .iload_n 1) rfl (fun _ => rfl) ?_
  refine dp_s1 hF (i := .iload_n 2) rfl (fun _ => rfl) ?_
  refine dp_sl9 (mj := dp_m_X8_coveredBy) (i := .invokevirtual 102) rfl rfl rfl rfl (fun _ => rfl) (fun r6 M5 => ?_)
  refine dp_s1 hF (i := .invokestatic 78) rfl (fun _ => rfl) ?_
  exact dp_s0 hF (i := .lreturn) rfl (fun _ => rfl)
noncomputable def D_X8_claimable_0 (xs : Nat → Int32) (xl d : Nat) (v1 : Int32) (M : dp_M) : Option dp_Res := dp_lim true xs xl (dp_den true xs xl d) dp_m_X8_claimable (0, [some (.ref 90), some (.int v1), none, none, none], [], M)
noncomputable def D_X8_claimable_5 (xs : Nat → Int32) (xl d : Nat) (v1 : Int32) (v2 : Int64) (v4 : Int32) (M : dp_M) : Option dp_Res := dp_lim true xs xl (dp_den true xs xl d) dp_m_X8_claimable (5, [some (.ref 90), some (.int v1), some (.long v2), none, some (.int v4)], [], M)
theorem D_X8_claimable_0_den (xs : Nat → Int32) (xl d : Nat) (a0 : Int32) (M : dp_M) : dp_den true xs xl (d + 1) 206 [.ref 90, .int a0] M = D_X8_claimable_0 xs xl d a0 M := rfl
set_option maxRecDepth 20000 in
theorem D_X8_claimable_0_eq (xs : Nat → Int32) (xl d : Nat) (v1 : Int32) (M : dp_M) : D_X8_claimable_0 xs xl d v1 M = dp_w (0 : Int64) (fun y1 => dp_w (0 : Int32) (fun y2 => D_X8_claimable_5 xs xl d v1 y1 y2 M)) := by
  have hF := dp_den_grow (md := true) (xs := xs) (xl := xl) d
  unfold D_X8_claimable_0
  refine dp_s1 hF (i := .lconst 0) rfl (fun _ => rfl) ?_
  refine dp_s1w (0 : Int64) (fun (y1 : Int64) => (2, [some (.ref 90), some (.int v1), some (.long y1), none, none], [], M)) hF (i := .lstore_n 2) rfl (fun _ => rfl) (fun y1 => ?_)
  refine dp_s1 hF (i := .iconst 0) rfl (fun _ => rfl) ?_
  refine dp_s1w (0 : Int32) (fun (y2 : Int32) => (5, [some (.ref 90), some (.int v1), some (.long y1), none, some (.int y2)], [], M)) hF (i := .istore 4) rfl (fun _ => rfl) (fun y2 => ?_)
  exact rfl
set_option maxRecDepth 20000 in
theorem D_X8_claimable_5_eq (xs : Nat → Int32) (xl d : Nat) (v1 : Int32) (v2 : Int64) (v4 : Int32) (M : dp_M) : D_X8_claimable_5 xs xl d v1 v2 v4 M = dp_bi (dp_den true xs xl d 199 [.ref 90, .int v1] M) (fun r2 M1 => if r2 ≤ v4 then (some (.inl (some (.long v2)), M1)) else (dp_bl (dp_den true xs xl d 205 [.ref 90, .int v1, .int v4] M1) (fun r4 M3 => dp_w (v2 + r4) (fun y5 => dp_w (v4 + (1 : Int32)) (fun y6 => D_X8_claimable_5 xs xl d v1 y5 y6 M3))))) := by
  have hF := dp_den_grow (md := true) (xs := xs) (xl := xl) d
  unfold D_X8_claimable_5
  refine dp_s1 hF (i := .iload 4) rfl (fun _ => rfl) ?_
  refine dp_s1 hF (i := .aload_n 0) rfl (fun _ => rfl) ?_
  refine dp_s1 hF (i := .iload_n 1) rfl (fun _ => rfl) ?_
  refine dp_si (mj := dp_m_X8_partsOf) (i := .invokevirtual 81) rfl rfl (Or.inl rfl) rfl (fun _ => rfl) (fun r2 M1 => ?_)
  refine dp_s2 hF (i := .if_icmp .ge 19) (a := (31, [some (.ref 90), some (.int v1), some (.long v2), none, some (.int v4)], [], M1)) (b := (15, [some (.ref 90), some (.int v1), some (.long v2), none, some (.int v4)], [], M1)) rfl (fun _ => rfl) ?_ ?_
  · refine dp_s1 hF (i := .lload_n 2) rfl (fun _ => rfl) ?_
    exact dp_s0 hF (i := .lreturn) rfl (fun _ => rfl)
  refine dp_s1 hF (i := .lload_n 2) rfl (fun _ => rfl) ?_
  refine dp_s1 hF (i := .aload_n 0) rfl (fun _ => rfl) ?_
  refine dp_s1 hF (i := .iload_n 1) rfl (fun _ => rfl) ?_
  refine dp_s1 hF (i := .iload 4) rfl (fun _ => rfl) ?_
  refine dp_sl9 (mj := dp_m_X8_claimableBy) (i := .invokevirtual 109) rfl rfl rfl rfl (fun _ => rfl) (fun r4 M3 => ?_)
  refine dp_s1 hF (i := .ladd) rfl (fun _ => rfl) ?_
  refine dp_s1w (v2 + r4) (fun (y5 : Int64) => (25, [some (.ref 90), some (.int v1), some (.long y5), none, some (.int v4)], [], M3)) hF (i := .lstore_n 2) rfl (fun _ => rfl) (fun y5 => ?_)
  refine dp_s1w (v4 + (1 : Int32)) (fun (y6 : Int32) => (28, [some (.ref 90), some (.int v1), some (.long y5), none, some (.int y6)], [], M3)) hF (i := .iinc 4 1) rfl (fun _ => rfl) (fun y6 => ?_)
  refine dp_s1 hF (i := .goto (-23)) rfl (fun _ => rfl) ?_
  exact rfl
noncomputable def D_X8_finish_0 (xs : Nat → Int32) (xl d : Nat) (v1 : Int32) (v2 : Int32) (M : dp_M) : Option dp_Res := dp_lim true xs xl (dp_den true xs xl d) dp_m_X8_finish (0, [some (.ref 90), some (.int v1), some (.int v2), none, none, none, none, none], [], M)
noncomputable def D_X8_finish_5 (xs : Nat → Int32) (xl d : Nat) (v1 : Int32) (v2 : Int32) (v3 : Int64) (v5 : Int32) (M : dp_M) : Option dp_Res := dp_lim true xs xl (dp_den true xs xl d) dp_m_X8_finish (5, [some (.ref 90), some (.int v1), some (.int v2), some (.long v3), none, some (.int v5), none, none], [], M)
noncomputable def D_X8_finish_5_a (xs : Nat → Int32) (xl d : Nat) (v1 : Int32) (v2 : Int32) (v3 : Int64) (v5 : Int32) (v6 : Int64) (M : dp_M) : Option dp_Res := dp_lim true xs xl (dp_den true xs xl d) dp_m_X8_finish (5, [some (.ref 90), some (.int v1), some (.int v2), some (.long v3), none, some (.int v5), some (.long v6), none], [], M)
theorem D_X8_finish_0_den (xs : Nat → Int32) (xl d : Nat) (a0 : Int32) (a1 : Int32) (M : dp_M) : dp_den true xs xl (d + 1) 207 [.ref 90, .int a0, .int a1] M = D_X8_finish_0 xs xl d a0 a1 M := rfl
set_option maxRecDepth 20000 in
theorem D_X8_finish_0_eq (xs : Nat → Int32) (xl d : Nat) (v1 : Int32) (v2 : Int32) (M : dp_M) : D_X8_finish_0 xs xl d v1 v2 M = dp_w (0 : Int64) (fun y1 => dp_w (0 : Int32) (fun y2 => D_X8_finish_5 xs xl d v1 v2 y1 y2 M)) := by
  have hF := dp_den_grow (md := true) (xs := xs) (xl := xl) d
  unfold D_X8_finish_0
  refine dp_s1 hF (i := .lconst 0) rfl (fun _ => rfl) ?_
  refine dp_s1w (0 : Int64) (fun (y1 : Int64) => (2, [some (.ref 90), some (.int v1), some (.int v2), some (.long y1), none, none, none, none], [], M)) hF (i := .lstore_n 3) rfl (fun _ => rfl) (fun y1 => ?_)
  refine dp_s1 hF (i := .iconst 0) rfl (fun _ => rfl) ?_
  refine dp_s1w (0 : Int32) (fun (y2 : Int32) => (5, [some (.ref 90), some (.int v1), some (.int v2), some (.long y1), none, some (.int y2), none, none], [], M)) hF (i := .istore 5) rfl (fun _ => rfl) (fun y2 => ?_)
  exact rfl
set_option maxRecDepth 20000 in
theorem D_X8_finish_5_eq (xs : Nat → Int32) (xl d : Nat) (v1 : Int32) (v2 : Int32) (v3 : Int64) (v5 : Int32) (M : dp_M) : D_X8_finish_5 xs xl d v1 v2 v3 v5 M = dp_bi (dp_den true xs xl d 199 [.ref 90, .int v1] M) (fun r2 M1 => if r2 ≤ v5 then (if ((v1 * (12 : Int32)) + (1 : Int32)) < 0 ∨ 4812 ≤ Int32.toNatClampNeg ((v1 * (12 : Int32)) + (1 : Int32)) then none else dp_w (dp_setJ M1 96 (Int32.toNatClampNeg ((v1 * (12 : Int32)) + (1 : Int32))) (0 : Int64)) (fun M3 => if ((v1 * (12 : Int32)) + (2 : Int32)) < 0 ∨ 4812 ≤ Int32.toNatClampNeg ((v1 * (12 : Int32)) + (2 : Int32)) then none else dp_w (dp_setJ M3 96 (Int32.toNatClampNeg ((v1 * (12 : Int32)) + (2 : Int32))) (Int32.toInt64 v2)) (fun M4 => if ((v1 * (12 : Int32)) + (3 : Int32)) < 0 ∨ 4812 ≤ Int32.toNatClampNeg ((v1 * (12 : Int32)) + (3 : Int32)) then none else dp_w (dp_setJ M4 96 (Int32.toNatClampNeg ((v1 * (12 : Int32)) + (3 : Int32))) (0 : Int64)) (fun M5 => dp_w (dp_setI M5 90 2 ((dp_I M5 90 2) - (1 : Int32))) (fun M6 => some (.inl (some (.long v3)), M6)))))) else (dp_bv (dp_den true xs xl d 204 [.ref 90, .int v1, .int v5, .int (-1 : Int32)] M1) (fun M7 => if v2 = (3 : Int32) then (dp_bl (dp_den true xs xl d 205 [.ref 90, .int v1, .int v5] M7) (fun r9 M8 => dp_bi (dp_den true xs xl d 202 [.ref 90, .int v1, .int v5] M8) (fun r11 M10 => dp_bv (dp_den true xs xl d 191 [.ref 90, .int r11, .long r9] M10) (fun M12 => dp_w (v3 + r9) (fun y13 => dp_w (v5 + (1 : Int32)) (fun y14 => D_X8_finish_5_a xs xl d v1 v2 y13 y14 r9 M12)))))) else (dp_w (v5 + (1 : Int32)) (fun y15 => D_X8_finish_5 xs xl d v1 v2 v3 y15 M7))))) := by
  have hF := dp_den_grow (md := true) (xs := xs) (xl := xl) d
  unfold D_X8_finish_5
  refine dp_s1 hF (i := .iload 5) rfl (fun _ => rfl) ?_
  refine dp_s1 hF (i := .aload_n 0) rfl (fun _ => rfl) ?_
  refine dp_s1 hF (i := .iload_n 1) rfl (fun _ => rfl) ?_
  refine dp_si (mj := dp_m_X8_partsOf) (i := .invokevirtual 81) rfl rfl (Or.inl rfl) rfl (fun _ => rfl) (fun r2 M1 => ?_)
  refine dp_s2 hF (i := .if_icmp .ge 49) (a := (61, [some (.ref 90), some (.int v1), some (.int v2), some (.long v3), none, some (.int v5), none, none], [], M1)) (b := (15, [some (.ref 90), some (.int v1), some (.int v2), some (.long v3), none, some (.int v5), none, none], [], M1)) rfl (fun _ => rfl) ?_ ?_
  · refine dp_s1 hF (i := .aload_n 0) rfl (fun _ => rfl) ?_
    refine dp_s1 hF (i := .getfield 31) rfl (fun _ => rfl) ?_
    refine dp_s1 hF (i := .iload_n 1) rfl (fun _ => rfl) ?_
    refine dp_s1 hF (i := .bipush 12) rfl (fun _ => rfl) ?_
    refine dp_s1 hF (i := .imul) rfl (fun _ => rfl) ?_
    refine dp_s1 hF (i := .iconst 1) rfl (fun _ => rfl) ?_
    refine dp_s1 hF (i := .iadd) rfl (fun _ => rfl) ?_
    refine dp_s1 hF (i := .lconst 0) rfl (fun _ => rfl) ?_
    refine dp_s3w (dp_setJ M1 96 (Int32.toNatClampNeg ((v1 * (12 : Int32)) + (1 : Int32))) (0 : Int64)) (fun (M3 : dp_M) => (73, [some (.ref 90), some (.int v1), some (.int v2), some (.long v3), none, some (.int v5), none, none], [], M3)) hF (i := .lastore) rfl (fun _ => rfl) (fun M3 => ?_)
    refine dp_s1 hF (i := .aload_n 0) rfl (fun _ => rfl) ?_
    refine dp_s1 hF (i := .getfield 31) rfl (fun _ => rfl) ?_
    refine dp_s1 hF (i := .iload_n 1) rfl (fun _ => rfl) ?_
    refine dp_s1 hF (i := .bipush 12) rfl (fun _ => rfl) ?_
    refine dp_s1 hF (i := .imul) rfl (fun _ => rfl) ?_
    refine dp_s1 hF (i := .iconst 2) rfl (fun _ => rfl) ?_
    refine dp_s1 hF (i := .iadd) rfl (fun _ => rfl) ?_
    refine dp_s1 hF (i := .iload_n 2) rfl (fun _ => rfl) ?_
    refine dp_s1 hF (i := .i2l) rfl (fun _ => rfl) ?_
    refine dp_s3w (dp_setJ M3 96 (Int32.toNatClampNeg ((v1 * (12 : Int32)) + (2 : Int32))) (Int32.toInt64 v2)) (fun (M4 : dp_M) => (86, [some (.ref 90), some (.int v1), some (.int v2), some (.long v3), none, some (.int v5), none, none], [], M4)) hF (i := .lastore) rfl (fun _ => rfl) (fun M4 => ?_)
    refine dp_s1 hF (i := .aload_n 0) rfl (fun _ => rfl) ?_
    refine dp_s1 hF (i := .getfield 31) rfl (fun _ => rfl) ?_
    refine dp_s1 hF (i := .iload_n 1) rfl (fun _ => rfl) ?_
    refine dp_s1 hF (i := .bipush 12) rfl (fun _ => rfl) ?_
    refine dp_s1 hF (i := .imul) rfl (fun _ => rfl) ?_
    refine dp_s1 hF (i := .iconst 3) rfl (fun _ => rfl) ?_
    refine dp_s1 hF (i := .iadd) rfl (fun _ => rfl) ?_
    refine dp_s1 hF (i := .lconst 0) rfl (fun _ => rfl) ?_
    refine dp_s3w (dp_setJ M4 96 (Int32.toNatClampNeg ((v1 * (12 : Int32)) + (3 : Int32))) (0 : Int64)) (fun (M5 : dp_M) => (98, [some (.ref 90), some (.int v1), some (.int v2), some (.long v3), none, some (.int v5), none, none], [], M5)) hF (i := .lastore) rfl (fun _ => rfl) (fun M5 => ?_)
    refine dp_s1 hF (i := .aload_n 0) rfl (fun _ => rfl) ?_
    refine dp_s1 hF (i := .dup) rfl (fun _ => rfl) ?_
    refine dp_s1 hF (i := .getfield 92) rfl (fun _ => rfl) ?_
    refine dp_s1 hF (i := .iconst 1) rfl (fun _ => rfl) ?_
    refine dp_s1 hF (i := .isub) rfl (fun _ => rfl) ?_
    refine dp_s1w (dp_setI M5 90 2 ((dp_I M5 90 2) - (1 : Int32))) (fun (M6 : dp_M) => (108, [some (.ref 90), some (.int v1), some (.int v2), some (.long v3), none, some (.int v5), none, none], [], M6)) hF (i := .putfield 92) rfl (fun _ => rfl) (fun M6 => ?_)
    refine dp_s1 hF (i := .lload_n 3) rfl (fun _ => rfl) ?_
    exact dp_s0 hF (i := .lreturn) rfl (fun _ => rfl)
  refine dp_s1 hF (i := .aload_n 0) rfl (fun _ => rfl) ?_
  refine dp_s1 hF (i := .iload_n 1) rfl (fun _ => rfl) ?_
  refine dp_s1 hF (i := .iload 5) rfl (fun _ => rfl) ?_
  refine dp_s1 hF (i := .iconst (-1)) rfl (fun _ => rfl) ?_
  refine dp_sv (mj := dp_m_X8_use) (i := .invokevirtual 95) rfl rfl rfl rfl (fun _ => rfl) (fun M7 => ?_)
  refine dp_s1 hF (i := .iload_n 2) rfl (fun _ => rfl) ?_
  refine dp_s1 hF (i := .iconst 3) rfl (fun _ => rfl) ?_
  refine dp_s2 hF (i := .if_icmp .ne 30) (a := (28, [some (.ref 90), some (.int v1), some (.int v2), some (.long v3), none, some (.int v5), none, none], [], M7)) (b := (55, [some (.ref 90), some (.int v1), some (.int v2), some (.long v3), none, some (.int v5), none, none], [], M7)) rfl (fun _ => rfl) ?_ ?_
  · refine dp_s1 hF (i := .aload_n 0) rfl (fun _ => rfl) ?_
    refine dp_s1 hF (i := .iload_n 1) rfl (fun _ => rfl) ?_
    refine dp_s1 hF (i := .iload 5) rfl (fun _ => rfl) ?_
    refine dp_sl9 (mj := dp_m_X8_claimableBy) (i := .invokevirtual 109) rfl rfl rfl rfl (fun _ => rfl) (fun r9 M8 => ?_)
    refine dp_s1 hF (i := .lstore 6) rfl (fun _ => rfl) ?_
    refine dp_s1 hF (i := .aload_n 0) rfl (fun _ => rfl) ?_
    refine dp_s1 hF (i := .aload_n 0) rfl (fun _ => rfl) ?_
    refine dp_s1 hF (i := .iload_n 1) rfl (fun _ => rfl) ?_
    refine dp_s1 hF (i := .iload 5) rfl (fun _ => rfl) ?_
    refine dp_si (mj := dp_m_X8_guaranteeOf) (i := .invokevirtual 99) rfl rfl (Or.inl rfl) rfl (fun _ => rfl) (fun r11 M10 => ?_)
    refine dp_s1 hF (i := .lload 6) rfl (fun _ => rfl) ?_
    refine dp_sv (mj := dp_m_X8_lessen) (i := .invokevirtual 112) rfl rfl rfl rfl (fun _ => rfl) (fun M12 => ?_)
    refine dp_s1 hF (i := .lload_n 3) rfl (fun _ => rfl) ?_
    refine dp_s1 hF (i := .lload 6) rfl (fun _ => rfl) ?_
    refine dp_s1 hF (i := .ladd) rfl (fun _ => rfl) ?_
    refine dp_s1w (v3 + r9) (fun (y13 : Int64) => (55, [some (.ref 90), some (.int v1), some (.int v2), some (.long y13), none, some (.int v5), some (.long r9), none], [], M12)) hF (i := .lstore_n 3) rfl (fun _ => rfl) (fun y13 => ?_)
    refine dp_s1w (v5 + (1 : Int32)) (fun (y14 : Int32) => (58, [some (.ref 90), some (.int v1), some (.int v2), some (.long y13), none, some (.int y14), some (.long r9), none], [], M12)) hF (i := .iinc 5 1) rfl (fun _ => rfl) (fun y14 => ?_)
    refine dp_s1 hF (i := .goto (-53)) rfl (fun _ => rfl) ?_
    exact rfl
  refine dp_s1w (v5 + (1 : Int32)) (fun (y15 : Int32) => (58, [some (.ref 90), some (.int v1), some (.int v2), some (.long v3), none, some (.int y15), none, none], [], M7)) hF (i := .iinc 5 1) rfl (fun _ => rfl) (fun y15 => ?_)
  refine dp_s1 hF (i := .goto (-53)) rfl (fun _ => rfl) ?_
  exact rfl
set_option maxRecDepth 20000 in
theorem D_X8_finish_5_a_eq (xs : Nat → Int32) (xl d : Nat) (v1 : Int32) (v2 : Int32) (v3 : Int64) (v5 : Int32) (v6 : Int64) (M : dp_M) : D_X8_finish_5_a xs xl d v1 v2 v3 v5 v6 M = dp_bi (dp_den true xs xl d 199 [.ref 90, .int v1] M) (fun r2 M1 => if r2 ≤ v5 then (if ((v1 * (12 : Int32)) + (1 : Int32)) < 0 ∨ 4812 ≤ Int32.toNatClampNeg ((v1 * (12 : Int32)) + (1 : Int32)) then none else dp_w (dp_setJ M1 96 (Int32.toNatClampNeg ((v1 * (12 : Int32)) + (1 : Int32))) (0 : Int64)) (fun M3 => if ((v1 * (12 : Int32)) + (2 : Int32)) < 0 ∨ 4812 ≤ Int32.toNatClampNeg ((v1 * (12 : Int32)) + (2 : Int32)) then none else dp_w (dp_setJ M3 96 (Int32.toNatClampNeg ((v1 * (12 : Int32)) + (2 : Int32))) (Int32.toInt64 v2)) (fun M4 => if ((v1 * (12 : Int32)) + (3 : Int32)) < 0 ∨ 4812 ≤ Int32.toNatClampNeg ((v1 * (12 : Int32)) + (3 : Int32)) then none else dp_w (dp_setJ M4 96 (Int32.toNatClampNeg ((v1 * (12 : Int32)) + (3 : Int32))) (0 : Int64)) (fun M5 => dp_w (dp_setI M5 90 2 ((dp_I M5 90 2) - (1 : Int32))) (fun M6 => some (.inl (some (.long v3)), M6)))))) else (dp_bv (dp_den true xs xl d 204 [.ref 90, .int v1, .int v5, .int (-1 : Int32)] M1) (fun M7 => if v2 = (3 : Int32) then (dp_bl (dp_den true xs xl d 205 [.ref 90, .int v1, .int v5] M7) (fun r9 M8 => dp_bi (dp_den true xs xl d 202 [.ref 90, .int v1, .int v5] M8) (fun r11 M10 => dp_bv (dp_den true xs xl d 191 [.ref 90, .int r11, .long r9] M10) (fun M12 => dp_w (v3 + r9) (fun y13 => dp_w (v5 + (1 : Int32)) (fun y14 => D_X8_finish_5_a xs xl d v1 v2 y13 y14 r9 M12)))))) else (dp_w (v5 + (1 : Int32)) (fun y15 => D_X8_finish_5_a xs xl d v1 v2 v3 y15 v6 M7))))) := by
  have hF := dp_den_grow (md := true) (xs := xs) (xl := xl) d
  unfold D_X8_finish_5_a
  refine dp_s1 hF (i := .iload 5) rfl (fun _ => rfl) ?_
  refine dp_s1 hF (i := .aload_n 0) rfl (fun _ => rfl) ?_
  refine dp_s1 hF (i := .iload_n 1) rfl (fun _ => rfl) ?_
  refine dp_si (mj := dp_m_X8_partsOf) (i := .invokevirtual 81) rfl rfl (Or.inl rfl) rfl (fun _ => rfl) (fun r2 M1 => ?_)
  refine dp_s2 hF (i := .if_icmp .ge 49) (a := (61, [some (.ref 90), some (.int v1), some (.int v2), some (.long v3), none, some (.int v5), some (.long v6), none], [], M1)) (b := (15, [some (.ref 90), some (.int v1), some (.int v2), some (.long v3), none, some (.int v5), some (.long v6), none], [], M1)) rfl (fun _ => rfl) ?_ ?_
  · refine dp_s1 hF (i := .aload_n 0) rfl (fun _ => rfl) ?_
    refine dp_s1 hF (i := .getfield 31) rfl (fun _ => rfl) ?_
    refine dp_s1 hF (i := .iload_n 1) rfl (fun _ => rfl) ?_
    refine dp_s1 hF (i := .bipush 12) rfl (fun _ => rfl) ?_
    refine dp_s1 hF (i := .imul) rfl (fun _ => rfl) ?_
    refine dp_s1 hF (i := .iconst 1) rfl (fun _ => rfl) ?_
    refine dp_s1 hF (i := .iadd) rfl (fun _ => rfl) ?_
    refine dp_s1 hF (i := .lconst 0) rfl (fun _ => rfl) ?_
    refine dp_s3w (dp_setJ M1 96 (Int32.toNatClampNeg ((v1 * (12 : Int32)) + (1 : Int32))) (0 : Int64)) (fun (M3 : dp_M) => (73, [some (.ref 90), some (.int v1), some (.int v2), some (.long v3), none, some (.int v5), some (.long v6), none], [], M3)) hF (i := .lastore) rfl (fun _ => rfl) (fun M3 => ?_)
    refine dp_s1 hF (i := .aload_n 0) rfl (fun _ => rfl) ?_
    refine dp_s1 hF (i := .getfield 31) rfl (fun _ => rfl) ?_
    refine dp_s1 hF (i := .iload_n 1) rfl (fun _ => rfl) ?_
    refine dp_s1 hF (i := .bipush 12) rfl (fun _ => rfl) ?_
    refine dp_s1 hF (i := .imul) rfl (fun _ => rfl) ?_
    refine dp_s1 hF (i := .iconst 2) rfl (fun _ => rfl) ?_
    refine dp_s1 hF (i := .iadd) rfl (fun _ => rfl) ?_
    refine dp_s1 hF (i := .iload_n 2) rfl (fun _ => rfl) ?_
    refine dp_s1 hF (i := .i2l) rfl (fun _ => rfl) ?_
    refine dp_s3w (dp_setJ M3 96 (Int32.toNatClampNeg ((v1 * (12 : Int32)) + (2 : Int32))) (Int32.toInt64 v2)) (fun (M4 : dp_M) => (86, [some (.ref 90), some (.int v1), some (.int v2), some (.long v3), none, some (.int v5), some (.long v6), none], [], M4)) hF (i := .lastore) rfl (fun _ => rfl) (fun M4 => ?_)
    refine dp_s1 hF (i := .aload_n 0) rfl (fun _ => rfl) ?_
    refine dp_s1 hF (i := .getfield 31) rfl (fun _ => rfl) ?_
    refine dp_s1 hF (i := .iload_n 1) rfl (fun _ => rfl) ?_
    refine dp_s1 hF (i := .bipush 12) rfl (fun _ => rfl) ?_
    refine dp_s1 hF (i := .imul) rfl (fun _ => rfl) ?_
    refine dp_s1 hF (i := .iconst 3) rfl (fun _ => rfl) ?_
    refine dp_s1 hF (i := .iadd) rfl (fun _ => rfl) ?_
    refine dp_s1 hF (i := .lconst 0) rfl (fun _ => rfl) ?_
    refine dp_s3w (dp_setJ M4 96 (Int32.toNatClampNeg ((v1 * (12 : Int32)) + (3 : Int32))) (0 : Int64)) (fun (M5 : dp_M) => (98, [some (.ref 90), some (.int v1), some (.int v2), some (.long v3), none, some (.int v5), some (.long v6), none], [], M5)) hF (i := .lastore) rfl (fun _ => rfl) (fun M5 => ?_)
    refine dp_s1 hF (i := .aload_n 0) rfl (fun _ => rfl) ?_
    refine dp_s1 hF (i := .dup) rfl (fun _ => rfl) ?_
    refine dp_s1 hF (i := .getfield 92) rfl (fun _ => rfl) ?_
    refine dp_s1 hF (i := .iconst 1) rfl (fun _ => rfl) ?_
    refine dp_s1 hF (i := .isub) rfl (fun _ => rfl) ?_
    refine dp_s1w (dp_setI M5 90 2 ((dp_I M5 90 2) - (1 : Int32))) (fun (M6 : dp_M) => (108, [some (.ref 90), some (.int v1), some (.int v2), some (.long v3), none, some (.int v5), some (.long v6), none], [], M6)) hF (i := .putfield 92) rfl (fun _ => rfl) (fun M6 => ?_)
    refine dp_s1 hF (i := .lload_n 3) rfl (fun _ => rfl) ?_
    exact dp_s0 hF (i := .lreturn) rfl (fun _ => rfl)
  refine dp_s1 hF (i := .aload_n 0) rfl (fun _ => rfl) ?_
  refine dp_s1 hF (i := .iload_n 1) rfl (fun _ => rfl) ?_
  refine dp_s1 hF (i := .iload 5) rfl (fun _ => rfl) ?_
  refine dp_s1 hF (i := .iconst (-1)) rfl (fun _ => rfl) ?_
  refine dp_sv (mj := dp_m_X8_use) (i := .invokevirtual 95) rfl rfl rfl rfl (fun _ => rfl) (fun M7 => ?_)
  refine dp_s1 hF (i := .iload_n 2) rfl (fun _ => rfl) ?_
  refine dp_s1 hF (i := .iconst 3) rfl (fun _ => rfl) ?_
  refine dp_s2 hF (i := .if_icmp .ne 30) (a := (28, [some (.ref 90), some (.int v1), some (.int v2), some (.long v3), none, some (.int v5), some (.long v6), none], [], M7)) (b := (55, [some (.ref 90), some (.int v1), some (.int v2), some (.long v3), none, some (.int v5), some (.long v6), none], [], M7)) rfl (fun _ => rfl) ?_ ?_
  · refine dp_s1 hF (i := .aload_n 0) rfl (fun _ => rfl) ?_
    refine dp_s1 hF (i := .iload_n 1) rfl (fun _ => rfl) ?_
    refine dp_s1 hF (i := .iload 5) rfl (fun _ => rfl) ?_
    refine dp_sl9 (mj := dp_m_X8_claimableBy) (i := .invokevirtual 109) rfl rfl rfl rfl (fun _ => rfl) (fun r9 M8 => ?_)
    refine dp_s1 hF (i := .lstore 6) rfl (fun _ => rfl) ?_
    refine dp_s1 hF (i := .aload_n 0) rfl (fun _ => rfl) ?_
    refine dp_s1 hF (i := .aload_n 0) rfl (fun _ => rfl) ?_
    refine dp_s1 hF (i := .iload_n 1) rfl (fun _ => rfl) ?_
    refine dp_s1 hF (i := .iload 5) rfl (fun _ => rfl) ?_
    refine dp_si (mj := dp_m_X8_guaranteeOf) (i := .invokevirtual 99) rfl rfl (Or.inl rfl) rfl (fun _ => rfl) (fun r11 M10 => ?_)
    refine dp_s1 hF (i := .lload 6) rfl (fun _ => rfl) ?_
    refine dp_sv (mj := dp_m_X8_lessen) (i := .invokevirtual 112) rfl rfl rfl rfl (fun _ => rfl) (fun M12 => ?_)
    refine dp_s1 hF (i := .lload_n 3) rfl (fun _ => rfl) ?_
    refine dp_s1 hF (i := .lload 6) rfl (fun _ => rfl) ?_
    refine dp_s1 hF (i := .ladd) rfl (fun _ => rfl) ?_
    refine dp_s1w (v3 + r9) (fun (y13 : Int64) => (55, [some (.ref 90), some (.int v1), some (.int v2), some (.long y13), none, some (.int v5), some (.long r9), none], [], M12)) hF (i := .lstore_n 3) rfl (fun _ => rfl) (fun y13 => ?_)
    refine dp_s1w (v5 + (1 : Int32)) (fun (y14 : Int32) => (58, [some (.ref 90), some (.int v1), some (.int v2), some (.long y13), none, some (.int y14), some (.long r9), none], [], M12)) hF (i := .iinc 5 1) rfl (fun _ => rfl) (fun y14 => ?_)
    refine dp_s1 hF (i := .goto (-53)) rfl (fun _ => rfl) ?_
    exact rfl
  refine dp_s1w (v5 + (1 : Int32)) (fun (y15 : Int32) => (58, [some (.ref 90), some (.int v1), some (.int v2), some (.long v3), none, some (.int y15), some (.long v6), none], [], M7)) hF (i := .iinc 5 1) rfl (fun _ => rfl) (fun y15 => ?_)
  refine dp_s1 hF (i := .goto (-53)) rfl (fun _ => rfl) ?_
  exact rfl
