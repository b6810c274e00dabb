noncomputable def D_X5_addOrder_0 (xs : Nat → Int32) (xl d : Nat) (v1 : Int64) (v3 : Int32) (v4 : Int32) (M : dp_M) : Option dp_Res := dp_lim true xs xl (dp_den true xs xl d) dp_m_X5_addOrder (0, [some (.ref 75), some (.long v1), none, some (.int v3), some (.int v4)], [], M)
theorem D_X5_addOrder_0_den (xs : Nat → Int32) (xl d : Nat) (a0 : Int64) (a1 : Int32) (a2 : Int32) (M : dp_M) : dp_den true xs xl (d + 1) 116 [.ref 75, .long a0, .int a1, .int a2] M = D_X5_addOrder_0 xs xl d a0 a1 a2 M := rfl
set_option maxRecDepth 20000 in
theorem D_X5_addOrder_0_eq (xs : Nat → Int32) (xl d : Nat) (v1 : Int64) (v3 : Int32) (v4 : Int32) (M : dp_M) : D_X5_addOrder_0 xs xl d v1 v3 v4 M = if (dp_I M 75 0) < 0 ∨ 16 ≤ Int32.toNatClampNeg (dp_I M 75 0) then none else dp_w (dp_setJ M 76 (Int32.toNatClampNeg (dp_I M 75 0)) v1) (fun M1 => if (dp_I M1 75 0) < 0 ∨ 16 ≤ Int32.toNatClampNeg (dp_I M1 75 0) then none else dp_w (dp_setI M1 77 (Int32.toNatClampNeg (dp_I M1 75 0)) v3) (fun M2 => if (dp_I M2 75 0) < 0 ∨ 16 ≤ Int32.toNatClampNeg (dp_I M2 75 0) then none else dp_w (dp_setI M2 78 (Int32.toNatClampNeg (dp_I M2 75 0)) v4) (fun M3 => if (dp_I M3 75 0) < 0 ∨ 16 ≤ Int32.toNatClampNeg (dp_I M3 75 0) then none else dp_w (dp_setI M3 79 (Int32.toNatClampNeg (dp_I M3 75 0)) (v3 - (1 : Int32))) (fun M4 => dp_w (dp_setI M4 75 0 ((dp_I M4 75 0) + (1 : Int32))) (fun M5 => some (.inl (some (.int ((dp_I M5 75 0) - (1 : Int32)))), M5)))))) := by
  have hF := dp_den_grow (md := true) (xs := xs) (xl := xl) d
  unfold D_X5_addOrder_0
  refine dp_s1 hF (i := .aload_n 0) rfl (fun _ => rfl) ?_
  refine dp_s1 hF (i := .getfield 11) rfl (fun _ => rfl) ?_
  refine dp_s1 hF (i := .aload_n 0) rfl (fun _ => rfl) ?_
  refine dp_s1 hF (i := .getfield 58) rfl (fun _ => rfl) ?_
  refine dp_s1 hF (i := .lload_n 1) rfl (fun _ => rfl) ?_
  refine dp_s3w (dp_setJ M 76 (Int32.toNatClampNeg (dp_I M 75 0)) v1) (fun (M1 : dp_M) => (10, [some (.ref 75), some (.long v1), none, some (.int v3), some (.int v4)], [], M1)) hF (i := .lastore) rfl (fun _ => rfl) (fun M1 => ?_)
  refine dp_s1 hF (i := .aload_n 0) rfl (fun _ => rfl) ?_
  refine dp_s1 hF (i := .getfield 15) rfl (fun _ => rfl) ?_
  refine dp_s1 hF (i := .aload_n 0) rfl (fun _ => rfl) ?_
  refine dp_s1 hF (i := .getfield 58) rfl (fun _ => rfl) ?_
  refine dp_s1 hF (i := .iload_n 3) rfl (fun _ => rfl) ?_
  refine dp_s3w (dp_setI M1 77 (Int32.toNatClampNeg (dp_I M1 75 0)) v3) (fun (M2 : dp_M) => (20, [some (.ref 75), some (.long v1), none, some (.int v3), some (.int v4)], [], M2)) hF (i := .iastore) rfl (fun _ => rfl) (fun M2 => ?_)
  refine dp_s1 hF (i := .aload_n 0) rfl (fun _ => rfl) ?_
  refine dp_s1 hF (i := .getfield 19) rfl (fun _ => rfl) ?_
  refine dp_s1 hF (i := .aload_n 0) rfl (fun _ => rfl) ?_
  refine dp_s1 hF (i := .getfield 58) rfl (fun _ => rfl) ?_
  refine dp_s1 hF (i := .iload 4) rfl (fun _ => rfl) ?_
  refine dp_s3w (dp_setI M2 78 (Int32.toNatClampNeg (dp_I M2 75 0)) v4) (fun (M3 : dp_M) => (31, [some (.ref 75), some (.long v1), none, some (.int v3), some (.int v4)], [], M3)) hF (i := .iastore) rfl (fun _ => rfl) (fun M3 => ?_)
  refine dp_s1 hF (i := .aload_n 0) rfl (fun _ => rfl) ?_
  refine dp_s1 hF (i := .getfield 22) rfl (fun _ => rfl) ?_
  refine dp_s1 hF (i := .aload_n 0) rfl (fun _ => rfl) ?_
  refine dp_s1 hF (i := .getfield 58) rfl (fun _ => rfl) ?_
  refine dp_s1 hF (i := .iload_n 3) rfl (fun _ => rfl) ?_
  refine dp_s1 hF (i := .iconst 1) rfl (fun _ => rfl) ?_
  refine dp_s1 hF (i := .isub) rfl (fun _ => rfl) ?_
  refine dp_s3w (dp_setI M3 79 (Int32.toNatClampNeg (dp_I M3 75 0)) (v3 - (1 : Int32))) (fun (M4 : dp_M) => (43, [some (.ref 75), some (.long v1), none, some (.int v3), some (.int v4)], [], M4)) hF (i := .iastore) rfl (fun _ => rfl) (fun M4 => ?_)
  refine dp_s1 hF (i := .aload_n 0) rfl (fun _ => rfl) ?_
  refine dp_s1 hF (i := .dup) rfl (fun _ => rfl) ?_
  refine dp_s1 hF (i := .getfield 58) rfl (fun _ => rfl) ?_
  refine dp_s1 hF (i := .iconst 1) rfl (fun _ => rfl) ?_
  refine dp_s1 hF (i := .iadd) rfl (fun _ => rfl) ?_
  refine dp_s1w (dp_setI M4 75 0 ((dp_I M4 75 0) + (1 : Int32))) (fun (M5 : dp_M) => (53, [some (.ref 75), some (.long v1), none, some (.int v3), some (.int v4)], [], M5)) hF (i := .putfield 58) rfl (fun _ => rfl) (fun M5 => ?_)
  refine dp_s1 hF (i := .aload_n 0) rfl (fun _ => rfl) ?_
  refine dp_s1 hF (i := .getfield 58) rfl (fun _ => rfl) ?_
  refine dp_s1 hF (i := .iconst 1) rfl (fun _ => rfl) ?_
  refine dp_s1 hF (i := .isub) rfl (fun _ => rfl) ?_
  exact dp_s0 hF (i := .ireturn) rfl (fun _ => rfl)
noncomputable def D_X5_isInSpan_0 (xs : Nat → Int32) (xl d : Nat) (v1 : Int32) (v2 : Int32) (M : dp_M) : Option dp_Res := dp_lim true xs xl (dp_den true xs xl d) dp_m_X5_isInSpan (0, [some (.ref 75), some (.int v1), some (.int v2)], [], M)
theorem D_X5_isInSpan_0_den (xs : Nat → Int32) (xl d : Nat) (a0 : Int32) (a1 : Int32) (M : dp_M) : dp_den true xs xl (d + 1) 117 [.ref 75, .int a0, .int a1] M = D_X5_isInSpan_0 xs xl d a0 a1 M := rfl
set_option maxRecDepth 20000 in
theorem D_X5_isInSpan_0_eq (xs : Nat → Int32) (xl d : Nat) (v1 : Int32) (v2 : Int32) (M : dp_M) : D_X5_isInSpan_0 xs xl d v1 v2 M = if v1 < 0 ∨ 16 ≤ Int32.toNatClampNeg v1 then none else (if v2 < (dp_I M 77 (Int32.toNatClampNeg v1)) then (some (.inl (some (.int (0 : Int32))), M)) else (if v1 < 0 ∨ 16 ≤ Int32.toNatClampNeg v1 then none else (if (dp_I M 78 (Int32.toNatClampNeg v1)) < v2 then (some (.inl (some (.int (0 : Int32))), M)) else (some (.inl (some (.int (1 : Int32))), M))))) := by
  have hF := dp_den_grow (md := true) (xs := xs) (xl := xl) d
  unfold D_X5_isInSpan_0
  refine dp_s1 hF (i := .iload_n 2) rfl (fun _ => rfl) ?_
  refine dp_s1 hF (i := .aload_n 0) rfl (fun _ => rfl) ?_
  refine dp_s1 hF (i := .getfield 15) rfl (fun _ => rfl) ?_
  refine dp_s1 hF (i := .iload_n 1) rfl (fun _ => rfl) ?_
  refine dp_s3 hF (i := .iaload) rfl (fun _ => rfl) ?_
  refine dp_s2 hF (i := .if_icmp .lt 17) (a := (24, [some (.ref 75), some (.int v1), some (.int v2)], [], M)) (b := (10, [some (.ref 75), some (.int v1), some (.int v2)], [], M)) rfl (fun _ => rfl) ?_ ?_
  · refine dp_s1 hF (i := .iconst 0) rfl (fun _ => rfl) ?_
    exact dp_s0 hF (i := .ireturn) rfl (fun _ => rfl)
  refine dp_s1 hF (i := .iload_n 2) rfl (fun _ => rfl) ?_
  refine dp_s1 hF (i := .aload_n 0) rfl (fun _ => rfl) ?_
  refine dp_s1 hF (i := .getfield 19) rfl (fun _ => rfl) ?_
  refine dp_s1 hF (i := .iload_n 1) rfl (fun _ => rfl) ?_
  refine dp_s3 hF (i := .iaload) rfl (fun _ => rfl) ?_
  refine dp_s2 hF (i := .if_icmp .gt 7) (a := (24, [some (.ref 75), some (.int v1), some (.int v2)], [], M)) (b := (20, [some (.ref 75), some (.int v1), some (.int v2)], [], M)) rfl (fun _ => rfl) ?_ ?_
  · refine dp_s1 hF (i := .iconst 0) rfl (fun _ => rfl) ?_
    exact dp_s0 hF (i := .ireturn) rfl (fun _ => rfl)
  refine dp_s1 hF (i := .iconst 1) rfl (fun _ => rfl) ?_
  refine dp_s1 hF (i := .goto 4) rfl (fun _ => rfl) ?_
  exact dp_s0 hF (i := .ireturn) rfl (fun _ => rfl)
noncomputable def D_X5_orderOf_0 (xs : Nat → Int32) (xl d : Nat) (v1 : Int32) (M : dp_M) : Option dp_Res := dp_lim true xs xl (dp_den true xs xl d) dp_m_X5_orderOf (0, [some (.ref 75), some (.int v1)], [], M)
theorem D_X5_orderOf_0_den (xs : Nat → Int32) (xl d : Nat) (a0 : Int32) (M : dp_M) : dp_den true xs xl (d + 1) 118 [.ref 75, .int a0] M = D_X5_orderOf_0 xs xl d a0 M := rfl
set_option maxRecDepth 20000 in
theorem D_X5_orderOf_0_eq (xs : Nat → Int32) (xl d : Nat) (v1 : Int32) (M : dp_M) : D_X5_orderOf_0 xs xl d v1 M = if v1 < 0 ∨ 400 ≤ Int32.toNatClampNeg v1 then none else (some (.inl (some (.int (dp_I M 82 (Int32.toNatClampNeg v1)))), M)) := by
  have hF := dp_den_grow (md := true) (xs := xs) (xl := xl) d
  unfold D_X5_orderOf_0
  refine dp_s1 hF (i := .aload_n 0) rfl (fun _ => rfl) ?_
  refine dp_s1 hF (i := .getfield 34) rfl (fun _ => rfl) ?_
  refine dp_s1 hF (i := .iload_n 1) rfl (fun _ => rfl) ?_
  refine dp_s3 hF (i := .iaload) rfl (fun _ => rfl) ?_
  exact dp_s0 hF (i := .ireturn) rfl (fun _ => rfl)
noncomputable def D_X5_addAsk_0 (xs : Nat → Int32) (xl d : Nat) (v1 : Int32) (v2 : Int32) (v3 : Int32) (v4 : Int64) (M : dp_M) : Option dp_Res := dp_lim true xs xl (dp_den true xs xl d) dp_m_X5_addAsk (0, [some (.ref 75), some (.int v1), some (.int v2), some (.int v3), some (.long v4), none, none], [], M)
theorem D_X5_addAsk_0_den (xs : Nat → Int32) (xl d : Nat) (a0 : Int32) (a1 : Int32) (a2 : Int32) (a3 : Int64) (M : dp_M) : dp_den true xs xl (d + 1) 119 [.ref 75, .int a0, .int a1, .int a2, .long a3] M = D_X5_addAsk_0 xs xl d a0 a1 a2 a3 M := rfl
set_option maxRecDepth 20000 in
theorem D_X5_addAsk_0_eq (xs : Nat → Int32) (xl d : Nat) (v1 : Int32) (v2 : Int32) (v3 : Int32) (v4 : Int64) (M : dp_M) : D_X5_addAsk_0 xs xl d v1 v2 v3 v4 M = dp_w (dp_I M 75 1) (fun y1 => if y1 < 0 ∨ 400 ≤ Int32.toNatClampNeg y1 then none else dp_w (dp_setI M 82 (Int32.toNatClampNeg y1) v1) (fun M2 => if y1 < 0 ∨ 400 ≤ Int32.toNatClampNeg y1 then none else dp_w (dp_setI M2 83 (Int32.toNatClampNeg y1) v2) (fun M3 => if y1 < 0 ∨ 400 ≤ Int32.toNatClampNeg y1 then none else dp_w (dp_setI M3 84 (Int32.toNatClampNeg y1) v3) (fun M4 => if y1 < 0 ∨ 400 ≤ Int32.toNatClampNeg y1 then none else dp_w (dp_setJ M4 85 (Int32.toNatClampNeg y1) v4) (fun M5 => dp_w (dp_setI M5 75 1 ((dp_I M5 75 1) + (1 : Int32))) (fun M6 => dp_bv (dp_den true xs xl d 129 [.ref 75, .int v1] M6) (fun M7 => some (.inl (some (.int y1)), M7)))))))) := by
  have hF := dp_den_grow (md := true) (xs := xs) (xl := xl) d
  unfold D_X5_addAsk_0
  refine dp_s1 hF (i := .aload_n 0) rfl (fun _ => rfl) ?_
  refine dp_s1 hF (i := .getfield 62) rfl (fun _ => rfl) ?_
  refine dp_s1w (dp_I M 75 1) (fun (y1 : Int32) => (6, [some (.ref 75), some (.int v1), some (.int v2), some (.int v3), some (.long v4), none, some (.int y1)], [], M)) hF (i := .istore 6) rfl (fun _ => rfl) (fun y1 => ?_)
  refine dp_s1 hF (i := .aload_n 0) rfl (fun _ => rfl) ?_
  refine dp_s1 hF (i := .getfield 34) rfl (fun _ => rfl) ?_
  refine dp_s1 hF (i := .iload 6) rfl (fun _ => rfl) ?_
  refine dp_s1 hF (i := .iload_n 1) rfl (fun _ => rfl) ?_
  refine dp_s3w (dp_setI M 82 (Int32.toNatClampNeg y1) v1) (fun (M2 : dp_M) => (14, [some (.ref 75), some (.int v1), some (.int v2), some (.int v3), some (.long v4), none, some (.int y1)], [], M2)) hF (i := .iastore) rfl (fun _ => rfl) (fun M2 => ?_)
  refine dp_s1 hF (i := .aload_n 0) rfl (fun _ => rfl) ?_
  refine dp_s1 hF (i := .getfield 37) rfl (fun _ => rfl) ?_
  refine dp_s1 hF (i := .iload 6) rfl (fun _ => rfl) ?_
  refine dp_s1 hF (i := .iload_n 2) rfl (fun _ => rfl) ?_
  refine dp_s3w (dp_setI M2 83 (Int32.toNatClampNeg y1) v2) (fun (M3 : dp_M) => (22, [some (.ref 75), some (.int v1), some (.int v2), some (.int v3), some (.long v4), none, some (.int y1)], [], M3)) hF (i := .iastore) rfl (fun _ => rfl) (fun M3 => ?_)
  refine dp_s1 hF (i := .aload_n 0) rfl (fun _ => rfl) ?_
  refine dp_s1 hF (i := .getfield 40) rfl (fun _ => rfl) ?_
  refine dp_s1 hF (i := .iload 6) rfl (fun _ => rfl) ?_
  refine dp_s1 hF (i := .iload_n 3) rfl (fun _ => rfl) ?_
  refine dp_s3w (dp_setI M3 84 (Int32.toNatClampNeg y1) v3) (fun (M4 : dp_M) => (30, [some (.ref 75), some (.int v1), some (.int v2), some (.int v3), some (.long v4), none, some (.int y1)], [], M4)) hF (i := .iastore) rfl (fun _ => rfl) (fun M4 => ?_)
  refine dp_s1 hF (i := .aload_n 0) rfl (fun _ => rfl) ?_
  refine dp_s1 hF (i := .getfield 43) rfl (fun _ => rfl) ?_
  refine dp_s1 hF (i := .iload 6) rfl (fun _ => rfl) ?_
  refine dp_s1 hF (i := .lload 4) rfl (fun _ => rfl) ?_
  refine dp_s3w (dp_setJ M4 85 (Int32.toNatClampNeg y1) v4) (fun (M5 : dp_M) => (39, [some (.ref 75), some (.int v1), some (.int v2), some (.int v3), some (.long v4), none, some (.int y1)], [], M5)) hF (i := .lastore) rfl (fun _ => rfl) (fun M5 => ?_)
  refine dp_s1 hF (i := .aload_n 0) rfl (fun _ => rfl) ?_
  refine dp_s1 hF (i := .dup) rfl (fun _ => rfl) ?_
  refine dp_s1 hF (i := .getfield 62) rfl (fun _ => rfl) ?_
  refine dp_s1 hF (i := .iconst 1) rfl (fun _ => rfl) ?_
  refine dp_s1 hF (i := .iadd) rfl (fun _ => rfl) ?_
  refine dp_s1w (dp_setI M5 75 1 ((dp_I M5 75 1) + (1 : Int32))) (fun (M6 : dp_M) => (49, [some (.ref 75), some (.int v1), some (.int v2), some (.int v3), some (.long v4), none, some (.int y1)], [], M6)) hF (i := .putfield 62) rfl (fun _ => rfl) (fun M6 => ?_)
  refine dp_s1 hF (i := .aload_n 0) rfl (fun _ => rfl) ?_
  refine dp_s1 hF (i := .iload_n 1) rfl (fun _ => rfl) ?_
  refine dp_sv (mj := dp_m_X5_follow) (i := .invokevirtual 65) rfl rfl rfl rfl (fun _ => rfl) (fun M7 => ?_)
  refine dp_s1 hF (i := .iload 6) rfl (fun _ => rfl) ?_
  exact dp_s0 hF (i := .ireturn) rfl (fun _ => rfl)
noncomputable def D_X5_changeAsk_0 (xs : Nat → Int32) (xl d : Nat) (v1 : Int32) (v2 : Int64) (M : dp_M) : Option dp_Res := dp_lim true xs xl (dp_den true xs xl d) dp_m_X5_changeAsk (0, [some (.ref 75), some (.int v1), some (.long v2), none, none, none], [], M)
noncomputable def D_X5_changeAsk_40 (xs : Nat → Int32) (xl d : Nat) (v1 : Int32) (v2 : Int64) (v4 : Int32) (v5 : Int32) (M : dp_M) : Option dp_Res := dp_lim true xs xl (dp_den true xs xl d) dp_m_X5_changeAsk (40, [some (.ref 75), some (.int v1), some (.long v2), none, some (.int v4), some (.int v5)], [], M)
theorem D_X5_changeAsk_0_den (xs : Nat → Int32) (xl d : Nat) (a0 : Int32) (a1 : Int64) (M : dp_M) : dp_den true xs xl (d + 1) 120 [.ref 75, .int a0, .long a1] M = D_X5_changeAsk_0 xs xl d a0 a1 M := rfl
set_option maxRecDepth 20000 in
theorem D_X5_changeAsk_0_eq (xs : Nat → Int32) (xl d : Nat) (v1 : Int32) (v2 : Int64) (M : dp_M) : D_X5_changeAsk_0 xs xl d v1 v2 M = if (dp_I M 75 1) < 0 ∨ (0 : Int32) < 0 ∨ (0 : Int32) < 0 ∨ 400 < Int32.toNatClampNeg (0 : Int32) + Int32.toNatClampNeg (dp_I M 75 1) ∨ 400 < Int32.toNatClampNeg (0 : Int32) + Int32.toNatClampNeg (dp_I M 75 1) ∨ (86 : Nat) = 88 then none else dp_w (dp_cpJ M 86 (Int32.toNatClampNeg (0 : Int32)) 88 (Int32.toNatClampNeg (0 : Int32)) (Int32.toNatClampNeg (dp_I M 75 1))) (fun M1 => if v1 < 0 ∨ 400 ≤ Int32.toNatClampNeg v1 then none else dp_w (dp_setJ M1 85 (Int32.toNatClampNeg v1) v2) (fun M2 => if v1 < 0 ∨ 400 ≤ Int32.toNatClampNeg v1 then none else (dp_bv (dp_den true xs xl d 129 [.ref 75, .int (dp_I M2 82 (Int32.toNatClampNeg v1))] M2) (fun M3 => dp_w (0 : Int32) (fun y4 => dp_w (0 : Int32) (fun y5 => D_X5_changeAsk_40 xs xl d v1 v2 y4 y5 M3)))))) := by
  have hF := dp_den_grow (md := true) (xs := xs) (xl := xl) d
  unfold D_X5_changeAsk_0
  refine dp_s1 hF (i := .aload_n 0) rfl (fun _ => rfl) ?_
  refine dp_s1 hF (i := .getfield 46) rfl (fun _ => rfl) ?_
  refine dp_s1 hF (i := .iconst 0) rfl (fun _ => rfl) ?_
  refine dp_s1 hF (i := .aload_n 0) rfl (fun _ => rfl) ?_
  refine dp_s1 hF (i := .getfield 52) rfl (fun _ => rfl) ?_
  refine dp_s1 hF (i := .iconst 0) rfl (fun _ => rfl) ?_
  refine dp_s1 hF (i := .aload_n 0) rfl (fun _ => rfl) ?_
  refine dp_s1 hF (i := .getfield 62) rfl (fun _ => rfl) ?_
  refine dp_s3w (dp_cpJ M 86 (Int32.toNatClampNeg (0 : Int32)) 88 (Int32.toNatClampNeg (0 : Int32)) (Int32.toNatClampNeg (dp_I M 75 1))) (fun (M1 : dp_M) => (17, [some (.ref 75), some (.int v1), some (.long v2), none, none, none], [], M1)) hF (i := .invokestatic 69) rfl (fun _ => rfl) (fun M1 => ?_)
  refine dp_s1 hF (i := .aload_n 0) rfl (fun _ => rfl) ?_
  refine dp_s1 hF (i := .getfield 43) rfl (fun _ => rfl) ?_
  refine dp_s1 hF (i := .iload_n 1) rfl (fun _ => rfl) ?_
  refine dp_s1 hF (i := .lload_n 2) rfl (fun _ => rfl) ?_
  refine dp_s3w (dp_setJ M1 85 (Int32.toNatClampNeg v1) v2) (fun (M2 : dp_M) => (24, [some (.ref 75), some (.int v1), some (.long v2), none, none, none], [], M2)) hF (i := .lastore) rfl (fun _ => rfl) (fun M2 => ?_)
  refine dp_s1 hF (i := .aload_n 0) rfl (fun _ => rfl) ?_
  refine dp_s1 hF (i := .aload_n 0) rfl (fun _ => rfl) ?_
  refine dp_s1 hF (i := .getfield 34) rfl (fun _ => rfl) ?_
  refine dp_s1 hF (i := .iload_n 1) rfl (fun _ => rfl) ?_
  refine dp_s3 hF (i := .iaload) rfl (fun _ => rfl) ?_
  refine dp_sv (mj := dp_m_X5_follow) (i := .invokevirtual 65) rfl rfl rfl rfl (fun _ => rfl) (fun M3 => ?_)
  refine dp_s1 hF (i := .iconst 0) rfl (fun _ => rfl) ?_
  refine dp_s1w (0 : Int32) (fun (y4 : Int32) => (37, [some (.ref 75), some (.int v1), some (.long v2), none, some (.int y4), none], [], M3)) hF (i := .istore 4) rfl (fun _ => rfl) (fun y4 => ?_)
  refine dp_s1 hF (i := .iconst 0) rfl (fun _ => rfl) ?_
  refine dp_s1w (0 : Int32) (fun (y5 : Int32) => (40, [some (.ref 75), some (.int v1), some (.long v2), none, some (.int y4), some (.int y5)], [], M3)) hF (i := .istore 5) rfl (fun _ => rfl) (fun y5 => ?_)
  exact rfl
set_option maxRecDepth 20000 in
theorem D_X5_changeAsk_40_eq (xs : Nat → Int32) (xl d : Nat) (v1 : Int32) (v2 : Int64) (v4 : Int32) (v5 : Int32) (M : dp_M) : D_X5_changeAsk_40 xs xl d v1 v2 v4 v5 M = if (dp_I M 75 1) ≤ v5 then (some (.inl (some (.int v4)), M)) else (if v5 < 0 ∨ 400 ≤ Int32.toNatClampNeg v5 then none else (if v5 < 0 ∨ 400 ≤ Int32.toNatClampNeg v5 then none else (if (lg_cmp (dp_J M 86 (Int32.toNatClampNeg v5)) (dp_J M 88 (Int32.toNatClampNeg v5))) = 0 then (dp_w (v4 + (0 : Int32)) (fun y1 => dp_w (v5 + (1 : Int32)) (fun y2 => D_X5_changeAsk_40 xs xl d v1 v2 y1 y2 M))) else (dp_w (v4 + (1 : Int32)) (fun y3 => dp_w (v5 + (1 : Int32)) (fun y4 => D_X5_changeAsk_40 xs xl d v1 v2 y3 y4 M)))))) := by
  have hF := dp_den_grow (md := true) (xs := xs) (xl := xl) d
  unfold D_X5_changeAsk_40
  refine dp_s1 hF (i := .iload 5) rfl (fun _ => rfl) ?_
  refine dp_s1 hF (i := .aload_n 0) rfl (fun _ => rfl) ?_
  refine dp_s1 hF (i := .getfield 62) rfl (fun _ => rfl) ?_
  refine dp_s2 hF (i := .if_icmp .ge 37) (a := (83, [some (.ref 75), some (.int v1), some (.long v2), none, some (.int v4), some (.int v5)], [], M)) (b := (49, [some (.ref 75), some (.int v1), some (.long v2), none, some (.int v4), some (.int v5)], [], M)) rfl (fun _ => rfl) ?_ ?_
  · refine dp_s1 hF (i := .iload 4) rfl (fun _ => rfl) ?_
    exact dp_s0 hF (i := .ireturn) rfl (fun _ => rfl)
  refine dp_s1 hF (i := .iload 4) rfl (fun _ => rfl) ?_
  refine dp_s1 hF (i := .aload_n 0) rfl (fun _ => rfl) ?_
  refine dp_s1 hF (i := .getfield 46) rfl (fun _ => rfl) ?_
  refine dp_s1 hF (i := .iload 5) rfl (fun _ => rfl) ?_
  refine dp_s3 hF (i := .laload) rfl (fun _ => rfl) ?_
  refine dp_s1 hF (i := .aload_n 0) rfl (fun _ => rfl) ?_
  refine dp_s1 hF (i := .getfield 52) rfl (fun _ => rfl) ?_
  refine dp_s1 hF (i := .iload 5) rfl (fun _ => rfl) ?_
  refine dp_s3 hF (i := .laload) rfl (fun _ => rfl) ?_
  refine dp_s1 hF (i := .lcmp) rfl (fun _ => rfl) ?_
  refine dp_s2 hF (i := .ifCond .eq 7) (a := (73, [some (.ref 75), some (.int v1), some (.long v2), none, some (.int v4), some (.int v5)], [.int v4], M)) (b := (69, [some (.ref 75), some (.int v1), some (.long v2), none, some (.int v4), some (.int v5)], [.int v4], M)) rfl (fun _ => rfl) ?_ ?_
  · refine dp_s1 hF (i := .iconst 0) rfl (fun _ => rfl) ?_
    refine dp_s1 hF (i := .iadd) rfl (fun _ => rfl) ?_
    refine dp_s1w (v4 + (0 : Int32)) (fun (y1 : Int32) => (77, [some (.ref 75), some (.int v1), some (.long v2), none, some (.int y1), some (.int v5)], [], M)) hF (i := .istore 4) rfl (fun _ => rfl) (fun y1 => ?_)
    refine dp_s1w (v5 + (1 : Int32)) (fun (y2 : Int32) => (80, [some (.ref 75), some (.int v1), some (.long v2), none, some (.int y1), some (.int y2)], [], M)) hF (i := .iinc 5 1) rfl (fun _ => rfl) (fun y2 => ?_)
    refine dp_s1 hF (i := .goto (-40)) rfl (fun _ => rfl) ?_
    exact rfl
  refine dp_s1 hF (i := .iconst 1) rfl (fun _ => rfl) ?_
  refine dp_s1 hF (i := .goto 4) rfl (fun _ => rfl) ?_
  refine dp_s1 hF (i := .iadd) rfl (fun _ => rfl) ?_
  refine dp_s1w (v4 + (1 : Int32)) (fun (y3 : Int32) => (77, [some (.ref 75), some (.int v1), some (.long v2), none, some (.int y3), some (.int v5)], [], M)) hF (i := .istore 4) rfl (fun _ => rfl) (fun y3 => ?_)
  refine dp_s1w (v5 + (1 : Int32)) (fun (y4 : Int32) => (80, [some (.ref 75), some (.int v1), some (.long v2), none, some (.int y3), some (.int y4)], [], M)) hF (i := .iinc 5 1) rfl (fun _ => rfl) (fun y4 => ?_)
  refine dp_s1 hF (i := .goto (-40)) rfl (fun _ => rfl) ?_
  exact rfl
noncomputable def D_X5_runTo_0 (xs : Nat → Int32) (xl d : Nat) (v1 : Int32) (v2 : Int32) (M : dp_M) : Option dp_Res := dp_lim true xs xl (dp_den true xs xl d) dp_m_X5_runTo (0, [some (.ref 75), some (.int v1), some (.int v2), none, none, none], [], M)
noncomputable def D_X5_runTo_25 (xs : Nat → Int32) (xl d : Nat) (v1 : Int32) (v2 : Int32) (v3 : Int32) (v4 : Int32) (v5 : Int32) (M : dp_M) : Option dp_Res := dp_lim true xs xl (dp_den true xs xl d) dp_m_X5_runTo (25, [some (.ref 75), some (.int v1), some (.int v2), some (.int v3), some (.int v4), some (.int v5)], [], M)
theorem D_X5_runTo_0_den (xs : Nat → Int32) (xl d : Nat) (a0 : Int32) (a1 : Int32) (M : dp_M) : dp_den true xs xl (d + 1) 121 [.ref 75, .int a0, .int a1] M = D_X5_runTo_0 xs xl d a0 a1 M := rfl
set_option maxRecDepth 20000 in
theorem D_X5_runTo_0_eq (xs : Nat → Int32) (xl d : Nat) (v1 : Int32) (v2 : Int32) (M : dp_M) : D_X5_runTo_0 xs xl d v1 v2 M = if v1 < 0 ∨ 16 ≤ Int32.toNatClampNeg v1 then none else (dp_w (dp_I M 79 (Int32.toNatClampNeg v1)) (fun y1 => if v1 < 0 ∨ 16 ≤ Int32.toNatClampNeg v1 then none else dp_w (dp_setI M 79 (Int32.toNatClampNeg v1) v2) (fun M2 => dp_bv (dp_den true xs xl d 129 [.ref 75, .int v1] M2) (fun M3 => dp_w (0 : Int32) (fun y4 => dp_w (0 : Int32) (fun y5 => D_X5_runTo_25 xs xl d v1 v2 y1 y4 y5 M3)))))) := by
  have hF := dp_den_grow (md := true) (xs := xs) (xl := xl) d
  unfold D_X5_runTo_0
  refine dp_s1 hF (i := .aload_n 0) rfl (fun _ => rfl) ?_
  refine dp_s1 hF (i := .getfield 22) rfl (fun _ => rfl) ?_
  refine dp_s1 hF (i := .iload_n 1) rfl (fun _ => rfl) ?_
  refine dp_s3 hF (i := .iaload) rfl (fun _ => rfl) ?_
  refine dp_s1w (dp_I M 79 (Int32.toNatClampNeg v1)) (fun (y1 : Int32) => (7, [some (.ref 75), some (.int v1), some (.int v2), some (.int y1), none, none], [], M)) hF (i := .istore_n 3) rfl (fun _ => rfl) (fun y1 => ?_)
  refine dp_s1 hF (i := .aload_n 0) rfl (fun _ => rfl) ?_
  refine dp_s1 hF (i := .getfield 22) rfl (fun _ => rfl) ?_
  refine dp_s1 hF (i := .iload_n 1) rfl (fun _ => rfl) ?_
  refine dp_s1 hF (i := .iload_n 2) rfl (fun _ => rfl) ?_
  refine dp_s3w (dp_setI M 79 (Int32.toNatClampNeg v1) v2) (fun (M2 : dp_M) => (14, [some (.ref 75), some (.int v1), some (.int v2), some (.int y1), none, none], [], M2)) hF (i := .iastore) rfl (fun _ => rfl) (fun M2 => ?_)
  refine dp_s1 hF (i := .aload_n 0) rfl (fun _ => rfl) ?_
  refine dp_s1 hF (i := .iload_n 1) rfl (fun _ => rfl) ?_
  refine dp_sv (mj := dp_m_X5_follow) (i := .invokevirtual 65) rfl rfl rfl rfl (fun _ => rfl) (fun M3 => ?_)
  refine dp_s1 hF (i := .iconst 0) rfl (fun _ => rfl) ?_
  refine dp_s1w (0 : Int32) (fun (y4 : Int32) => (22, [some (.ref 75), some (.int v1), some (.int v2), some (.int y1), some (.int y4), none], [], M3)) hF (i := .istore 4) rfl (fun _ => rfl) (fun y4 => ?_)
  refine dp_s1 hF (i := .iconst 0) rfl (fun _ => rfl) ?_
  refine dp_s1w (0 : Int32) (fun (y5 : Int32) => (25, [some (.ref 75), some (.int v1), some (.int v2), some (.int y1), some (.int y4), some (.int y5)], [], M3)) hF (i := .istore 5) rfl (fun _ => rfl) (fun y5 => ?_)
  exact rfl
set_option maxRecDepth 20000 in
theorem D_X5_runTo_25_eq (xs : Nat → Int32) (xl d : Nat) (v1 : Int32) (v2 : Int32) (v3 : Int32) (v4 : Int32) (v5 : Int32) (M : dp_M) : D_X5_runTo_25 xs xl d v1 v2 v3 v4 v5 M = if (dp_I M 75 16) ≤ v5 then (some (.inl (some (.int v4)), M)) else (if v5 < 0 ∨ 400 ≤ Int32.toNatClampNeg v5 then none else (if (dp_I M 89 (Int32.toNatClampNeg v5)) < 0 ∨ 400 ≤ Int32.toNatClampNeg (dp_I M 89 (Int32.toNatClampNeg v5)) then none else (if (dp_I M 87 (Int32.toNatClampNeg (dp_I M 89 (Int32.toNatClampNeg v5)))) ≤ v3 then (dp_w (v4 + (0 : Int32)) (fun y1 => dp_w (v5 + (1 : Int32)) (fun y2 => D_X5_runTo_25 xs xl d v1 v2 v3 y1 y2 M))) else (if v5 < 0 ∨ 400 ≤ Int32.toNatClampNeg v5 then none else (if (dp_I M 89 (Int32.toNatClampNeg v5)) < 0 ∨ 400 ≤ Int32.toNatClampNeg (dp_I M 89 (Int32.toNatClampNeg v5)) then none else (if (lg_cmp (dp_J M 86 (Int32.toNatClampNeg (dp_I M 89 (Int32.toNatClampNeg v5)))) (0 : Int64)) ≤ 0 then (dp_w (v4 + (0 : Int32)) (fun y3 => dp_w (v5 + (1 : Int32)) (fun y4 => D_X5_runTo_25 xs xl d v1 v2 v3 y3 y4 M))) else (dp_w (v4 + (1 : Int32)) (fun y5 => dp_w (v5 + (1 : Int32)) (fun y6 => D_X5_runTo_25 xs xl d v1 v2 v3 y5 y6 M))))))))) := by
  have hF := dp_den_grow (md := true) (xs := xs) (xl := xl) d
  unfold D_X5_runTo_25
  refine dp_s1 hF (i := .iload 5) rfl (fun _ => rfl) ?_
  refine dp_s1 hF (i := .aload_n 0) rfl (fun _ => rfl) ?_
  refine dp_s1 hF (i := .getfield 75) rfl (fun _ => rfl) ?_
  refine dp_s2 hF (i := .if_icmp .ge 52) (a := (83, [some (.ref 75), some (.int v1), some (.int v2), some (.int v3), some (.int v4), some (.int v5)], [], M)) (b := (34, [some (.ref 75), some (.int v1), some (.int v2), some (.int v3), some (.int v4), some (.int v5)], [], M)) rfl (fun _ => rfl) ?_ ?_
  · refine dp_s1 hF (i := .iload 4) rfl (fun _ => rfl) ?_
    exact dp_s0 hF (i := .ireturn) rfl (fun _ => rfl)
  refine dp_s1 hF (i := .iload 4) rfl (fun _ => rfl) ?_
  refine dp_s1 hF (i := .aload_n 0) rfl (fun _ => rfl) ?_
  refine dp_s1 hF (i := .getfield 49) rfl (fun _ => rfl) ?_
  refine dp_s1 hF (i := .aload_n 0) rfl (fun _ => rfl) ?_
  refine dp_s1 hF (i := .getfield 55) rfl (fun _ => rfl) ?_
  refine dp_s1 hF (i := .iload 5) rfl (fun _ => rfl) ?_
  refine dp_s3 hF (i := .iaload) rfl (fun _ => rfl) ?_
  refine dp_s3 hF (i := .iaload) rfl (fun _ => rfl) ?_
  refine dp_s1 hF (i := .iload_n 3) rfl (fun _ => rfl) ?_
  refine dp_s2 hF (i := .if_icmp .le 24) (a := (73, [some (.ref 75), some (.int v1), some (.int v2), some (.int v3), some (.int v4), some (.int v5)], [.int v4], M)) (b := (52, [some (.ref 75), some (.int v1), some (.int v2), some (.int v3), some (.int v4), some (.int v5)], [.int v4], M)) rfl (fun _ => rfl) ?_ ?_
  · refine dp_s1 hF (i := .iconst 0) rfl (fun _ => rfl) ?_
    refine dp_s1 hF (i := .iadd) rfl (fun _ => rfl) ?_
    refine dp_s1w (v4 + (0 : Int32)) (fun (y1 : Int32) => (77, [some (.ref 75), some (.int v1), some (.int v2), some (.int v3), some (.int y1), some (.int v5)], [], M)) hF (i := .istore 4) rfl (fun _ => rfl) (fun y1 => ?_)
    refine dp_s1w (v5 + (1 : Int32)) (fun (y2 : Int32) => (80, [some (.ref 75), some (.int v1), some (.int v2), some (.int v3), some (.int y1), some (.int y2)], [], M)) hF (i := .iinc 5 1) rfl (fun _ => rfl) (fun y2 => ?_)
    refine dp_s1 hF (i := .goto (-55)) rfl (fun _ => rfl) ?_
    exact rfl
  refine dp_s1 hF (i := .aload_n 0) rfl (fun _ => rfl) ?_
  refine dp_s1 hF (i := .getfield 46) rfl (fun _ => rfl) ?_
  refine dp_s1 hF (i := .aload_n 0) rfl (fun _ => rfl) ?_
  refine dp_s1 hF (i := .getfield 55) rfl (fun _ => rfl) ?_
  refine dp_s1 hF (i := .iload 5) rfl (fun _ => rfl) ?_
  refine dp_s3 hF (i := .iaload) rfl (fun _ => rfl) ?_
  refine dp_s3 hF (i := .laload) rfl (fun _ => rfl) ?_
  refine dp_s1 hF (i := .lconst 0) rfl (fun _ => rfl) ?_
  refine dp_s1 hF (i := .lcmp) rfl (fun _ => rfl) ?_
  refine dp_s2 hF (i := .ifCond .le 7) (a := (73, [some (.ref 75), some (.int v1), some (.int v2), some (.int v3), some (.int v4), some (.int v5)], [.int v4], M)) (b := (69, [some (.ref 75), some (.int v1), some (.int v2), some (.int v3), some (.int v4), some (.int v5)], [.int v4], M)) rfl (fun _ => rfl) ?_ ?_
  · refine dp_s1 hF (i := .iconst 0) rfl (fun _ => rfl) ?_
    refine dp_s1 hF (i := .iadd) rfl (fun _ => rfl) ?_
    refine dp_s1w (v4 + (0 : Int32)) (fun (y3 : Int32) => (77, [some (.ref 75), some (.int v1), some (.int v2), some (.int v3), some (.int y3), some (.int v5)], [], M)) hF (i := .istore 4) rfl (fun _ => rfl) (fun y3 => ?_)
    refine dp_s1w (v5 + (1 : Int32)) (fun (y4 : Int32) => (80, [some (.ref 75), some (.int v1), some (.int v2), some (.int v3), some (.int y3), some (.int y4)], [], M)) hF (i := .iinc 5 1) rfl (fun _ => rfl) (fun y4 => ?_)
    refine dp_s1 hF (i := .goto (-55)) rfl (fun _ => rfl) ?_
    exact rfl
  refine dp_s1 hF (i := .iconst 1) rfl (fun _ => rfl) ?_
  refine dp_s1 hF (i := .goto 4) rfl (fun _ => rfl) ?_
  refine dp_s1 hF (i := .iadd) rfl (fun _ => rfl) ?_
  refine dp_s1w (v4 + (1 : Int32)) (fun (y5 : Int32) => (77, [some (.ref 75), some (.int v1), some (.int v2), some (.int v3), some (.int y5), some (.int v5)], [], M)) hF (i := .istore 4) rfl (fun _ => rfl) (fun y5 => ?_)
  refine dp_s1w (v5 + (1 : Int32)) (fun (y6 : Int32) => (80, [some (.ref 75), some (.int v1), some (.int v2), some (.int v3), some (.int y5), some (.int y6)], [], M)) hF (i := .iinc 5 1) rfl (fun _ => rfl) (fun y6 => ?_)
  refine dp_s1 hF (i := .goto (-55)) rfl (fun _ => rfl) ?_
  exact rfl
noncomputable def D_X5_setBlocked_0 (xs : Nat → Int32) (xl d : Nat) (v1 : Int32) (v2 : Int32) (v3 : Int32) (M : dp_M) : Option dp_Res := dp_lim true xs xl (dp_den true xs xl d) dp_m_X5_setBlocked (0, [some (.ref 75), some (.int v1), some (.int v2), some (.int v3), none], [], M)
theorem D_X5_setBlocked_0_den (xs : Nat → Int32) (xl d : Nat) (a0 : Int32) (a1 : Int32) (a2 : Int32) (M : dp_M) : dp_den true xs xl (d + 1) 122 [.ref 75, .int a0, .int a1, .int a2] M = D_X5_setBlocked_0 xs xl d a0 a1 a2 M := rfl
set_option maxRecDepth 20000 in
theorem D_X5_setBlocked_0_eq (xs : Nat → Int32) (xl d : Nat) (v1 : Int32) (v2 : Int32) (v3 : Int32) (M : dp_M) : D_X5_setBlocked_0 xs xl d v1 v2 v3 M = dp_w ((v1 * (401 : Int32)) + v2) (fun y1 => if y1 < 0 ∨ 6416 ≤ Int32.toNatClampNeg y1 then none else (if (dp_I M 80 (Int32.toNatClampNeg y1)) = v3 then (some (.inl (some (.int (0 : Int32))), M)) else (if y1 < 0 ∨ 6416 ≤ Int32.toNatClampNeg y1 then none else dp_w (dp_setI M 80 (Int32.toNatClampNeg y1) (v3 &&& 1)) (fun M2 => dp_bv (dp_den true xs xl d 129 [.ref 75, .int v1] M2) (fun M3 => some (.inl (some (.int (1 : Int32))), M3)))))) := by
  have hF := dp_den_grow (md := true) (xs := xs) (xl := xl) d
  unfold D_X5_setBlocked_0
  refine dp_s1 hF (i := .iload_n 1) rfl (fun _ => rfl) ?_
  refine dp_s1 hF (i := .sipush 401) rfl (fun _ => rfl) ?_
  refine dp_s1 hF (i := .imul) rfl (fun _ => rfl) ?_
  refine dp_s1 hF (i := .iload_n 2) rfl (fun _ => rfl) ?_
  refine dp_s1 hF (i := .iadd) rfl (fun _ => rfl) ?_
  refine dp_s1w ((v1 * (401 : Int32)) + v2) (fun (y1 : Int32) => (9, [some (.ref 75), some (.int v1), some (.int v2), some (.int v3), some (.int y1)], [], M)) hF (i := .istore 4) rfl (fun _ => rfl) (fun y1 => ?_)
  refine dp_s1 hF (i := .aload_n 0) rfl (fun _ => rfl) ?_
  refine dp_s1 hF (i := .getfield 25) rfl (fun _ => rfl) ?_
  refine dp_s1 hF (i := .iload 4) rfl (fun _ => rfl) ?_
  refine dp_s3 hF (i := .baload) rfl (fun _ => rfl) ?_
  refine dp_s1 hF (i := .iload_n 3) rfl (fun _ => rfl) ?_
  refine dp_s2 hF (i := .if_icmp .ne 5) (a := (20, [some (.ref 75), some (.int v1), some (.int v2), some (.int v3), some (.int y1)], [], M)) (b := (22, [some (.ref 75), some (.int v1), some (.int v2), some (.int v3), some (.int y1)], [], M)) rfl (fun _ => rfl) ?_ ?_
  · refine dp_s1 hF (i := .iconst 0) rfl (fun _ => rfl) ?_
    exact dp_s0 hF (i := .ireturn) rfl (fun _ => rfl)
  refine dp_s1 hF (i := .aload_n 0) rfl (fun _ => rfl) ?_
  refine dp_s1 hF (i := .getfield 25) rfl (fun _ => rfl) ?_
  refine dp_s1 hF (i := .iload 4) rfl (fun _ => rfl) ?_
  refine dp_s1 hF (i := .iload_n 3) rfl (fun _ => rfl) ?_
  refine dp_s3w (dp_setI M 80 (Int32.toNatClampNeg y1) (v3 &&& 1)) (fun (M2 : dp_M) => (30, [some (.ref 75), some (.int v1), some (.int v2), some (.int v3), some (.int y1)], [], M2)) hF (i := .bastore) rfl (fun _ => rfl) (fun M2 => ?_)
  refine dp_s1 hF (i := .aload_n 0) rfl (fun _ => rfl) ?_
  refine dp_s1 hF (i := .iload_n 1) rfl (fun _ => rfl) ?_
  refine dp_sv (mj := dp_m_X5_follow) (i := .invokevirtual 65) rfl rfl rfl rfl (fun _ => rfl) (fun M3 => ?_)
  refine dp_s1 hF (i := .iconst 1) rfl (fun _ => rfl) ?_
  exact dp_s0 hF (i := .ireturn) rfl (fun _ => rfl)
noncomputable def D_X5_wasRun_0 (xs : Nat → Int32) (xl d : Nat) (v1 : Int32) (M : dp_M) : Option dp_Res := dp_lim true xs xl (dp_den true xs xl d) dp_m_X5_wasRun (0, [some (.ref 75), some (.int v1)], [], M)
theorem D_X5_wasRun_0_den (xs : Nat → Int32) (xl d : Nat) (a0 : Int32) (M : dp_M) : dp_den true xs xl (d + 1) 123 [.ref 75, .int a0] M = D_X5_wasRun_0 xs xl d a0 M := rfl
set_option maxRecDepth 20000 in
theorem D_X5_wasRun_0_eq (xs : Nat → Int32) (xl d : Nat) (v1 : Int32) (M : dp_M) : D_X5_wasRun_0 xs xl d v1 M = if v1 < 0 ∨ 16 ≤ Int32.toNatClampNeg v1 then none else (if v1 < 0 ∨ 16 ≤ Int32.toNatClampNeg v1 then none else (if (dp_I M 79 (Int32.toNatClampNeg v1)) < (dp_I M 77 (Int32.toNatClampNeg v1)) then (some (.inl (some (.int (0 : Int32))), M)) else (some (.inl (some (.int (1 : Int32))), M)))) := by
  have hF := dp_den_grow (md := true) (xs := xs) (xl := xl) d
  unfold D_X5_wasRun_0
  refine dp_s1 hF (i := .aload_n 0) rfl (fun _ => rfl) ?_
  refine dp_s1 hF (i := .getfield 22) rfl (fun _ => rfl) ?_
  refine dp_s1 hF (i := .iload_n 1) rfl (fun _ => rfl) ?_
  refine dp_s3 hF (i := .iaload) rfl (fun _ => rfl) ?_
  refine dp_s1 hF (i := .aload_n 0) rfl (fun _ => rfl) ?_
  refine dp_s1 hF (i := .getfield 15) rfl (fun _ => rfl) ?_
  refine dp_s1 hF (i := .iload_n 1) rfl (fun _ => rfl) ?_
  refine dp_s3 hF (i := .iaload) rfl (fun _ => rfl) ?_
  refine dp_s2 hF (i := .if_icmp .lt 7) (a := (19, [some (.ref 75), some (.int v1)], [], M)) (b := (15, [some (.ref 75), some (.int v1)], [], M)) rfl (fun _ => rfl) ?_ ?_
  · refine dp_s1 hF (i := .iconst 0) rfl (fun _ => rfl) ?_
    exact dp_s0 hF (i := .ireturn) rfl (fun _ => rfl)
  refine dp_s1 hF (i := .iconst 1) rfl (fun _ => rfl) ?_
  refine dp_s1 hF (i := .goto 4) rfl (fun _ => rfl) ?_
  exact dp_s0 hF (i := .ireturn) rfl (fun _ => rfl)
noncomputable def D_X5_carryOver_0 (xs : Nat → Int32) (xl d : Nat) (v1 : Int32) (v2 : Int32) (v3 : Int64) (M : dp_M) : Option dp_Res := dp_lim true xs xl (dp_den true xs xl d) dp_m_X5_carryOver (0, [some (.ref 75), some (.int v1), some (.int v2), some (.long v3), none, none], [], M)
noncomputable def D_X5_carryOver_43 (xs : Nat → Int32) (xl d : Nat) (v1 : Int32) (v2 : Int32) (v3 : Int64) (vs0 : Int32) (M : dp_M) : Option dp_Res := dp_lim true xs xl (dp_den true xs xl d) dp_m_X5_carryOver (43, [some (.ref 75), some (.int v1), some (.int v2), some (.long v3), none, none], [.int vs0], M)
theorem D_X5_carryOver_0_den (xs : Nat → Int32) (xl d : Nat) (a0 : Int32) (a1 : Int32) (a2 : Int64) (M : dp_M) : dp_den true xs xl (d + 1) 124 [.ref 75, .int a0, .int a1, .long a2] M = D_X5_carryOver_0 xs xl d a0 a1 a2 M := rfl
set_option maxRecDepth 20000 in
theorem D_X5_carryOver_0_eq (xs : Nat → Int32) (xl d : Nat) (v1 : Int32) (v2 : Int32) (v3 : Int64) (M : dp_M) : D_X5_carryOver_0 xs xl d v1 v2 v3 M = if v1 = v2 then (D_X5_carryOver_43 xs xl d v1 v2 v3 (0 : Int32) M) else (dp_bi (dp_den true xs xl d 123 [.ref 75, .int v1] M) (fun r2 M1 => if r2 = 0 then (dp_bi (dp_den true xs xl d 123 [.ref 75, .int v2] M1) (fun r4 M3 => if r4 = 0 then (if (lg_cmp v3 (1 : Int64)) < 0 then (D_X5_carryOver_43 xs xl d v1 v2 v3 (0 : Int32) M3) else (if v1 < 0 ∨ 16 ≤ Int32.toNatClampNeg v1 then none else (if 0 ≤ (lg_cmp v3 (dp_J M3 76 (Int32.toNatClampNeg v1))) then (D_X5_carryOver_43 xs xl d v1 v2 v3 (0 : Int32) M3) else (D_X5_carryOver_43 xs xl d v1 v2 v3 (1 : Int32) M3)))) else (D_X5_carryOver_43 xs xl d v1 v2 v3 (0 : Int32) M3))) else (D_X5_carryOver_43 xs xl d v1 v2 v3 (0 : Int32) M1))) := by
  have hF := dp_den_grow (md := true) (xs := xs) (xl := xl) d
  unfold D_X5_carryOver_0
  refine dp_s1 hF (i := .iload_n 1) rfl (fun _ => rfl) ?_
  refine dp_s1 hF (i := .iload_n 2) rfl (fun _ => rfl) ?_
  refine dp_s2 hF (i := .if_icmp .eq 40) (a := (42, [some (.ref 75), some (.int v1), some (.int v2), some (.long v3), none, none], [], M)) (b := (5, [some (.ref 75), some (.int v1), some (.int v2), some (.long v3), none, none], [], M)) rfl (fun _ => rfl) ?_ ?_
  · refine dp_s1 hF (i := .iconst 0) rfl (fun _ => rfl) ?_
    exact rfl
  refine dp_s1 hF (i := .aload_n 0) rfl (fun _ => rfl) ?_
  refine dp_s1 hF (i := .iload_n 1) rfl (fun _ => rfl) ?_
  refine dp_si (mj := dp_m_X5_wasRun) (i := .invokevirtual 78) rfl rfl (Or.inr rfl) rfl (fun _ => rfl) (fun r2 M1 => ?_)
  refine dp_s2 hF (i := .ifCond .ne 32) (a := (13, [some (.ref 75), some (.int v1), some (.int v2), some (.long v3), none, none], [], M1)) (b := (42, [some (.ref 75), some (.int v1), some (.int v2), some (.long v3), none, none], [], M1)) rfl (fun _ => rfl) ?_ ?_
  · refine dp_s1 hF (i := .aload_n 0) rfl (fun _ => rfl) ?_
    refine dp_s1 hF (i := .iload_n 2) rfl (fun _ => rfl) ?_
    refine dp_si (mj := dp_m_X5_wasRun) (i := .invokevirtual 78) rfl rfl (Or.inr rfl) rfl (fun _ => rfl) (fun r4 M3 => ?_)
    refine dp_s2 hF (i := .ifCond .ne 24) (a := (21, [some (.ref 75), some (.int v1), some (.int v2), some (.long v3), none, none], [], M3)) (b := (42, [some (.ref 75), some (.int v1), some (.int v2), some (.long v3), none, none], [], M3)) rfl (fun _ => rfl) ?_ ?_
    · refine dp_s1 hF (i := .lload_n 3) rfl (fun _ => rfl) ?_
      refine dp_s1 hF (i := .lconst 1) rfl (fun _ => rfl) ?_
      refine dp_s1 hF (i := .lcmp) rfl (fun _ => rfl) ?_
      refine dp_s2 hF (i := .ifCond .lt 18) (a := (42, [some (.ref 75), some (.int v1), some (.int v2), some (.long v3), none, none], [], M3)) (b := (27, [some (.ref 75), some (.int v1), some (.int v2), some (.long v3), none, none], [], M3)) rfl (fun _ => rfl) ?_ ?_
      · refine dp_s1 hF (i := .iconst 0) rfl (fun _ => rfl) ?_
        exact rfl
      refine dp_s1 hF (i := .lload_n 3) rfl (fun _ => rfl) ?_
      refine dp_s1 hF (i := .aload_n 0) rfl (fun _ => rfl) ?_
      refine dp_s1 hF (i := .getfield 11) rfl (fun _ => rfl) ?_
      refine dp_s1 hF (i := .iload_n 1) rfl (fun _ => rfl) ?_
      refine dp_s3 hF (i := .laload) rfl (fun _ => rfl) ?_
      refine dp_s1 hF (i := .lcmp) rfl (fun _ => rfl) ?_
      refine dp_s2 hF (i := .ifCond .ge 7) (a := (42, [some (.ref 75), some (.int v1), some (.int v2), some (.long v3), none, none], [], M3)) (b := (38, [some (.ref 75), some (.int v1), some (.int v2), some (.long v3), none, none], [], M3)) rfl (fun _ => rfl) ?_ ?_
      · refine dp_s1 hF (i := .iconst 0) rfl (fun _ => rfl) ?_
        exact rfl
      refine dp_s1 hF (i := .iconst 1) rfl (fun _ => rfl) ?_
      refine dp_s1 hF (i := .goto 4) rfl (fun _ => rfl) ?_
      exact rfl
    refine dp_s1 hF (i := .iconst 0) rfl (fun _ => rfl) ?_
    exact rfl
  refine dp_s1 hF (i := .iconst 0) rfl (fun _ => rfl) ?_
  exact rfl
set_option maxRecDepth 20000 in
theorem D_X5_carryOver_43_eq (xs : Nat → Int32) (xl d : Nat) (v1 : Int32) (v2 : Int32) (v3 : Int64) (vs0 : Int32) (M : dp_M) : D_X5_carryOver_43 xs xl d v1 v2 v3 vs0 M = if vs0 = 0 then (some (.inl (some (.int (0 : Int32))), M)) else (if v2 < 0 ∨ 16 ≤ Int32.toNatClampNeg v2 then none else (if (lg_cmp v3 ((1000000000 : Int64) - (dp_J M 76 (Int32.toNatClampNeg v2)))) ≤ 0 then (if v1 < 0 ∨ 16 ≤ Int32.toNatClampNeg v1 then none else (if v1 < 0 ∨ 16 ≤ Int32.toNatClampNeg v1 then none else dp_w (dp_setJ M 76 (Int32.toNatClampNeg v1) ((dp_J M 76 (Int32.toNatClampNeg v1)) - v3)) (fun M1 => if v2 < 0 ∨ 16 ≤ Int32.toNatClampNeg v2 then none else (if v2 < 0 ∨ 16 ≤ Int32.toNatClampNeg v2 then none else dp_w (dp_setJ M1 76 (Int32.toNatClampNeg v2) ((dp_J M1 76 (Int32.toNatClampNeg v2)) + v3)) (fun M2 => some (.inl (some (.int (1 : Int32))), M2)))))) else (some (.inl (some (.int (0 : Int32))), M)))) := by
  have hF := dp_den_grow (md := true) (xs := xs) (xl := xl) d
  unfold D_X5_carryOver_43
  refine dp_s1 hF (i := .istore 5) rfl (fun _ => rfl) ?_
  refine dp_s1 hF (i := .iload 5) rfl (fun _ => rfl) ?_
  refine dp_s2 hF (i := .ifCond .eq 18) (a := (65, [some (.ref 75), some (.int v1), some (.int v2), some (.long v3), none, some (.int vs0)], [], M)) (b := (50, [some (.ref 75), some (.int v1), some (.int v2), some (.long v3), none, some (.int vs0)], [], M)) rfl (fun _ => rfl) ?_ ?_
  · refine dp_s1 hF (i := .iconst 0) rfl (fun _ => rfl) ?_
    exact dp_s0 hF (i := .ireturn) rfl (fun _ => rfl)
  refine dp_s1 hF (i := .lload_n 3) rfl (fun _ => rfl) ?_
  refine dp_s1 hF (i := .ldc2_w 82) rfl (fun _ => rfl) ?_
  refine dp_s1 hF (i := .aload_n 0) rfl (fun _ => rfl) ?_
  refine dp_s1 hF (i := .getfield 11) rfl (fun _ => rfl) ?_
  refine dp_s1 hF (i := .iload_n 2) rfl (fun _ => rfl) ?_
  refine dp_s3 hF (i := .laload) rfl (fun _ => rfl) ?_
  refine dp_s1 hF (i := .lsub) rfl (fun _ => rfl) ?_
  refine dp_s1 hF (i := .lcmp) rfl (fun _ => rfl) ?_
  refine dp_s2 hF (i := .ifCond .le 5) (a := (67, [some (.ref 75), some (.int v1), some (.int v2), some (.long v3), none, some (.int vs0)], [], M)) (b := (65, [some (.ref 75), some (.int v1), some (.int v2), some (.long v3), none, some (.int vs0)], [], M)) rfl (fun _ => rfl) ?_ ?_
  · refine dp_s1 hF (i := .aload_n 0) rfl (fun _ => rfl) ?_
    refine dp_s1 hF (i := .getfield 11) rfl (fun _ => rfl) ?_
    refine dp_s1 hF (i := .iload_n 1) rfl (fun _ => rfl) ?_
    refine dp_s1 hF (i := .dup2) rfl (fun _ => rfl) ?_
    refine dp_s3 hF (i := .laload) rfl (fun _ => rfl) ?_
    refine dp_s1 hF (i := .lload_n 3) rfl (fun _ => rfl) ?_
    refine dp_s1 hF (i := .lsub) rfl (fun _ => rfl) ?_
    refine dp_s3w (dp_setJ M 76 (Int32.toNatClampNeg v1) ((dp_J M 76 (Int32.toNatClampNeg v1)) - v3)) (fun (M1 : dp_M) => (77, [some (.ref 75), some (.int v1), some (.int v2), some (.long v3), none, some (.int vs0)], [], M1)) hF (i := .lastore) rfl (fun _ => rfl) (fun M1 => ?_)
    refine dp_s1 hF (i := .aload_n 0) rfl (fun _ => rfl) ?_
    refine dp_s1 hF (i := .getfield 11) rfl (fun _ => rfl) ?_
    refine dp_s1 hF (i := .iload_n 2) rfl (fun _ => rfl) ?_
    refine dp_s1 hF (i := .dup2) rfl (fun _ => rfl) ?_
    refine dp_s3 hF (i := .laload) rfl (fun _ => rfl) ?_
    refine dp_s1 hF (i := .lload_n 3) rfl (fun _ => rfl) ?_
    refine dp_s1 hF (i := .ladd) rfl (fun _ => rfl) ?_
    refine dp_s3w (dp_setJ M1 76 (Int32.toNatClampNeg v2) ((dp_J M1 76 (Int32.toNatClampNeg v2)) + v3)) (fun (M2 : dp_M) => (87, [some (.ref 75), some (.int v1), some (.int v2), some (.long v3), none, some (.int vs0)], [], M2)) hF (i := .lastore) rfl (fun _ => rfl) (fun M2 => ?_)
    refine dp_s1 hF (i := .iconst 1) rfl (fun _ => rfl) ?_
    exact dp_s0 hF (i := .ireturn) rfl (fun _ => rfl)
  refine dp_s1 hF (i := .iconst 0) rfl (fun _ => rfl) ?_
  exact dp_s0 hF (i := .ireturn) rfl (fun _ => rfl)
noncomputable def D_X5_balanceAt_0 (xs : Nat → Int32) (xl d : Nat) (v1 : Int32) (v2 : Int32) (M : dp_M) : Option dp_Res := dp_lim true xs xl (dp_den true xs xl d) dp_m_X5_balanceAt (0, [some (.ref 75), some (.int v1), some (.int v2)], [], M)
theorem D_X5_balanceAt_0_den (xs : Nat → Int32) (xl d : Nat) (a0 : Int32) (a1 : Int32) (M : dp_M) : dp_den true xs xl (d + 1) 125 [.ref 75, .int a0, .int a1] M = D_X5_balanceAt_0 xs xl d a0 a1 M := rfl
set_option maxRecDepth 20000 in
theorem D_X5_balanceAt_0_eq (xs : Nat → Int32) (xl d : Nat) (v1 : Int32) (v2 : Int32) (M : dp_M) : D_X5_balanceAt_0 xs xl d v1 v2 M = if v1 < 0 ∨ 16 ≤ Int32.toNatClampNeg v1 then none else (if (dp_I M 77 (Int32.toNatClampNeg v1)) ≤ v2 then (if v1 < 0 ∨ 16 ≤ Int32.toNatClampNeg v1 then none else (if ((v1 * (401 : Int32)) + (if (dp_I M 78 (Int32.toNatClampNeg v1)) < v2 then (dp_I M 78 (Int32.toNatClampNeg v1)) else v2)) < 0 ∨ 6416 ≤ Int32.toNatClampNeg ((v1 * (401 : Int32)) + (if (dp_I M 78 (Int32.toNatClampNeg v1)) < v2 then (dp_I M 78 (Int32.toNatClampNeg v1)) else v2)) then none else (some (.inl (some (.long (dp_J M 81 (Int32.toNatClampNeg ((v1 * (401 : Int32)) + (if (dp_I M 78 (Int32.toNatClampNeg v1)) < v2 then (dp_I M 78 (Int32.toNatClampNeg v1)) else v2)))))), M)))) else (if v1 < 0 ∨ 16 ≤ Int32.toNatClampNeg v1 then none else (some (.inl (some (.long (dp_J M 76 (Int32.toNatClampNeg v1)))), M)))) := by
  have hF := dp_den_grow (md := true) (xs := xs) (xl := xl) d
  unfold D_X5_balanceAt_0
  refine dp_s1 hF (i := .iload_n 2) rfl (fun _ => rfl) ?_
  refine dp_s1 hF (i := .aload_n 0) rfl (fun _ => rfl) ?_
  refine dp_s1 hF (i := .getfield 15) rfl (fun _ => rfl) ?_
  refine dp_s1 hF (i := .iload_n 1) rfl (fun _ => rfl) ?_
  refine dp_s3 hF (i := .iaload) rfl (fun _ => rfl) ?_
  refine dp_s2 hF (i := .if_icmp .ge 12) (a := (19, [some (.ref 75), some (.int v1), some (.int v2)], [], M)) (b := (10, [some (.ref 75), some (.int v1), some (.int v2)], [], M)) rfl (fun _ => rfl) ?_ ?_
  · refine dp_s1 hF (i := .aload_n 0) rfl (fun _ => rfl) ?_
    refine dp_s1 hF (i := .getfield 29) rfl (fun _ => rfl) ?_
    refine dp_s1 hF (i := .iload_n 1) rfl (fun _ => rfl) ?_
    refine dp_s1 hF (i := .sipush 401) rfl (fun _ => rfl) ?_
    refine dp_s1 hF (i := .imul) rfl (fun _ => rfl) ?_
    refine dp_s1 hF (i := .iload_n 2) rfl (fun _ => rfl) ?_
    refine dp_s1 hF (i := .aload_n 0) rfl (fun _ => rfl) ?_
    refine dp_s1 hF (i := .getfield 19) rfl (fun _ => rfl) ?_
    refine dp_s1 hF (i := .iload_n 1) rfl (fun _ => rfl) ?_
    refine dp_s3 hF (i := .iaload) rfl (fun _ => rfl) ?_
    refine dp_s1 hF (i := .invokestatic 84) rfl (fun _ => rfl) ?_
    refine dp_s1 hF (i := .iadd) rfl (fun _ => rfl) ?_
    refine dp_s3 hF (i := .laload) rfl (fun _ => rfl) ?_
    exact dp_s0 hF (i := .lreturn) rfl (fun _ => rfl)
  refine dp_s1 hF (i := .aload_n 0) rfl (fun _ => rfl) ?_
  refine dp_s1 hF (i := .getfield 11) rfl (fun _ => rfl) ?_
  refine dp_s1 hF (i := .iload_n 1) rfl (fun _ => rfl) ?_
  refine dp_s3 hF (i := .laload) rfl (fun _ => rfl) ?_
  refine dp_s1 hF (i := .goto 24) rfl (fun _ => rfl) ?_
  exact dp_s0 hF (i := .lreturn) rfl (fun _ => rfl)
noncomputable def D_X5_isCritical_0 (xs : Nat → Int32) (xl d : Nat) (v1 : Int32) (M : dp_M) : Option dp_Res := dp_lim true xs xl (dp_den true xs xl d) dp_m_X5_isCritical (0, [some (.ref 75), some (.int v1)], [], M)
theorem D_X5_isCritical_0_den (xs : Nat → Int32) (xl d : Nat) (a0 : Int32) (M : dp_M) : dp_den true xs xl (d + 1) 126 [.ref 75, .int a0] M = D_X5_isCritical_0 xs xl d a0 M := rfl
set_option maxRecDepth 20000 in
theorem D_X5_isCritical_0_eq (xs : Nat → Int32) (xl d : Nat) (v1 : Int32) (M : dp_M) : D_X5_isCritical_0 xs xl d v1 M = if v1 < 0 ∨ 16 ≤ Int32.toNatClampNeg v1 then none else (dp_bl (dp_den true xs xl d 125 [.ref 75, .int v1, .int (dp_I M 79 (Int32.toNatClampNeg v1))] M) (fun r2 M1 => if v1 < 0 ∨ 16 ≤ Int32.toNatClampNeg v1 then none else (if 0 ≤ (lg_cmp ((10 : Int64) * r2) (dp_J M1 76 (Int32.toNatClampNeg v1))) then (some (.inl (some (.int (0 : Int32))), M1)) else (some (.inl (some (.int (1 : Int32))), M1))))) := by
  have hF := dp_den_grow (md := true) (xs := xs) (xl := xl) d
  unfold D_X5_isCritical_0
  refine dp_s1 hF (i := .ldc2_w 90) rfl (fun _ => rfl) ?_
  refine dp_s1 hF (i := .aload_n 0) rfl (fun _ => rfl) ?_
  refine dp_s1 hF (i := .iload_n 1) rfl (fun _ => rfl) ?_
  refine dp_s1 hF (i := .aload_n 0) rfl (fun _ => rfl) ?_
  refine dp_s1 hF (i := .getfield 22) rfl (fun _ => rfl) ?_
  refine dp_s1 hF (i := .iload_n 1) rfl (fun _ => rfl) ?_
  refine dp_s3 hF (i := .iaload) rfl (fun _ => rfl) ?_
  refine dp_sl9 (mj := dp_m_X5_balanceAt) (i := .invokevirtual 92) rfl rfl rfl rfl (fun _ => rfl) (fun r2 M1 => ?_)
  refine dp_s1 hF (i := .lmul) rfl (fun _ => rfl) ?_
  refine dp_s1 hF (i := .aload_n 0) rfl (fun _ => rfl) ?_
  refine dp_s1 hF (i := .getfield 11) rfl (fun _ => rfl) ?_
  refine dp_s1 hF (i := .iload_n 1) rfl (fun _ => rfl) ?_
  refine dp_s3 hF (i := .laload) rfl (fun _ => rfl) ?_
  refine dp_s1 hF (i := .lcmp) rfl (fun _ => rfl) ?_
  refine dp_s2 hF (i := .ifCond .ge 7) (a := (29, [some (.ref 75), some (.int v1)], [], M1)) (b := (25, [some (.ref 75), some (.int v1)], [], M1)) rfl (fun _ => rfl) ?_ ?_
  · refine dp_s1 hF (i := .iconst 0) rfl (fun _ => rfl) ?_
    exact dp_s0 hF (i := .ireturn) rfl (fun _ => rfl)
  refine dp_s1 hF (i := .iconst 1) rfl (fun _ => rfl) ?_
  refine dp_s1 hF (i := .goto 4) rfl (fun _ => rfl) ?_
  exact dp_s0 hF (i := .ireturn) rfl (fun _ => rfl)
noncomputable def D_X5_blockedDays_0 (xs : Nat → Int32) (xl d : Nat) (v1 : Int32) (M : dp_M) : Option dp_Res := dp_lim true xs xl (dp_den true xs xl d) dp_m_X5_blockedDays (0, [some (.ref 75), some (.int v1), none, none], [], M)
noncomputable def D_X5_blockedDays_4 (xs : Nat → Int32) (xl d : Nat) (v1 : Int32) (v2 : Int32) (v3 : Int32) (M : dp_M) : Option dp_Res := dp_lim true xs xl (dp_den true xs xl d) dp_m_X5_blockedDays (4, [some (.ref 75), some (.int v1), some (.int v2), some (.int v3)], [], M)
theorem D_X5_blockedDays_0_den (xs : Nat → Int32) (xl d : Nat) (a0 : Int32) (M : dp_M) : dp_den true xs xl (d + 1) 127 [.ref 75, .int a0] M = D_X5_blockedDays_0 xs xl d a0 M := rfl
set_option maxRecDepth 20000 in
theorem D_X5_blockedDays_0_eq (xs : Nat → Int32) (xl d : Nat) (v1 : Int32) (M : dp_M) : D_X5_blockedDays_0 xs xl d v1 M = dp_w (0 : Int32) (fun y1 => dp_w (0 : Int32) (fun y2 => D_X5_blockedDays_4 xs xl d v1 y1 y2 M)) := by
  have hF := dp_den_grow (md := true) (xs := xs) (xl := xl) d
  unfold D_X5_blockedDays_0
  refine dp_s1 hF (i := .iconst 0) rfl (fun _ => rfl) ?_
  refine dp_s1w (0 : Int32) (fun (y1 : Int32) => (2, [some (.ref 75), some (.int v1), some (.int y1), none], [], M)) hF (i := .istore_n 2) rfl (fun _ => rfl) (fun y1 => ?_)
  refine dp_s1 hF (i := .iconst 0) rfl (fun _ => rfl) ?_
  refine dp_s1w (0 : Int32) (fun (y2 : Int32) => (4, [some (.ref 75), some (.int v1), some (.int y1), some (.int y2)], [], M)) hF (i := .istore_n 3) rfl (fun _ => rfl) (fun y2 => ?_)
  exact rfl
set_option maxRecDepth 20000 in
theorem D_X5_blockedDays_4_eq (xs : Nat → Int32) (xl d : Nat) (v1 : Int32) (v2 : Int32) (v3 : Int32) (M : dp_M) : D_X5_blockedDays_4 xs xl d v1 v2 v3 M = if (401 : Int32) ≤ v3 then (some (.inl (some (.int v2)), M)) else (if ((v1 * (401 : Int32)) + v3) < 0 ∨ 6416 ≤ Int32.toNatClampNeg ((v1 * (401 : Int32)) + v3) then none else (if (dp_I M 80 (Int32.toNatClampNeg ((v1 * (401 : Int32)) + v3))) = 0 then (dp_w (v2 + (0 : Int32)) (fun y1 => dp_w (v3 + (1 : Int32)) (fun y2 => D_X5_blockedDays_4 xs xl d v1 y1 y2 M))) else (dp_w (v2 + (1 : Int32)) (fun y3 => dp_w (v3 + (1 : Int32)) (fun y4 => D_X5_blockedDays_4 xs xl d v1 y3 y4 M))))) := by
  have hF := dp_den_grow (md := true) (xs := xs) (xl := xl) d
  unfold D_X5_blockedDays_4
  refine dp_s1 hF (i := .iload_n 3) rfl (fun _ => rfl) ?_
  refine dp_s1 hF (i := .sipush 401) rfl (fun _ => rfl) ?_
  refine dp_s2 hF (i := .if_icmp .ge 32) (a := (40, [some (.ref 75), some (.int v1), some (.int v2), some (.int v3)], [], M)) (b := (11, [some (.ref 75), some (.int v1), some (.int v2), some (.int v3)], [], M)) rfl (fun _ => rfl) ?_ ?_
  · refine dp_s1 hF (i := .iload_n 2) rfl (fun _ => rfl) ?_
    exact dp_s0 hF (i := .ireturn) rfl (fun _ => rfl)
  refine dp_s1 hF (i := .iload_n 2) rfl (fun _ => rfl) ?_
  refine dp_s1 hF (i := .aload_n 0) rfl (fun _ => rfl) ?_
  refine dp_s1 hF (i := .getfield 25) rfl (fun _ => rfl) ?_
  refine dp_s1 hF (i := .iload_n 1) rfl (fun _ => rfl) ?_
  refine dp_s1 hF (i := .sipush 401) rfl (fun _ => rfl) ?_
  refine dp_s1 hF (i := .imul) rfl (fun _ => rfl) ?_
  refine dp_s1 hF (i := .iload_n 3) rfl (fun _ => rfl) ?_
  refine dp_s1 hF (i := .iadd) rfl (fun _ => rfl) ?_
  refine dp_s3 hF (i := .baload) rfl (fun _ => rfl) ?_
  refine dp_s2 hF (i := .ifCond .eq 7) (a := (31, [some (.ref 75), some (.int v1), some (.int v2), some (.int v3)], [.int v2], M)) (b := (27, [some (.ref 75), some (.int v1), some (.int v2), some (.int v3)], [.int v2], M)) rfl (fun _ => rfl) ?_ ?_
  · refine dp_s1 hF (i := .iconst 0) rfl (fun _ => rfl) ?_
    refine dp_s1 hF (i := .iadd) rfl (fun _ => rfl) ?_
    refine dp_s1w (v2 + (0 : Int32)) (fun (y1 : Int32) => (34, [some (.ref 75), some (.int v1), some (.int y1), some (.int v3)], [], M)) hF (i := .istore_n 2) rfl (fun _ => rfl) (fun y1 => ?_)
    refine dp_s1w (v3 + (1 : Int32)) (fun (y2 : Int32) => (37, [some (.ref 75), some (.int v1), some (.int y1), some (.int y2)], [], M)) hF (i := .iinc 3 1) rfl (fun _ => rfl) (fun y2 => ?_)
    refine dp_s1 hF (i := .goto (-33)) rfl (fun _ => rfl) ?_
    exact rfl
  refine dp_s1 hF (i := .iconst 1) rfl (fun _ => rfl) ?_
  refine dp_s1 hF (i := .goto 4) rfl (fun _ => rfl) ?_
  refine dp_s1 hF (i := .iadd) rfl (fun _ => rfl) ?_
  refine dp_s1w (v2 + (1 : Int32)) (fun (y3 : Int32) => (34, [some (.ref 75), some (.int v1), some (.int y3), some (.int v3)], [], M)) hF (i := .istore_n 2) rfl (fun _ => rfl) (fun y3 => ?_)
  refine dp_s1w (v3 + (1 : Int32)) (fun (y4 : Int32) => (37, [some (.ref 75), some (.int v1), some (.int y3), some (.int y4)], [], M)) hF (i := .iinc 3 1) rfl (fun _ => rfl) (fun y4 => ?_)
  refine dp_s1 hF (i := .goto (-33)) rfl (fun _ => rfl) ?_
  exact rfl
noncomputable def D_X5_waiting_0 (xs : Nat → Int32) (xl d : Nat) (v1 : Int32) (M : dp_M) : Option dp_Res := dp_lim true xs xl (dp_den true xs xl d) dp_m_X5_waiting (0, [some (.ref 75), some (.int v1), none, none], [], M)
noncomputable def D_X5_waiting_4 (xs : Nat → Int32) (xl d : Nat) (v1 : Int32) (v2 : Int32) (v3 : Int32) (M : dp_M) : Option dp_Res := dp_lim true xs xl (dp_den true xs xl d) dp_m_X5_waiting (4, [some (.ref 75), some (.int v1), some (.int v2), some (.int v3)], [], M)
theorem D_X5_waiting_0_den (xs : Nat → Int32) (xl d : Nat) (a0 : Int32) (M : dp_M) : dp_den true xs xl (d + 1) 128 [.ref 75, .int a0] M = D_X5_waiting_0 xs xl d a0 M := rfl
set_option maxRecDepth 20000 in
theorem D_X5_waiting_0_eq (xs : Nat → Int32) (xl d : Nat) (v1 : Int32) (M : dp_M) : D_X5_waiting_0 xs xl d v1 M = dp_w (0 : Int32) (fun y1 => dp_w (0 : Int32) (fun y2 => D_X5_waiting_4 xs xl d v1 y1 y2 M)) := by
  have hF := dp_den_grow (md := true) (xs := xs) (xl := xl) d
  unfold D_X5_waiting_0
  refine dp_s1 hF (i := .iconst 0) rfl (fun _ => rfl) ?_
  refine dp_s1w (0 : Int32) (fun (y1 : Int32) => (2, [some (.ref 75), some (.int v1), some (.int y1), none], [], M)) hF (i := .istore_n 2) rfl (fun _ => rfl) (fun y1 => ?_)
  refine dp_s1 hF (i := .iconst 0) rfl (fun _ => rfl) ?_
  refine dp_s1w (0 : Int32) (fun (y2 : Int32) => (4, [some (.ref 75), some (.int v1), some (.int y1), some (.int y2)], [], M)) hF (i := .istore_n 3) rfl (fun _ => rfl) (fun y2 => ?_)
  exact rfl
set_option maxRecDepth 20000 in
theorem D_X5_waiting_4_eq (xs : Nat → Int32) (xl d : Nat) (v1 : Int32) (v2 : Int32) (v3 : Int32) (M : dp_M) : D_X5_waiting_4 xs xl d v1 v2 v3 M = if (dp_I M 75 1) ≤ v3 then (some (.inl (some (.int v2)), M)) else (if v3 < 0 ∨ 400 ≤ Int32.toNatClampNeg v3 then none else (if (dp_I M 82 (Int32.toNatClampNeg v3)) = v1 then (if v3 < 0 ∨ 400 ≤ Int32.toNatClampNeg v3 then none else (if (dp_I M 87 (Int32.toNatClampNeg v3)) = (-1 : Int32) then (dp_w (v2 + (1 : Int32)) (fun y1 => dp_w (v3 + (1 : Int32)) (fun y2 => D_X5_waiting_4 xs xl d v1 y1 y2 M))) else (dp_w (v2 + (0 : Int32)) (fun y3 => dp_w (v3 + (1 : Int32)) (fun y4 => D_X5_waiting_4 xs xl d v1 y3 y4 M))))) else (dp_w (v2 + (0 : Int32)) (fun y5 => dp_w (v3 + (1 : Int32)) (fun y6 => D_X5_waiting_4 xs xl d v1 y5 y6 M))))) := by
  have hF := dp_den_grow (md := true) (xs := xs) (xl := xl) d
  unfold D_X5_waiting_4
  refine dp_s1 hF (i := .iload_n 3) rfl (fun _ => rfl) ?_
  refine dp_s1 hF (i := .aload_n 0) rfl (fun _ => rfl) ?_
  refine dp_s1 hF (i := .getfield 62) rfl (fun _ => rfl) ?_
  refine dp_s2 hF (i := .if_icmp .ge 37) (a := (46, [some (.ref 75), some (.int v1), some (.int v2), some (.int v3)], [], M)) (b := (12, [some (.ref 75), some (.int v1), some (.int v2), some (.int v3)], [], M)) rfl (fun _ => rfl) ?_ ?_
  · refine dp_s1 hF (i := .iload_n 2) rfl (fun _ => rfl) ?_
    exact dp_s0 hF (i := .ireturn) rfl (fun _ => rfl)
  refine dp_s1 hF (i := .iload_n 2) rfl (fun _ => rfl) ?_
  refine dp_s1 hF (i := .aload_n 0) rfl (fun _ => rfl) ?_
  refine dp_s1 hF (i := .getfield 34) rfl (fun _ => rfl) ?_
  refine dp_s1 hF (i := .iload_n 3) rfl (fun _ => rfl) ?_
  refine dp_s3 hF (i := .iaload) rfl (fun _ => rfl) ?_
  refine dp_s1 hF (i := .iload_n 1) rfl (fun _ => rfl) ?_
  refine dp_s2 hF (i := .if_icmp .ne 17) (a := (23, [some (.ref 75), some (.int v1), some (.int v2), some (.int v3)], [.int v2], M)) (b := (37, [some (.ref 75), some (.int v1), some (.int v2), some (.int v3)], [.int v2], M)) rfl (fun _ => rfl) ?_ ?_
  · refine dp_s1 hF (i := .aload_n 0) rfl (fun _ => rfl) ?_
    refine dp_s1 hF (i := .getfield 49) rfl (fun _ => rfl) ?_
    refine dp_s1 hF (i := .iload_n 3) rfl (fun _ => rfl) ?_
    refine dp_s3 hF (i := .iaload) rfl (fun _ => rfl) ?_
    refine dp_s1 hF (i := .iconst (-1)) rfl (fun _ => rfl) ?_
    refine dp_s2 hF (i := .if_icmp .ne 7) (a := (33, [some (.ref 75), some (.int v1), some (.int v2), some (.int v3)], [.int v2], M)) (b := (37, [some (.ref 75), some (.int v1), some (.int v2), some (.int v3)], [.int v2], M)) rfl (fun _ => rfl) ?_ ?_
    · refine dp_s1 hF (i := .iconst 1) rfl (fun _ => rfl) ?_
      refine dp_s1 hF (i := .goto 4) rfl (fun _ => rfl) ?_
      refine dp_s1 hF (i := .iadd) rfl (fun _ => rfl) ?_
      refine dp_s1w (v2 + (1 : Int32)) (fun (y1 : Int32) => (40, [some (.ref 75), some (.int v1), some (.int y1), some (.int v3)], [], M)) hF (i := .istore_n 2) rfl (fun _ => rfl) (fun y1 => ?_)
      refine dp_s1w (v3 + (1 : Int32)) (fun (y2 : Int32) => (43, [some (.ref 75), some (.int v1), some (.int y1), some (.int y2)], [], M)) hF (i := .iinc 3 1) rfl (fun _ => rfl) (fun y2 => ?_)
      refine dp_s1 hF (i := .goto (-39)) rfl (fun _ => rfl) ?_
      exact rfl
    refine dp_s1 hF (i := .iconst 0) rfl (fun _ => rfl) ?_
    refine dp_s1 hF (i := .iadd) rfl (fun _ => rfl) ?_
    refine dp_s1w (v2 + (0 : Int32)) (fun (y3 : Int32) => (40, [some (.ref 75), some (.int v1), some (.int y3), some (.int v3)], [], M)) hF (i := .istore_n 2) rfl (fun _ => rfl) (fun y3 => ?_)
    refine dp_s1w (v3 + (1 : Int32)) (fun (y4 : Int32) => (43, [some (.ref 75), some (.int v1), some (.int y3), some (.int y4)], [], M)) hF (i := .iinc 3 1) rfl (fun _ => rfl) (fun y4 => ?_)
    refine dp_s1 hF (i := .goto (-39)) rfl (fun _ => rfl) ?_
    exact rfl
  refine dp_s1 hF (i := .iconst 0) rfl (fun _ => rfl) ?_
  refine dp_s1 hF (i := .iadd) rfl (fun _ => rfl) ?_
  refine dp_s1w (v2 + (0 : Int32)) (fun (y5 : Int32) => (40, [some (.ref 75), some (.int v1), some (.int y5), some (.int v3)], [], M)) hF (i := .istore_n 2) rfl (fun _ => rfl) (fun y5 => ?_)
  refine dp_s1w (v3 + (1 : Int32)) (fun (y6 : Int32) => (43, [some (.ref 75), some (.int v1), some (.int y5), some (.int y6)], [], M)) hF (i := .iinc 3 1) rfl (fun _ => rfl) (fun y6 => ?_)
  refine dp_s1 hF (i := .goto (-39)) rfl (fun _ => rfl) ?_
  exact rfl
noncomputable def D_X5_follow_0 (xs : Nat → Int32) (xl d : Nat) (v1 : Int32) (M : dp_M) : Option dp_Res := dp_lim true xs xl (dp_den true xs xl d) dp_m_X5_follow (0, [some (.ref 75), some (.int v1), none, none, none, none], [], M)
noncomputable def D_X5_follow_37 (xs : Nat → Int32) (xl d : Nat) (v1 : Int32) (v2 : Int64) (v4 : Int32) (v5 : Int32) (M : dp_M) : Option dp_Res := dp_lim true xs xl (dp_den true xs xl d) dp_m_X5_follow (37, [some (.ref 75), some (.int v1), some (.long v2), none, some (.int v4), some (.int v5)], [], M)
theorem D_X5_follow_0_den (xs : Nat → Int32) (xl d : Nat) (a0 : Int32) (M : dp_M) : dp_den true xs xl (d + 1) 129 [.ref 75, .int a0] M = D_X5_follow_0 xs xl d a0 M := rfl
set_option maxRecDepth 20000 in
theorem D_X5_follow_0_eq (xs : Nat → Int32) (xl d : Nat) (v1 : Int32) (M : dp_M) : D_X5_follow_0 xs xl d v1 M = dp_bv (dp_den true xs xl d 130 [.ref 75, .int v1] M) (fun M1 => if v1 < 0 ∨ 16 ≤ Int32.toNatClampNeg v1 then none else (dp_w (dp_J M1 76 (Int32.toNatClampNeg v1)) (fun y2 => if v1 < 0 ∨ 16 ≤ Int32.toNatClampNeg v1 then none else (if v1 < 0 ∨ 16 ≤ Int32.toNatClampNeg v1 then none else (dp_w (if (dp_I M1 78 (Int32.toNatClampNeg v1)) < (dp_I M1 79 (Int32.toNatClampNeg v1)) then (dp_I M1 78 (Int32.toNatClampNeg v1)) else (dp_I M1 79 (Int32.toNatClampNeg v1))) (fun y3 => if v1 < 0 ∨ 16 ≤ Int32.toNatClampNeg v1 then none else (dp_w (dp_I M1 77 (Int32.toNatClampNeg v1)) (fun y4 => D_X5_follow_37 xs xl d v1 y2 y3 y4 M1)))))))) := by
  have hF := dp_den_grow (md := true) (xs := xs) (xl := xl) d
  unfold D_X5_follow_0
  refine dp_s1 hF (i := .aload_n 0) rfl (fun _ => rfl) ?_
  refine dp_s1 hF (i := .iload_n 1) rfl (fun _ => rfl) ?_
  refine dp_sv (mj := dp_m_X5_gather) (i := .invokevirtual 96) rfl rfl rfl rfl (fun _ => rfl) (fun M1 => ?_)
  refine dp_s1 hF (i := .aload_n 0) rfl (fun _ => rfl) ?_
  refine dp_s1 hF (i := .getfield 11) rfl (fun _ => rfl) ?_
  refine dp_s1 hF (i := .iload_n 1) rfl (fun _ => rfl) ?_
  refine dp_s3 hF (i := .laload) rfl (fun _ => rfl) ?_
  refine dp_s1w (dp_J M1 76 (Int32.toNatClampNeg v1)) (fun (y2 : Int64) => (12, [some (.ref 75), some (.int v1), some (.long y2), none, none, none], [], M1)) hF (i := .lstore_n 2) rfl (fun _ => rfl) (fun y2 => ?_)
  refine dp_s1 hF (i := .aload_n 0) rfl (fun _ => rfl) ?_
  refine dp_s1 hF (i := .getfield 22) rfl (fun _ => rfl) ?_
  refine dp_s1 hF (i := .iload_n 1) rfl (fun _ => rfl) ?_
  refine dp_s3 hF (i := .iaload) rfl (fun _ => rfl) ?_
  refine dp_s1 hF (i := .aload_n 0) rfl (fun _ => rfl) ?_
  refine dp_s1 hF (i := .getfield 19) rfl (fun _ => rfl) ?_
  refine dp_s1 hF (i := .iload_n 1) rfl (fun _ => rfl) ?_
  refine dp_s3 hF (i := .iaload) rfl (fun _ => rfl) ?_
  refine dp_s1 hF (i := .invokestatic 84) rfl (fun _ => rfl) ?_
  refine dp_s1w (if (dp_I M1 78 (Int32.toNatClampNeg v1)) < (dp_I M1 79 (Int32.toNatClampNeg v1)) then (dp_I M1 78 (Int32.toNatClampNeg v1)) else (dp_I M1 79 (Int32.toNatClampNeg v1))) (fun (y3 : Int32) => (29, [some (.ref 75), some (.int v1), some (.long y2), none, some (.int y3), none], [], M1)) hF (i := .istore 4) rfl (fun _ => rfl) (fun y3 => ?_)
  refine dp_s1 hF (i := .aload_n 0) rfl (fun _ => rfl) ?_
  refine dp_s1 hF (i := .getfield 15) rfl (fun _ => rfl) ?_
  refine dp_s1 hF (i := .iload_n 1) rfl (fun _ => rfl) ?_
  refine dp_s3 hF (i := .iaload) rfl (fun _ => rfl) ?_
  refine dp_s1w (dp_I M1 77 (Int32.toNatClampNeg v1)) (fun (y4 : Int32) => (37, [some (.ref 75), some (.int v1), some (.long y2), none, some (.int y3), some (.int y4)], [], M1)) hF (i := .istore 5) rfl (fun _ => rfl) (fun y4 => ?_)
  exact rfl
set_option maxRecDepth 20000 in
theorem D_X5_follow_37_eq (xs : Nat → Int32) (xl d : Nat) (v1 : Int32) (v2 : Int64) (v4 : Int32) (v5 : Int32) (M : dp_M) : D_X5_follow_37 xs xl d v1 v2 v4 v5 M = if v4 < v5 then (some (.inl none, M)) else (if (dp_I M 75 17) ≤ 0 then (if ((v1 * (401 : Int32)) + v5) < 0 ∨ 6416 ≤ Int32.toNatClampNeg ((v1 * (401 : Int32)) + v5) then none else dp_w (dp_setJ M 81 (Int32.toNatClampNeg ((v1 * (401 : Int32)) + v5)) v2) (fun M1 => dp_w (v5 + (1 : Int32)) (fun y2 => D_X5_follow_37 xs xl d v1 v2 v4 y2 M1))) else (if ((v1 * (401 : Int32)) + v5) < 0 ∨ 6416 ≤ Int32.toNatClampNeg ((v1 * (401 : Int32)) + v5) then none else (if (dp_I M 80 (Int32.toNatClampNeg ((v1 * (401 : Int32)) + v5))) = 0 then (dp_bl (dp_den true xs xl d 132 [.ref 75, .int v5, .long v2] M) (fun r4 M3 => if ((v1 * (401 : Int32)) + v5) < 0 ∨ 6416 ≤ Int32.toNatClampNeg ((v1 * (401 : Int32)) + v5) then none else dp_w (dp_setJ M3 81 (Int32.toNatClampNeg ((v1 * (401 : Int32)) + v5)) r4) (fun M5 => dp_w (v5 + (1 : Int32)) (fun y6 => D_X5_follow_37 xs xl d v1 r4 v4 y6 M5)))) else (if ((v1 * (401 : Int32)) + v5) < 0 ∨ 6416 ≤ Int32.toNatClampNeg ((v1 * (401 : Int32)) + v5) then none else dp_w (dp_setJ M 81 (Int32.toNatClampNeg ((v1 * (401 : Int32)) + v5)) v2) (fun M7 => dp_w (v5 + (1 : Int32)) (fun y8 => D_X5_follow_37 xs xl d v1 v2 v4 y8 M7)))))) := by
  have hF := dp_den_grow (md := true) (xs := xs) (xl := xl) d
  unfold D_X5_follow_37
  refine dp_s1 hF (i := .iload 5) rfl (fun _ => rfl) ?_
  refine dp_s1 hF (i := .iload 4) rfl (fun _ => rfl) ?_
  refine dp_s2 hF (i := .if_icmp .gt 54) (a := (95, [some (.ref 75), some (.int v1), some (.long v2), none, some (.int v4), some (.int v5)], [], M)) (b := (44, [some (.ref 75), some (.int v1), some (.long v2), none, some (.int v4), some (.int v5)], [], M)) rfl (fun _ => rfl) ?_ ?_
  · exact dp_s0 hF (i := .return_) rfl (fun _ => rfl)
  refine dp_s1 hF (i := .aload_n 0) rfl (fun _ => rfl) ?_
  refine dp_s1 hF (i := .getfield 99) rfl (fun _ => rfl) ?_
  refine dp_s2 hF (i := .ifCond .le 27) (a := (75, [some (.ref 75), some (.int v1), some (.long v2), none, some (.int v4), some (.int v5)], [], M)) (b := (51, [some (.ref 75), some (.int v1), some (.long v2), none, some (.int v4), some (.int v5)], [], M)) rfl (fun _ => rfl) ?_ ?_
  · refine dp_s1 hF (i := .aload_n 0) rfl (fun _ => rfl) ?_
    refine dp_s1 hF (i := .getfield 29) rfl (fun _ => rfl) ?_
    refine dp_s1 hF (i := .iload_n 1) rfl (fun _ => rfl) ?_
    refine dp_s1 hF (i := .sipush 401) rfl (fun _ => rfl) ?_
    refine dp_s1 hF (i := .imul) rfl (fun _ => rfl) ?_
    refine dp_s1 hF (i := .iload 5) rfl (fun _ => rfl) ?_
    refine dp_s1 hF (i := .iadd) rfl (fun _ => rfl) ?_
    refine dp_s1 hF (i := .lload_n 2) rfl (fun _ => rfl) ?_
    refine dp_s3w (dp_setJ M 81 (Int32.toNatClampNeg ((v1 * (401 : Int32)) + v5)) v2) (fun (M1 : dp_M) => (89, [some (.ref 75), some (.int v1), some (.long v2), none, some (.int v4), some (.int v5)], [], M1)) hF (i := .lastore) rfl (fun _ => rfl) (fun M1 => ?_)
    refine dp_s1w (v5 + (1 : Int32)) (fun (y2 : Int32) => (92, [some (.ref 75), some (.int v1), some (.long v2), none, some (.int v4), some (.int y2)], [], M1)) hF (i := .iinc 5 1) rfl (fun _ => rfl) (fun y2 => ?_)
    refine dp_s1 hF (i := .goto (-55)) rfl (fun _ => rfl) ?_
    exact rfl
  refine dp_s1 hF (i := .aload_n 0) rfl (fun _ => rfl) ?_
  refine dp_s1 hF (i := .getfield 25) rfl (fun _ => rfl) ?_
  refine dp_s1 hF (i := .iload_n 1) rfl (fun _ => rfl) ?_
  refine dp_s1 hF (i := .sipush 401) rfl (fun _ => rfl) ?_
  refine dp_s1 hF (i := .imul) rfl (fun _ => rfl) ?_
  refine dp_s1 hF (i := .iload 5) rfl (fun _ => rfl) ?_
  refine dp_s1 hF (i := .iadd) rfl (fun _ => rfl) ?_
  refine dp_s3 hF (i := .baload) rfl (fun _ => rfl) ?_
  refine dp_s2 hF (i := .ifCond .ne 11) (a := (67, [some (.ref 75), some (.int v1), some (.long v2), none, some (.int v4), some (.int v5)], [], M)) (b := (75, [some (.ref 75), some (.int v1), some (.long v2), none, some (.int v4), some (.int v5)], [], M)) rfl (fun _ => rfl) ?_ ?_
  · refine dp_s1 hF (i := .aload_n 0) rfl (fun _ => rfl) ?_
    refine dp_s1 hF (i := .iload 5) rfl (fun _ => rfl) ?_
    refine dp_s1 hF (i := .lload_n 2) rfl (fun _ => rfl) ?_
    refine dp_sl9 (mj := dp_m_X5_treat) (i := .invokevirtual 102) rfl rfl rfl rfl (fun _ => rfl) (fun r4 M3 => ?_)
    refine dp_s1 hF (i := .lstore_n 2) rfl (fun _ => rfl) ?_
    refine dp_s1 hF (i := .aload_n 0) rfl (fun _ => rfl) ?_
    refine dp_s1 hF (i := .getfield 29) rfl (fun _ => rfl) ?_
    refine dp_s1 hF (i := .iload_n 1) rfl (fun _ => rfl) ?_
    refine dp_s1 hF (i := .sipush 401) rfl (fun _ => rfl) ?_
    refine dp_s1 hF (i := .imul) rfl (fun _ => rfl) ?_
    refine dp_s1 hF (i := .iload 5) rfl (fun _ => rfl) ?_
    refine dp_s1 hF (i := .iadd) rfl (fun _ => rfl) ?_
    refine dp_s1 hF (i := .lload_n 2) rfl (fun _ => rfl) ?_
    refine dp_s3w (dp_setJ M3 81 (Int32.toNatClampNeg ((v1 * (401 : Int32)) + v5)) r4) (fun (M5 : dp_M) => (89, [some (.ref 75), some (.int v1), some (.long r4), none, some (.int v4), some (.int v5)], [], M5)) hF (i := .lastore) rfl (fun _ => rfl) (fun M5 => ?_)
    refine dp_s1w (v5 + (1 : Int32)) (fun (y6 : Int32) => (92, [some (.ref 75), some (.int v1), some (.long r4), none, some (.int v4), some (.int y6)], [], M5)) hF (i := .iinc 5 1) rfl (fun _ => rfl) (fun y6 => ?_)
    refine dp_s1 hF (i := .goto (-55)) rfl (fun _ => rfl) ?_
    exact rfl
  refine dp_s1 hF (i := .aload_n 0) rfl (fun _ => rfl) ?_
  refine dp_s1 hF (i := .getfield 29) rfl (fun _ => rfl) ?_
  refine dp_s1 hF (i := .iload_n 1) rfl (fun _ => rfl) ?_
  refine dp_s1 hF (i := .sipush 401) rfl (fun _ => rfl) ?_
  refine dp_s1 hF (i := .imul) rfl (fun _ => rfl) ?_
  refine dp_s1 hF (i := .iload 5) rfl (fun _ => rfl) ?_
  refine dp_s1 hF (i := .iadd) rfl (fun _ => rfl) ?_
  refine dp_s1 hF (i := .lload_n 2) rfl (fun _ => rfl) ?_
  refine dp_s3w (dp_setJ M 81 (Int32.toNatClampNeg ((v1 * (401 : Int32)) + v5)) v2) (fun (M7 : dp_M) => (89, [some (.ref 75), some (.int v1), some (.long v2), none, some (.int v4), some (.int v5)], [], M7)) hF (i := .lastore) rfl (fun _ => rfl) (fun M7 => ?_)
  refine dp_s1w (v5 + (1 : Int32)) (fun (y8 : Int32) => (92, [some (.ref 75), some (.int v1), some (.long v2), none, some (.int v4), some (.int y8)], [], M7)) hF (i := .iinc 5 1) rfl (fun _ => rfl) (fun y8 => ?_)
  refine dp_s1 hF (i := .goto (-55)) rfl (fun _ => rfl) ?_
  exact rfl
noncomputable def D_X5_gather_0 (xs : Nat → Int32) (xl d : Nat) (v1 : Int32) (M : dp_M) : Option dp_Res := dp_lim true xs xl (dp_den true xs xl d) dp_m_X5_gather (0, [some (.ref 75), some (.int v1), none], [], M)
noncomputable def D_X5_gather_7 (xs : Nat → Int32) (xl d : Nat) (v1 : Int32) (v2 : Int32) (M : dp_M) : Option dp_Res := dp_lim true xs xl (dp_den true xs xl d) dp_m_X5_gather (7, [some (.ref 75), some (.int v1), some (.int v2)], [], M)
theorem D_X5_gather_0_den (xs : Nat → Int32) (xl d : Nat) (a0 : Int32) (M : dp_M) : dp_den true xs xl (d + 1) 130 [.ref 75, .int a0] M = D_X5_gather_0 xs xl d a0 M := rfl
set_option maxRecDepth 20000 in
theorem D_X5_gather_0_eq (xs : Nat → Int32) (xl d : Nat) (v1 : Int32) (M : dp_M) : D_X5_gather_0 xs xl d v1 M = dp_w (dp_setI M 75 16 (0 : Int32)) (fun M1 => dp_w (0 : Int32) (fun y2 => D_X5_gather_7 xs xl d v1 y2 M1)) := by
  have hF := dp_den_grow (md := true) (xs := xs) (xl := xl) d
  unfold D_X5_gather_0
  refine dp_s1 hF (i := .aload_n 0) rfl (fun _ => rfl) ?_
  refine dp_s1 hF (i := .iconst 0) rfl (fun _ => rfl) ?_
  refine dp_s1w (dp_setI M 75 16 (0 : Int32)) (fun (M1 : dp_M) => (5, [some (.ref 75), some (.int v1), none], [], M1)) hF (i := .putfield 75) rfl (fun _ => rfl) (fun M1 => ?_)
  refine dp_s1 hF (i := .iconst 0) rfl (fun _ => rfl) ?_
  refine dp_s1w (0 : Int32) (fun (y2 : Int32) => (7, [some (.ref 75), some (.int v1), some (.int y2)], [], M1)) hF (i := .istore_n 2) rfl (fun _ => rfl) (fun y2 => ?_)
  exact rfl
set_option maxRecDepth 20000 in
theorem D_X5_gather_7_eq (xs : Nat → Int32) (xl d : Nat) (v1 : Int32) (v2 : Int32) (M : dp_M) : D_X5_gather_7 xs xl d v1 v2 M = if (dp_I M 75 1) ≤ v2 then (dp_w (dp_setI M 75 17 (dp_I M 75 16)) (fun M1 => some (.inl none, M1))) else (if v2 < 0 ∨ 400 ≤ Int32.toNatClampNeg v2 then none else (if (dp_I M 82 (Int32.toNatClampNeg v2)) = v1 then (if v2 < 0 ∨ 400 ≤ Int32.toNatClampNeg v2 then none else dp_w (dp_setJ M 86 (Int32.toNatClampNeg v2) (0 : Int64)) (fun M2 => if v2 < 0 ∨ 400 ≤ Int32.toNatClampNeg v2 then none else dp_w (dp_setI M2 87 (Int32.toNatClampNeg v2) (-1 : Int32)) (fun M3 => if (dp_I M3 75 16) < 0 ∨ 400 ≤ Int32.toNatClampNeg (dp_I M3 75 16) then none else dp_w (dp_setI M3 89 (Int32.toNatClampNeg (dp_I M3 75 16)) v2) (fun M4 => dp_w (dp_setI M4 75 16 ((dp_I M4 75 16) + (1 : Int32))) (fun M5 => dp_w (v2 + (1 : Int32)) (fun y6 => D_X5_gather_7 xs xl d v1 y6 M5)))))) else (dp_w (v2 + (1 : Int32)) (fun y7 => D_X5_gather_7 xs xl d v1 y7 M)))) := by
  have hF := dp_den_grow (md := true) (xs := xs) (xl := xl) d
  unfold D_X5_gather_7
  refine dp_s1 hF (i := .iload_n 2) rfl (fun _ => rfl) ?_
  refine dp_s1 hF (i := .aload_n 0) rfl (fun _ => rfl) ?_
  refine dp_s1 hF (i := .getfield 62) rfl (fun _ => rfl) ?_
  refine dp_s2 hF (i := .if_icmp .ge 53) (a := (65, [some (.ref 75), some (.int v1), some (.int v2)], [], M)) (b := (15, [some (.ref 75), some (.int v1), some (.int v2)], [], M)) rfl (fun _ => rfl) ?_ ?_
  · refine dp_s1 hF (i := .aload_n 0) rfl (fun _ => rfl) ?_
    refine dp_s1 hF (i := .aload_n 0) rfl (fun _ => rfl) ?_
    refine dp_s1 hF (i := .getfield 75) rfl (fun _ => rfl) ?_
    refine dp_s1w (dp_setI M 75 17 (dp_I M 75 16)) (fun (M1 : dp_M) => (73, [some (.ref 75), some (.int v1), some (.int v2)], [], M1)) hF (i := .putfield 99) rfl (fun _ => rfl) (fun M1 => ?_)
    exact dp_s0 hF (i := .return_) rfl (fun _ => rfl)
  refine dp_s1 hF (i := .aload_n 0) rfl (fun _ => rfl) ?_
  refine dp_s1 hF (i := .getfield 34) rfl (fun _ => rfl) ?_
  refine dp_s1 hF (i := .iload_n 2) rfl (fun _ => rfl) ?_
  refine dp_s3 hF (i := .iaload) rfl (fun _ => rfl) ?_
  refine dp_s1 hF (i := .iload_n 1) rfl (fun _ => rfl) ?_
  refine dp_s2 hF (i := .if_icmp .ne 37) (a := (25, [some (.ref 75), some (.int v1), some (.int v2)], [], M)) (b := (59, [some (.ref 75), some (.int v1), some (.int v2)], [], M)) rfl (fun _ => rfl) ?_ ?_
  · refine dp_s1 hF (i := .aload_n 0) rfl (fun _ => rfl) ?_
    refine dp_s1 hF (i := .getfield 46) rfl (fun _ => rfl) ?_
    refine dp_s1 hF (i := .iload_n 2) rfl (fun _ => rfl) ?_
    refine dp_s1 hF (i := .lconst 0) rfl (fun _ => rfl) ?_
    refine dp_s3w (dp_setJ M 86 (Int32.toNatClampNeg v2) (0 : Int64)) (fun (M2 : dp_M) => (32, [some (.ref 75), some (.int v1), some (.int v2)], [], M2)) hF (i := .lastore) rfl (fun _ => rfl) (fun M2 => ?_)
    refine dp_s1 hF (i := .aload_n 0) rfl (fun _ => rfl) ?_
    refine dp_s1 hF (i := .getfield 49) rfl (fun _ => rfl) ?_
    refine dp_s1 hF (i := .iload_n 2) rfl (fun _ => rfl) ?_
    refine dp_s1 hF (i := .iconst (-1)) rfl (fun _ => rfl) ?_
    refine dp_s3w (dp_setI M2 87 (Int32.toNatClampNeg v2) (-1 : Int32)) (fun (M3 : dp_M) => (39, [some (.ref 75), some (.int v1), some (.int v2)], [], M3)) hF (i := .iastore) rfl (fun _ => rfl) (fun M3 => ?_)
    refine dp_s1 hF (i := .aload_n 0) rfl (fun _ => rfl) ?_
    refine dp_s1 hF (i := .getfield 55) rfl (fun _ => rfl) ?_
    refine dp_s1 hF (i := .aload_n 0) rfl (fun _ => rfl) ?_
    refine dp_s1 hF (i := .getfield 75) rfl (fun _ => rfl) ?_
    refine dp_s1 hF (i := .iload_n 2) rfl (fun _ => rfl) ?_
    refine dp_s3w (dp_setI M3 89 (Int32.toNatClampNeg (dp_I M3 75 16)) v2) (fun (M4 : dp_M) => (49, [some (.ref 75), some (.int v1), some (.int v2)], [], M4)) hF (i := .iastore) rfl (fun _ => rfl) (fun M4 => ?_)
    refine dp_s1 hF (i := .aload_n 0) rfl (fun _ => rfl) ?_
    refine dp_s1 hF (i := .dup) rfl (fun _ => rfl) ?_
    refine dp_s1 hF (i := .getfield 75) rfl (fun _ => rfl) ?_
    refine dp_s1 hF (i := .iconst 1) rfl (fun _ => rfl) ?_
    refine dp_s1 hF (i := .iadd) rfl (fun _ => rfl) ?_
    refine dp_s1w (dp_setI M4 75 16 ((dp_I M4 75 16) + (1 : Int32))) (fun (M5 : dp_M) => (59, [some (.ref 75), some (.int v1), some (.int v2)], [], M5)) hF (i := .putfield 75) rfl (fun _ => rfl) (fun M5 => ?_)
    refine dp_s1w (v2 + (1 : Int32)) (fun (y6 : Int32) => (62, [some (.ref 75), some (.int v1), some (.int y6)], [], M5)) hF (i := .iinc 2 1) rfl (fun _ => rfl) (fun y6 => ?_)
    refine dp_s1 hF (i := .goto (-55)) rfl (fun _ => rfl) ?_
    exact rfl
  refine dp_s1w (v2 + (1 : Int32)) (fun (y7 : Int32) => (62, [some (.ref 75), some (.int v1), some (.int y7)], [], M)) hF (i := .iinc 2 1) rfl (fun _ => rfl) (fun y7 => ?_)
  refine dp_s1 hF (i := .goto (-55)) rfl (fun _ => rfl) ?_
  exact rfl
noncomputable def D_X5_isDue_0 (xs : Nat → Int32) (xl d : Nat) (v1 : Int32) (v2 : Int32) (M : dp_M) : Option dp_Res := dp_lim true xs xl (dp_den true xs xl d) dp_m_X5_isDue (0, [some (.ref 75), some (.int v1), some (.int v2)], [], M)
theorem D_X5_isDue_0_den (xs : Nat → Int32) (xl d : Nat) (a0 : Int32) (a1 : Int32) (M : dp_M) : dp_den true xs xl (d + 1) 131 [.ref 75, .int a0, .int a1] M = D_X5_isDue_0 xs xl d a0 a1 M := rfl
set_option maxRecDepth 20000 in
theorem D_X5_isDue_0_eq (xs : Nat → Int32) (xl d : Nat) (v1 : Int32) (v2 : Int32) (M : dp_M) : D_X5_isDue_0 xs xl d v1 v2 M = if v1 < 0 ∨ 400 ≤ Int32.toNatClampNeg v1 then none else (if (dp_I M 87 (Int32.toNatClampNeg v1)) = (-1 : Int32) then (if v1 < 0 ∨ 400 ≤ Int32.toNatClampNeg v1 then none else (if v2 < (dp_I M 84 (Int32.toNatClampNeg v1)) then (some (.inl (some (.int (0 : Int32))), M)) else (some (.inl (some (.int (1 : Int32))), M)))) else (some (.inl (some (.int (0 : Int32))), M))) := by
  have hF := dp_den_grow (md := true) (xs := xs) (xl := xl) d
  unfold D_X5_isDue_0
  refine dp_s1 hF (i := .aload_n 0) rfl (fun _ => rfl) ?_
  refine dp_s1 hF (i := .getfield 49) rfl (fun _ => rfl) ?_
  refine dp_s1 hF (i := .iload_n 1) rfl (fun _ => rfl) ?_
  refine dp_s3 hF (i := .iaload) rfl (fun _ => rfl) ?_
  refine dp_s1 hF (i := .iconst (-1)) rfl (fun _ => rfl) ?_
  refine dp_s2 hF (i := .if_icmp .ne 17) (a := (10, [some (.ref 75), some (.int v1), some (.int v2)], [], M)) (b := (24, [some (.ref 75), some (.int v1), some (.int v2)], [], M)) rfl (fun _ => rfl) ?_ ?_
  · refine dp_s1 hF (i := .aload_n 0) rfl (fun _ => rfl) ?_
    refine dp_s1 hF (i := .getfield 40) rfl (fun _ => rfl) ?_
    refine dp_s1 hF (i := .iload_n 1) rfl (fun _ => rfl) ?_
    refine dp_s3 hF (i := .iaload) rfl (fun _ => rfl) ?_
    refine dp_s1 hF (i := .iload_n 2) rfl (fun _ => rfl) ?_
    refine dp_s2 hF (i := .if_icmp .gt 7) (a := (24, [some (.ref 75), some (.int v1), some (.int v2)], [], M)) (b := (20, [some (.ref 75), some (.int v1), some (.int v2)], [], M)) rfl (fun _ => rfl) ?_ ?_
    · refine dp_s1 hF (i := .iconst 0) rfl (fun _ => rfl) ?_
      exact dp_s0 hF (i := .ireturn) rfl (fun _ => rfl)
    refine dp_s1 hF (i := .iconst 1) rfl (fun _ => rfl) ?_
    refine dp_s1 hF (i := .goto 4) rfl (fun _ => rfl) ?_
    exact dp_s0 hF (i := .ireturn) rfl (fun _ => rfl)
  refine dp_s1 hF (i := .iconst 0) rfl (fun _ => rfl) ?_
  exact dp_s0 hF (i := .ireturn) rfl (fun _ => rfl)
noncomputable def D_X5_treat_0 (xs : Nat → Int32) (xl d : Nat) (v1 : Int32) (v2 : Int64) (M : dp_M) : Option dp_Res := dp_lim true xs xl (dp_den true xs xl d) dp_m_X5_treat (0, [some (.ref 75), some (.int v1), some (.long v2), none, none, none, none, none, none, none], [], M)
noncomputable def D_X5_treat_6 (xs : Nat → Int32) (xl d : Nat) (v1 : Int32) (v2 : Int64) (v4 : Int64) (v6 : Int32) (M : dp_M) : Option dp_Res := dp_lim true xs xl (dp_den true xs xl d) dp_m_X5_treat (6, [some (.ref 75), some (.int v1), some (.long v2), none, some (.long v4), none, some (.int v6), none, none, none], [], M)
noncomputable def D_X5_treat_63 (xs : Nat → Int32) (xl d : Nat) (v1 : Int32) (v2 : Int64) (v4 : Int64) (v6 : Int64) (v8 : Int32) (M : dp_M) : Option dp_Res := dp_lim true xs xl (dp_den true xs xl d) dp_m_X5_treat (63, [some (.ref 75), some (.int v1), some (.long v2), none, some (.long v4), none, some (.long v6), none, some (.int v8), none], [], M)
noncomputable def D_X5_treat_63_a (xs : Nat → Int32) (xl d : Nat) (v1 : Int32) (v2 : Int64) (v4 : Int64) (v6 : Int64) (v8 : Int32) (v9 : Int32) (M : dp_M) : Option dp_Res := dp_lim true xs xl (dp_den true xs xl d) dp_m_X5_treat (63, [some (.ref 75), some (.int v1), some (.long v2), none, some (.long v4), none, some (.long v6), none, some (.int v8), some (.int v9)], [], M)
noncomputable def D_X5_treat_133 (xs : Nat → Int32) (xl d : Nat) (v1 : Int32) (v2 : Int64) (v4 : Int64) (v6 : Int64) (v8 : Int32) (v9 : Int32) (vs0 : Int64) (vs1 : Int32) (M : dp_M) : Option dp_Res := dp_lim true xs xl (dp_den true xs xl d) dp_m_X5_treat (133, [some (.ref 75), some (.int v1), some (.long v2), none, some (.long v4), none, some (.long v6), none, some (.int v8), some (.int v9)], [.long vs0, .int vs1, .ref 86], M)
theorem D_X5_treat_0_den (xs : Nat → Int32) (xl d : Nat) (a0 : Int32) (a1 : Int64) (M : dp_M) : dp_den true xs xl (d + 1) 132 [.ref 75, .int a0, .long a1] M = D_X5_treat_0 xs xl d a0 a1 M := rfl
set_option maxRecDepth 20000 in
theorem D_X5_treat_0_eq (xs : Nat → Int32) (xl d : Nat) (v1 : Int32) (v2 : Int64) (M : dp_M) : D_X5_treat_0 xs xl d v1 v2 M = dp_w (0 : Int64) (fun y1 => dp_w (0 : Int32) (fun y2 => D_X5_treat_6 xs xl d v1 v2 y1 y2 M)) := by
  have hF := dp_den_grow (md := true) (xs := xs) (xl := xl) d
  unfold D_X5_treat_0
  refine dp_s1 hF (i := .lconst 0) rfl (fun _ => rfl) ?_
  refine dp_s1w (0 : Int64) (fun (y1 : Int64) => (3, [some (.ref 75), some (.int v1), some (.long v2), none, some (.long y1), none, none, none, none, none], [], M)) hF (i := .lstore 4) rfl (fun _ => rfl) (fun y1 => ?_)
  refine dp_s1 hF (i := .iconst 0) rfl (fun _ => rfl) ?_
  refine dp_s1w (0 : Int32) (fun (y2 : Int32) => (6, [some (.ref 75), some (.int v1), some (.long v2), none, some (.long y1), none, some (.int y2), none, none, none], [], M)) hF (i := .istore 6) rfl (fun _ => rfl) (fun y2 => ?_)
  exact rfl
set_option maxRecDepth 20000 in
theorem D_X5_treat_6_eq (xs : Nat → Int32) (xl d : Nat) (v1 : Int32) (v2 : Int64) (v4 : Int64) (v6 : Int32) (M : dp_M) : D_X5_treat_6 xs xl d v1 v2 v4 v6 M = if (dp_I M 75 16) ≤ v6 then (dp_w (0 : Int32) (fun y1 => D_X5_treat_63 xs xl d v1 v2 v4 v2 y1 M)) else (if v6 < 0 ∨ 400 ≤ Int32.toNatClampNeg v6 then none else (dp_bi (dp_den true xs xl d 131 [.ref 75, .int (dp_I M 89 (Int32.toNatClampNeg v6)), .int v1] M) (fun r3 M2 => if r3 = 0 then (dp_w (v4 + (0 : Int64)) (fun y4 => dp_w (v6 + (1 : Int32)) (fun y5 => D_X5_treat_6 xs xl d v1 v2 y4 y5 M2))) else (if v6 < 0 ∨ 400 ≤ Int32.toNatClampNeg v6 then none else (if (dp_I M2 89 (Int32.toNatClampNeg v6)) < 0 ∨ 400 ≤ Int32.toNatClampNeg (dp_I M2 89 (Int32.toNatClampNeg v6)) then none else (dp_w (v4 + (dp_J M2 85 (Int32.toNatClampNeg (dp_I M2 89 (Int32.toNatClampNeg v6))))) (fun y6 => dp_w (v6 + (1 : Int32)) (fun y7 => D_X5_treat_6 xs xl d v1 v2 y6 y7 M2)))))))) := by
  have hF := dp_den_grow (md := true) (xs := xs) (xl := xl) d
  unfold D_X5_treat_6
  refine dp_s1 hF (i := .iload 6) rfl (fun _ => rfl) ?_
  refine dp_s1 hF (i := .aload_n 0) rfl (fun _ => rfl) ?_
  refine dp_s1 hF (i := .getfield 75) rfl (fun _ => rfl) ?_
  refine dp_s2 hF (i := .if_icmp .ge 45) (a := (57, [some (.ref 75), some (.int v1), some (.long v2), none, some (.long v4), none, some (.int v6), none, none, none], [], M)) (b := (15, [some (.ref 75), some (.int v1), some (.long v2), none, some (.long v4), none, some (.int v6), none, none, none], [], M)) rfl (fun _ => rfl) ?_ ?_
  · refine dp_s1 hF (i := .lload_n 2) rfl (fun _ => rfl) ?_
    refine dp_s1 hF (i := .lstore 6) rfl (fun _ => rfl) ?_
    refine dp_s1 hF (i := .iconst 0) rfl (fun _ => rfl) ?_
    refine dp_s1w (0 : Int32) (fun (y1 : Int32) => (63, [some (.ref 75), some (.int v1), some (.long v2), none, some (.long v4), none, some (.long v2), none, some (.int y1), none], [], M)) hF (i := .istore 8) rfl (fun _ => rfl) (fun y1 => ?_)
    exact rfl
  refine dp_s1 hF (i := .lload 4) rfl (fun _ => rfl) ?_
  refine dp_s1 hF (i := .aload_n 0) rfl (fun _ => rfl) ?_
  refine dp_s1 hF (i := .aload_n 0) rfl (fun _ => rfl) ?_
  refine dp_s1 hF (i := .getfield 55) rfl (fun _ => rfl) ?_
  refine dp_s1 hF (i := .iload 6) rfl (fun _ => rfl) ?_
  refine dp_s3 hF (i := .iaload) rfl (fun _ => rfl) ?_
  refine dp_s1 hF (i := .iload_n 1) rfl (fun _ => rfl) ?_
  refine dp_si (mj := dp_m_X5_isDue) (i := .invokevirtual 106) rfl rfl (Or.inr rfl) rfl (fun _ => rfl) (fun r3 M2 => ?_)
  refine dp_s2 hF (i := .ifCond .eq 18) (a := (47, [some (.ref 75), some (.int v1), some (.long v2), none, some (.long v4), none, some (.int v6), none, none, none], [.long v4], M2)) (b := (32, [some (.ref 75), some (.int v1), some (.long v2), none, some (.long v4), none, some (.int v6), none, none, none], [.long v4], M2)) rfl (fun _ => rfl) ?_ ?_
  · refine dp_s1 hF (i := .lconst 0) rfl (fun _ => rfl) ?_
    refine dp_s1 hF (i := .ladd) rfl (fun _ => rfl) ?_
    refine dp_s1w (v4 + (0 : Int64)) (fun (y4 : Int64) => (51, [some (.ref 75), some (.int v1), some (.long v2), none, some (.long y4), none, some (.int v6), none, none, none], [], M2)) hF (i := .lstore 4) rfl (fun _ => rfl) (fun y4 => ?_)
    refine dp_s1w (v6 + (1 : Int32)) (fun (y5 : Int32) => (54, [some (.ref 75), some (.int v1), some (.long v2), none, some (.long y4), none, some (.int y5), none, none, none], [], M2)) hF (i := .iinc 6 1) rfl (fun _ => rfl) (fun y5 => ?_)
    refine dp_s1 hF (i := .goto (-48)) rfl (fun _ => rfl) ?_
    exact rfl
  refine dp_s1 hF (i := .aload_n 0) rfl (fun _ => rfl) ?_
  refine dp_s1 hF (i := .getfield 43) rfl (fun _ => rfl) ?_
  refine dp_s1 hF (i := .aload_n 0) rfl (fun _ => rfl) ?_
  refine dp_s1 hF (i := .getfield 55) rfl (fun _ => rfl) ?_
  refine dp_s1 hF (i := .iload 6) rfl (fun _ => rfl) ?_
  refine dp_s3 hF (i := .iaload) rfl (fun _ => rfl) ?_
  refine dp_s3 hF (i := .laload) rfl (fun _ => rfl) ?_
  refine dp_s1 hF (i := .goto 4) rfl (fun _ => rfl) ?_
  refine dp_s1 hF (i := .ladd) rfl (fun _ => rfl) ?_
  refine dp_s1w (v4 + (dp_J M2 85 (Int32.toNatClampNeg (dp_I M2 89 (Int32.toNatClampNeg v6))))) (fun (y6 : Int64) => (51, [some (.ref 75), some (.int v1), some (.long v2), none, some (.long y6), none, some (.int v6), none, none, none], [], M2)) hF (i := .lstore 4) rfl (fun _ => rfl) (fun y6 => ?_)
  refine dp_s1w (v6 + (1 : Int32)) (fun (y7 : Int32) => (54, [some (.ref 75), some (.int v1), some (.long v2), none, some (.long y6), none, some (.int y7), none, none, none], [], M2)) hF (i := .iinc 6 1) rfl (fun _ => rfl) (fun y7 => ?_)
  refine dp_s1 hF (i := .goto (-48)) rfl (fun _ => rfl) ?_
  exact rfl
set_option maxRecDepth 20000 in
theorem D_X5_treat_63_eq (xs : Nat → Int32) (xl d : Nat) (v1 : Int32) (v2 : Int64) (v4 : Int64) (v6 : Int64) (v8 : Int32) (M : dp_M) : D_X5_treat_63 xs xl d v1 v2 v4 v6 v8 M = if (dp_I M 75 16) ≤ v8 then (if (lg_cmp v4 v2) ≤ 0 then (some (.inl (some (.long v6)), M)) else (dp_bl (dp_den true xs xl d 133 [.ref 75, .int v1, .long v6] M) (fun r2 M1 => some (.inl (some (.long r2)), M1)))) else (if v8 < 0 ∨ 400 ≤ Int32.toNatClampNeg v8 then none else (dp_w (dp_I M 89 (Int32.toNatClampNeg v8)) (fun y3 => dp_bi (dp_den true xs xl d 131 [.ref 75, .int y3, .int v1] M) (fun r5 M4 => if r5 = 0 then (dp_w (v8 + (1 : Int32)) (fun y6 => D_X5_treat_63_a xs xl d v1 v2 v4 v6 y6 y3 M4)) else (if (lg_cmp v4 v2) ≤ 0 then (if y3 < 0 ∨ 400 ≤ Int32.toNatClampNeg y3 then none else (D_X5_treat_133 xs xl d v1 v2 v4 v6 v8 y3 (dp_J M4 85 (Int32.toNatClampNeg y3)) y3 M4)) else (if 0 < (lg_cmp v4 (0 : Int64)) then (if y3 < 0 ∨ 400 ≤ Int32.toNatClampNeg y3 then none else (if v4 = 0 then none else (D_X5_treat_133 xs xl d v1 v2 v4 v6 v8 y3 (((dp_J M4 85 (Int32.toNatClampNeg y3)) * v2) / v4) y3 M4))) else (if y3 < 0 ∨ 400 ≤ Int32.toNatClampNeg y3 then none else (D_X5_treat_133 xs xl d v1 v2 v4 v6 v8 y3 (dp_J M4 85 (Int32.toNatClampNeg y3)) y3 M4)))))))) := by
  have hF := dp_den_grow (md := true) (xs := xs) (xl := xl) d
  unfold D_X5_treat_63
  refine dp_s1 hF (i := .iload 8) rfl (fun _ => rfl) ?_
  refine dp_s1 hF (i := .aload_n 0) rfl (fun _ => rfl) ?_
  refine dp_s1 hF (i := .getfield 75) rfl (fun _ => rfl) ?_
  refine dp_s2 hF (i := .if_icmp .ge 101) (a := (170, [some (.ref 75), some (.int v1), some (.long v2), none, some (.long v4), none, some (.long v6), none, some (.int v8), none], [], M)) (b := (72, [some (.ref 75), some (.int v1), some (.long v2), none, some (.long v4), none, some (.long v6), none, some (.int v8), none], [], M)) rfl (fun _ => rfl) ?_ ?_
  · refine dp_s1 hF (i := .lload 4) rfl (fun _ => rfl) ?_
    refine dp_s1 hF (i := .lload_n 2) rfl (fun _ => rfl) ?_
    refine dp_s1 hF (i := .lcmp) rfl (fun _ => rfl) ?_
    refine dp_s2 hF (i := .ifCond .le 13) (a := (187, [some (.ref 75), some (.int v1), some (.long v2), none, some (.long v4), none, some (.long v6), none, some (.int v8), none], [], M)) (b := (177, [some (.ref 75), some (.int v1), some (.long v2), none, some (.long v4), none, some (.long v6), none, some (.int v8), none], [], M)) rfl (fun _ => rfl) ?_ ?_
    · refine dp_s1 hF (i := .lload 6) rfl (fun _ => rfl) ?_
      exact dp_s0 hF (i := .lreturn) rfl (fun _ => rfl)
    refine dp_s1 hF (i := .aload_n 0) rfl (fun _ => rfl) ?_
    refine dp_s1 hF (i := .iload_n 1) rfl (fun _ => rfl) ?_
    refine dp_s1 hF (i := .lload 6) rfl (fun _ => rfl) ?_
    refine dp_sl9 (mj := dp_m_X5_handOut) (i := .invokevirtual 110) rfl rfl rfl rfl (fun _ => rfl) (fun r2 M1 => ?_)
    refine dp_s1 hF (i := .goto 5) rfl (fun _ => rfl) ?_
    exact dp_s0 hF (i := .lreturn) rfl (fun _ => rfl)
  refine dp_s1 hF (i := .aload_n 0) rfl (fun _ => rfl) ?_
  refine dp_s1 hF (i := .getfield 55) rfl (fun _ => rfl) ?_
  refine dp_s1 hF (i := .iload 8) rfl (fun _ => rfl) ?_
  refine dp_s3 hF (i := .iaload) rfl (fun _ => rfl) ?_
  refine dp_s1w (dp_I M 89 (Int32.toNatClampNeg v8)) (fun (y3 : Int32) => (81, [some (.ref 75), some (.int v1), some (.long v2), none, some (.long v4), none, some (.long v6), none, some (.int v8), some (.int y3)], [], M)) hF (i := .istore 9) rfl (fun _ => rfl) (fun y3 => ?_)
  refine dp_s1 hF (i := .aload_n 0) rfl (fun _ => rfl) ?_
  refine dp_s1 hF (i := .iload 9) rfl (fun _ => rfl) ?_
  refine dp_s1 hF (i := .iload_n 1) rfl (fun _ => rfl) ?_
  refine dp_si (mj := dp_m_X5_isDue) (i := .invokevirtual 106) rfl rfl (Or.inr rfl) rfl (fun _ => rfl) (fun r5 M4 => ?_)
  refine dp_s2 hF (i := .ifCond .eq 76) (a := (164, [some (.ref 75), some (.int v1), some (.long v2), none, some (.long v4), none, some (.long v6), none, some (.int v8), some (.int y3)], [], M4)) (b := (91, [some (.ref 75), some (.int v1), some (.long v2), none, some (.long v4), none, some (.long v6), none, some (.int v8), some (.int y3)], [], M4)) rfl (fun _ => rfl) ?_ ?_
  · refine dp_s1w (v8 + (1 : Int32)) (fun (y6 : Int32) => (167, [some (.ref 75), some (.int v1), some (.long v2), none, some (.long v4), none, some (.long v6), none, some (.int y6), some (.int y3)], [], M4)) hF (i := .iinc 8 1) rfl (fun _ => rfl) (fun y6 => ?_)
    refine dp_s1 hF (i := .goto (-104)) rfl (fun _ => rfl) ?_
    exact rfl
  refine dp_s1 hF (i := .aload_n 0) rfl (fun _ => rfl) ?_
  refine dp_s1 hF (i := .getfield 46) rfl (fun _ => rfl) ?_
  refine dp_s1 hF (i := .iload 9) rfl (fun _ => rfl) ?_
  refine dp_s1 hF (i := .lload 4) rfl (fun _ => rfl) ?_
  refine dp_s1 hF (i := .lload_n 2) rfl (fun _ => rfl) ?_
  refine dp_s1 hF (i := .lcmp) rfl (fun _ => rfl) ?_
  refine dp_s2 hF (i := .ifCond .le 10) (a := (111, [some (.ref 75), some (.int v1), some (.long v2), none, some (.long v4), none, some (.long v6), none, some (.int v8), some (.int y3)], [.int y3, .ref 86], M4)) (b := (104, [some (.ref 75), some (.int v1), some (.long v2), none, some (.long v4), none, some (.long v6), none, some (.int v8), some (.int y3)], [.int y3, .ref 86], M4)) rfl (fun _ => rfl) ?_ ?_
  · refine dp_s1 hF (i := .aload_n 0) rfl (fun _ => rfl) ?_
    refine dp_s1 hF (i := .getfield 43) rfl (fun _ => rfl) ?_
    refine dp_s1 hF (i := .iload 9) rfl (fun _ => rfl) ?_
    refine dp_s3 hF (i := .laload) rfl (fun _ => rfl) ?_
    refine dp_s1 hF (i := .goto 15) rfl (fun _ => rfl) ?_
    exact rfl
  refine dp_s1 hF (i := .lload 4) rfl (fun _ => rfl) ?_
  refine dp_s1 hF (i := .lconst 0) rfl (fun _ => rfl) ?_
  refine dp_s1 hF (i := .lcmp) rfl (fun _ => rfl) ?_
  refine dp_s2 hF (i := .ifCond .gt 13) (a := (121, [some (.ref 75), some (.int v1), some (.long v2), none, some (.long v4), none, some (.long v6), none, some (.int v8), some (.int y3)], [.int y3, .ref 86], M4)) (b := (111, [some (.ref 75), some (.int v1), some (.long v2), none, some (.long v4), none, some (.long v6), none, some (.int v8), some (.int y3)], [.int y3, .ref 86], M4)) rfl (fun _ => rfl) ?_ ?_
  · refine dp_s1 hF (i := .aload_n 0) rfl (fun _ => rfl) ?_
    refine dp_s1 hF (i := .getfield 43) rfl (fun _ => rfl) ?_
    refine dp_s1 hF (i := .iload 9) rfl (fun _ => rfl) ?_
    refine dp_s3 hF (i := .laload) rfl (fun _ => rfl) ?_
    refine dp_s1 hF (i := .lload_n 2) rfl (fun _ => rfl) ?_
    refine dp_s1 hF (i := .lmul) rfl (fun _ => rfl) ?_
    refine dp_s1 hF (i := .lload 4) rfl (fun _ => rfl) ?_
    refine dp_s3 hF (i := .ldiv) rfl (fun _ => rfl) ?_
    exact rfl
  refine dp_s1 hF (i := .aload_n 0) rfl (fun _ => rfl) ?_
  refine dp_s1 hF (i := .getfield 43) rfl (fun _ => rfl) ?_
  refine dp_s1 hF (i := .iload 9) rfl (fun _ => rfl) ?_
  refine dp_s3 hF (i := .laload) rfl (fun _ => rfl) ?_
  refine dp_s1 hF (i := .goto 15) rfl (fun _ => rfl) ?_
  exact rfl
set_option maxRecDepth 20000 in
theorem D_X5_treat_63_a_eq (xs : Nat → Int32) (xl d : Nat) (v1 : Int32) (v2 : Int64) (v4 : Int64) (v6 : Int64) (v8 : Int32) (v9 : Int32) (M : dp_M) : D_X5_treat_63_a xs xl d v1 v2 v4 v6 v8 v9 M = if (dp_I M 75 16) ≤ v8 then (if (lg_cmp v4 v2) ≤ 0 then (some (.inl (some (.long v6)), M)) else (dp_bl (dp_den true xs xl d 133 [.ref 75, .int v1, .long v6] M) (fun r2 M1 => some (.inl (some (.long r2)), M1)))) else (if v8 < 0 ∨ 400 ≤ Int32.toNatClampNeg v8 then none else (dp_w (dp_I M 89 (Int32.toNatClampNeg v8)) (fun y3 => dp_bi (dp_den true xs xl d 131 [.ref 75, .int y3, .int v1] M) (fun r5 M4 => if r5 = 0 then (dp_w (v8 + (1 : Int32)) (fun y6 => D_X5_treat_63_a xs xl d v1 v2 v4 v6 y6 y3 M4)) else (if (lg_cmp v4 v2) ≤ 0 then (if y3 < 0 ∨ 400 ≤ Int32.toNatClampNeg y3 then none else (D_X5_treat_133 xs xl d v1 v2 v4 v6 v8 y3 (dp_J M4 85 (Int32.toNatClampNeg y3)) y3 M4)) else (if 0 < (lg_cmp v4 (0 : Int64)) then (if y3 < 0 ∨ 400 ≤ Int32.toNatClampNeg y3 then none else (if v4 = 0 then none else (D_X5_treat_133 xs xl d v1 v2 v4 v6 v8 y3 (((dp_J M4 85 (Int32.toNatClampNeg y3)) * v2) / v4) y3 M4))) else (if y3 < 0 ∨ 400 ≤ Int32.toNatClampNeg y3 then none else (D_X5_treat_133 xs xl d v1 v2 v4 v6 v8 y3 (dp_J M4 85 (Int32.toNatClampNeg y3)) y3 M4)))))))) := by
  have hF := dp_den_grow (md := true) (xs := xs) (xl := xl) d
  unfold D_X5_treat_63_a
  refine dp_s1 hF (i := .iload 8) rfl (fun _ => rfl) ?_
  refine dp_s1 hF (i := .aload_n 0) rfl (fun _ => rfl) ?_
  refine dp_s1 hF (i := .getfield 75) rfl (fun _ => rfl) ?_
  refine dp_s2 hF (i := .if_icmp .ge 101) (a := (170, [some (.ref 75), some (.int v1), some (.long v2), none, some (.long v4), none, some (.long v6), none, some (.int v8), some (.int v9)], [], M)) (b := (72, [some (.ref 75), some (.int v1), some (.long v2), none, some (.long v4), none, some (.long v6), none, some (.int v8), some (.int v9)], [], M)) rfl (fun _ => rfl) ?_ ?_
  · refine dp_s1 hF (i := .lload 4) rfl (fun _ => rfl) ?_
    refine dp_s1 hF (i := .lload_n 2) rfl (fun _ => rfl) ?_
    refine dp_s1 hF (i := .lcmp) rfl (fun _ => rfl) ?_
    refine dp_s2 hF (i := .ifCond .le 13) (a := (187, [some (.ref 75), some (.int v1), some (.long v2), none, some (.long v4), none, some (.long v6), none, some (.int v8), some (.int v9)], [], M)) (b := (177, [some (.ref 75), some (.int v1), some (.long v2), none, some (.long v4), none, some (.long v6), none, some (.int v8), some (.int v9)], [], M)) rfl (fun _ => rfl) ?_ ?_
    · refine dp_s1 hF (i := .lload 6) rfl (fun _ => rfl) ?_
      exact dp_s0 hF (i := .lreturn) rfl (fun _ => rfl)
    refine dp_s1 hF (i := .aload_n 0) rfl (fun _ => rfl) ?_
    refine dp_s1 hF (i := .iload_n 1) rfl (fun _ => rfl) ?_
    refine dp_s1 hF (i := .lload 6) rfl (fun _ => rfl) ?_
    refine dp_sl9 (mj := dp_m_X5_handOut) (i := .invokevirtual 110) rfl rfl rfl rfl (fun _ => rfl) (fun r2 M1 => ?_)
    refine dp_s1 hF (i := .goto 5) rfl (fun _ => rfl) ?_
    exact dp_s0 hF (i := .lreturn) rfl (fun _ => rfl)
  refine dp_s1 hF (i := .aload_n 0) rfl (fun _ => rfl) ?_
  refine dp_s1 hF (i := .getfield 55) rfl (fun _ => rfl) ?_
  refine dp_s1 hF (i := .iload 8) rfl (fun _ => rfl) ?_
  refine dp_s3 hF (i := .iaload) rfl (fun _ => rfl) ?_
  refine dp_s1w (dp_I M 89 (Int32.toNatClampNeg v8)) (fun (y3 : Int32) => (81, [some (.ref 75), some (.int v1), some (.long v2), none, some (.long v4), none, some (.long v6), none, some (.int v8), some (.int y3)], [], M)) hF (i := .istore 9) rfl (fun _ => rfl) (fun y3 => ?_)
  refine dp_s1 hF (i := .aload_n 0) rfl (fun _ => rfl) ?_
  refine dp_s1 hF (i := .iload 9) rfl (fun _ => rfl) ?_
  refine dp_s1 hF (i := .iload_n 1) rfl (fun _ => rfl) ?_
  refine dp_si (mj := dp_m_X5_isDue) (i := .invokevirtual 106) rfl rfl (Or.inr rfl) rfl (fun _ => rfl) (fun r5 M4 => ?_)
  refine dp_s2 hF (i := .ifCond .eq 76) (a := (164, [some (.ref 75), some (.int v1), some (.long v2), none, some (.long v4), none, some (.long v6), none, some (.int v8), some (.int y3)], [], M4)) (b := (91, [some (.ref 75), some (.int v1), some (.long v2), none, some (.long v4), none, some (.long v6), none, some (.int v8), some (.int y3)], [], M4)) rfl (fun _ => rfl) ?_ ?_
  · refine dp_s1w (v8 + (1 : Int32)) (fun (y6 : Int32) => (167, [some (.ref 75), some (.int v1), some (.long v2), none, some (.long v4), none, some (.long v6), none, some (.int y6), some (.int y3)], [], M4)) hF (i := .iinc 8 1) rfl (fun _ => rfl) (fun y6 => ?_)
    refine dp_s1 hF (i := .goto (-104)) rfl (fun _ => rfl) ?_
    exact rfl
  refine dp_s1 hF (i := .aload_n 0) rfl (fun _ => rfl) ?_
  refine dp_s1 hF (i := .getfield 46) rfl (fun _ => rfl) ?_
  refine dp_s1 hF (i := .iload 9) rfl (fun _ => rfl) ?_
  refine dp_s1 hF (i := .lload 4) rfl (fun _ => rfl) ?_
  refine dp_s1 hF (i := .lload_n 2) rfl (fun _ => rfl) ?_
  refine dp_s1 hF (i := .lcmp) rfl (fun _ => rfl) ?_
  refine dp_s2 hF (i := .ifCond .le 10) (a := (111, [some (.ref 75), some (.int v1), some (.long v2), none, some (.long v4), none, some (.long v6), none, some (.int v8), some (.int y3)], [.int y3, .ref 86], M4)) (b := (104, [some (.ref 75), some (.int v1), some (.long v2), none, some (.long v4), none, some (.long v6), none, some (.int v8), some (.int y3)], [.int y3, .ref 86], M4)) rfl (fun _ => rfl) ?_ ?_
  · refine dp_s1 hF (i := .aload_n 0) rfl (fun _ => rfl) ?_
    refine dp_s1 hF (i := .getfield 43) rfl (fun _ => rfl) ?_
    refine dp_s1 hF (i := .iload 9) rfl (fun _ => rfl) ?_
    refine dp_s3 hF (i := .laload) rfl (fun _ => rfl) ?_
    refine dp_s1 hF (i := .goto 15) rfl (fun _ => rfl) ?_
    exact rfl
  refine dp_s1 hF (i := .lload 4) rfl (fun _ => rfl) ?_
  refine dp_s1 hF (i := .lconst 0) rfl (fun _ => rfl) ?_
  refine dp_s1 hF (i := .lcmp) rfl (fun _ => rfl) ?_
  refine dp_s2 hF (i := .ifCond .gt 13) (a := (121, [some (.ref 75), some (.int v1), some (.long v2), none, some (.long v4), none, some (.long v6), none, some (.int v8), some (.int y3)], [.int y3, .ref 86], M4)) (b := (111, [some (.ref 75), some (.int v1), some (.long v2), none, some (.long v4), none, some (.long v6), none, some (.int v8), some (.int y3)], [.int y3, .ref 86], M4)) rfl (fun _ => rfl) ?_ ?_
  · refine dp_s1 hF (i := .aload_n 0) rfl (fun _ => rfl) ?_
    refine dp_s1 hF (i := .getfield 43) rfl (fun _ => rfl) ?_
    refine dp_s1 hF (i := .iload 9) rfl (fun _ => rfl) ?_
    refine dp_s3 hF (i := .laload) rfl (fun _ => rfl) ?_
    refine dp_s1 hF (i := .lload_n 2) rfl (fun _ => rfl) ?_
    refine dp_s1 hF (i := .lmul) rfl (fun _ => rfl) ?_
    refine dp_s1 hF (i := .lload 4) rfl (fun _ => rfl) ?_
    refine dp_s3 hF (i := .ldiv) rfl (fun _ => rfl) ?_
    exact rfl
  refine dp_s1 hF (i := .aload_n 0) rfl (fun _ => rfl) ?_
  refine dp_s1 hF (i := .getfield 43) rfl (fun _ => rfl) ?_
  refine dp_s1 hF (i := .iload 9) rfl (fun _ => rfl) ?_
  refine dp_s3 hF (i := .laload) rfl (fun _ => rfl) ?_
  refine dp_s1 hF (i := .goto 15) rfl (fun _ => rfl) ?_
  exact rfl
set_option maxRecDepth 20000 in
theorem D_X5_treat_133_eq (xs : Nat → Int32) (xl d : Nat) (v1 : Int32) (v2 : Int64) (v4 : Int64) (v6 : Int64) (v8 : Int32) (v9 : Int32) (vs0 : Int64) (vs1 : Int32) (M : dp_M) : D_X5_treat_133 xs xl d v1 v2 v4 v6 v8 v9 vs0 vs1 M = if vs1 < 0 ∨ 400 ≤ Int32.toNatClampNeg vs1 then none else dp_w (dp_setJ M 86 (Int32.toNatClampNeg vs1) vs0) (fun M1 => if v9 < 0 ∨ 400 ≤ Int32.toNatClampNeg v9 then none else (dp_w (v6 - (dp_J M1 86 (Int32.toNatClampNeg v9))) (fun y2 => if v9 < 0 ∨ 400 ≤ Int32.toNatClampNeg v9 then none else dp_w (dp_setI M1 87 (Int32.toNatClampNeg v9) v1) (fun M3 => dp_w (dp_setI M3 75 17 ((dp_I M3 75 17) - (1 : Int32))) (fun M4 => dp_w (v8 + (1 : Int32)) (fun y5 => D_X5_treat_63_a xs xl d v1 v2 v4 y2 y5 v9 M4)))))) := by
  have hF := dp_den_grow (md := true) (xs := xs) (xl := xl) d
  unfold D_X5_treat_133
  refine dp_s3w (dp_setJ M 86 (Int32.toNatClampNeg vs1) vs0) (fun (M1 : dp_M) => (134, [some (.ref 75), some (.int v1), some (.long v2), none, some (.long v4), none, some (.long v6), none, some (.int v8), some (.int v9)], [], M1)) hF (i := .lastore) rfl (fun _ => rfl) (fun M1 => ?_)
  refine dp_s1 hF (i := .lload 6) rfl (fun _ => rfl) ?_
  refine dp_s1 hF (i := .aload_n 0) rfl (fun _ => rfl) ?_
  refine dp_s1 hF (i := .getfield 46) rfl (fun _ => rfl) ?_
  refine dp_s1 hF (i := .iload 9) rfl (fun _ => rfl) ?_
  refine dp_s3 hF (i := .laload) rfl (fun _ => rfl) ?_
  refine dp_s1 hF (i := .lsub) rfl (fun _ => rfl) ?_
  refine dp_s1w (v6 - (dp_J M1 86 (Int32.toNatClampNeg v9))) (fun (y2 : Int64) => (146, [some (.ref 75), some (.int v1), some (.long v2), none, some (.long v4), none, some (.long y2), none, some (.int v8), some (.int v9)], [], M1)) hF (i := .lstore 6) rfl (fun _ => rfl) (fun y2 => ?_)
  refine dp_s1 hF (i := .aload_n 0) rfl (fun _ => rfl) ?_
  refine dp_s1 hF (i := .getfield 49) rfl (fun _ => rfl) ?_
  refine dp_s1 hF (i := .iload 9) rfl (fun _ => rfl) ?_
  refine dp_s1 hF (i := .iload_n 1) rfl (fun _ => rfl) ?_
  refine dp_s3w (dp_setI M1 87 (Int32.toNatClampNeg v9) v1) (fun (M3 : dp_M) => (154, [some (.ref 75), some (.int v1), some (.long v2), none, some (.long v4), none, some (.long y2), none, some (.int v8), some (.int v9)], [], M3)) hF (i := .iastore) rfl (fun _ => rfl) (fun M3 => ?_)
  refine dp_s1 hF (i := .aload_n 0) rfl (fun _ => rfl) ?_
  refine dp_s1 hF (i := .dup) rfl (fun _ => rfl) ?_
  refine dp_s1 hF (i := .getfield 99) rfl (fun _ => rfl) ?_
  refine dp_s1 hF (i := .iconst 1) rfl (fun _ => rfl) ?_
  refine dp_s1 hF (i := .isub) rfl (fun _ => rfl) ?_
  refine dp_s1w (dp_setI M3 75 17 ((dp_I M3 75 17) - (1 : Int32))) (fun (M4 : dp_M) => (164, [some (.ref 75), some (.int v1), some (.long v2), none, some (.long v4), none, some (.long y2), none, some (.int v8), some (.int v9)], [], M4)) hF (i := .putfield 99) rfl (fun _ => rfl) (fun M4 => ?_)
  refine dp_s1w (v8 + (1 : Int32)) (fun (y5 : Int32) => (167, [some (.ref 75), some (.int v1), some (.long v2), none, some (.long v4), none, some (.long y2), none, some (.int y5), some (.int v9)], [], M4)) hF (i := .iinc 8 1) rfl (fun _ => rfl) (fun y5 => ?_)
  refine dp_s1 hF (i := .goto (-104)) rfl (fun _ => rfl) ?_
  exact rfl
noncomputable def D_X5_handOut_0 (xs : Nat → Int32) (xl d : Nat) (v1 : Int32) (v2 : Int64) (M : dp_M) : Option dp_Res := dp_lim true xs xl (dp_den true xs xl d) dp_m_X5_handOut (0, [some (.ref 75), some (.int v1), some (.long v2), none, none, none, none, none, none], [], M)
noncomputable def D_X5_handOut_6 (xs : Nat → Int32) (xl d : Nat) (v1 : Int32) (v2 : Int64) (v4 : Int64) (v6 : Int32) (M : dp_M) : Option dp_Res := dp_lim true xs xl (dp_den true xs xl d) dp_m_X5_handOut (6, [some (.ref 75), some (.int v1), some (.long v2), none, some (.long v4), none, some (.int v6), none, none], [], M)
noncomputable def D_X5_handOut_15 (xs : Nat → Int32) (xl d : Nat) (v1 : Int32) (v2 : Int64) (v4 : Int64) (v6 : Int32) (v7 : Int32) (M : dp_M) : Option dp_Res := dp_lim true xs xl (dp_den true xs xl d) dp_m_X5_handOut (15, [some (.ref 75), some (.int v1), some (.long v2), none, some (.long v4), none, some (.int v6), some (.int v7), none], [], M)
noncomputable def D_X5_handOut_6_a (xs : Nat → Int32) (xl d : Nat) (v1 : Int32) (v2 : Int64) (v4 : Int64) (v6 : Int32) (v7 : Int32) (M : dp_M) : Option dp_Res := dp_lim true xs xl (dp_den true xs xl d) dp_m_X5_handOut (6, [some (.ref 75), some (.int v1), some (.long v2), none, some (.long v4), none, some (.int v6), some (.int v7), none], [], M)
noncomputable def D_X5_handOut_15_a (xs : Nat → Int32) (xl d : Nat) (v1 : Int32) (v2 : Int64) (v4 : Int64) (v6 : Int32) (v7 : Int32) (v8 : Int32) (M : dp_M) : Option dp_Res := dp_lim true xs xl (dp_den true xs xl d) dp_m_X5_handOut (15, [some (.ref 75), some (.int v1), some (.long v2), none, some (.long v4), none, some (.int v6), some (.int v7), some (.int v8)], [], M)
noncomputable def D_X5_handOut_6_b (xs : Nat → Int32) (xl d : Nat) (v1 : Int32) (v2 : Int64) (v4 : Int64) (v6 : Int32) (v7 : Int32) (v8 : Int32) (M : dp_M) : Option dp_Res := dp_lim true xs xl (dp_den true xs xl d) dp_m_X5_handOut (6, [some (.ref 75), some (.int v1), some (.long v2), none, some (.long v4), none, some (.int v6), some (.int v7), some (.int v8)], [], M)
theorem D_X5_handOut_0_den (xs : Nat → Int32) (xl d : Nat) (a0 : Int32) (a1 : Int64) (M : dp_M) : dp_den true xs xl (d + 1) 133 [.ref 75, .int a0, .long a1] M = D_X5_handOut_0 xs xl d a0 a1 M := rfl
set_option maxRecDepth 20000 in
theorem D_X5_handOut_0_eq (xs : Nat → Int32) (xl d : Nat) (v1 : Int32) (v2 : Int64) (M : dp_M) : D_X5_handOut_0 xs xl d v1 v2 M = dp_w (0 : Int32) (fun y1 => D_X5_handOut_6 xs xl d v1 v2 v2 y1 M) := by
  have hF := dp_den_grow (md := true) (xs := xs) (xl := xl) d
  unfold D_X5_handOut_0
  refine dp_s1 hF (i := .lload_n 2) rfl (fun _ => rfl) ?_
  refine dp_s1 hF (i := .lstore 4) rfl (fun _ => rfl) ?_
  refine dp_s1 hF (i := .iconst 0) rfl (fun _ => rfl) ?_
  refine dp_s1w (0 : Int32) (fun (y1 : Int32) => (6, [some (.ref 75), some (.int v1), some (.long v2), none, some (.long v2), none, some (.int y1), none, none], [], M)) hF (i := .istore 6) rfl (fun _ => rfl) (fun y1 => ?_)
  exact rfl
set_option maxRecDepth 20000 in
theorem D_X5_handOut_6_eq (xs : Nat → Int32) (xl d : Nat) (v1 : Int32) (v2 : Int64) (v4 : Int64) (v6 : Int32) (M : dp_M) : D_X5_handOut_6 xs xl d v1 v2 v4 v6 M = if (4 : Int32) ≤ v6 then (some (.inl (some (.long v4)), M)) else (dp_w (0 : Int32) (fun y1 => D_X5_handOut_15 xs xl d v1 v2 v4 v6 y1 M)) := by
  have hF := dp_den_grow (md := true) (xs := xs) (xl := xl) d
  unfold D_X5_handOut_6
  refine dp_s1 hF (i := .iload 6) rfl (fun _ => rfl) ?_
  refine dp_s1 hF (i := .iconst 4) rfl (fun _ => rfl) ?_
  refine dp_s2 hF (i := .if_icmp .ge 101) (a := (110, [some (.ref 75), some (.int v1), some (.long v2), none, some (.long v4), none, some (.int v6), none, none], [], M)) (b := (12, [some (.ref 75), some (.int v1), some (.long v2), none, some (.long v4), none, some (.int v6), none, none], [], M)) rfl (fun _ => rfl) ?_ ?_
  · refine dp_s1 hF (i := .lload 4) rfl (fun _ => rfl) ?_
    exact dp_s0 hF (i := .lreturn) rfl (fun _ => rfl)
  refine dp_s1 hF (i := .iconst 0) rfl (fun _ => rfl) ?_
  refine dp_s1w (0 : Int32) (fun (y1 : Int32) => (15, [some (.ref 75), some (.int v1), some (.long v2), none, some (.long v4), none, some (.int v6), some (.int y1), none], [], M)) hF (i := .istore 7) rfl (fun _ => rfl) (fun y1 => ?_)
  exact rfl
set_option maxRecDepth 20000 in
theorem D_X5_handOut_15_eq (xs : Nat → Int32) (xl d : Nat) (v1 : Int32) (v2 : Int64) (v4 : Int64) (v6 : Int32) (v7 : Int32) (M : dp_M) : D_X5_handOut_15 xs xl d v1 v2 v4 v6 v7 M = if (dp_I M 75 16) ≤ v7 then (dp_w (v6 + (1 : Int32)) (fun y1 => D_X5_handOut_6_a xs xl d v1 v2 v4 y1 v7 M)) else (if (lg_cmp v4 (0 : Int64)) ≤ 0 then (dp_w (v6 + (1 : Int32)) (fun y2 => D_X5_handOut_6_a xs xl d v1 v2 v4 y2 v7 M)) else (if v7 < 0 ∨ 400 ≤ Int32.toNatClampNeg v7 then none else (dp_w (dp_I M 89 (Int32.toNatClampNeg v7)) (fun y3 => if y3 < 0 ∨ 400 ≤ Int32.toNatClampNeg y3 then none else (if (dp_I M 87 (Int32.toNatClampNeg y3)) = v1 then (if y3 < 0 ∨ 400 ≤ Int32.toNatClampNeg y3 then none else (if (dp_I M 83 (Int32.toNatClampNeg y3)) = v6 then (if y3 < 0 ∨ 400 ≤ Int32.toNatClampNeg y3 then none else (if y3 < 0 ∨ 400 ≤ Int32.toNatClampNeg y3 then none else (if 0 ≤ (lg_cmp (dp_J M 86 (Int32.toNatClampNeg y3)) (dp_J M 85 (Int32.toNatClampNeg y3))) then (dp_w (v7 + (1 : Int32)) (fun y4 => D_X5_handOut_15_a xs xl d v1 v2 v4 v6 y4 y3 M)) else (if y3 < 0 ∨ 400 ≤ Int32.toNatClampNeg y3 then none else (if y3 < 0 ∨ 400 ≤ Int32.toNatClampNeg y3 then none else dp_w (dp_setJ M 86 (Int32.toNatClampNeg y3) ((dp_J M 86 (Int32.toNatClampNeg y3)) + (1 : Int64))) (fun M5 => dp_w (v4 - (1 : Int64)) (fun y6 => dp_w (v7 + (1 : Int32)) (fun y7 => D_X5_handOut_15_a xs xl d v1 v2 y6 v6 y7 y3 M5)))))))) else (dp_w (v7 + (1 : Int32)) (fun y8 => D_X5_handOut_15_a xs xl d v1 v2 v4 v6 y8 y3 M)))) else (dp_w (v7 + (1 : Int32)) (fun y9 => D_X5_handOut_15_a xs xl d v1 v2 v4 v6 y9 y3 M))))))) := by
  have hF := dp_den_grow (md := true) (xs := xs) (xl := xl) d
  unfold D_X5_handOut_15
  refine dp_s1 hF (i := .iload 7) rfl (fun _ => rfl) ?_
  refine dp_s1 hF (i := .aload_n 0) rfl (fun _ => rfl) ?_
  refine dp_s1 hF (i := .getfield 75) rfl (fun _ => rfl) ?_
  refine dp_s2 hF (i := .if_icmp .ge 83) (a := (104, [some (.ref 75), some (.int v1), some (.long v2), none, some (.long v4), none, some (.int v6), some (.int v7), none], [], M)) (b := (24, [some (.ref 75), some (.int v1), some (.long v2), none, some (.long v4), none, some (.int v6), some (.int v7), none], [], M)) rfl (fun _ => rfl) ?_ ?_
  · refine dp_s1w (v6 + (1 : Int32)) (fun (y1 : Int32) => (107, [some (.ref 75), some (.int v1), some (.long v2), none, some (.long v4), none, some (.int y1), some (.int v7), none], [], M)) hF (i := .iinc 6 1) rfl (fun _ => rfl) (fun y1 => ?_)
    refine dp_s1 hF (i := .goto (-101)) rfl (fun _ => rfl) ?_
    exact rfl
  refine dp_s1 hF (i := .lload 4) rfl (fun _ => rfl) ?_
  refine dp_s1 hF (i := .lconst 0) rfl (fun _ => rfl) ?_
  refine dp_s1 hF (i := .lcmp) rfl (fun _ => rfl) ?_
  refine dp_s2 hF (i := .ifCond .le 76) (a := (104, [some (.ref 75), some (.int v1), some (.long v2), none, some (.long v4), none, some (.int v6), some (.int v7), none], [], M)) (b := (31, [some (.ref 75), some (.int v1), some (.long v2), none, some (.long v4), none, some (.int v6), some (.int v7), none], [], M)) rfl (fun _ => rfl) ?_ ?_
  · refine dp_s1w (v6 + (1 : Int32)) (fun (y2 : Int32) => (107, [some (.ref 75), some (.int v1), some (.long v2), none, some (.long v4), none, some (.int y2), some (.int v7), none], [], M)) hF (i := .iinc 6 1) rfl (fun _ => rfl) (fun y2 => ?_)
    refine dp_s1 hF (i := .goto (-101)) rfl (fun _ => rfl) ?_
    exact rfl
  refine dp_s1 hF (i := .aload_n 0) rfl (fun _ => rfl) ?_
  refine dp_s1 hF (i := .getfield 55) rfl (fun _ => rfl) ?_
  refine dp_s1 hF (i := .iload 7) rfl (fun _ => rfl) ?_
  refine dp_s3 hF (i := .iaload) rfl (fun _ => rfl) ?_
  refine dp_s1w (dp_I M 89 (Int32.toNatClampNeg v7)) (fun (y3 : Int32) => (40, [some (.ref 75), some (.int v1), some (.long v2), none, some (.long v4), none, some (.int v6), some (.int v7), some (.int y3)], [], M)) hF (i := .istore 8) rfl (fun _ => rfl) (fun y3 => ?_)
  refine dp_s1 hF (i := .aload_n 0) rfl (fun _ => rfl) ?_
  refine dp_s1 hF (i := .getfield 49) rfl (fun _ => rfl) ?_
  refine dp_s1 hF (i := .iload 8) rfl (fun _ => rfl) ?_
  refine dp_s3 hF (i := .iaload) rfl (fun _ => rfl) ?_
  refine dp_s1 hF (i := .iload_n 1) rfl (fun _ => rfl) ?_
  refine dp_s2 hF (i := .if_icmp .ne 50) (a := (51, [some (.ref 75), some (.int v1), some (.long v2), none, some (.long v4), none, some (.int v6), some (.int v7), some (.int y3)], [], M)) (b := (98, [some (.ref 75), some (.int v1), some (.long v2), none, some (.long v4), none, some (.int v6), some (.int v7), some (.int y3)], [], M)) rfl (fun _ => rfl) ?_ ?_
  · refine dp_s1 hF (i := .aload_n 0) rfl (fun _ => rfl) ?_
    refine dp_s1 hF (i := .getfield 37) rfl (fun _ => rfl) ?_
    refine dp_s1 hF (i := .iload 8) rfl (fun _ => rfl) ?_
    refine dp_s3 hF (i := .iaload) rfl (fun _ => rfl) ?_
    refine dp_s1 hF (i := .iload 6) rfl (fun _ => rfl) ?_
    refine dp_s2 hF (i := .if_icmp .ne 38) (a := (63, [some (.ref 75), some (.int v1), some (.long v2), none, some (.long v4), none, some (.int v6), some (.int v7), some (.int y3)], [], M)) (b := (98, [some (.ref 75), some (.int v1), some (.long v2), none, some (.long v4), none, some (.int v6), some (.int v7), some (.int y3)], [], M)) rfl (fun _ => rfl) ?_ ?_
    · refine dp_s1 hF (i := .aload_n 0) rfl (fun _ => rfl) ?_
      refine dp_s1 hF (i := .getfield 46) rfl (fun _ => rfl) ?_
      refine dp_s1 hF (i := .iload 8) rfl (fun _ => rfl) ?_
      refine dp_s3 hF (i := .laload) rfl (fun _ => rfl) ?_
      refine dp_s1 hF (i := .aload_n 0) rfl (fun _ => rfl) ?_
      refine dp_s1 hF (i := .getfield 43) rfl (fun _ => rfl) ?_
      refine dp_s1 hF (i := .iload 8) rfl (fun _ => rfl) ?_
      refine dp_s3 hF (i := .laload) rfl (fun _ => rfl) ?_
      refine dp_s1 hF (i := .lcmp) rfl (fun _ => rfl) ?_
      refine dp_s2 hF (i := .ifCond .ge 20) (a := (98, [some (.ref 75), some (.int v1), some (.long v2), none, some (.long v4), none, some (.int v6), some (.int v7), some (.int y3)], [], M)) (b := (81, [some (.ref 75), some (.int v1), some (.long v2), none, some (.long v4), none, some (.int v6), some (.int v7), some (.int y3)], [], M)) rfl (fun _ => rfl) ?_ ?_
      · refine dp_s1w (v7 + (1 : Int32)) (fun (y4 : Int32) => (101, [some (.ref 75), some (.int v1), some (.long v2), none, some (.long v4), none, some (.int v6), some (.int y4), some (.int y3)], [], M)) hF (i := .iinc 7 1) rfl (fun _ => rfl) (fun y4 => ?_)
        refine dp_s1 hF (i := .goto (-86)) rfl (fun _ => rfl) ?_
        exact rfl
      refine dp_s1 hF (i := .aload_n 0) rfl (fun _ => rfl) ?_
      refine dp_s1 hF (i := .getfield 46) rfl (fun _ => rfl) ?_
      refine dp_s1 hF (i := .iload 8) rfl (fun _ => rfl) ?_
      refine dp_s1 hF (i := .dup2) rfl (fun _ => rfl) ?_
      refine dp_s3 hF (i := .laload) rfl (fun _ => rfl) ?_
      refine dp_s1 hF (i := .lconst 1) rfl (fun _ => rfl) ?_
      refine dp_s1 hF (i := .ladd) rfl (fun _ => rfl) ?_
      refine dp_s3w (dp_setJ M 86 (Int32.toNatClampNeg y3) ((dp_J M 86 (Int32.toNatClampNeg y3)) + (1 : Int64))) (fun (M5 : dp_M) => (92, [some (.ref 75), some (.int v1), some (.long v2), none, some (.long v4), none, some (.int v6), some (.int v7), some (.int y3)], [], M5)) hF (i := .lastore) rfl (fun _ => rfl) (fun M5 => ?_)
      refine dp_s1 hF (i := .lload 4) rfl (fun _ => rfl) ?_
      refine dp_s1 hF (i := .lconst 1) rfl (fun _ => rfl) ?_
      refine dp_s1 hF (i := .lsub) rfl (fun _ => rfl) ?_
      refine dp_s1w (v4 - (1 : Int64)) (fun (y6 : Int64) => (98, [some (.ref 75), some (.int v1), some (.long v2), none, some (.long y6), none, some (.int v6), some (.int v7), some (.int y3)], [], M5)) hF (i := .lstore 4) rfl (fun _ => rfl) (fun y6 => ?_)
      refine dp_s1w (v7 + (1 : Int32)) (fun (y7 : Int32) => (101, [some (.ref 75), some (.int v1), some (.long v2), none, some (.long y6), none, some (.int v6), some (.int y7), some (.int y3)], [], M5)) hF (i := .iinc 7 1) rfl (fun _ => rfl) (fun y7 => ?_)
      refine dp_s1 hF (i := .goto (-86)) rfl (fun _ => rfl) ?_
      exact rfl
    refine dp_s1w (v7 + (1 : Int32)) (fun (y8 : Int32) => (101, [some (.ref 75), some (.int v1), some (.long v2), none, some (.long v4), none, some (.int v6), some (.int y8), some (.int y3)], [], M)) hF (i := .iinc 7 1) rfl (fun _ => rfl) (fun y8 => ?_)
    refine dp_s1 hF (i := .goto (-86)) rfl (fun _ => rfl) ?_
    exact rfl
  refine dp_s1w (v7 + (1 : Int32)) (fun (y9 : Int32) => (101, [some (.ref 75), some (.int v1), some (.long v2), none, some (.long v4), none, some (.int v6), some (.int y9), some (.int y3)], [], M)) hF (i := .iinc 7 1) rfl (fun _ => rfl) (fun y9 => ?_)
  refine dp_s1 hF (i := .goto (-86)) rfl (fun _ => rfl) ?_
  exact rfl
set_option maxRecDepth 20000 in
theorem D_X5_handOut_6_a_eq (xs : Nat → Int32) (xl d : Nat) (v1 : Int32) (v2 : Int64) (v4 : Int64) (v6 : Int32) (v7 : Int32) (M : dp_M) : D_X5_handOut_6_a xs xl d v1 v2 v4 v6 v7 M = if (4 : Int32) ≤ v6 then (some (.inl (some (.long v4)), M)) else (dp_w (0 : Int32) (fun y1 => D_X5_handOut_15 xs xl d v1 v2 v4 v6 y1 M)) := by
  have hF := dp_den_grow (md := true) (xs := xs) (xl := xl) d
  unfold D_X5_handOut_6_a
  refine dp_s1 hF (i := .iload 6) rfl (fun _ => rfl) ?_
  refine dp_s1 hF (i := .iconst 4) rfl (fun _ => rfl) ?_
  refine dp_s2 hF (i := .if_icmp .ge 101) (a := (110, [some (.ref 75), some (.int v1), some (.long v2), none, some (.long v4), none, some (.int v6), some (.int v7), none], [], M)) (b := (12, [some (.ref 75), some (.int v1), some (.long v2), none, some (.long v4), none, some (.int v6), some (.int v7), none], [], M)) rfl (fun _ => rfl) ?_ ?_
  · refine dp_s1 hF (i := .lload 4) rfl (fun _ => rfl) ?_
    exact dp_s0 hF (i := .lreturn) rfl (fun _ => rfl)
  refine dp_s1 hF (i := .iconst 0) rfl (fun _ => rfl) ?_
  refine dp_s1w (0 : Int32) (fun (y1 : Int32) => (15, [some (.ref 75), some (.int v1), some (.long v2), none, some (.long v4), none, some (.int v6), some (.int y1), none], [], M)) hF (i := .istore 7) rfl (fun _ => rfl) (fun y1 => ?_)
  exact rfl
set_option maxRecDepth 20000 in
theorem D_X5_handOut_15_a_eq (xs : Nat → Int32) (xl d : Nat) (v1 : Int32) (v2 : Int64) (v4 : Int64) (v6 : Int32) (v7 : Int32) (v8 : Int32) (M : dp_M) : D_X5_handOut_15_a xs xl d v1 v2 v4 v6 v7 v8 M = if (dp_I M 75 16) ≤ v7 then (dp_w (v6 + (1 : Int32)) (fun y1 => D_X5_handOut_6_b xs xl d v1 v2 v4 y1 v7 v8 M)) else (if (lg_cmp v4 (0 : Int64)) ≤ 0 then (dp_w (v6 + (1 : Int32)) (fun y2 => D_X5_handOut_6_b xs xl d v1 v2 v4 y2 v7 v8 M)) else (if v7 < 0 ∨ 400 ≤ Int32.toNatClampNeg v7 then none else (dp_w (dp_I M 89 (Int32.toNatClampNeg v7)) (fun y3 => if y3 < 0 ∨ 400 ≤ Int32.toNatClampNeg y3 then none else (if (dp_I M 87 (Int32.toNatClampNeg y3)) = v1 then (if y3 < 0 ∨ 400 ≤ Int32.toNatClampNeg y3 then none else (if (dp_I M 83 (Int32.toNatClampNeg y3)) = v6 then (if y3 < 0 ∨ 400 ≤ Int32.toNatClampNeg y3 then none else (if y3 < 0 ∨ 400 ≤ Int32.toNatClampNeg y3 then none else (if 0 ≤ (lg_cmp (dp_J M 86 (Int32.toNatClampNeg y3)) (dp_J M 85 (Int32.toNatClampNeg y3))) then (dp_w (v7 + (1 : Int32)) (fun y4 => D_X5_handOut_15_a xs xl d v1 v2 v4 v6 y4 y3 M)) else (if y3 < 0 ∨ 400 ≤ Int32.toNatClampNeg y3 then none else (if y3 < 0 ∨ 400 ≤ Int32.toNatClampNeg y3 then none else dp_w (dp_setJ M 86 (Int32.toNatClampNeg y3) ((dp_J M 86 (Int32.toNatClampNeg y3)) + (1 : Int64))) (fun M5 => dp_w (v4 - (1 : Int64)) (fun y6 => dp_w (v7 + (1 : Int32)) (fun y7 => D_X5_handOut_15_a xs xl d v1 v2 y6 v6 y7 y3 M5)))))))) else (dp_w (v7 + (1 : Int32)) (fun y8 => D_X5_handOut_15_a xs xl d v1 v2 v4 v6 y8 y3 M)))) else (dp_w (v7 + (1 : Int32)) (fun y9 => D_X5_handOut_15_a xs xl d v1 v2 v4 v6 y9 y3 M))))))) := by
  have hF := dp_den_grow (md := true) (xs := xs) (xl := xl) d
  unfold D_X5_handOut_15_a
  refine dp_s1 hF (i := .iload 7) rfl (fun _ => rfl) ?_
  refine dp_s1 hF (i := .aload_n 0) rfl (fun _ => rfl) ?_
  refine dp_s1 hF (i := .getfield 75) rfl (fun _ => rfl) ?_
  refine dp_s2 hF (i := .if_icmp .ge 83) (a := (104, [some (.ref 75), some (.int v1), some (.long v2), none, some (.long v4), none, some (.int v6), some (.int v7), some (.int v8)], [], M)) (b := (24, [some (.ref 75), some (.int v1), some (.long v2), none, some (.long v4), none, some (.int v6), some (.int v7), some (.int v8)], [], M)) rfl (fun _ => rfl) ?_ ?_
  · refine dp_s1w (v6 + (1 : Int32)) (fun (y1 : Int32) => (107, [some (.ref 75), some (.int v1), some (.long v2), none, some (.long v4), none, some (.int y1), some (.int v7), some (.int v8)], [], M)) hF (i := .iinc 6 1) rfl (fun _ => rfl) (fun y1 => ?_)
    refine dp_s1 hF (i := .goto (-101)) rfl (fun _ => rfl) ?_
    exact rfl
  refine dp_s1 hF (i := .lload 4) rfl (fun _ => rfl) ?_
  refine dp_s1 hF (i := .lconst 0) rfl (fun _ => rfl) ?_
  refine dp_s1 hF (i := .lcmp) rfl (fun _ => rfl) ?_
  refine dp_s2 hF (i := .ifCond .le 76) (a := (104, [some (.ref 75), some (.int v1), some (.long v2), none, some (.long v4), none, some (.int v6), some (.int v7), some (.int v8)], [], M)) (b := (31, [some (.ref 75), some (.int v1), some (.long v2), none, some (.long v4), none, some (.int v6), some (.int v7), some (.int v8)], [], M)) rfl (fun _ => rfl) ?_ ?_
  · refine dp_s1w (v6 + (1 : Int32)) (fun (y2 : Int32) => (107, [some (.ref 75), some (.int v1), some (.long v2), none, some (.long v4), none, some (.int y2), some (.int v7), some (.int v8)], [], M)) hF (i := .iinc 6 1) rfl (fun _ => rfl) (fun y2 => ?_)
    refine dp_s1 hF (i := .goto (-101)) rfl (fun _ => rfl) ?_
    exact rfl
  refine dp_s1 hF (i := .aload_n 0) rfl (fun _ => rfl) ?_
  refine dp_s1 hF (i := .getfield 55) rfl (fun _ => rfl) ?_
  refine dp_s1 hF (i := .iload 7) rfl (fun _ => rfl) ?_
  refine dp_s3 hF (i := .iaload) rfl (fun _ => rfl) ?_
  refine dp_s1w (dp_I M 89 (Int32.toNatClampNeg v7)) (fun (y3 : Int32) => (40, [some (.ref 75), some (.int v1), some (.long v2), none, some (.long v4), none, some (.int v6), some (.int v7), some (.int y3)], [], M)) hF (i := .istore 8) rfl (fun _ => rfl) (fun y3 => ?_)
  refine dp_s1 hF (i := .aload_n 0) rfl (fun _ => rfl) ?_
  refine dp_s1 hF (i := .getfield 49) rfl (fun _ => rfl) ?_
  refine dp_s1 hF (i := .iload 8) rfl (fun _ => rfl) ?_
  refine dp_s3 hF (i := .iaload) rfl (fun _ => rfl) ?_
  refine dp_s1 hF (i := .iload_n 1) rfl (fun _ => rfl) ?_
  refine dp_s2 hF (i := .if_icmp .ne 50) (a := (51, [some (.ref 75), some (.int v1), some (.long v2), none, some (.long v4), none, some (.int v6), some (.int v7), some (.int y3)], [], M)) (b := (98, [some (.ref 75), some (.int v1), some (.long v2), none, some (.long v4), none, some (.int v6), some (.int v7), some (.int y3)], [], M)) rfl (fun _ => rfl) ?_ ?_
  · refine dp_s1 hF (i := .aload_n 0) rfl (fun _ => rfl) ?_
    refine dp_s1 hF (i := .getfield 37) rfl (fun _ => rfl) ?_
    refine dp_s1 hF (i := .iload 8) rfl (fun _ => rfl) ?_
    refine dp_s3 hF (i := .iaload) rfl (fun _ => rfl) ?_
    refine dp_s1 hF (i := .iload 6) rfl (fun _ => rfl) ?_
    refine dp_s2 hF (i := .if_icmp .ne 38) (a := (63, [some (.ref 75), some (.int v1), some (.long v2), none, some (.long v4), none, some (.int v6), some (.int v7), some (.int y3)], [], M)) (b := (98, [some (.ref 75), some (.int v1), some (.long v2), none, some (.long v4), none, some (.int v6), some (.int v7), some (.int y3)], [], M)) rfl (fun _ => rfl) ?_ ?_
    · refine dp_s1 hF (i := .aload_n 0) rfl (fun _ => rfl) ?_
      refine dp_s1 hF (i := .getfield 46) rfl (fun _ => rfl) ?_
      refine dp_s1 hF (i := .iload 8) rfl (fun _ => rfl) ?_
      refine dp_s3 hF (i := .laload) rfl (fun _ => rfl) ?_
      refine dp_s1 hF (i := .aload_n 0) rfl (fun _ => rfl) ?_
      refine dp_s1 hF (i := .getfield 43) rfl (fun _ => rfl) ?_
      refine dp_s1 hF (i := .iload 8) rfl (fun _ => rfl) ?_
      refine dp_s3 hF (i := .laload) rfl (fun _ => rfl) ?_
      refine dp_s1 hF (i := .lcmp) rfl (fun _ => rfl) ?_
      refine dp_s2 hF (i := .ifCond .ge 20) (a := (98, [some (.ref 75), some (.int v1), some (.long v2), none, some (.long v4), none, some (.int v6), some (.int v7), some (.int y3)], [], M)) (b := (81, [some (.ref 75), some (.int v1), some (.long v2), none, some (.long v4), none, some (.int v6), some (.int v7), some (.int y3)], [], M)) rfl (fun _ => rfl) ?_ ?_
      · refine dp_s1w (v7 + (1 : Int32)) (fun (y4 : Int32) => (101, [some (.ref 75), some (.int v1), some (.long v2), none, some (.long v4), none, some (.int v6), some (.int y4), some (.int y3)], [], M)) hF (i := .iinc 7 1) rfl (fun _ => rfl) (fun y4 => ?_)
        refine dp_s1 hF (i := .goto (-86)) rfl (fun _ => rfl) ?_
        exact rfl
      refine dp_s1 hF (i := .aload_n 0) rfl (fun _ => rfl) ?_
      refine dp_s1 hF (i := .getfield 46) rfl (fun _ => rfl) ?_
      refine dp_s1 hF (i := .iload 8) rfl (fun _ => rfl) ?_
      refine dp_s1 hF (i := .dup2) rfl (fun _ => rfl) ?_
      refine dp_s3 hF (i := .laload) rfl (fun _ => rfl) ?_
      refine dp_s1 hF (i := .lconst 1) rfl (fun _ => rfl) ?_
      refine dp_s1 hF (i := .ladd) rfl (fun _ => rfl) ?_
      refine dp_s3w (dp_setJ M 86 (Int32.toNatClampNeg y3) ((dp_J M 86 (Int32.toNatClampNeg y3)) + (1 : Int64))) (fun (M5 : dp_M) => (92, [some (.ref 75), some (.int v1), some (.long v2), none, some (.long v4), none, some (.int v6), some (.int v7), some (.int y3)], [], M5)) hF (i := .lastore) rfl (fun _ => rfl) (fun M5 => ?_)
      refine dp_s1 hF (i := .lload 4) rfl (fun _ => rfl) ?_
      refine dp_s1 hF (i := .lconst 1) rfl (fun _ => rfl) ?_
      refine dp_s1 hF (i := .lsub) rfl (fun _ => rfl) ?_
      refine dp_s1w (v4 - (1 : Int64)) (fun (y6 : Int64) => (98, [some (.ref 75), some (.int v1), some (.long v2), none, some (.long y6), none, some (.int v6), some (.int v7), some (.int y3)], [], M5)) hF (i := .lstore 4) rfl (fun _ => rfl) (fun y6 => ?_)
      refine dp_s1w (v7 + (1 : Int32)) (fun (y7 : Int32) => (101, [some (.ref 75), some (.int v1), some (.long v2), none, some (.long y6), none, some (.int v6), some (.int y7), some (.int y3)], [], M5)) hF (i := .iinc 7 1) rfl (fun _ => rfl) (fun y7 => ?_)
      refine dp_s1 hF (i := .goto (-86)) rfl (fun _ => rfl) ?_
      exact rfl
    refine dp_s1w (v7 + (1 : Int32)) (fun (y8 : Int32) => (101, [some (.ref 75), some (.int v1), some (.long v2), none, some (.long v4), none, some (.int v6), some (.int y8), some (.int y3)], [], M)) hF (i := .iinc 7 1) rfl (fun _ => rfl) (fun y8 => ?_)
    refine dp_s1 hF (i := .goto (-86)) rfl (fun _ => rfl) ?_
    exact rfl
  refine dp_s1w (v7 + (1 : Int32)) (fun (y9 : Int32) => (101, [some (.ref 75), some (.int v1), some (.long v2), none, some (.long v4), none, some (.int v6), some (.int y9), some (.int y3)], [], M)) hF (i := .iinc 7 1) rfl (fun _ => rfl) (fun y9 => ?_)
  refine dp_s1 hF (i := .goto (-86)) rfl (fun _ => rfl) ?_
  exact rfl
set_option maxRecDepth 20000 in
theorem D_X5_handOut_6_b_eq (xs : Nat → Int32) (xl d : Nat) (v1 : Int32) (v2 : Int64) (v4 : Int64) (v6 : Int32) (v7 : Int32) (v8 : Int32) (M : dp_M) : D_X5_handOut_6_b xs xl d v1 v2 v4 v6 v7 v8 M = if (4 : Int32) ≤ v6 then (some (.inl (some (.long v4)), M)) else (dp_w (0 : Int32) (fun y1 => D_X5_handOut_15_a xs xl d v1 v2 v4 v6 y1 v8 M)) := by
  have hF := dp_den_grow (md := true) (xs := xs) (xl := xl) d
  unfold D_X5_handOut_6_b
  refine dp_s1 hF (i := .iload 6) rfl (fun _ => rfl) ?_
  refine dp_s1 hF (i := .iconst 4) rfl (fun _ => rfl) ?_
  refine dp_s2 hF (i := .if_icmp .ge 101) (a := (110, [some (.ref 75), some (.int v1), some (.long v2), none, some (.long v4), none, some (.int v6), some (.int v7), some (.int v8)], [], M)) (b := (12, [some (.ref 75), some (.int v1), some (.long v2), none, some (.long v4), none, some (.int v6), some (.int v7), some (.int v8)], [], M)) rfl (fun _ => rfl) ?_ ?_
  · refine dp_s1 hF (i := .lload 4) rfl (fun _ => rfl) ?_
    exact dp_s0 hF (i := .lreturn) rfl (fun _ => rfl)
  refine dp_s1 hF (i := .iconst 0) rfl (fun _ => rfl) ?_
  refine dp_s1w (0 : Int32) (fun (y1 : Int32) => (15, [some (.ref 75), some (.int v1), some (.long v2), none, some (.long v4), none, some (.int v6), some (.int y1), some (.int v8)], [], M)) hF (i := .istore 7) rfl (fun _ => rfl) (fun y1 => ?_)
  exact rfl
