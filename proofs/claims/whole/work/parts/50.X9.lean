noncomputable def D_X9_addMember_0 (xs : Nat → Int32) (xl d : Nat) (v1 : Int32) (v2 : Int32) (M : dp_M) : Option dp_Res := dp_lim true xs xl (dp_den true xs xl d) dp_m_X9_addMember (0, [some (.ref 51), some (.int v1), some (.int v2), none], [], M)
noncomputable def D_X9_addMember_19 (xs : Nat → Int32) (xl d : Nat) (v1 : Int32) (v2 : Int32) (vs0 : Int32) (M : dp_M) : Option dp_Res := dp_lim true xs xl (dp_den true xs xl d) dp_m_X9_addMember (19, [some (.ref 51), some (.int v1), some (.int v2), none], [.int vs0], M)
theorem D_X9_addMember_0_den (xs : Nat → Int32) (xl d : Nat) (a0 : Int32) (a1 : Int32) (M : dp_M) : dp_den true xs xl (d + 1) 209 [.ref 51, .int a0, .int a1] M = D_X9_addMember_0 xs xl d a0 a1 M := rfl
set_option maxRecDepth 20000 in
theorem D_X9_addMember_0_eq (xs : Nat → Int32) (xl d : Nat) (v1 : Int32) (v2 : Int32) (M : dp_M) : D_X9_addMember_0 xs xl d v1 v2 M = if v1 < 0 ∨ 24 ≤ Int32.toNatClampNeg v1 then none else (if (((dp_I M 65 (Int32.toNatClampNeg v1)) >>> (v2 &&& 31)) &&& (1 : Int32)) = (1 : Int32) then (D_X9_addMember_19 xs xl d v1 v2 (1 : Int32) M) else (D_X9_addMember_19 xs xl d v1 v2 (0 : Int32) M)) := by
  have hF := dp_den_grow (md := true) (xs := xs) (xl := xl) d
  unfold D_X9_addMember_0
  refine dp_s1 hF (i := .aload_n 0) rfl (fun _ => rfl) ?_
  refine dp_s1 hF (i := .getfield 54) rfl (fun _ => rfl) ?_
  refine dp_s1 hF (i := .iload_n 1) rfl (fun _ => rfl) ?_
  refine dp_s3 hF (i := .iaload) rfl (fun _ => rfl) ?_
  refine dp_s1 hF (i := .iload_n 2) rfl (fun _ => rfl) ?_
  refine dp_s1 hF (i := .ishr) rfl (fun _ => rfl) ?_
  refine dp_s1 hF (i := .iconst 1) rfl (fun _ => rfl) ?_
  refine dp_s1 hF (i := .iand) rfl (fun _ => rfl) ?_
  refine dp_s1 hF (i := .iconst 1) rfl (fun _ => rfl) ?_
  refine dp_s2 hF (i := .if_icmp .ne 7) (a := (14, [some (.ref 51), some (.int v1), some (.int v2), none], [], M)) (b := (18, [some (.ref 51), some (.int v1), some (.int v2), none], [], M)) rfl (fun _ => rfl) ?_ ?_
  · refine dp_s1 hF (i := .iconst 1) rfl (fun _ => rfl) ?_
    refine dp_s1 hF (i := .goto 4) rfl (fun _ => rfl) ?_
    exact rfl
  refine dp_s1 hF (i := .iconst 0) rfl (fun _ => rfl) ?_
  exact rfl
set_option maxRecDepth 20000 in
theorem D_X9_addMember_19_eq (xs : Nat → Int32) (xl d : Nat) (v1 : Int32) (v2 : Int32) (vs0 : Int32) (M : dp_M) : D_X9_addMember_19 xs xl d v1 v2 vs0 M = if vs0 = 0 then (dp_bi (dp_den true xs xl d 210 [.ref 51, .int v2] M) (fun r2 M1 => if ((r2 >>> (v1 &&& 31)) &&& (1 : Int32)) = (1 : Int32) then (some (.inl (some (.int (0 : Int32))), M1)) else (if v1 < 0 ∨ 24 ≤ Int32.toNatClampNeg v1 then none else (if v1 < 0 ∨ 24 ≤ Int32.toNatClampNeg v1 then none else dp_w (dp_setI M1 65 (Int32.toNatClampNeg v1) ((dp_I M1 65 (Int32.toNatClampNeg v1)) ||| ((1 : Int32) <<< (v2 &&& 31)))) (fun M3 => some (.inl (some (.int (1 : Int32))), M3)))))) else (some (.inl (some (.int (0 : Int32))), M)) := by
  have hF := dp_den_grow (md := true) (xs := xs) (xl := xl) d
  unfold D_X9_addMember_19
  refine dp_s1 hF (i := .istore_n 3) rfl (fun _ => rfl) ?_
  refine dp_s1 hF (i := .iload_n 3) rfl (fun _ => rfl) ?_
  refine dp_s2 hF (i := .ifCond .ne 16) (a := (24, [some (.ref 51), some (.int v1), some (.int v2), some (.int vs0)], [], M)) (b := (37, [some (.ref 51), some (.int v1), some (.int v2), some (.int vs0)], [], M)) rfl (fun _ => rfl) ?_ ?_
  · refine dp_s1 hF (i := .aload_n 0) rfl (fun _ => rfl) ?_
    refine dp_s1 hF (i := .iload_n 2) rfl (fun _ => rfl) ?_
    refine dp_si (mj := dp_m_X9_reachOf) (i := .invokevirtual 64) rfl rfl (Or.inl rfl) rfl (fun _ => rfl) (fun r2 M1 => ?_)
    refine dp_s1 hF (i := .iload_n 1) rfl (fun _ => rfl) ?_
    refine dp_s1 hF (i := .ishr) rfl (fun _ => rfl) ?_
    refine dp_s1 hF (i := .iconst 1) rfl (fun _ => rfl) ?_
    refine dp_s1 hF (i := .iand) rfl (fun _ => rfl) ?_
    refine dp_s1 hF (i := .iconst 1) rfl (fun _ => rfl) ?_
    refine dp_s2 hF (i := .if_icmp .ne 5) (a := (37, [some (.ref 51), some (.int v1), some (.int v2), some (.int vs0)], [], M1)) (b := (39, [some (.ref 51), some (.int v1), some (.int v2), some (.int vs0)], [], M1)) rfl (fun _ => rfl) ?_ ?_
    · refine dp_s1 hF (i := .iconst 0) rfl (fun _ => rfl) ?_
      exact dp_s0 hF (i := .ireturn) rfl (fun _ => rfl)
    refine dp_s1 hF (i := .aload_n 0) rfl (fun _ => rfl) ?_
    refine dp_s1 hF (i := .getfield 54) rfl (fun _ => rfl) ?_
    refine dp_s1 hF (i := .iload_n 1) rfl (fun _ => rfl) ?_
    refine dp_s1 hF (i := .dup2) rfl (fun _ => rfl) ?_
    refine dp_s3 hF (i := .iaload) rfl (fun _ => rfl) ?_
    refine dp_s1 hF (i := .iconst 1) rfl (fun _ => rfl) ?_
    refine dp_s1 hF (i := .iload_n 2) rfl (fun _ => rfl) ?_
    refine dp_s1 hF (i := .ishl) rfl (fun _ => rfl) ?_
    refine dp_s1 hF (i := .ior) rfl (fun _ => rfl) ?_
    refine dp_s3w (dp_setI M1 65 (Int32.toNatClampNeg v1) ((dp_I M1 65 (Int32.toNatClampNeg v1)) ||| ((1 : Int32) <<< (v2 &&& 31)))) (fun (M3 : dp_M) => (51, [some (.ref 51), some (.int v1), some (.int v2), some (.int vs0)], [], M3)) hF (i := .iastore) rfl (fun _ => rfl) (fun M3 => ?_)
    refine dp_s1 hF (i := .iconst 1) rfl (fun _ => rfl) ?_
    exact dp_s0 hF (i := .ireturn) rfl (fun _ => rfl)
  refine dp_s1 hF (i := .iconst 0) rfl (fun _ => rfl) ?_
  exact dp_s0 hF (i := .ireturn) rfl (fun _ => rfl)
noncomputable def D_X9_reachOf_0 (xs : Nat → Int32) (xl d : Nat) (v1 : Int32) (M : dp_M) : Option dp_Res := dp_lim true xs xl (dp_den true xs xl d) dp_m_X9_reachOf (0, [some (.ref 51), some (.int v1), none, none, none], [], M)
noncomputable def D_X9_reachOf_7 (xs : Nat → Int32) (xl d : Nat) (v1 : Int32) (v2 : Int32) (v3 : Int32) (M : dp_M) : Option dp_Res := dp_lim true xs xl (dp_den true xs xl d) dp_m_X9_reachOf (7, [some (.ref 51), some (.int v1), some (.int v2), some (.int v3), none], [], M)
noncomputable def D_X9_reachOf_17 (xs : Nat → Int32) (xl d : Nat) (v1 : Int32) (v2 : Int32) (v3 : Int32) (v4 : Int32) (M : dp_M) : Option dp_Res := dp_lim true xs xl (dp_den true xs xl d) dp_m_X9_reachOf (17, [some (.ref 51), some (.int v1), some (.int v2), some (.int v3), some (.int v4)], [], M)
noncomputable def D_X9_reachOf_7_a (xs : Nat → Int32) (xl d : Nat) (v1 : Int32) (v2 : Int32) (v3 : Int32) (v4 : Int32) (M : dp_M) : Option dp_Res := dp_lim true xs xl (dp_den true xs xl d) dp_m_X9_reachOf (7, [some (.ref 51), some (.int v1), some (.int v2), some (.int v3), some (.int v4)], [], M)
theorem D_X9_reachOf_0_den (xs : Nat → Int32) (xl d : Nat) (a0 : Int32) (M : dp_M) : dp_den true xs xl (d + 1) 210 [.ref 51, .int a0] M = D_X9_reachOf_0 xs xl d a0 M := rfl
set_option maxRecDepth 20000 in
theorem D_X9_reachOf_0_eq (xs : Nat → Int32) (xl d : Nat) (v1 : Int32) (M : dp_M) : D_X9_reachOf_0 xs xl d v1 M = dp_w ((1 : Int32) <<< (v1 &&& 31)) (fun y1 => dp_w (16 : Int32) (fun y2 => D_X9_reachOf_7 xs xl d v1 y1 y2 M)) := by
  have hF := dp_den_grow (md := true) (xs := xs) (xl := xl) d
  unfold D_X9_reachOf_0
  refine dp_s1 hF (i := .iconst 1) rfl (fun _ => rfl) ?_
  refine dp_s1 hF (i := .iload_n 1) rfl (fun _ => rfl) ?_
  refine dp_s1 hF (i := .ishl) rfl (fun _ => rfl) ?_
  refine dp_s1w ((1 : Int32) <<< (v1 &&& 31)) (fun (y1 : Int32) => (4, [some (.ref 51), some (.int v1), some (.int y1), none, none], [], M)) hF (i := .istore_n 2) rfl (fun _ => rfl) (fun y1 => ?_)
  refine dp_s1 hF (i := .bipush 16) rfl (fun _ => rfl) ?_
  refine dp_s1w (16 : Int32) (fun (y2 : Int32) => (7, [some (.ref 51), some (.int v1), some (.int y1), some (.int y2), none], [], M)) hF (i := .istore_n 3) rfl (fun _ => rfl) (fun y2 => ?_)
  exact rfl
set_option maxRecDepth 20000 in
theorem D_X9_reachOf_7_eq (xs : Nat → Int32) (xl d : Nat) (v1 : Int32) (v2 : Int32) (v3 : Int32) (M : dp_M) : D_X9_reachOf_7 xs xl d v1 v2 v3 M = if (24 : Int32) ≤ v3 then (some (.inl (some (.int v2)), M)) else (dp_w (16 : Int32) (fun y1 => D_X9_reachOf_17 xs xl d v1 v2 v3 y1 M)) := by
  have hF := dp_den_grow (md := true) (xs := xs) (xl := xl) d
  unfold D_X9_reachOf_7
  refine dp_s1 hF (i := .iload_n 3) rfl (fun _ => rfl) ?_
  refine dp_s1 hF (i := .bipush 24) rfl (fun _ => rfl) ?_
  refine dp_s2 hF (i := .if_icmp .ge 46) (a := (56, [some (.ref 51), some (.int v1), some (.int v2), some (.int v3), none], [], M)) (b := (13, [some (.ref 51), some (.int v1), some (.int v2), some (.int v3), none], [], M)) rfl (fun _ => rfl) ?_ ?_
  · refine dp_s1 hF (i := .iload_n 2) rfl (fun _ => rfl) ?_
    exact dp_s0 hF (i := .ireturn) rfl (fun _ => rfl)
  refine dp_s1 hF (i := .bipush 16) rfl (fun _ => rfl) ?_
  refine dp_s1w (16 : Int32) (fun (y1 : Int32) => (17, [some (.ref 51), some (.int v1), some (.int v2), some (.int v3), some (.int y1)], [], M)) hF (i := .istore 4) rfl (fun _ => rfl) (fun y1 => ?_)
  exact rfl
set_option maxRecDepth 20000 in
theorem D_X9_reachOf_17_eq (xs : Nat → Int32) (xl d : Nat) (v1 : Int32) (v2 : Int32) (v3 : Int32) (v4 : Int32) (M : dp_M) : D_X9_reachOf_17 xs xl d v1 v2 v3 v4 M = if (24 : Int32) ≤ v4 then (dp_w (v3 + (1 : Int32)) (fun y1 => D_X9_reachOf_7_a xs xl d v1 v2 y1 v4 M)) else (if ((v2 >>> (v4 &&& 31)) &&& (1 : Int32)) = (1 : Int32) then (if v4 < 0 ∨ 24 ≤ Int32.toNatClampNeg v4 then none else (dp_w (v2 ||| (dp_I M 65 (Int32.toNatClampNeg v4))) (fun y2 => dp_w (v4 + (1 : Int32)) (fun y3 => D_X9_reachOf_17 xs xl d v1 y2 v3 y3 M)))) else (dp_w (v4 + (1 : Int32)) (fun y4 => D_X9_reachOf_17 xs xl d v1 v2 v3 y4 M))) := by
  have hF := dp_den_grow (md := true) (xs := xs) (xl := xl) d
  unfold D_X9_reachOf_17
  refine dp_s1 hF (i := .iload 4) rfl (fun _ => rfl) ?_
  refine dp_s1 hF (i := .bipush 24) rfl (fun _ => rfl) ?_
  refine dp_s2 hF (i := .if_icmp .ge 29) (a := (50, [some (.ref 51), some (.int v1), some (.int v2), some (.int v3), some (.int v4)], [], M)) (b := (24, [some (.ref 51), some (.int v1), some (.int v2), some (.int v3), some (.int v4)], [], M)) rfl (fun _ => rfl) ?_ ?_
  · refine dp_s1w (v3 + (1 : Int32)) (fun (y1 : Int32) => (53, [some (.ref 51), some (.int v1), some (.int v2), some (.int y1), some (.int v4)], [], M)) hF (i := .iinc 3 1) rfl (fun _ => rfl) (fun y1 => ?_)
    refine dp_s1 hF (i := .goto (-46)) rfl (fun _ => rfl) ?_
    exact rfl
  refine dp_s1 hF (i := .iload_n 2) rfl (fun _ => rfl) ?_
  refine dp_s1 hF (i := .iload 4) rfl (fun _ => rfl) ?_
  refine dp_s1 hF (i := .ishr) rfl (fun _ => rfl) ?_
  refine dp_s1 hF (i := .iconst 1) rfl (fun _ => rfl) ?_
  refine dp_s1 hF (i := .iand) rfl (fun _ => rfl) ?_
  refine dp_s1 hF (i := .iconst 1) rfl (fun _ => rfl) ?_
  refine dp_s2 hF (i := .if_icmp .ne 13) (a := (34, [some (.ref 51), some (.int v1), some (.int v2), some (.int v3), some (.int v4)], [], M)) (b := (44, [some (.ref 51), some (.int v1), some (.int v2), some (.int v3), some (.int v4)], [], M)) rfl (fun _ => rfl) ?_ ?_
  · refine dp_s1 hF (i := .iload_n 2) rfl (fun _ => rfl) ?_
    refine dp_s1 hF (i := .aload_n 0) rfl (fun _ => rfl) ?_
    refine dp_s1 hF (i := .getfield 54) rfl (fun _ => rfl) ?_
    refine dp_s1 hF (i := .iload 4) rfl (fun _ => rfl) ?_
    refine dp_s3 hF (i := .iaload) rfl (fun _ => rfl) ?_
    refine dp_s1 hF (i := .ior) rfl (fun _ => rfl) ?_
    refine dp_s1w (v2 ||| (dp_I M 65 (Int32.toNatClampNeg v4))) (fun (y2 : Int32) => (44, [some (.ref 51), some (.int v1), some (.int y2), some (.int v3), some (.int v4)], [], M)) hF (i := .istore_n 2) rfl (fun _ => rfl) (fun y2 => ?_)
    refine dp_s1w (v4 + (1 : Int32)) (fun (y3 : Int32) => (47, [some (.ref 51), some (.int v1), some (.int y2), some (.int v3), some (.int y3)], [], M)) hF (i := .iinc 4 1) rfl (fun _ => rfl) (fun y3 => ?_)
    refine dp_s1 hF (i := .goto (-30)) rfl (fun _ => rfl) ?_
    exact rfl
  refine dp_s1w (v4 + (1 : Int32)) (fun (y4 : Int32) => (47, [some (.ref 51), some (.int v1), some (.int v2), some (.int v3), some (.int y4)], [], M)) hF (i := .iinc 4 1) rfl (fun _ => rfl) (fun y4 => ?_)
  refine dp_s1 hF (i := .goto (-30)) rfl (fun _ => rfl) ?_
  exact rfl
set_option maxRecDepth 20000 in
theorem D_X9_reachOf_7_a_eq (xs : Nat → Int32) (xl d : Nat) (v1 : Int32) (v2 : Int32) (v3 : Int32) (v4 : Int32) (M : dp_M) : D_X9_reachOf_7_a xs xl d v1 v2 v3 v4 M = if (24 : Int32) ≤ v3 then (some (.inl (some (.int v2)), M)) else (dp_w (16 : Int32) (fun y1 => D_X9_reachOf_17 xs xl d v1 v2 v3 y1 M)) := by
  have hF := dp_den_grow (md := true) (xs := xs) (xl := xl) d
  unfold D_X9_reachOf_7_a
  refine dp_s1 hF (i := .iload_n 3) rfl (fun _ => rfl) ?_
  refine dp_s1 hF (i := .bipush 24) rfl (fun _ => rfl) ?_
  refine dp_s2 hF (i := .if_icmp .ge 46) (a := (56, [some (.ref 51), some (.int v1), some (.int v2), some (.int v3), some (.int v4)], [], M)) (b := (13, [some (.ref 51), some (.int v1), some (.int v2), some (.int v3), some (.int v4)], [], M)) rfl (fun _ => rfl) ?_ ?_
  · refine dp_s1 hF (i := .iload_n 2) rfl (fun _ => rfl) ?_
    exact dp_s0 hF (i := .ireturn) rfl (fun _ => rfl)
  refine dp_s1 hF (i := .bipush 16) rfl (fun _ => rfl) ?_
  refine dp_s1w (16 : Int32) (fun (y1 : Int32) => (17, [some (.ref 51), some (.int v1), some (.int v2), some (.int v3), some (.int y1)], [], M)) hF (i := .istore 4) rfl (fun _ => rfl) (fun y1 => ?_)
  exact rfl
noncomputable def D_X9_landsIn_0 (xs : Nat → Int32) (xl d : Nat) (v1 : Int32) (M : dp_M) : Option dp_Res := dp_lim true xs xl (dp_den true xs xl d) dp_m_X9_landsIn (0, [some (.ref 51), some (.int v1)], [], M)
theorem D_X9_landsIn_0_den (xs : Nat → Int32) (xl d : Nat) (a0 : Int32) (M : dp_M) : dp_den true xs xl (d + 1) 211 [.ref 51, .int a0] M = D_X9_landsIn_0 xs xl d a0 M := rfl
set_option maxRecDepth 20000 in
theorem D_X9_landsIn_0_eq (xs : Nat → Int32) (xl d : Nat) (v1 : Int32) (M : dp_M) : D_X9_landsIn_0 xs xl d v1 M = dp_bi (dp_den true xs xl d 210 [.ref 51, .int v1] M) (fun r2 M1 => some (.inl (some (.int (r2 &&& (65535 : Int32)))), M1)) := by
  have hF := dp_den_grow (md := true) (xs := xs) (xl := xl) d
  unfold D_X9_landsIn_0
  refine dp_s1 hF (i := .aload_n 0) rfl (fun _ => rfl) ?_
  refine dp_s1 hF (i := .iload_n 1) rfl (fun _ => rfl) ?_
  refine dp_si (mj := dp_m_X9_reachOf) (i := .invokevirtual 64) rfl rfl (Or.inl rfl) rfl (fun _ => rfl) (fun r2 M1 => ?_)
  refine dp_s1 hF (i := .ldc 68) rfl (fun _ => rfl) ?_
  refine dp_s1 hF (i := .iand) rfl (fun _ => rfl) ?_
  exact dp_s0 hF (i := .ireturn) rfl (fun _ => rfl)
noncomputable def D_X9_isIn_0 (xs : Nat → Int32) (xl d : Nat) (v1 : Int32) (v2 : Int32) (M : dp_M) : Option dp_Res := dp_lim true xs xl (dp_den true xs xl d) dp_m_X9_isIn (0, [some (.ref 51), some (.int v1), some (.int v2)], [], M)
theorem D_X9_isIn_0_den (xs : Nat → Int32) (xl d : Nat) (a0 : Int32) (a1 : Int32) (M : dp_M) : dp_den true xs xl (d + 1) 212 [.ref 51, .int a0, .int a1] M = D_X9_isIn_0 xs xl d a0 a1 M := rfl
set_option maxRecDepth 20000 in
theorem D_X9_isIn_0_eq (xs : Nat → Int32) (xl d : Nat) (v1 : Int32) (v2 : Int32) (M : dp_M) : D_X9_isIn_0 xs xl d v1 v2 M = if v2 < 0 ∨ 301 ≤ Int32.toNatClampNeg v2 then none else (if (((dp_I M 55 (Int32.toNatClampNeg v2)) >>> (v1 &&& 31)) &&& (1 : Int32)) = (1 : Int32) then (some (.inl (some (.int (0 : Int32))), M)) else (if v2 < 0 ∨ 301 ≤ Int32.toNatClampNeg v2 then none else (if (dp_I M 61 (Int32.toNatClampNeg v2)) = (31 : Int32) then (some (.inl (some (.int (1 : Int32))), M)) else (if v2 < 0 ∨ 301 ≤ Int32.toNatClampNeg v2 then none else (dp_bi (dp_den true xs xl d 210 [.ref 51, .int (dp_I M 61 (Int32.toNatClampNeg v2))] M) (fun r2 M1 => if ((r2 >>> (v1 &&& 31)) &&& (1 : Int32)) = (1 : Int32) then (some (.inl (some (.int (1 : Int32))), M1)) else (some (.inl (some (.int (0 : Int32))), M1)))))))) := by
  have hF := dp_den_grow (md := true) (xs := xs) (xl := xl) d
  unfold D_X9_isIn_0
  refine dp_s1 hF (i := .aload_n 0) rfl (fun _ => rfl) ?_
  refine dp_s1 hF (i := .getfield 21) rfl (fun _ => rfl) ?_
  refine dp_s1 hF (i := .iload_n 2) rfl (fun _ => rfl) ?_
  refine dp_s3 hF (i := .iaload) rfl (fun _ => rfl) ?_
  refine dp_s1 hF (i := .iload_n 1) rfl (fun _ => rfl) ?_
  refine dp_s1 hF (i := .ishr) rfl (fun _ => rfl) ?_
  refine dp_s1 hF (i := .iconst 1) rfl (fun _ => rfl) ?_
  refine dp_s1 hF (i := .iand) rfl (fun _ => rfl) ?_
  refine dp_s1 hF (i := .iconst 1) rfl (fun _ => rfl) ?_
  refine dp_s2 hF (i := .if_icmp .ne 5) (a := (14, [some (.ref 51), some (.int v1), some (.int v2)], [], M)) (b := (16, [some (.ref 51), some (.int v1), some (.int v2)], [], M)) rfl (fun _ => rfl) ?_ ?_
  · refine dp_s1 hF (i := .iconst 0) rfl (fun _ => rfl) ?_
    exact dp_s0 hF (i := .ireturn) rfl (fun _ => rfl)
  refine dp_s1 hF (i := .aload_n 0) rfl (fun _ => rfl) ?_
  refine dp_s1 hF (i := .getfield 42) rfl (fun _ => rfl) ?_
  refine dp_s1 hF (i := .iload_n 2) rfl (fun _ => rfl) ?_
  refine dp_s3 hF (i := .iaload) rfl (fun _ => rfl) ?_
  refine dp_s1 hF (i := .bipush 31) rfl (fun _ => rfl) ?_
  refine dp_s2 hF (i := .if_icmp .eq 21) (a := (45, [some (.ref 51), some (.int v1), some (.int v2)], [], M)) (b := (27, [some (.ref 51), some (.int v1), some (.int v2)], [], M)) rfl (fun _ => rfl) ?_ ?_
  · refine dp_s1 hF (i := .iconst 1) rfl (fun _ => rfl) ?_
    refine dp_s1 hF (i := .goto 4) rfl (fun _ => rfl) ?_
    exact dp_s0 hF (i := .ireturn) rfl (fun _ => rfl)
  refine dp_s1 hF (i := .aload_n 0) rfl (fun _ => rfl) ?_
  refine dp_s1 hF (i := .aload_n 0) rfl (fun _ => rfl) ?_
  refine dp_s1 hF (i := .getfield 42) rfl (fun _ => rfl) ?_
  refine dp_s1 hF (i := .iload_n 2) rfl (fun _ => rfl) ?_
  refine dp_s3 hF (i := .iaload) rfl (fun _ => rfl) ?_
  refine dp_si (mj := dp_m_X9_reachOf) (i := .invokevirtual 64) rfl rfl (Or.inl rfl) rfl (fun _ => rfl) (fun r2 M1 => ?_)
  refine dp_s1 hF (i := .iload_n 1) rfl (fun _ => rfl) ?_
  refine dp_s1 hF (i := .ishr) rfl (fun _ => rfl) ?_
  refine dp_s1 hF (i := .iconst 1) rfl (fun _ => rfl) ?_
  refine dp_s1 hF (i := .iand) rfl (fun _ => rfl) ?_
  refine dp_s1 hF (i := .iconst 1) rfl (fun _ => rfl) ?_
  refine dp_s2 hF (i := .if_icmp .ne 7) (a := (45, [some (.ref 51), some (.int v1), some (.int v2)], [], M1)) (b := (49, [some (.ref 51), some (.int v1), some (.int v2)], [], M1)) rfl (fun _ => rfl) ?_ ?_
  · refine dp_s1 hF (i := .iconst 1) rfl (fun _ => rfl) ?_
    refine dp_s1 hF (i := .goto 4) rfl (fun _ => rfl) ?_
    exact dp_s0 hF (i := .ireturn) rfl (fun _ => rfl)
  refine dp_s1 hF (i := .iconst 0) rfl (fun _ => rfl) ?_
  exact dp_s0 hF (i := .ireturn) rfl (fun _ => rfl)
noncomputable def D_X9_addRow_0 (xs : Nat → Int32) (xl d : Nat) (v1 : Int32) (v2 : Int32) (v3 : Int32) (v4 : Int32) (v5 : Int32) (v6 : Int32) (v7 : Int32) (M : dp_M) : Option dp_Res := dp_lim true xs xl (dp_den true xs xl d) dp_m_X9_addRow (0, [some (.ref 51), some (.int v1), some (.int v2), some (.int v3), some (.int v4), some (.int v5), some (.int v6), some (.int v7), none, none], [], M)
noncomputable def D_X9_addRow_72 (xs : Nat → Int32) (xl d : Nat) (v1 : Int32) (v2 : Int32) (v3 : Int32) (v4 : Int32) (v5 : Int32) (v6 : Int32) (v7 : Int32) (v8 : Int32) (v9 : Int32) (M : dp_M) : Option dp_Res := dp_lim true xs xl (dp_den true xs xl d) dp_m_X9_addRow (72, [some (.ref 51), some (.int v1), some (.int v2), some (.int v3), some (.int v4), some (.int v5), some (.int v6), some (.int v7), some (.int v8), some (.int v9)], [], M)
theorem D_X9_addRow_0_den (xs : Nat → Int32) (xl d : Nat) (a0 : Int32) (a1 : Int32) (a2 : Int32) (a3 : Int32) (a4 : Int32) (a5 : Int32) (a6 : Int32) (M : dp_M) : dp_den true xs xl (d + 1) 213 [.ref 51, .int a0, .int a1, .int a2, .int a3, .int a4, .int a5, .int a6] M = D_X9_addRow_0 xs xl d a0 a1 a2 a3 a4 a5 a6 M := rfl
set_option maxRecDepth 20000 in
theorem D_X9_addRow_0_eq (xs : Nat → Int32) (xl d : Nat) (v1 : Int32) (v2 : Int32) (v3 : Int32) (v4 : Int32) (v5 : Int32) (v6 : Int32) (v7 : Int32) (M : dp_M) : D_X9_addRow_0 xs xl d v1 v2 v3 v4 v5 v6 v7 M = dp_w ((dp_I M 51 0) + (1 : Int32)) (fun y1 => if y1 < 0 ∨ 301 ≤ Int32.toNatClampNeg y1 then none else dp_w (dp_setI M 60 (Int32.toNatClampNeg y1) v1) (fun M2 => if y1 < 0 ∨ 301 ≤ Int32.toNatClampNeg y1 then none else dp_w (dp_setI M2 61 (Int32.toNatClampNeg y1) v2) (fun M3 => if y1 < 0 ∨ 301 ≤ Int32.toNatClampNeg y1 then none else dp_w (dp_setI M3 52 (Int32.toNatClampNeg y1) v3) (fun M4 => if y1 < 0 ∨ 301 ≤ Int32.toNatClampNeg y1 then none else dp_w (dp_setI M4 53 (Int32.toNatClampNeg y1) v5) (fun M5 => if y1 < 0 ∨ 301 ≤ Int32.toNatClampNeg y1 then none else dp_w (dp_setI M5 62 (Int32.toNatClampNeg y1) v6) (fun M6 => if y1 < 0 ∨ 301 ≤ Int32.toNatClampNeg y1 then none else dp_w (dp_setI M6 54 (Int32.toNatClampNeg y1) (0 : Int32)) (fun M7 => dp_bi (dp_den true xs xl d 215 [.ref 51, .int y1, .int v4, .int v7] M7) (fun r9 M8 => dp_w (1 : Int32) (fun y10 => D_X9_addRow_72 xs xl d v1 v2 v3 v4 v5 v6 v7 y1 y10 M8))))))))) := by
  have hF := dp_den_grow (md := true) (xs := xs) (xl := xl) d
  unfold D_X9_addRow_0
  refine dp_s1 hF (i := .aload_n 0) rfl (fun _ => rfl) ?_
  refine dp_s1 hF (i := .getfield 69) rfl (fun _ => rfl) ?_
  refine dp_s1 hF (i := .iconst 1) rfl (fun _ => rfl) ?_
  refine dp_s1 hF (i := .iadd) rfl (fun _ => rfl) ?_
  refine dp_s1w ((dp_I M 51 0) + (1 : Int32)) (fun (y1 : Int32) => (8, [some (.ref 51), some (.int v1), some (.int v2), some (.int v3), some (.int v4), some (.int v5), some (.int v6), some (.int v7), some (.int y1), none], [], M)) hF (i := .istore 8) rfl (fun _ => rfl) (fun y1 => ?_)
  refine dp_s1 hF (i := .aload_n 0) rfl (fun _ => rfl) ?_
  refine dp_s1 hF (i := .getfield 39) rfl (fun _ => rfl) ?_
  refine dp_s1 hF (i := .iload 8) rfl (fun _ => rfl) ?_
  refine dp_s1 hF (i := .iload_n 1) rfl (fun _ => rfl) ?_
  refine dp_s3w (dp_setI M 60 (Int32.toNatClampNeg y1) v1) (fun (M2 : dp_M) => (16, [some (.ref 51), some (.int v1), some (.int v2), some (.int v3), some (.int v4), some (.int v5), some (.int v6), some (.int v7), some (.int y1), none], [], M2)) hF (i := .iastore) rfl (fun _ => rfl) (fun M2 => ?_)
  refine dp_s1 hF (i := .aload_n 0) rfl (fun _ => rfl) ?_
  refine dp_s1 hF (i := .getfield 42) rfl (fun _ => rfl) ?_
  refine dp_s1 hF (i := .iload 8) rfl (fun _ => rfl) ?_
  refine dp_s1 hF (i := .iload_n 2) rfl (fun _ => rfl) ?_
  refine dp_s3w (dp_setI M2 61 (Int32.toNatClampNeg y1) v2) (fun (M3 : dp_M) => (24, [some (.ref 51), some (.int v1), some (.int v2), some (.int v3), some (.int v4), some (.int v5), some (.int v6), some (.int v7), some (.int y1), none], [], M3)) hF (i := .iastore) rfl (fun _ => rfl) (fun M3 => ?_)
  refine dp_s1 hF (i := .aload_n 0) rfl (fun _ => rfl) ?_
  refine dp_s1 hF (i := .getfield 11) rfl (fun _ => rfl) ?_
  refine dp_s1 hF (i := .iload 8) rfl (fun _ => rfl) ?_
  refine dp_s1 hF (i := .iload_n 3) rfl (fun _ => rfl) ?_
  refine dp_s3w (dp_setI M3 52 (Int32.toNatClampNeg y1) v3) (fun (M4 : dp_M) => (32, [some (.ref 51), some (.int v1), some (.int v2), some (.int v3), some (.int v4), some (.int v5), some (.int v6), some (.int v7), some (.int y1), none], [], M4)) hF (i := .iastore) rfl (fun _ => rfl) (fun M4 => ?_)
  refine dp_s1 hF (i := .aload_n 0) rfl (fun _ => rfl) ?_
  refine dp_s1 hF (i := .getfield 15) rfl (fun _ => rfl) ?_
  refine dp_s1 hF (i := .iload 8) rfl (fun _ => rfl) ?_
  refine dp_s1 hF (i := .iload 5) rfl (fun _ => rfl) ?_
  refine dp_s3w (dp_setI M4 53 (Int32.toNatClampNeg y1) v5) (fun (M5 : dp_M) => (41, [some (.ref 51), some (.int v1), some (.int v2), some (.int v3), some (.int v4), some (.int v5), some (.int v6), some (.int v7), some (.int y1), none], [], M5)) hF (i := .iastore) rfl (fun _ => rfl) (fun M5 => ?_)
  refine dp_s1 hF (i := .aload_n 0) rfl (fun _ => rfl) ?_
  refine dp_s1 hF (i := .getfield 45) rfl (fun _ => rfl) ?_
  refine dp_s1 hF (i := .iload 8) rfl (fun _ => rfl) ?_
  refine dp_s1 hF (i := .iload 6) rfl (fun _ => rfl) ?_
  refine dp_s3w (dp_setI M5 62 (Int32.toNatClampNeg y1) v6) (fun (M6 : dp_M) => (50, [some (.ref 51), some (.int v1), some (.int v2), some (.int v3), some (.int v4), some (.int v5), some (.int v6), some (.int v7), some (.int y1), none], [], M6)) hF (i := .iastore) rfl (fun _ => rfl) (fun M6 => ?_)
  refine dp_s1 hF (i := .aload_n 0) rfl (fun _ => rfl) ?_
  refine dp_s1 hF (i := .getfield 18) rfl (fun _ => rfl) ?_
  refine dp_s1 hF (i := .iload 8) rfl (fun _ => rfl) ?_
  refine dp_s1 hF (i := .iconst 0) rfl (fun _ => rfl) ?_
  refine dp_s3w (dp_setI M6 54 (Int32.toNatClampNeg y1) (0 : Int32)) (fun (M7 : dp_M) => (58, [some (.ref 51), some (.int v1), some (.int v2), some (.int v3), some (.int v4), some (.int v5), some (.int v6), some (.int v7), some (.int y1), none], [], M7)) hF (i := .iastore) rfl (fun _ => rfl) (fun M7 => ?_)
  refine dp_s1 hF (i := .aload_n 0) rfl (fun _ => rfl) ?_
  refine dp_s1 hF (i := .iload 8) rfl (fun _ => rfl) ?_
  refine dp_s1 hF (i := .iload 4) rfl (fun _ => rfl) ?_
  refine dp_s1 hF (i := .iload 7) rfl (fun _ => rfl) ?_
  refine dp_si (mj := dp_m_X9_addEnd) (i := .invokevirtual 73) rfl rfl (Or.inl rfl) rfl (fun _ => rfl) (fun r9 M8 => ?_)
  refine dp_s1 hF (i := .pop) rfl (fun _ => rfl) ?_
  refine dp_s1 hF (i := .iconst 1) rfl (fun _ => rfl) ?_
  refine dp_s1w (1 : Int32) (fun (y10 : Int32) => (72, [some (.ref 51), some (.int v1), some (.int v2), some (.int v3), some (.int v4), some (.int v5), some (.int v6), some (.int v7), some (.int y1), some (.int y10)], [], M8)) hF (i := .istore 9) rfl (fun _ => rfl) (fun y10 => ?_)
  exact rfl
set_option maxRecDepth 20000 in
theorem D_X9_addRow_72_eq (xs : Nat → Int32) (xl d : Nat) (v1 : Int32) (v2 : Int32) (v3 : Int32) (v4 : Int32) (v5 : Int32) (v6 : Int32) (v7 : Int32) (v8 : Int32) (v9 : Int32) (M : dp_M) : D_X9_addRow_72 xs xl d v1 v2 v3 v4 v5 v6 v7 v8 v9 M = if (dp_I M 51 0) < v9 then (dp_w (dp_setI M 51 0 v8) (fun M1 => some (.inl (some (.int v8)), M1))) else (dp_bi (dp_den true xs xl d 214 [.ref 51, .int v8, .int v9] M) (fun r3 M2 => if r3 = 0 then (dp_w (v9 + (1 : Int32)) (fun y4 => D_X9_addRow_72 xs xl d v1 v2 v3 v4 v5 v6 v7 v8 y4 M2)) else (some (.inl (some (.int ((-1 : Int32) - v9))), M2)))) := by
  have hF := dp_den_grow (md := true) (xs := xs) (xl := xl) d
  unfold D_X9_addRow_72
  refine dp_s1 hF (i := .iload 9) rfl (fun _ => rfl) ?_
  refine dp_s1 hF (i := .aload_n 0) rfl (fun _ => rfl) ?_
  refine dp_s1 hF (i := .getfield 69) rfl (fun _ => rfl) ?_
  refine dp_s2 hF (i := .if_icmp .gt 25) (a := (103, [some (.ref 51), some (.int v1), some (.int v2), some (.int v3), some (.int v4), some (.int v5), some (.int v6), some (.int v7), some (.int v8), some (.int v9)], [], M)) (b := (81, [some (.ref 51), some (.int v1), some (.int v2), some (.int v3), some (.int v4), some (.int v5), some (.int v6), some (.int v7), some (.int v8), some (.int v9)], [], M)) rfl (fun _ => rfl) ?_ ?_
  · refine dp_s1 hF (i := .aload_n 0) rfl (fun _ => rfl) ?_
    refine dp_s1 hF (i := .iload 8) rfl (fun _ => rfl) ?_
    refine dp_s1w (dp_setI M 51 0 v8) (fun (M1 : dp_M) => (109, [some (.ref 51), some (.int v1), some (.int v2), some (.int v3), some (.int v4), some (.int v5), some (.int v6), some (.int v7), some (.int v8), some (.int v9)], [], M1)) hF (i := .putfield 69) rfl (fun _ => rfl) (fun M1 => ?_)
    refine dp_s1 hF (i := .iload 8) rfl (fun _ => rfl) ?_
    exact dp_s0 hF (i := .ireturn) rfl (fun _ => rfl)
  refine dp_s1 hF (i := .aload_n 0) rfl (fun _ => rfl) ?_
  refine dp_s1 hF (i := .iload 8) rfl (fun _ => rfl) ?_
  refine dp_s1 hF (i := .iload 9) rfl (fun _ => rfl) ?_
  refine dp_si (mj := dp_m_X9_clash) (i := .invokevirtual 77) rfl rfl (Or.inr rfl) rfl (fun _ => rfl) (fun r3 M2 => ?_)
  refine dp_s2 hF (i := .ifCond .eq 8) (a := (97, [some (.ref 51), some (.int v1), some (.int v2), some (.int v3), some (.int v4), some (.int v5), some (.int v6), some (.int v7), some (.int v8), some (.int v9)], [], M2)) (b := (92, [some (.ref 51), some (.int v1), some (.int v2), some (.int v3), some (.int v4), some (.int v5), some (.int v6), some (.int v7), some (.int v8), some (.int v9)], [], M2)) rfl (fun _ => rfl) ?_ ?_
  · refine dp_s1w (v9 + (1 : Int32)) (fun (y4 : Int32) => (100, [some (.ref 51), some (.int v1), some (.int v2), some (.int v3), some (.int v4), some (.int v5), some (.int v6), some (.int v7), some (.int v8), some (.int y4)], [], M2)) hF (i := .iinc 9 1) rfl (fun _ => rfl) (fun y4 => ?_)
    refine dp_s1 hF (i := .goto (-28)) rfl (fun _ => rfl) ?_
    exact rfl
  refine dp_s1 hF (i := .iconst (-1)) rfl (fun _ => rfl) ?_
  refine dp_s1 hF (i := .iload 9) rfl (fun _ => rfl) ?_
  refine dp_s1 hF (i := .isub) rfl (fun _ => rfl) ?_
  exact dp_s0 hF (i := .ireturn) rfl (fun _ => rfl)
noncomputable def D_X9_clash_0 (xs : Nat → Int32) (xl d : Nat) (v1 : Int32) (v2 : Int32) (M : dp_M) : Option dp_Res := dp_lim true xs xl (dp_den true xs xl d) dp_m_X9_clash (0, [some (.ref 51), some (.int v1), some (.int v2), none], [], M)
noncomputable def D_X9_clash_65 (xs : Nat → Int32) (xl d : Nat) (v1 : Int32) (v2 : Int32) (vs0 : Int32) (M : dp_M) : Option dp_Res := dp_lim true xs xl (dp_den true xs xl d) dp_m_X9_clash (65, [some (.ref 51), some (.int v1), some (.int v2), none], [.int vs0], M)
theorem D_X9_clash_0_den (xs : Nat → Int32) (xl d : Nat) (a0 : Int32) (a1 : Int32) (M : dp_M) : dp_den true xs xl (d + 1) 214 [.ref 51, .int a0, .int a1] M = D_X9_clash_0 xs xl d a0 a1 M := rfl
set_option maxRecDepth 20000 in
theorem D_X9_clash_0_eq (xs : Nat → Int32) (xl d : Nat) (v1 : Int32) (v2 : Int32) (M : dp_M) : D_X9_clash_0 xs xl d v1 v2 M = if v1 < 0 ∨ 301 ≤ Int32.toNatClampNeg v1 then none else (if v2 < 0 ∨ 301 ≤ Int32.toNatClampNeg v2 then none else (if (dp_I M 60 (Int32.toNatClampNeg v1)) = (dp_I M 60 (Int32.toNatClampNeg v2)) then (if v1 < 0 ∨ 301 ≤ Int32.toNatClampNeg v1 then none else (if v2 < 0 ∨ 301 ≤ Int32.toNatClampNeg v2 then none else (if (dp_I M 61 (Int32.toNatClampNeg v1)) = (dp_I M 61 (Int32.toNatClampNeg v2)) then (if v1 < 0 ∨ 301 ≤ Int32.toNatClampNeg v1 then none else (if v2 < 0 ∨ 301 ≤ Int32.toNatClampNeg v2 then none else (if (dp_I M 53 (Int32.toNatClampNeg v1)) = (dp_I M 53 (Int32.toNatClampNeg v2)) then (if v1 < 0 ∨ 301 ≤ Int32.toNatClampNeg v1 then none else (if v2 < 0 ∨ 301 ≤ Int32.toNatClampNeg v2 then none else (if (dp_I M 62 (Int32.toNatClampNeg v1)) = (dp_I M 62 (Int32.toNatClampNeg v2)) then (D_X9_clash_65 xs xl d v1 v2 (1 : Int32) M) else (D_X9_clash_65 xs xl d v1 v2 (0 : Int32) M)))) else (D_X9_clash_65 xs xl d v1 v2 (0 : Int32) M)))) else (D_X9_clash_65 xs xl d v1 v2 (0 : Int32) M)))) else (D_X9_clash_65 xs xl d v1 v2 (0 : Int32) M))) := by
  have hF := dp_den_grow (md := true) (xs := xs) (xl := xl) d
  unfold D_X9_clash_0
  refine dp_s1 hF (i := .aload_n 0) rfl (fun _ => rfl) ?_
  refine dp_s1 hF (i := .getfield 39) rfl (fun _ => rfl) ?_
  refine dp_s1 hF (i := .iload_n 1) rfl (fun _ => rfl) ?_
  refine dp_s3 hF (i := .iaload) rfl (fun _ => rfl) ?_
  refine dp_s1 hF (i := .aload_n 0) rfl (fun _ => rfl) ?_
  refine dp_s1 hF (i := .getfield 39) rfl (fun _ => rfl) ?_
  refine dp_s1 hF (i := .iload_n 2) rfl (fun _ => rfl) ?_
  refine dp_s3 hF (i := .iaload) rfl (fun _ => rfl) ?_
  refine dp_s2 hF (i := .if_icmp .ne 52) (a := (15, [some (.ref 51), some (.int v1), some (.int v2), none], [], M)) (b := (64, [some (.ref 51), some (.int v1), some (.int v2), none], [], M)) rfl (fun _ => rfl) ?_ ?_
  · refine dp_s1 hF (i := .aload_n 0) rfl (fun _ => rfl) ?_
    refine dp_s1 hF (i := .getfield 42) rfl (fun _ => rfl) ?_
    refine dp_s1 hF (i := .iload_n 1) rfl (fun _ => rfl) ?_
    refine dp_s3 hF (i := .iaload) rfl (fun _ => rfl) ?_
    refine dp_s1 hF (i := .aload_n 0) rfl (fun _ => rfl) ?_
    refine dp_s1 hF (i := .getfield 42) rfl (fun _ => rfl) ?_
    refine dp_s1 hF (i := .iload_n 2) rfl (fun _ => rfl) ?_
    refine dp_s3 hF (i := .iaload) rfl (fun _ => rfl) ?_
    refine dp_s2 hF (i := .if_icmp .ne 37) (a := (30, [some (.ref 51), some (.int v1), some (.int v2), none], [], M)) (b := (64, [some (.ref 51), some (.int v1), some (.int v2), none], [], M)) rfl (fun _ => rfl) ?_ ?_
    · refine dp_s1 hF (i := .aload_n 0) rfl (fun _ => rfl) ?_
      refine dp_s1 hF (i := .getfield 15) rfl (fun _ => rfl) ?_
      refine dp_s1 hF (i := .iload_n 1) rfl (fun _ => rfl) ?_
      refine dp_s3 hF (i := .iaload) rfl (fun _ => rfl) ?_
      refine dp_s1 hF (i := .aload_n 0) rfl (fun _ => rfl) ?_
      refine dp_s1 hF (i := .getfield 15) rfl (fun _ => rfl) ?_
      refine dp_s1 hF (i := .iload_n 2) rfl (fun _ => rfl) ?_
      refine dp_s3 hF (i := .iaload) rfl (fun _ => rfl) ?_
      refine dp_s2 hF (i := .if_icmp .ne 22) (a := (45, [some (.ref 51), some (.int v1), some (.int v2), none], [], M)) (b := (64, [some (.ref 51), some (.int v1), some (.int v2), none], [], M)) rfl (fun _ => rfl) ?_ ?_
      · refine dp_s1 hF (i := .aload_n 0) rfl (fun _ => rfl) ?_
        refine dp_s1 hF (i := .getfield 45) rfl (fun _ => rfl) ?_
        refine dp_s1 hF (i := .iload_n 1) rfl (fun _ => rfl) ?_
        refine dp_s3 hF (i := .iaload) rfl (fun _ => rfl) ?_
        refine dp_s1 hF (i := .aload_n 0) rfl (fun _ => rfl) ?_
        refine dp_s1 hF (i := .getfield 45) rfl (fun _ => rfl) ?_
        refine dp_s1 hF (i := .iload_n 2) rfl (fun _ => rfl) ?_
        refine dp_s3 hF (i := .iaload) rfl (fun _ => rfl) ?_
        refine dp_s2 hF (i := .if_icmp .ne 7) (a := (60, [some (.ref 51), some (.int v1), some (.int v2), none], [], M)) (b := (64, [some (.ref 51), some (.int v1), some (.int v2), none], [], M)) rfl (fun _ => rfl) ?_ ?_
        · refine dp_s1 hF (i := .iconst 1) rfl (fun _ => rfl) ?_
          refine dp_s1 hF (i := .goto 4) rfl (fun _ => rfl) ?_
          exact rfl
        refine dp_s1 hF (i := .iconst 0) rfl (fun _ => rfl) ?_
        exact rfl
      refine dp_s1 hF (i := .iconst 0) rfl (fun _ => rfl) ?_
      exact rfl
    refine dp_s1 hF (i := .iconst 0) rfl (fun _ => rfl) ?_
    exact rfl
  refine dp_s1 hF (i := .iconst 0) rfl (fun _ => rfl) ?_
  exact rfl
set_option maxRecDepth 20000 in
theorem D_X9_clash_65_eq (xs : Nat → Int32) (xl d : Nat) (v1 : Int32) (v2 : Int32) (vs0 : Int32) (M : dp_M) : D_X9_clash_65 xs xl d v1 v2 vs0 M = if vs0 = 0 then (some (.inl (some (.int (0 : Int32))), M)) else (if v1 < 0 ∨ 301 ≤ Int32.toNatClampNeg v1 then none else (dp_bi (dp_den true xs xl d 217 [.ref 51, .int v2, .int (10000 : Int32)] M) (fun r2 M1 => if r2 < (dp_I M 52 (Int32.toNatClampNeg v1)) then (some (.inl (some (.int (0 : Int32))), M1)) else (if v2 < 0 ∨ 301 ≤ Int32.toNatClampNeg v2 then none else (dp_bi (dp_den true xs xl d 217 [.ref 51, .int v1, .int (10000 : Int32)] M1) (fun r4 M3 => if r4 < (dp_I M1 52 (Int32.toNatClampNeg v2)) then (some (.inl (some (.int (0 : Int32))), M3)) else (some (.inl (some (.int (1 : Int32))), M3)))))))) := by
  have hF := dp_den_grow (md := true) (xs := xs) (xl := xl) d
  unfold D_X9_clash_65
  refine dp_s1 hF (i := .istore_n 3) rfl (fun _ => rfl) ?_
  refine dp_s1 hF (i := .iload_n 3) rfl (fun _ => rfl) ?_
  refine dp_s2 hF (i := .ifCond .eq 41) (a := (108, [some (.ref 51), some (.int v1), some (.int v2), some (.int vs0)], [], M)) (b := (70, [some (.ref 51), some (.int v1), some (.int v2), some (.int vs0)], [], M)) rfl (fun _ => rfl) ?_ ?_
  · refine dp_s1 hF (i := .iconst 0) rfl (fun _ => rfl) ?_
    exact dp_s0 hF (i := .ireturn) rfl (fun _ => rfl)
  refine dp_s1 hF (i := .aload_n 0) rfl (fun _ => rfl) ?_
  refine dp_s1 hF (i := .getfield 11) rfl (fun _ => rfl) ?_
  refine dp_s1 hF (i := .iload_n 1) rfl (fun _ => rfl) ?_
  refine dp_s3 hF (i := .iaload) rfl (fun _ => rfl) ?_
  refine dp_s1 hF (i := .aload_n 0) rfl (fun _ => rfl) ?_
  refine dp_s1 hF (i := .iload_n 2) rfl (fun _ => rfl) ?_
  refine dp_s1 hF (i := .sipush 10000) rfl (fun _ => rfl) ?_
  refine dp_si (mj := dp_m_X9_lastDay) (i := .invokevirtual 81) rfl rfl (Or.inl rfl) rfl (fun _ => rfl) (fun r2 M1 => ?_)
  refine dp_s2 hF (i := .if_icmp .gt 24) (a := (108, [some (.ref 51), some (.int v1), some (.int v2), some (.int vs0)], [], M1)) (b := (87, [some (.ref 51), some (.int v1), some (.int v2), some (.int vs0)], [], M1)) rfl (fun _ => rfl) ?_ ?_
  · refine dp_s1 hF (i := .iconst 0) rfl (fun _ => rfl) ?_
    exact dp_s0 hF (i := .ireturn) rfl (fun _ => rfl)
  refine dp_s1 hF (i := .aload_n 0) rfl (fun _ => rfl) ?_
  refine dp_s1 hF (i := .getfield 11) rfl (fun _ => rfl) ?_
  refine dp_s1 hF (i := .iload_n 2) rfl (fun _ => rfl) ?_
  refine dp_s3 hF (i := .iaload) rfl (fun _ => rfl) ?_
  refine dp_s1 hF (i := .aload_n 0) rfl (fun _ => rfl) ?_
  refine dp_s1 hF (i := .iload_n 1) rfl (fun _ => rfl) ?_
  refine dp_s1 hF (i := .sipush 10000) rfl (fun _ => rfl) ?_
  refine dp_si (mj := dp_m_X9_lastDay) (i := .invokevirtual 81) rfl rfl (Or.inl rfl) rfl (fun _ => rfl) (fun r4 M3 => ?_)
  refine dp_s2 hF (i := .if_icmp .gt 7) (a := (108, [some (.ref 51), some (.int v1), some (.int v2), some (.int vs0)], [], M3)) (b := (104, [some (.ref 51), some (.int v1), some (.int v2), some (.int vs0)], [], M3)) rfl (fun _ => rfl) ?_ ?_
  · refine dp_s1 hF (i := .iconst 0) rfl (fun _ => rfl) ?_
    exact dp_s0 hF (i := .ireturn) rfl (fun _ => rfl)
  refine dp_s1 hF (i := .iconst 1) rfl (fun _ => rfl) ?_
  refine dp_s1 hF (i := .goto 4) rfl (fun _ => rfl) ?_
  exact dp_s0 hF (i := .ireturn) rfl (fun _ => rfl)
noncomputable def D_X9_addEnd_0 (xs : Nat → Int32) (xl d : Nat) (v1 : Int32) (v2 : Int32) (v3 : Int32) (M : dp_M) : Option dp_Res := dp_lim true xs xl (dp_den true xs xl d) dp_m_X9_addEnd (0, [some (.ref 51), some (.int v1), some (.int v2), some (.int v3)], [], M)
theorem D_X9_addEnd_0_den (xs : Nat → Int32) (xl d : Nat) (a0 : Int32) (a1 : Int32) (a2 : Int32) (M : dp_M) : dp_den true xs xl (d + 1) 215 [.ref 51, .int a0, .int a1, .int a2] M = D_X9_addEnd_0 xs xl d a0 a1 a2 M := rfl
set_option maxRecDepth 20000 in
theorem D_X9_addEnd_0_eq (xs : Nat → Int32) (xl d : Nat) (v1 : Int32) (v2 : Int32) (v3 : Int32) (M : dp_M) : D_X9_addEnd_0 xs xl d v1 v2 v3 M = if v1 < 0 ∨ 301 ≤ Int32.toNatClampNeg v1 then none else (if ((v1 * (8 : Int32)) + (dp_I M 54 (Int32.toNatClampNeg v1))) < 0 ∨ 2408 ≤ Int32.toNatClampNeg ((v1 * (8 : Int32)) + (dp_I M 54 (Int32.toNatClampNeg v1))) then none else dp_w (dp_setI M 63 (Int32.toNatClampNeg ((v1 * (8 : Int32)) + (dp_I M 54 (Int32.toNatClampNeg v1)))) v2) (fun M1 => if v1 < 0 ∨ 301 ≤ Int32.toNatClampNeg v1 then none else (if ((v1 * (8 : Int32)) + (dp_I M1 54 (Int32.toNatClampNeg v1))) < 0 ∨ 2408 ≤ Int32.toNatClampNeg ((v1 * (8 : Int32)) + (dp_I M1 54 (Int32.toNatClampNeg v1))) then none else dp_w (dp_setI M1 64 (Int32.toNatClampNeg ((v1 * (8 : Int32)) + (dp_I M1 54 (Int32.toNatClampNeg v1)))) v3) (fun M2 => if v1 < 0 ∨ 301 ≤ Int32.toNatClampNeg v1 then none else (if v1 < 0 ∨ 301 ≤ Int32.toNatClampNeg v1 then none else dp_w (dp_setI M2 54 (Int32.toNatClampNeg v1) ((dp_I M2 54 (Int32.toNatClampNeg v1)) + (1 : Int32))) (fun M3 => if v1 < 0 ∨ 301 ≤ Int32.toNatClampNeg v1 then none else (some (.inl (some (.int (dp_I M3 54 (Int32.toNatClampNeg v1)))), M3)))))))) := by
  have hF := dp_den_grow (md := true) (xs := xs) (xl := xl) d
  unfold D_X9_addEnd_0
  refine dp_s1 hF (i := .aload_n 0) rfl (fun _ => rfl) ?_
  refine dp_s1 hF (i := .getfield 48) rfl (fun _ => rfl) ?_
  refine dp_s1 hF (i := .iload_n 1) rfl (fun _ => rfl) ?_
  refine dp_s1 hF (i := .bipush 8) rfl (fun _ => rfl) ?_
  refine dp_s1 hF (i := .imul) rfl (fun _ => rfl) ?_
  refine dp_s1 hF (i := .aload_n 0) rfl (fun _ => rfl) ?_
  refine dp_s1 hF (i := .getfield 18) rfl (fun _ => rfl) ?_
  refine dp_s1 hF (i := .iload_n 1) rfl (fun _ => rfl) ?_
  refine dp_s3 hF (i := .iaload) rfl (fun _ => rfl) ?_
  refine dp_s1 hF (i := .iadd) rfl (fun _ => rfl) ?_
  refine dp_s1 hF (i := .iload_n 2) rfl (fun _ => rfl) ?_
  refine dp_s3w (dp_setI M 63 (Int32.toNatClampNeg ((v1 * (8 : Int32)) + (dp_I M 54 (Int32.toNatClampNeg v1)))) v2) (fun (M1 : dp_M) => (17, [some (.ref 51), some (.int v1), some (.int v2), some (.int v3)], [], M1)) hF (i := .iastore) rfl (fun _ => rfl) (fun M1 => ?_)
  refine dp_s1 hF (i := .aload_n 0) rfl (fun _ => rfl) ?_
  refine dp_s1 hF (i := .getfield 51) rfl (fun _ => rfl) ?_
  refine dp_s1 hF (i := .iload_n 1) rfl (fun _ => rfl) ?_
  refine dp_s1 hF (i := .bipush 8) rfl (fun _ => rfl) ?_
  refine dp_s1 hF (i := .imul) rfl (fun _ => rfl) ?_
  refine dp_s1 hF (i := .aload_n 0) rfl (fun _ => rfl) ?_
  refine dp_s1 hF (i := .getfield 18) rfl (fun _ => rfl) ?_
  refine dp_s1 hF (i := .iload_n 1) rfl (fun _ => rfl) ?_
  refine dp_s3 hF (i := .iaload) rfl (fun _ => rfl) ?_
  refine dp_s1 hF (i := .iadd) rfl (fun _ => rfl) ?_
  refine dp_s1 hF (i := .iload_n 3) rfl (fun _ => rfl) ?_
  refine dp_s3w (dp_setI M1 64 (Int32.toNatClampNeg ((v1 * (8 : Int32)) + (dp_I M1 54 (Int32.toNatClampNeg v1)))) v3) (fun (M2 : dp_M) => (34, [some (.ref 51), some (.int v1), some (.int v2), some (.int v3)], [], M2)) hF (i := .iastore) rfl (fun _ => rfl) (fun M2 => ?_)
  refine dp_s1 hF (i := .aload_n 0) rfl (fun _ => rfl) ?_
  refine dp_s1 hF (i := .getfield 18) rfl (fun _ => rfl) ?_
  refine dp_s1 hF (i := .iload_n 1) rfl (fun _ => rfl) ?_
  refine dp_s1 hF (i := .dup2) rfl (fun _ => rfl) ?_
  refine dp_s3 hF (i := .iaload) rfl (fun _ => rfl) ?_
  refine dp_s1 hF (i := .iconst 1) rfl (fun _ => rfl) ?_
  refine dp_s1 hF (i := .iadd) rfl (fun _ => rfl) ?_
  refine dp_s3w (dp_setI M2 54 (Int32.toNatClampNeg v1) ((dp_I M2 54 (Int32.toNatClampNeg v1)) + (1 : Int32))) (fun (M3 : dp_M) => (44, [some (.ref 51), some (.int v1), some (.int v2), some (.int v3)], [], M3)) hF (i := .iastore) rfl (fun _ => rfl) (fun M3 => ?_)
  refine dp_s1 hF (i := .aload_n 0) rfl (fun _ => rfl) ?_
  refine dp_s1 hF (i := .getfield 18) rfl (fun _ => rfl) ?_
  refine dp_s1 hF (i := .iload_n 1) rfl (fun _ => rfl) ?_
  refine dp_s3 hF (i := .iaload) rfl (fun _ => rfl) ?_
  exact dp_s0 hF (i := .ireturn) rfl (fun _ => rfl)
noncomputable def D_X9_addOneOfFour_0 (xs : Nat → Int32) (xl d : Nat) (p0 : Nat) (v1 : Int32) (v2 : Int32) (M : dp_M) : Option dp_Res := dp_lim true xs xl (dp_den true xs xl d) dp_m_X9_addOneOfFour (0, [some (.ref p0), some (.int v1), some (.int v2)], [], M)
theorem D_X9_addOneOfFour_0_den (xs : Nat → Int32) (xl d : Nat) (a0 : Nat) (a1 : Int32) (a2 : Int32) (M : dp_M) : dp_den true xs xl (d + 1) 216 [.ref a0, .int a1, .int a2] M = D_X9_addOneOfFour_0 xs xl d a0 a1 a2 M := rfl
set_option maxRecDepth 20000 in
theorem D_X9_addOneOfFour_0_eq (xs : Nat → Int32) (xl d : Nat) (p0 : Nat) (v1 : Int32) (v2 : Int32) (M : dp_M) : D_X9_addOneOfFour_0 xs xl d p0 v1 v2 M = if dp_t true M p0 = 1 then (if v1 < 0 ∨ dp_ln true M p0 ≤ Int32.toNatClampNeg v1 then none else (if (((dp_I M p0 (Int32.toNatClampNeg v1)) >>> (v2 &&& 31)) &&& (1 : Int32)) = (1 : Int32) then (some (.inl (some (.int (0 : Int32))), M)) else (if dp_t true M p0 = 1 then (if v1 < 0 ∨ dp_ln true M p0 ≤ Int32.toNatClampNeg v1 then none else (dp_bi (dp_den true xs xl d 591 [.int (dp_I M p0 (Int32.toNatClampNeg v1))] M) (fun r2 M1 => if r2 < (4 : Int32) then (if dp_t true M1 p0 = 1 then (if v1 < 0 ∨ dp_ln true M1 p0 ≤ Int32.toNatClampNeg v1 then none else (if dp_t true M1 p0 = 1 then (if v1 < 0 ∨ dp_ln true M1 p0 ≤ Int32.toNatClampNeg v1 then none else dp_w (dp_setI M1 p0 (Int32.toNatClampNeg v1) ((dp_I M1 p0 (Int32.toNatClampNeg v1)) ||| ((1 : Int32) <<< (v2 &&& 31)))) (fun M3 => some (.inl (some (.int (1 : Int32))), M3))) else none)) else none) else (some (.inl (some (.int (0 : Int32))), M1))))) else none))) else none := by
  have hF := dp_den_grow (md := true) (xs := xs) (xl := xl) d
  unfold D_X9_addOneOfFour_0
  refine dp_s1 hF (i := .aload_n 0) rfl (fun _ => rfl) ?_
  refine dp_s1 hF (i := .iload_n 1) rfl (fun _ => rfl) ?_
  refine dp_s6 hF (i := .iaload) rfl (fun _ => rfl) ?_
  refine dp_s1 hF (i := .iload_n 2) rfl (fun _ => rfl) ?_
  refine dp_s1 hF (i := .ishr) rfl (fun _ => rfl) ?_
  refine dp_s1 hF (i := .iconst 1) rfl (fun _ => rfl) ?_
  refine dp_s1 hF (i := .iand) rfl (fun _ => rfl) ?_
  refine dp_s1 hF (i := .iconst 1) rfl (fun _ => rfl) ?_
  refine dp_s2 hF (i := .if_icmp .eq 13) (a := (21, [some (.ref p0), some (.int v1), some (.int v2)], [], M)) (b := (11, [some (.ref p0), some (.int v1), some (.int v2)], [], M)) rfl (fun _ => rfl) ?_ ?_
  · refine dp_s1 hF (i := .iconst 0) rfl (fun _ => rfl) ?_
    exact dp_s0 hF (i := .ireturn) rfl (fun _ => rfl)
  refine dp_s1 hF (i := .aload_n 0) rfl (fun _ => rfl) ?_
  refine dp_s1 hF (i := .iload_n 1) rfl (fun _ => rfl) ?_
  refine dp_s6 hF (i := .iaload) rfl (fun _ => rfl) ?_
  refine dp_si (mj := dp_m_J6_bitCount_0f7a4) (i := .invokestatic 85) rfl rfl (Or.inl rfl) rfl (fun _ => rfl) (fun r2 M1 => ?_)
  refine dp_s1 hF (i := .iconst 4) rfl (fun _ => rfl) ?_
  refine dp_s2 hF (i := .if_icmp .lt 5) (a := (23, [some (.ref p0), some (.int v1), some (.int v2)], [], M1)) (b := (21, [some (.ref p0), some (.int v1), some (.int v2)], [], M1)) rfl (fun _ => rfl) ?_ ?_
  · refine dp_s1 hF (i := .aload_n 0) rfl (fun _ => rfl) ?_
    refine dp_s1 hF (i := .iload_n 1) rfl (fun _ => rfl) ?_
    refine dp_s1 hF (i := .dup2) rfl (fun _ => rfl) ?_
    refine dp_s6 hF (i := .iaload) rfl (fun _ => rfl) ?_
    refine dp_s1 hF (i := .iconst 1) rfl (fun _ => rfl) ?_
    refine dp_s1 hF (i := .iload_n 2) rfl (fun _ => rfl) ?_
    refine dp_s1 hF (i := .ishl) rfl (fun _ => rfl) ?_
    refine dp_s1 hF (i := .ior) rfl (fun _ => rfl) ?_
    refine dp_s6w (dp_setI M1 p0 (Int32.toNatClampNeg v1) ((dp_I M1 p0 (Int32.toNatClampNeg v1)) ||| ((1 : Int32) <<< (v2 &&& 31)))) (fun (M3 : dp_M) => (32, [some (.ref p0), some (.int v1), some (.int v2)], [], M3)) hF (i := .iastore) rfl (fun _ => rfl) (fun M3 => ?_)
    refine dp_s1 hF (i := .iconst 1) rfl (fun _ => rfl) ?_
    exact dp_s0 hF (i := .ireturn) rfl (fun _ => rfl)
  refine dp_s1 hF (i := .iconst 0) rfl (fun _ => rfl) ?_
  exact dp_s0 hF (i := .ireturn) rfl (fun _ => rfl)
noncomputable def D_X9_lastDay_0 (xs : Nat → Int32) (xl d : Nat) (v1 : Int32) (v2 : Int32) (M : dp_M) : Option dp_Res := dp_lim true xs xl (dp_den true xs xl d) dp_m_X9_lastDay (0, [some (.ref 51), some (.int v1), some (.int v2), none, none, none], [], M)
noncomputable def D_X9_lastDay_11 (xs : Nat → Int32) (xl d : Nat) (v1 : Int32) (v2 : Int32) (v3 : Int32) (v4 : Int32) (v5 : Int32) (M : dp_M) : Option dp_Res := dp_lim true xs xl (dp_den true xs xl d) dp_m_X9_lastDay (11, [some (.ref 51), some (.int v1), some (.int v2), some (.int v3), some (.int v4), some (.int v5)], [], M)
theorem D_X9_lastDay_0_den (xs : Nat → Int32) (xl d : Nat) (a0 : Int32) (a1 : Int32) (M : dp_M) : dp_den true xs xl (d + 1) 217 [.ref 51, .int a0, .int a1] M = D_X9_lastDay_0 xs xl d a0 a1 M := rfl
set_option maxRecDepth 20000 in
theorem D_X9_lastDay_0_eq (xs : Nat → Int32) (xl d : Nat) (v1 : Int32) (v2 : Int32) (M : dp_M) : D_X9_lastDay_0 xs xl d v1 v2 M = dp_w (-1 : Int32) (fun y1 => dp_w (-1 : Int32) (fun y2 => dp_w (v1 * (8 : Int32)) (fun y3 => D_X9_lastDay_11 xs xl d v1 v2 y1 y2 y3 M))) := by
  have hF := dp_den_grow (md := true) (xs := xs) (xl := xl) d
  unfold D_X9_lastDay_0
  refine dp_s1 hF (i := .iconst (-1)) rfl (fun _ => rfl) ?_
  refine dp_s1w (-1 : Int32) (fun (y1 : Int32) => (2, [some (.ref 51), some (.int v1), some (.int v2), some (.int y1), none, none], [], M)) hF (i := .istore_n 3) rfl (fun _ => rfl) (fun y1 => ?_)
  refine dp_s1 hF (i := .iconst (-1)) rfl (fun _ => rfl) ?_
  refine dp_s1w (-1 : Int32) (fun (y2 : Int32) => (5, [some (.ref 51), some (.int v1), some (.int v2), some (.int y1), some (.int y2), none], [], M)) hF (i := .istore 4) rfl (fun _ => rfl) (fun y2 => ?_)
  refine dp_s1 hF (i := .iload_n 1) rfl (fun _ => rfl) ?_
  refine dp_s1 hF (i := .bipush 8) rfl (fun _ => rfl) ?_
  refine dp_s1 hF (i := .imul) rfl (fun _ => rfl) ?_
  refine dp_s1w (v1 * (8 : Int32)) (fun (y3 : Int32) => (11, [some (.ref 51), some (.int v1), some (.int v2), some (.int y1), some (.int y2), some (.int y3)], [], M)) hF (i := .istore 5) rfl (fun _ => rfl) (fun y3 => ?_)
  exact rfl
set_option maxRecDepth 20000 in
theorem D_X9_lastDay_11_eq (xs : Nat → Int32) (xl d : Nat) (v1 : Int32) (v2 : Int32) (v3 : Int32) (v4 : Int32) (v5 : Int32) (M : dp_M) : D_X9_lastDay_11 xs xl d v1 v2 v3 v4 v5 M = if v1 < 0 ∨ 301 ≤ Int32.toNatClampNeg v1 then none else (if ((v1 * (8 : Int32)) + (dp_I M 54 (Int32.toNatClampNeg v1))) ≤ v5 then (some (.inl (some (.int v4)), M)) else (if v5 < 0 ∨ 2408 ≤ Int32.toNatClampNeg v5 then none else (if v2 < (dp_I M 64 (Int32.toNatClampNeg v5)) then (dp_w (v5 + (1 : Int32)) (fun y1 => D_X9_lastDay_11 xs xl d v1 v2 v3 v4 y1 M)) else (if v5 < 0 ∨ 2408 ≤ Int32.toNatClampNeg v5 then none else (if (dp_I M 64 (Int32.toNatClampNeg v5)) < v3 then (dp_w (v5 + (1 : Int32)) (fun y2 => D_X9_lastDay_11 xs xl d v1 v2 v3 v4 y2 M)) else (if v5 < 0 ∨ 2408 ≤ Int32.toNatClampNeg v5 then none else (dp_w (dp_I M 64 (Int32.toNatClampNeg v5)) (fun y3 => if v5 < 0 ∨ 2408 ≤ Int32.toNatClampNeg v5 then none else (dp_w (dp_I M 63 (Int32.toNatClampNeg v5)) (fun y4 => dp_w (v5 + (1 : Int32)) (fun y5 => D_X9_lastDay_11 xs xl d v1 v2 y3 y4 y5 M))))))))))) := by
  have hF := dp_den_grow (md := true) (xs := xs) (xl := xl) d
  unfold D_X9_lastDay_11
  refine dp_s1 hF (i := .iload 5) rfl (fun _ => rfl) ?_
  refine dp_s1 hF (i := .iload_n 1) rfl (fun _ => rfl) ?_
  refine dp_s1 hF (i := .bipush 8) rfl (fun _ => rfl) ?_
  refine dp_s1 hF (i := .imul) rfl (fun _ => rfl) ?_
  refine dp_s1 hF (i := .aload_n 0) rfl (fun _ => rfl) ?_
  refine dp_s1 hF (i := .getfield 18) rfl (fun _ => rfl) ?_
  refine dp_s1 hF (i := .iload_n 1) rfl (fun _ => rfl) ?_
  refine dp_s3 hF (i := .iaload) rfl (fun _ => rfl) ?_
  refine dp_s1 hF (i := .iadd) rfl (fun _ => rfl) ?_
  refine dp_s2 hF (i := .if_icmp .ge 48) (a := (72, [some (.ref 51), some (.int v1), some (.int v2), some (.int v3), some (.int v4), some (.int v5)], [], M)) (b := (27, [some (.ref 51), some (.int v1), some (.int v2), some (.int v3), some (.int v4), some (.int v5)], [], M)) rfl (fun _ => rfl) ?_ ?_
  · refine dp_s1 hF (i := .iload 4) rfl (fun _ => rfl) ?_
    exact dp_s0 hF (i := .ireturn) rfl (fun _ => rfl)
  refine dp_s1 hF (i := .aload_n 0) rfl (fun _ => rfl) ?_
  refine dp_s1 hF (i := .getfield 51) rfl (fun _ => rfl) ?_
  refine dp_s1 hF (i := .iload 5) rfl (fun _ => rfl) ?_
  refine dp_s3 hF (i := .iaload) rfl (fun _ => rfl) ?_
  refine dp_s1 hF (i := .iload_n 2) rfl (fun _ => rfl) ?_
  refine dp_s2 hF (i := .if_icmp .gt 31) (a := (66, [some (.ref 51), some (.int v1), some (.int v2), some (.int v3), some (.int v4), some (.int v5)], [], M)) (b := (38, [some (.ref 51), some (.int v1), some (.int v2), some (.int v3), some (.int v4), some (.int v5)], [], M)) rfl (fun _ => rfl) ?_ ?_
  · refine dp_s1w (v5 + (1 : Int32)) (fun (y1 : Int32) => (69, [some (.ref 51), some (.int v1), some (.int v2), some (.int v3), some (.int v4), some (.int y1)], [], M)) hF (i := .iinc 5 1) rfl (fun _ => rfl) (fun y1 => ?_)
    refine dp_s1 hF (i := .goto (-58)) rfl (fun _ => rfl) ?_
    exact rfl
  refine dp_s1 hF (i := .aload_n 0) rfl (fun _ => rfl) ?_
  refine dp_s1 hF (i := .getfield 51) rfl (fun _ => rfl) ?_
  refine dp_s1 hF (i := .iload 5) rfl (fun _ => rfl) ?_
  refine dp_s3 hF (i := .iaload) rfl (fun _ => rfl) ?_
  refine dp_s1 hF (i := .iload_n 3) rfl (fun _ => rfl) ?_
  refine dp_s2 hF (i := .if_icmp .lt 20) (a := (66, [some (.ref 51), some (.int v1), some (.int v2), some (.int v3), some (.int v4), some (.int v5)], [], M)) (b := (49, [some (.ref 51), some (.int v1), some (.int v2), some (.int v3), some (.int v4), some (.int v5)], [], M)) rfl (fun _ => rfl) ?_ ?_
  · refine dp_s1w (v5 + (1 : Int32)) (fun (y2 : Int32) => (69, [some (.ref 51), some (.int v1), some (.int v2), some (.int v3), some (.int v4), some (.int y2)], [], M)) hF (i := .iinc 5 1) rfl (fun _ => rfl) (fun y2 => ?_)
    refine dp_s1 hF (i := .goto (-58)) rfl (fun _ => rfl) ?_
    exact rfl
  refine dp_s1 hF (i := .aload_n 0) rfl (fun _ => rfl) ?_
  refine dp_s1 hF (i := .getfield 51) rfl (fun _ => rfl) ?_
  refine dp_s1 hF (i := .iload 5) rfl (fun _ => rfl) ?_
  refine dp_s3 hF (i := .iaload) rfl (fun _ => rfl) ?_
  refine dp_s1w (dp_I M 64 (Int32.toNatClampNeg v5)) (fun (y3 : Int32) => (57, [some (.ref 51), some (.int v1), some (.int v2), some (.int y3), some (.int v4), some (.int v5)], [], M)) hF (i := .istore_n 3) rfl (fun _ => rfl) (fun y3 => ?_)
  refine dp_s1 hF (i := .aload_n 0) rfl (fun _ => rfl) ?_
  refine dp_s1 hF (i := .getfield 48) rfl (fun _ => rfl) ?_
  refine dp_s1 hF (i := .iload 5) rfl (fun _ => rfl) ?_
  refine dp_s3 hF (i := .iaload) rfl (fun _ => rfl) ?_
  refine dp_s1w (dp_I M 63 (Int32.toNatClampNeg v5)) (fun (y4 : Int32) => (66, [some (.ref 51), some (.int v1), some (.int v2), some (.int y3), some (.int y4), some (.int v5)], [], M)) hF (i := .istore 4) rfl (fun _ => rfl) (fun y4 => ?_)
  refine dp_s1w (v5 + (1 : Int32)) (fun (y5 : Int32) => (69, [some (.ref 51), some (.int v1), some (.int v2), some (.int y3), some (.int y4), some (.int y5)], [], M)) hF (i := .iinc 5 1) rfl (fun _ => rfl) (fun y5 => ?_)
  refine dp_s1 hF (i := .goto (-58)) rfl (fun _ => rfl) ?_
  exact rfl
noncomputable def D_X9_lengthOf_0 (xs : Nat → Int32) (xl d : Nat) (v0 : Int32) (M : dp_M) : Option dp_Res := dp_lim true xs xl (dp_den true xs xl d) dp_m_X9_lengthOf (0, [some (.int v0)], [], M)
theorem D_X9_lengthOf_0_den (xs : Nat → Int32) (xl d : Nat) (a0 : Int32) (M : dp_M) : dp_den true xs xl (d + 1) 218 [.int a0] M = D_X9_lengthOf_0 xs xl d a0 M := rfl
set_option maxRecDepth 20000 in
theorem D_X9_lengthOf_0_eq (xs : Nat → Int32) (xl d : Nat) (v0 : Int32) (M : dp_M) : D_X9_lengthOf_0 xs xl d v0 M = if (100 : Int32) ≤ v0 then (if (10000 : Int32) ≤ v0 then (some (.inl (some (.int (6 : Int32))), M)) else (some (.inl (some (.int (4 : Int32))), M))) else (some (.inl (some (.int (2 : Int32))), M)) := by
  have hF := dp_den_grow (md := true) (xs := xs) (xl := xl) d
  unfold D_X9_lengthOf_0
  refine dp_s1 hF (i := .iload_n 0) rfl (fun _ => rfl) ?_
  refine dp_s1 hF (i := .bipush 100) rfl (fun _ => rfl) ?_
  refine dp_s2 hF (i := .if_icmp .ge 5) (a := (8, [some (.int v0)], [], M)) (b := (6, [some (.int v0)], [], M)) rfl (fun _ => rfl) ?_ ?_
  · refine dp_s1 hF (i := .iload_n 0) rfl (fun _ => rfl) ?_
    refine dp_s1 hF (i := .sipush 10000) rfl (fun _ => rfl) ?_
    refine dp_s2 hF (i := .if_icmp .ge 7) (a := (19, [some (.int v0)], [], M)) (b := (15, [some (.int v0)], [], M)) rfl (fun _ => rfl) ?_ ?_
    · refine dp_s1 hF (i := .bipush 6) rfl (fun _ => rfl) ?_
      exact dp_s0 hF (i := .ireturn) rfl (fun _ => rfl)
    refine dp_s1 hF (i := .iconst 4) rfl (fun _ => rfl) ?_
    refine dp_s1 hF (i := .goto 5) rfl (fun _ => rfl) ?_
    exact dp_s0 hF (i := .ireturn) rfl (fun _ => rfl)
  refine dp_s1 hF (i := .iconst 2) rfl (fun _ => rfl) ?_
  exact dp_s0 hF (i := .ireturn) rfl (fun _ => rfl)
noncomputable def D_X9_isUnder_0 (xs : Nat → Int32) (xl d : Nat) (v0 : Int32) (v1 : Int32) (M : dp_M) : Option dp_Res := dp_lim true xs xl (dp_den true xs xl d) dp_m_X9_isUnder (0, [some (.int v0), some (.int v1)], [], M)
theorem D_X9_isUnder_0_den (xs : Nat → Int32) (xl d : Nat) (a0 : Int32) (a1 : Int32) (M : dp_M) : dp_den true xs xl (d + 1) 219 [.int a0, .int a1] M = D_X9_isUnder_0 xs xl d a0 a1 M := rfl
set_option maxRecDepth 20000 in
theorem D_X9_isUnder_0_eq (xs : Nat → Int32) (xl d : Nat) (v0 : Int32) (v1 : Int32) (M : dp_M) : D_X9_isUnder_0 xs xl d v0 v1 M = if (100 : Int32) ≤ v1 then (if (10000 : Int32) ≤ v1 then (if v0 = v1 then (some (.inl (some (.int (1 : Int32))), M)) else (some (.inl (some (.int (0 : Int32))), M))) else (if (v0 / (100 : Int32)) = v1 then (some (.inl (some (.int (1 : Int32))), M)) else (some (.inl (some (.int (0 : Int32))), M)))) else (if (v0 / (10000 : Int32)) = v1 then (some (.inl (some (.int (1 : Int32))), M)) else (some (.inl (some (.int (0 : Int32))), M))) := by
  have hF := dp_den_grow (md := true) (xs := xs) (xl := xl) d
  unfold D_X9_isUnder_0
  refine dp_s1 hF (i := .iload_n 1) rfl (fun _ => rfl) ?_
  refine dp_s1 hF (i := .bipush 100) rfl (fun _ => rfl) ?_
  refine dp_s2 hF (i := .if_icmp .ge 18) (a := (21, [some (.int v0), some (.int v1)], [], M)) (b := (6, [some (.int v0), some (.int v1)], [], M)) rfl (fun _ => rfl) ?_ ?_
  · refine dp_s1 hF (i := .iload_n 1) rfl (fun _ => rfl) ?_
    refine dp_s1 hF (i := .sipush 10000) rfl (fun _ => rfl) ?_
    refine dp_s2 hF (i := .if_icmp .ge 19) (a := (44, [some (.int v0), some (.int v1)], [], M)) (b := (28, [some (.int v0), some (.int v1)], [], M)) rfl (fun _ => rfl) ?_ ?_
    · refine dp_s1 hF (i := .iload_n 0) rfl (fun _ => rfl) ?_
      refine dp_s1 hF (i := .iload_n 1) rfl (fun _ => rfl) ?_
      refine dp_s2 hF (i := .if_icmp .ne 7) (a := (49, [some (.int v0), some (.int v1)], [], M)) (b := (53, [some (.int v0), some (.int v1)], [], M)) rfl (fun _ => rfl) ?_ ?_
      · refine dp_s1 hF (i := .iconst 1) rfl (fun _ => rfl) ?_
        refine dp_s1 hF (i := .goto 4) rfl (fun _ => rfl) ?_
        exact dp_s0 hF (i := .ireturn) rfl (fun _ => rfl)
      refine dp_s1 hF (i := .iconst 0) rfl (fun _ => rfl) ?_
      exact dp_s0 hF (i := .ireturn) rfl (fun _ => rfl)
    refine dp_s1 hF (i := .iload_n 0) rfl (fun _ => rfl) ?_
    refine dp_s1 hF (i := .bipush 100) rfl (fun _ => rfl) ?_
    refine dp_s1 hF (i := .idiv) rfl (fun _ => rfl) ?_
    refine dp_s1 hF (i := .iload_n 1) rfl (fun _ => rfl) ?_
    refine dp_s2 hF (i := .if_icmp .ne 7) (a := (36, [some (.int v0), some (.int v1)], [], M)) (b := (40, [some (.int v0), some (.int v1)], [], M)) rfl (fun _ => rfl) ?_ ?_
    · refine dp_s1 hF (i := .iconst 1) rfl (fun _ => rfl) ?_
      refine dp_s1 hF (i := .goto 17) rfl (fun _ => rfl) ?_
      exact dp_s0 hF (i := .ireturn) rfl (fun _ => rfl)
    refine dp_s1 hF (i := .iconst 0) rfl (fun _ => rfl) ?_
    refine dp_s1 hF (i := .goto 13) rfl (fun _ => rfl) ?_
    exact dp_s0 hF (i := .ireturn) rfl (fun _ => rfl)
  refine dp_s1 hF (i := .iload_n 0) rfl (fun _ => rfl) ?_
  refine dp_s1 hF (i := .sipush 10000) rfl (fun _ => rfl) ?_
  refine dp_s1 hF (i := .idiv) rfl (fun _ => rfl) ?_
  refine dp_s1 hF (i := .iload_n 1) rfl (fun _ => rfl) ?_
  refine dp_s2 hF (i := .if_icmp .ne 7) (a := (15, [some (.int v0), some (.int v1)], [], M)) (b := (19, [some (.int v0), some (.int v1)], [], M)) rfl (fun _ => rfl) ?_ ?_
  · refine dp_s1 hF (i := .iconst 1) rfl (fun _ => rfl) ?_
    refine dp_s1 hF (i := .goto 4) rfl (fun _ => rfl) ?_
    exact dp_s0 hF (i := .ireturn) rfl (fun _ => rfl)
  refine dp_s1 hF (i := .iconst 0) rfl (fun _ => rfl) ?_
  exact dp_s0 hF (i := .ireturn) rfl (fun _ => rfl)
noncomputable def D_X9_isOf_0 (xs : Nat → Int32) (xl d : Nat) (v1 : Int32) (v2 : Int32) (v3 : Int32) (v4 : Int32) (v5 : Int32) (M : dp_M) : Option dp_Res := dp_lim true xs xl (dp_den true xs xl d) dp_m_X9_isOf (0, [some (.ref 51), some (.int v1), some (.int v2), some (.int v3), some (.int v4), some (.int v5)], [], M)
theorem D_X9_isOf_0_den (xs : Nat → Int32) (xl d : Nat) (a0 : Int32) (a1 : Int32) (a2 : Int32) (a3 : Int32) (a4 : Int32) (M : dp_M) : dp_den true xs xl (d + 1) 220 [.ref 51, .int a0, .int a1, .int a2, .int a3, .int a4] M = D_X9_isOf_0 xs xl d a0 a1 a2 a3 a4 M := rfl
set_option maxRecDepth 20000 in
theorem D_X9_isOf_0_eq (xs : Nat → Int32) (xl d : Nat) (v1 : Int32) (v2 : Int32) (v3 : Int32) (v4 : Int32) (v5 : Int32) (M : dp_M) : D_X9_isOf_0 xs xl d v1 v2 v3 v4 v5 M = if (v1 * (8 : Int32)) < 0 ∨ 2408 ≤ Int32.toNatClampNeg (v1 * (8 : Int32)) then none else (if v5 < (dp_I M 64 (Int32.toNatClampNeg (v1 * (8 : Int32)))) then (some (.inl (some (.int (0 : Int32))), M)) else (if v1 < 0 ∨ 301 ≤ Int32.toNatClampNeg v1 then none else (dp_bi (dp_den true xs xl d 219 [.int v2, .int (dp_I M 60 (Int32.toNatClampNeg v1))] M) (fun r2 M1 => if r2 = 0 then (some (.inl (some (.int (0 : Int32))), M1)) else (if v1 < 0 ∨ 301 ≤ Int32.toNatClampNeg v1 then none else (if v4 < (dp_I M1 52 (Int32.toNatClampNeg v1)) then (some (.inl (some (.int (0 : Int32))), M1)) else (dp_bi (dp_den true xs xl d 217 [.ref 51, .int v1, .int v5] M1) (fun r4 M3 => if r4 < v4 then (some (.inl (some (.int (0 : Int32))), M3)) else (dp_bi (dp_den true xs xl d 212 [.ref 51, .int v3, .int v1] M3) (fun r6 M5 => if r6 = 0 then (some (.inl (some (.int (0 : Int32))), M5)) else (some (.inl (some (.int (1 : Int32))), M5)))))))))))) := by
  have hF := dp_den_grow (md := true) (xs := xs) (xl := xl) d
  unfold D_X9_isOf_0
  refine dp_s1 hF (i := .aload_n 0) rfl (fun _ => rfl) ?_
  refine dp_s1 hF (i := .getfield 51) rfl (fun _ => rfl) ?_
  refine dp_s1 hF (i := .iload_n 1) rfl (fun _ => rfl) ?_
  refine dp_s1 hF (i := .bipush 8) rfl (fun _ => rfl) ?_
  refine dp_s1 hF (i := .imul) rfl (fun _ => rfl) ?_
  refine dp_s3 hF (i := .iaload) rfl (fun _ => rfl) ?_
  refine dp_s1 hF (i := .iload 5) rfl (fun _ => rfl) ?_
  refine dp_s2 hF (i := .if_icmp .gt 52) (a := (63, [some (.ref 51), some (.int v1), some (.int v2), some (.int v3), some (.int v4), some (.int v5)], [], M)) (b := (14, [some (.ref 51), some (.int v1), some (.int v2), some (.int v3), some (.int v4), some (.int v5)], [], M)) rfl (fun _ => rfl) ?_ ?_
  · refine dp_s1 hF (i := .iconst 0) rfl (fun _ => rfl) ?_
    exact dp_s0 hF (i := .ireturn) rfl (fun _ => rfl)
  refine dp_s1 hF (i := .iload_n 2) rfl (fun _ => rfl) ?_
  refine dp_s1 hF (i := .aload_n 0) rfl (fun _ => rfl) ?_
  refine dp_s1 hF (i := .getfield 39) rfl (fun _ => rfl) ?_
  refine dp_s1 hF (i := .iload_n 1) rfl (fun _ => rfl) ?_
  refine dp_s3 hF (i := .iaload) rfl (fun _ => rfl) ?_
  refine dp_si (mj := dp_m_X9_isUnder) (i := .invokestatic 90) rfl rfl (Or.inr rfl) rfl (fun _ => rfl) (fun r2 M1 => ?_)
  refine dp_s2 hF (i := .ifCond .eq 39) (a := (63, [some (.ref 51), some (.int v1), some (.int v2), some (.int v3), some (.int v4), some (.int v5)], [], M1)) (b := (27, [some (.ref 51), some (.int v1), some (.int v2), some (.int v3), some (.int v4), some (.int v5)], [], M1)) rfl (fun _ => rfl) ?_ ?_
  · refine dp_s1 hF (i := .iconst 0) rfl (fun _ => rfl) ?_
    exact dp_s0 hF (i := .ireturn) rfl (fun _ => rfl)
  refine dp_s1 hF (i := .aload_n 0) rfl (fun _ => rfl) ?_
  refine dp_s1 hF (i := .getfield 11) rfl (fun _ => rfl) ?_
  refine dp_s1 hF (i := .iload_n 1) rfl (fun _ => rfl) ?_
  refine dp_s3 hF (i := .iaload) rfl (fun _ => rfl) ?_
  refine dp_s1 hF (i := .iload 4) rfl (fun _ => rfl) ?_
  refine dp_s2 hF (i := .if_icmp .gt 28) (a := (63, [some (.ref 51), some (.int v1), some (.int v2), some (.int v3), some (.int v4), some (.int v5)], [], M1)) (b := (38, [some (.ref 51), some (.int v1), some (.int v2), some (.int v3), some (.int v4), some (.int v5)], [], M1)) rfl (fun _ => rfl) ?_ ?_
  · refine dp_s1 hF (i := .iconst 0) rfl (fun _ => rfl) ?_
    exact dp_s0 hF (i := .ireturn) rfl (fun _ => rfl)
  refine dp_s1 hF (i := .iload 4) rfl (fun _ => rfl) ?_
  refine dp_s1 hF (i := .aload_n 0) rfl (fun _ => rfl) ?_
  refine dp_s1 hF (i := .iload_n 1) rfl (fun _ => rfl) ?_
  refine dp_s1 hF (i := .iload 5) rfl (fun _ => rfl) ?_
  refine dp_si (mj := dp_m_X9_lastDay) (i := .invokevirtual 81) rfl rfl (Or.inl rfl) rfl (fun _ => rfl) (fun r4 M3 => ?_)
  refine dp_s2 hF (i := .if_icmp .gt 16) (a := (63, [some (.ref 51), some (.int v1), some (.int v2), some (.int v3), some (.int v4), some (.int v5)], [], M3)) (b := (50, [some (.ref 51), some (.int v1), some (.int v2), some (.int v3), some (.int v4), some (.int v5)], [], M3)) rfl (fun _ => rfl) ?_ ?_
  · refine dp_s1 hF (i := .iconst 0) rfl (fun _ => rfl) ?_
    exact dp_s0 hF (i := .ireturn) rfl (fun _ => rfl)
  refine dp_s1 hF (i := .aload_n 0) rfl (fun _ => rfl) ?_
  refine dp_s1 hF (i := .iload_n 3) rfl (fun _ => rfl) ?_
  refine dp_s1 hF (i := .iload_n 1) rfl (fun _ => rfl) ?_
  refine dp_si (mj := dp_m_X9_isIn) (i := .invokevirtual 93) rfl rfl (Or.inr rfl) rfl (fun _ => rfl) (fun r6 M5 => ?_)
  refine dp_s2 hF (i := .ifCond .eq 7) (a := (63, [some (.ref 51), some (.int v1), some (.int v2), some (.int v3), some (.int v4), some (.int v5)], [], M5)) (b := (59, [some (.ref 51), some (.int v1), some (.int v2), some (.int v3), some (.int v4), some (.int v5)], [], M5)) rfl (fun _ => rfl) ?_ ?_
  · refine dp_s1 hF (i := .iconst 0) rfl (fun _ => rfl) ?_
    exact dp_s0 hF (i := .ireturn) rfl (fun _ => rfl)
  refine dp_s1 hF (i := .iconst 1) rfl (fun _ => rfl) ?_
  refine dp_s1 hF (i := .goto 4) rfl (fun _ => rfl) ?_
  exact dp_s0 hF (i := .ireturn) rfl (fun _ => rfl)
noncomputable def D_X9_hasPapers_0 (xs : Nat → Int32) (xl d : Nat) (v1 : Int32) (M : dp_M) : Option dp_Res := dp_lim true xs xl (dp_den true xs xl d) dp_m_X9_hasPapers (0, [some (.ref 51), some (.int v1)], [], M)
theorem D_X9_hasPapers_0_den (xs : Nat → Int32) (xl d : Nat) (a0 : Int32) (M : dp_M) : dp_den true xs xl (d + 1) 221 [.ref 51, .int a0] M = D_X9_hasPapers_0 xs xl d a0 M := rfl
set_option maxRecDepth 20000 in
theorem D_X9_hasPapers_0_eq (xs : Nat → Int32) (xl d : Nat) (v1 : Int32) (M : dp_M) : D_X9_hasPapers_0 xs xl d v1 M = if v1 < 0 ∨ 301 ≤ Int32.toNatClampNeg v1 then none else (if (dp_I M 56 (Int32.toNatClampNeg v1)) = 0 then (some (.inl (some (.int (1 : Int32))), M)) else (if v1 < 0 ∨ 301 ≤ Int32.toNatClampNeg v1 then none else (if ((dp_I M 56 (Int32.toNatClampNeg v1)) &&& (dp_I M 51 1)) = 0 then (some (.inl (some (.int (0 : Int32))), M)) else (some (.inl (some (.int (1 : Int32))), M))))) := by
  have hF := dp_den_grow (md := true) (xs := xs) (xl := xl) d
  unfold D_X9_hasPapers_0
  refine dp_s1 hF (i := .aload_n 0) rfl (fun _ => rfl) ?_
  refine dp_s1 hF (i := .getfield 24) rfl (fun _ => rfl) ?_
  refine dp_s1 hF (i := .iload_n 1) rfl (fun _ => rfl) ?_
  refine dp_s3 hF (i := .iaload) rfl (fun _ => rfl) ?_
  refine dp_s2 hF (i := .ifCond .eq 17) (a := (23, [some (.ref 51), some (.int v1)], [], M)) (b := (9, [some (.ref 51), some (.int v1)], [], M)) rfl (fun _ => rfl) ?_ ?_
  · refine dp_s1 hF (i := .iconst 1) rfl (fun _ => rfl) ?_
    refine dp_s1 hF (i := .goto 4) rfl (fun _ => rfl) ?_
    exact dp_s0 hF (i := .ireturn) rfl (fun _ => rfl)
  refine dp_s1 hF (i := .aload_n 0) rfl (fun _ => rfl) ?_
  refine dp_s1 hF (i := .getfield 24) rfl (fun _ => rfl) ?_
  refine dp_s1 hF (i := .iload_n 1) rfl (fun _ => rfl) ?_
  refine dp_s3 hF (i := .iaload) rfl (fun _ => rfl) ?_
  refine dp_s1 hF (i := .aload_n 0) rfl (fun _ => rfl) ?_
  refine dp_s1 hF (i := .getfield 96) rfl (fun _ => rfl) ?_
  refine dp_s1 hF (i := .iand) rfl (fun _ => rfl) ?_
  refine dp_s2 hF (i := .ifCond .eq 7) (a := (27, [some (.ref 51), some (.int v1)], [], M)) (b := (23, [some (.ref 51), some (.int v1)], [], M)) rfl (fun _ => rfl) ?_ ?_
  · refine dp_s1 hF (i := .iconst 0) rfl (fun _ => rfl) ?_
    exact dp_s0 hF (i := .ireturn) rfl (fun _ => rfl)
  refine dp_s1 hF (i := .iconst 1) rfl (fun _ => rfl) ?_
  refine dp_s1 hF (i := .goto 4) rfl (fun _ => rfl) ?_
  exact dp_s0 hF (i := .ireturn) rfl (fun _ => rfl)
noncomputable def D_X9_strengthOf_0 (xs : Nat → Int32) (xl d : Nat) (v1 : Int32) (M : dp_M) : Option dp_Res := dp_lim true xs xl (dp_den true xs xl d) dp_m_X9_strengthOf (0, [some (.ref 51), some (.int v1)], [], M)
theorem D_X9_strengthOf_0_den (xs : Nat → Int32) (xl d : Nat) (a0 : Int32) (M : dp_M) : dp_den true xs xl (d + 1) 222 [.ref 51, .int a0] M = D_X9_strengthOf_0 xs xl d a0 M := rfl
set_option maxRecDepth 20000 in
theorem D_X9_strengthOf_0_eq (xs : Nat → Int32) (xl d : Nat) (v1 : Int32) (M : dp_M) : D_X9_strengthOf_0 xs xl d v1 M = if v1 < 0 ∨ 301 ≤ Int32.toNatClampNeg v1 then none else (dp_bi (dp_den true xs xl d 218 [.int (dp_I M 60 (Int32.toNatClampNeg v1))] M) (fun r2 M1 => if v1 < 0 ∨ 301 ≤ Int32.toNatClampNeg v1 then none else (some (.inl (some (.int (((10 : Int32) * r2) + (dp_I M1 62 (Int32.toNatClampNeg v1))))), M1)))) := by
  have hF := dp_den_grow (md := true) (xs := xs) (xl := xl) d
  unfold D_X9_strengthOf_0
  refine dp_s1 hF (i := .bipush 10) rfl (fun _ => rfl) ?_
  refine dp_s1 hF (i := .aload_n 0) rfl (fun _ => rfl) ?_
  refine dp_s1 hF (i := .getfield 39) rfl (fun _ => rfl) ?_
  refine dp_s1 hF (i := .iload_n 1) rfl (fun _ => rfl) ?_
  refine dp_s3 hF (i := .iaload) rfl (fun _ => rfl) ?_
  refine dp_si (mj := dp_m_X9_lengthOf) (i := .invokestatic 99) rfl rfl (Or.inl rfl) rfl (fun _ => rfl) (fun r2 M1 => ?_)
  refine dp_s1 hF (i := .imul) rfl (fun _ => rfl) ?_
  refine dp_s1 hF (i := .aload_n 0) rfl (fun _ => rfl) ?_
  refine dp_s1 hF (i := .getfield 45) rfl (fun _ => rfl) ?_
  refine dp_s1 hF (i := .iload_n 1) rfl (fun _ => rfl) ?_
  refine dp_s3 hF (i := .iaload) rfl (fun _ => rfl) ?_
  refine dp_s1 hF (i := .iadd) rfl (fun _ => rfl) ?_
  exact dp_s0 hF (i := .ireturn) rfl (fun _ => rfl)
noncomputable def D_X9_find_0 (xs : Nat → Int32) (xl d : Nat) (v1 : Int32) (v2 : Int32) (v3 : Int32) (v4 : Int32) (M : dp_M) : Option dp_Res := dp_lim true xs xl (dp_den true xs xl d) dp_m_X9_find (0, [some (.ref 51), some (.int v1), some (.int v2), some (.int v3), some (.int v4), none, none], [], M)
noncomputable def D_X9_find_11 (xs : Nat → Int32) (xl d : Nat) (v1 : Int32) (v2 : Int32) (v3 : Int32) (v4 : Int32) (v5 : Int32) (M : dp_M) : Option dp_Res := dp_lim true xs xl (dp_den true xs xl d) dp_m_X9_find (11, [some (.ref 51), some (.int v1), some (.int v2), some (.int v3), some (.int v4), some (.int v5), none], [], M)
noncomputable def D_X9_find_123 (xs : Nat → Int32) (xl d : Nat) (v1 : Int32) (v2 : Int32) (v3 : Int32) (v4 : Int32) (v5 : Int32) (M : dp_M) : Option dp_Res := dp_lim true xs xl (dp_den true xs xl d) dp_m_X9_find (123, [some (.ref 51), some (.int v1), some (.int v2), some (.int v3), some (.int v4), some (.int v5), none], [], M)
noncomputable def D_X9_find_54 (xs : Nat → Int32) (xl d : Nat) (v1 : Int32) (v2 : Int32) (v3 : Int32) (v4 : Int32) (v5 : Int32) (vs0 : Int32) (vs1 : Int32) (M : dp_M) : Option dp_Res := dp_lim true xs xl (dp_den true xs xl d) dp_m_X9_find (54, [some (.ref 51), some (.int v1), some (.int v2), some (.int v3), some (.int v4), some (.int v5), none], [.int vs0, .int vs1, .ref 67], M)
noncomputable def D_X9_find_133 (xs : Nat → Int32) (xl d : Nat) (v1 : Int32) (v2 : Int32) (v3 : Int32) (v4 : Int32) (v5 : Int32) (v6 : Int32) (M : dp_M) : Option dp_Res := dp_lim true xs xl (dp_den true xs xl d) dp_m_X9_find (133, [some (.ref 51), some (.int v1), some (.int v2), some (.int v3), some (.int v4), some (.int v5), some (.int v6)], [], M)
noncomputable def D_X9_find_123_a (xs : Nat → Int32) (xl d : Nat) (v1 : Int32) (v2 : Int32) (v3 : Int32) (v4 : Int32) (v5 : Int32) (v6 : Int32) (M : dp_M) : Option dp_Res := dp_lim true xs xl (dp_den true xs xl d) dp_m_X9_find (123, [some (.ref 51), some (.int v1), some (.int v2), some (.int v3), some (.int v4), some (.int v5), some (.int v6)], [], M)
theorem D_X9_find_0_den (xs : Nat → Int32) (xl d : Nat) (a0 : Int32) (a1 : Int32) (a2 : Int32) (a3 : Int32) (M : dp_M) : dp_den true xs xl (d + 1) 223 [.ref 51, .int a0, .int a1, .int a2, .int a3] M = D_X9_find_0 xs xl d a0 a1 a2 a3 M := rfl
set_option maxRecDepth 20000 in
theorem D_X9_find_0_eq (xs : Nat → Int32) (xl d : Nat) (v1 : Int32) (v2 : Int32) (v3 : Int32) (v4 : Int32) (M : dp_M) : D_X9_find_0 xs xl d v1 v2 v3 v4 M = dp_bv (dp_den true xs xl d 593 [.ref 66, .int (0 : Int32)] M) (fun M1 => dp_w (1 : Int32) (fun y2 => D_X9_find_11 xs xl d v1 v2 v3 v4 y2 M1)) := by
  have hF := dp_den_grow (md := true) (xs := xs) (xl := xl) d
  unfold D_X9_find_0
  refine dp_s1 hF (i := .aload_n 0) rfl (fun _ => rfl) ?_
  refine dp_s1 hF (i := .getfield 57) rfl (fun _ => rfl) ?_
  refine dp_s1 hF (i := .iconst 0) rfl (fun _ => rfl) ?_
  refine dp_sv (mj := dp_m_J7_fill_53178) (i := .invokestatic 102) rfl rfl rfl rfl (fun _ => rfl) (fun M1 => ?_)
  refine dp_s1 hF (i := .iconst 1) rfl (fun _ => rfl) ?_
  refine dp_s1w (1 : Int32) (fun (y2 : Int32) => (11, [some (.ref 51), some (.int v1), some (.int v2), some (.int v3), some (.int v4), some (.int y2), none], [], M1)) hF (i := .istore 5) rfl (fun _ => rfl) (fun y2 => ?_)
  exact rfl
set_option maxRecDepth 20000 in
theorem D_X9_find_11_eq (xs : Nat → Int32) (xl d : Nat) (v1 : Int32) (v2 : Int32) (v3 : Int32) (v4 : Int32) (v5 : Int32) (M : dp_M) : D_X9_find_11 xs xl d v1 v2 v3 v4 v5 M = if (dp_I M 51 0) < v5 then (dp_w (dp_setI M 51 3 (0 : Int32)) (fun M1 => dp_w (0 : Int32) (fun y2 => D_X9_find_123 xs xl d v1 v2 v3 v4 y2 M1))) else (dp_bi (dp_den true xs xl d 220 [.ref 51, .int v5, .int v1, .int v2, .int v3, .int v4] M) (fun r4 M3 => if r4 = 0 then (D_X9_find_54 xs xl d v1 v2 v3 v4 v5 (0 : Int32) v5 M3) else (dp_bi (dp_den true xs xl d 221 [.ref 51, .int v5] M3) (fun r6 M5 => if r6 = 0 then (D_X9_find_54 xs xl d v1 v2 v3 v4 v5 (0 : Int32) v5 M5) else (D_X9_find_54 xs xl d v1 v2 v3 v4 v5 (1 : Int32) v5 M5))))) := by
  have hF := dp_den_grow (md := true) (xs := xs) (xl := xl) d
  unfold D_X9_find_11
  refine dp_s1 hF (i := .iload 5) rfl (fun _ => rfl) ?_
  refine dp_s1 hF (i := .aload_n 0) rfl (fun _ => rfl) ?_
  refine dp_s1 hF (i := .getfield 69) rfl (fun _ => rfl) ?_
  refine dp_s2 hF (i := .if_icmp .gt 98) (a := (115, [some (.ref 51), some (.int v1), some (.int v2), some (.int v3), some (.int v4), some (.int v5), none], [], M)) (b := (20, [some (.ref 51), some (.int v1), some (.int v2), some (.int v3), some (.int v4), some (.int v5), none], [], M)) rfl (fun _ => rfl) ?_ ?_
  · refine dp_s1 hF (i := .aload_n 0) rfl (fun _ => rfl) ?_
    refine dp_s1 hF (i := .iconst 0) rfl (fun _ => rfl) ?_
    refine dp_s1w (dp_setI M 51 3 (0 : Int32)) (fun (M1 : dp_M) => (120, [some (.ref 51), some (.int v1), some (.int v2), some (.int v3), some (.int v4), some (.int v5), none], [], M1)) hF (i := .putfield 124) rfl (fun _ => rfl) (fun M1 => ?_)
    refine dp_s1 hF (i := .iconst 0) rfl (fun _ => rfl) ?_
    refine dp_s1w (0 : Int32) (fun (y2 : Int32) => (123, [some (.ref 51), some (.int v1), some (.int v2), some (.int v3), some (.int v4), some (.int y2), none], [], M1)) hF (i := .istore 5) rfl (fun _ => rfl) (fun y2 => ?_)
    exact rfl
  refine dp_s1 hF (i := .aload_n 0) rfl (fun _ => rfl) ?_
  refine dp_s1 hF (i := .getfield 60) rfl (fun _ => rfl) ?_
  refine dp_s1 hF (i := .iload 5) rfl (fun _ => rfl) ?_
  refine dp_s1 hF (i := .aload_n 0) rfl (fun _ => rfl) ?_
  refine dp_s1 hF (i := .iload 5) rfl (fun _ => rfl) ?_
  refine dp_s1 hF (i := .iload_n 1) rfl (fun _ => rfl) ?_
  refine dp_s1 hF (i := .iload_n 2) rfl (fun _ => rfl) ?_
  refine dp_s1 hF (i := .iload_n 3) rfl (fun _ => rfl) ?_
  refine dp_s1 hF (i := .iload 4) rfl (fun _ => rfl) ?_
  refine dp_si (mj := dp_m_X9_isOf) (i := .invokevirtual 108) rfl rfl (Or.inr rfl) rfl (fun _ => rfl) (fun r4 M3 => ?_)
  refine dp_s2 hF (i := .ifCond .eq 16) (a := (53, [some (.ref 51), some (.int v1), some (.int v2), some (.int v3), some (.int v4), some (.int v5), none], [.int v5, .ref 67], M3)) (b := (40, [some (.ref 51), some (.int v1), some (.int v2), some (.int v3), some (.int v4), some (.int v5), none], [.int v5, .ref 67], M3)) rfl (fun _ => rfl) ?_ ?_
  · refine dp_s1 hF (i := .iconst 0) rfl (fun _ => rfl) ?_
    exact rfl
  refine dp_s1 hF (i := .aload_n 0) rfl (fun _ => rfl) ?_
  refine dp_s1 hF (i := .iload 5) rfl (fun _ => rfl) ?_
  refine dp_si (mj := dp_m_X9_hasPapers) (i := .invokevirtual 112) rfl rfl (Or.inr rfl) rfl (fun _ => rfl) (fun r6 M5 => ?_)
  refine dp_s2 hF (i := .ifCond .eq 7) (a := (53, [some (.ref 51), some (.int v1), some (.int v2), some (.int v3), some (.int v4), some (.int v5), none], [.int v5, .ref 67], M5)) (b := (49, [some (.ref 51), some (.int v1), some (.int v2), some (.int v3), some (.int v4), some (.int v5), none], [.int v5, .ref 67], M5)) rfl (fun _ => rfl) ?_ ?_
  · refine dp_s1 hF (i := .iconst 0) rfl (fun _ => rfl) ?_
    exact rfl
  refine dp_s1 hF (i := .iconst 1) rfl (fun _ => rfl) ?_
  refine dp_s1 hF (i := .goto 4) rfl (fun _ => rfl) ?_
  exact rfl
set_option maxRecDepth 20000 in
theorem D_X9_find_123_eq (xs : Nat → Int32) (xl d : Nat) (v1 : Int32) (v2 : Int32) (v3 : Int32) (v4 : Int32) (v5 : Int32) (M : dp_M) : D_X9_find_123 xs xl d v1 v2 v3 v4 v5 M = if (8 : Int32) ≤ v5 then (some (.inl (some (.int (dp_I M 51 3))), M)) else (dp_w (1 : Int32) (fun y1 => D_X9_find_133 xs xl d v1 v2 v3 v4 v5 y1 M)) := by
  have hF := dp_den_grow (md := true) (xs := xs) (xl := xl) d
  unfold D_X9_find_123
  refine dp_s1 hF (i := .iload 5) rfl (fun _ => rfl) ?_
  refine dp_s1 hF (i := .bipush 8) rfl (fun _ => rfl) ?_
  refine dp_s2 hF (i := .if_icmp .ge 86) (a := (213, [some (.ref 51), some (.int v1), some (.int v2), some (.int v3), some (.int v4), some (.int v5), none], [], M)) (b := (130, [some (.ref 51), some (.int v1), some (.int v2), some (.int v3), some (.int v4), some (.int v5), none], [], M)) rfl (fun _ => rfl) ?_ ?_
  · refine dp_s1 hF (i := .aload_n 0) rfl (fun _ => rfl) ?_
    refine dp_s1 hF (i := .getfield 124) rfl (fun _ => rfl) ?_
    exact dp_s0 hF (i := .ireturn) rfl (fun _ => rfl)
  refine dp_s1 hF (i := .iconst 1) rfl (fun _ => rfl) ?_
  refine dp_s1w (1 : Int32) (fun (y1 : Int32) => (133, [some (.ref 51), some (.int v1), some (.int v2), some (.int v3), some (.int v4), some (.int v5), some (.int y1)], [], M)) hF (i := .istore 6) rfl (fun _ => rfl) (fun y1 => ?_)
  exact rfl
set_option maxRecDepth 20000 in
theorem D_X9_find_54_eq (xs : Nat → Int32) (xl d : Nat) (v1 : Int32) (v2 : Int32) (v3 : Int32) (v4 : Int32) (v5 : Int32) (vs0 : Int32) (vs1 : Int32) (M : dp_M) : D_X9_find_54 xs xl d v1 v2 v3 v4 v5 vs0 vs1 M = if vs1 < 0 ∨ 301 ≤ Int32.toNatClampNeg vs1 then none else dp_w (dp_setI M 67 (Int32.toNatClampNeg vs1) (vs0 &&& 1)) (fun M1 => if v5 < 0 ∨ 301 ≤ Int32.toNatClampNeg v5 then none else (if (dp_I M1 67 (Int32.toNatClampNeg v5)) = 0 then (dp_w (v5 + (1 : Int32)) (fun y2 => D_X9_find_11 xs xl d v1 v2 v3 v4 y2 M1)) else (if v5 < 0 ∨ 301 ≤ Int32.toNatClampNeg v5 then none else (if (4 : Int32) ≤ (dp_I M1 53 (Int32.toNatClampNeg v5)) then (dp_w (v5 + (1 : Int32)) (fun y3 => D_X9_find_11 xs xl d v1 v2 v3 v4 y3 M1)) else (if v5 < 0 ∨ 301 ≤ Int32.toNatClampNeg v5 then none else (if v5 < 0 ∨ 301 ≤ Int32.toNatClampNeg v5 then none else (if (dp_I M1 53 (Int32.toNatClampNeg v5)) < 0 ∨ 8 ≤ Int32.toNatClampNeg (dp_I M1 53 (Int32.toNatClampNeg v5)) then none else (dp_bi (dp_den true xs xl d 222 [.ref 51, .int v5] M1) (fun r5 M4 => if (dp_I M1 53 (Int32.toNatClampNeg v5)) < 0 ∨ 8 ≤ Int32.toNatClampNeg (dp_I M1 53 (Int32.toNatClampNeg v5)) then none else dp_w (dp_setI M4 66 (Int32.toNatClampNeg (dp_I M1 53 (Int32.toNatClampNeg v5))) (if (dp_I M1 66 (Int32.toNatClampNeg (dp_I M1 53 (Int32.toNatClampNeg v5)))) < r5 then r5 else (dp_I M1 66 (Int32.toNatClampNeg (dp_I M1 53 (Int32.toNatClampNeg v5)))))) (fun M6 => dp_w (v5 + (1 : Int32)) (fun y7 => D_X9_find_11 xs xl d v1 v2 v3 v4 y7 M6))))))))))) := by
  have hF := dp_den_grow (md := true) (xs := xs) (xl := xl) d
  unfold D_X9_find_54
  refine dp_s3w (dp_setI M 67 (Int32.toNatClampNeg vs1) (vs0 &&& 1)) (fun (M1 : dp_M) => (55, [some (.ref 51), some (.int v1), some (.int v2), some (.int v3), some (.int v4), some (.int v5), none], [], M1)) hF (i := .bastore) rfl (fun _ => rfl) (fun M1 => ?_)
  refine dp_s1 hF (i := .aload_n 0) rfl (fun _ => rfl) ?_
  refine dp_s1 hF (i := .getfield 60) rfl (fun _ => rfl) ?_
  refine dp_s1 hF (i := .iload 5) rfl (fun _ => rfl) ?_
  refine dp_s3 hF (i := .baload) rfl (fun _ => rfl) ?_
  refine dp_s2 hF (i := .ifCond .eq 47) (a := (109, [some (.ref 51), some (.int v1), some (.int v2), some (.int v3), some (.int v4), some (.int v5), none], [], M1)) (b := (65, [some (.ref 51), some (.int v1), some (.int v2), some (.int v3), some (.int v4), some (.int v5), none], [], M1)) rfl (fun _ => rfl) ?_ ?_
  · refine dp_s1w (v5 + (1 : Int32)) (fun (y2 : Int32) => (112, [some (.ref 51), some (.int v1), some (.int v2), some (.int v3), some (.int v4), some (.int y2), none], [], M1)) hF (i := .iinc 5 1) rfl (fun _ => rfl) (fun y2 => ?_)
    refine dp_s1 hF (i := .goto (-101)) rfl (fun _ => rfl) ?_
    exact rfl
  refine dp_s1 hF (i := .aload_n 0) rfl (fun _ => rfl) ?_
  refine dp_s1 hF (i := .getfield 15) rfl (fun _ => rfl) ?_
  refine dp_s1 hF (i := .iload 5) rfl (fun _ => rfl) ?_
  refine dp_s3 hF (i := .iaload) rfl (fun _ => rfl) ?_
  refine dp_s1 hF (i := .iconst 4) rfl (fun _ => rfl) ?_
  refine dp_s2 hF (i := .if_icmp .ge 36) (a := (109, [some (.ref 51), some (.int v1), some (.int v2), some (.int v3), some (.int v4), some (.int v5), none], [], M1)) (b := (76, [some (.ref 51), some (.int v1), some (.int v2), some (.int v3), some (.int v4), some (.int v5), none], [], M1)) rfl (fun _ => rfl) ?_ ?_
  · refine dp_s1w (v5 + (1 : Int32)) (fun (y3 : Int32) => (112, [some (.ref 51), some (.int v1), some (.int v2), some (.int v3), some (.int v4), some (.int y3), none], [], M1)) hF (i := .iinc 5 1) rfl (fun _ => rfl) (fun y3 => ?_)
    refine dp_s1 hF (i := .goto (-101)) rfl (fun _ => rfl) ?_
    exact rfl
  refine dp_s1 hF (i := .aload_n 0) rfl (fun _ => rfl) ?_
  refine dp_s1 hF (i := .getfield 57) rfl (fun _ => rfl) ?_
  refine dp_s1 hF (i := .aload_n 0) rfl (fun _ => rfl) ?_
  refine dp_s1 hF (i := .getfield 15) rfl (fun _ => rfl) ?_
  refine dp_s1 hF (i := .iload 5) rfl (fun _ => rfl) ?_
  refine dp_s3 hF (i := .iaload) rfl (fun _ => rfl) ?_
  refine dp_s1 hF (i := .aload_n 0) rfl (fun _ => rfl) ?_
  refine dp_s1 hF (i := .getfield 57) rfl (fun _ => rfl) ?_
  refine dp_s1 hF (i := .aload_n 0) rfl (fun _ => rfl) ?_
  refine dp_s1 hF (i := .getfield 15) rfl (fun _ => rfl) ?_
  refine dp_s1 hF (i := .iload 5) rfl (fun _ => rfl) ?_
  refine dp_s3 hF (i := .iaload) rfl (fun _ => rfl) ?_
  refine dp_s3 hF (i := .iaload) rfl (fun _ => rfl) ?_
  refine dp_s1 hF (i := .aload_n 0) rfl (fun _ => rfl) ?_
  refine dp_s1 hF (i := .iload 5) rfl (fun _ => rfl) ?_
  refine dp_si (mj := dp_m_X9_strengthOf) (i := .invokevirtual 116) rfl rfl (Or.inl rfl) rfl (fun _ => rfl) (fun r5 M4 => ?_)
  refine dp_s1 hF (i := .invokestatic 119) rfl (fun _ => rfl) ?_
  refine dp_s3w (dp_setI M4 66 (Int32.toNatClampNeg (dp_I M1 53 (Int32.toNatClampNeg v5))) (if (dp_I M1 66 (Int32.toNatClampNeg (dp_I M1 53 (Int32.toNatClampNeg v5)))) < r5 then r5 else (dp_I M1 66 (Int32.toNatClampNeg (dp_I M1 53 (Int32.toNatClampNeg v5)))))) (fun (M6 : dp_M) => (109, [some (.ref 51), some (.int v1), some (.int v2), some (.int v3), some (.int v4), some (.int v5), none], [], M6)) hF (i := .iastore) rfl (fun _ => rfl) (fun M6 => ?_)
  refine dp_s1w (v5 + (1 : Int32)) (fun (y7 : Int32) => (112, [some (.ref 51), some (.int v1), some (.int v2), some (.int v3), some (.int v4), some (.int y7), none], [], M6)) hF (i := .iinc 5 1) rfl (fun _ => rfl) (fun y7 => ?_)
  refine dp_s1 hF (i := .goto (-101)) rfl (fun _ => rfl) ?_
  exact rfl
set_option maxRecDepth 20000 in
theorem D_X9_find_133_eq (xs : Nat → Int32) (xl d : Nat) (v1 : Int32) (v2 : Int32) (v3 : Int32) (v4 : Int32) (v5 : Int32) (v6 : Int32) (M : dp_M) : D_X9_find_133 xs xl d v1 v2 v3 v4 v5 v6 M = if (dp_I M 51 0) < v6 then (dp_w (v5 + (1 : Int32)) (fun y1 => D_X9_find_123_a xs xl d v1 v2 v3 v4 y1 v6 M)) else (if v6 < 0 ∨ 301 ≤ Int32.toNatClampNeg v6 then none else (if (dp_I M 53 (Int32.toNatClampNeg v6)) = v5 then (if v6 < 0 ∨ 301 ≤ Int32.toNatClampNeg v6 then none else (if (dp_I M 67 (Int32.toNatClampNeg v6)) = 0 then (dp_w (v6 + (1 : Int32)) (fun y2 => D_X9_find_133 xs xl d v1 v2 v3 v4 v5 y2 M)) else (dp_bi (dp_den true xs xl d 222 [.ref 51, .int v6] M) (fun r4 M3 => if v5 < 0 ∨ 8 ≤ Int32.toNatClampNeg v5 then none else (if r4 < (dp_I M3 66 (Int32.toNatClampNeg v5)) then (dp_w (v6 + (1 : Int32)) (fun y5 => D_X9_find_133 xs xl d v1 v2 v3 v4 v5 y5 M3)) else (if (dp_I M3 51 3) < 0 ∨ 300 ≤ Int32.toNatClampNeg (dp_I M3 51 3) then none else dp_w (dp_setI M3 58 (Int32.toNatClampNeg (dp_I M3 51 3)) v6) (fun M6 => dp_w (dp_setI M6 51 3 ((dp_I M6 51 3) + (1 : Int32))) (fun M7 => dp_w (v6 + (1 : Int32)) (fun y8 => D_X9_find_133 xs xl d v1 v2 v3 v4 v5 y8 M7))))))))) else (dp_w (v6 + (1 : Int32)) (fun y9 => D_X9_find_133 xs xl d v1 v2 v3 v4 v5 y9 M)))) := by
  have hF := dp_den_grow (md := true) (xs := xs) (xl := xl) d
  unfold D_X9_find_133
  refine dp_s1 hF (i := .iload 6) rfl (fun _ => rfl) ?_
  refine dp_s1 hF (i := .aload_n 0) rfl (fun _ => rfl) ?_
  refine dp_s1 hF (i := .getfield 69) rfl (fun _ => rfl) ?_
  refine dp_s2 hF (i := .if_icmp .gt 68) (a := (207, [some (.ref 51), some (.int v1), some (.int v2), some (.int v3), some (.int v4), some (.int v5), some (.int v6)], [], M)) (b := (142, [some (.ref 51), some (.int v1), some (.int v2), some (.int v3), some (.int v4), some (.int v5), some (.int v6)], [], M)) rfl (fun _ => rfl) ?_ ?_
  · refine dp_s1w (v5 + (1 : Int32)) (fun (y1 : Int32) => (210, [some (.ref 51), some (.int v1), some (.int v2), some (.int v3), some (.int v4), some (.int y1), some (.int v6)], [], M)) hF (i := .iinc 5 1) rfl (fun _ => rfl) (fun y1 => ?_)
    refine dp_s1 hF (i := .goto (-87)) rfl (fun _ => rfl) ?_
    exact rfl
  refine dp_s1 hF (i := .aload_n 0) rfl (fun _ => rfl) ?_
  refine dp_s1 hF (i := .getfield 15) rfl (fun _ => rfl) ?_
  refine dp_s1 hF (i := .iload 6) rfl (fun _ => rfl) ?_
  refine dp_s3 hF (i := .iaload) rfl (fun _ => rfl) ?_
  refine dp_s1 hF (i := .iload 5) rfl (fun _ => rfl) ?_
  refine dp_s2 hF (i := .if_icmp .ne 50) (a := (154, [some (.ref 51), some (.int v1), some (.int v2), some (.int v3), some (.int v4), some (.int v5), some (.int v6)], [], M)) (b := (201, [some (.ref 51), some (.int v1), some (.int v2), some (.int v3), some (.int v4), some (.int v5), some (.int v6)], [], M)) rfl (fun _ => rfl) ?_ ?_
  · refine dp_s1 hF (i := .aload_n 0) rfl (fun _ => rfl) ?_
    refine dp_s1 hF (i := .getfield 60) rfl (fun _ => rfl) ?_
    refine dp_s1 hF (i := .iload 6) rfl (fun _ => rfl) ?_
    refine dp_s3 hF (i := .baload) rfl (fun _ => rfl) ?_
    refine dp_s2 hF (i := .ifCond .eq 40) (a := (201, [some (.ref 51), some (.int v1), some (.int v2), some (.int v3), some (.int v4), some (.int v5), some (.int v6)], [], M)) (b := (164, [some (.ref 51), some (.int v1), some (.int v2), some (.int v3), some (.int v4), some (.int v5), some (.int v6)], [], M)) rfl (fun _ => rfl) ?_ ?_
    · refine dp_s1w (v6 + (1 : Int32)) (fun (y2 : Int32) => (204, [some (.ref 51), some (.int v1), some (.int v2), some (.int v3), some (.int v4), some (.int v5), some (.int y2)], [], M)) hF (i := .iinc 6 1) rfl (fun _ => rfl) (fun y2 => ?_)
      refine dp_s1 hF (i := .goto (-71)) rfl (fun _ => rfl) ?_
      exact rfl
    refine dp_s1 hF (i := .aload_n 0) rfl (fun _ => rfl) ?_
    refine dp_s1 hF (i := .iload 6) rfl (fun _ => rfl) ?_
    refine dp_si (mj := dp_m_X9_strengthOf) (i := .invokevirtual 116) rfl rfl (Or.inl rfl) rfl (fun _ => rfl) (fun r4 M3 => ?_)
    refine dp_s1 hF (i := .aload_n 0) rfl (fun _ => rfl) ?_
    refine dp_s1 hF (i := .getfield 57) rfl (fun _ => rfl) ?_
    refine dp_s1 hF (i := .iload 5) rfl (fun _ => rfl) ?_
    refine dp_s3 hF (i := .iaload) rfl (fun _ => rfl) ?_
    refine dp_s2 hF (i := .if_icmp .lt 24) (a := (201, [some (.ref 51), some (.int v1), some (.int v2), some (.int v3), some (.int v4), some (.int v5), some (.int v6)], [], M3)) (b := (180, [some (.ref 51), some (.int v1), some (.int v2), some (.int v3), some (.int v4), some (.int v5), some (.int v6)], [], M3)) rfl (fun _ => rfl) ?_ ?_
    · refine dp_s1w (v6 + (1 : Int32)) (fun (y5 : Int32) => (204, [some (.ref 51), some (.int v1), some (.int v2), some (.int v3), some (.int v4), some (.int v5), some (.int y5)], [], M3)) hF (i := .iinc 6 1) rfl (fun _ => rfl) (fun y5 => ?_)
      refine dp_s1 hF (i := .goto (-71)) rfl (fun _ => rfl) ?_
      exact rfl
    refine dp_s1 hF (i := .aload_n 0) rfl (fun _ => rfl) ?_
    refine dp_s1 hF (i := .getfield 30) rfl (fun _ => rfl) ?_
    refine dp_s1 hF (i := .aload_n 0) rfl (fun _ => rfl) ?_
    refine dp_s1 hF (i := .getfield 124) rfl (fun _ => rfl) ?_
    refine dp_s1 hF (i := .iload 6) rfl (fun _ => rfl) ?_
    refine dp_s3w (dp_setI M3 58 (Int32.toNatClampNeg (dp_I M3 51 3)) v6) (fun (M6 : dp_M) => (191, [some (.ref 51), some (.int v1), some (.int v2), some (.int v3), some (.int v4), some (.int v5), some (.int v6)], [], M6)) hF (i := .iastore) rfl (fun _ => rfl) (fun M6 => ?_)
    refine dp_s1 hF (i := .aload_n 0) rfl (fun _ => rfl) ?_
    refine dp_s1 hF (i := .dup) rfl (fun _ => rfl) ?_
    refine dp_s1 hF (i := .getfield 124) rfl (fun _ => rfl) ?_
    refine dp_s1 hF (i := .iconst 1) rfl (fun _ => rfl) ?_
    refine dp_s1 hF (i := .iadd) rfl (fun _ => rfl) ?_
    refine dp_s1w (dp_setI M6 51 3 ((dp_I M6 51 3) + (1 : Int32))) (fun (M7 : dp_M) => (201, [some (.ref 51), some (.int v1), some (.int v2), some (.int v3), some (.int v4), some (.int v5), some (.int v6)], [], M7)) hF (i := .putfield 124) rfl (fun _ => rfl) (fun M7 => ?_)
    refine dp_s1w (v6 + (1 : Int32)) (fun (y8 : Int32) => (204, [some (.ref 51), some (.int v1), some (.int v2), some (.int v3), some (.int v4), some (.int v5), some (.int y8)], [], M7)) hF (i := .iinc 6 1) rfl (fun _ => rfl) (fun y8 => ?_)
    refine dp_s1 hF (i := .goto (-71)) rfl (fun _ => rfl) ?_
    exact rfl
  refine dp_s1w (v6 + (1 : Int32)) (fun (y9 : Int32) => (204, [some (.ref 51), some (.int v1), some (.int v2), some (.int v3), some (.int v4), some (.int v5), some (.int y9)], [], M)) hF (i := .iinc 6 1) rfl (fun _ => rfl) (fun y9 => ?_)
  refine dp_s1 hF (i := .goto (-71)) rfl (fun _ => rfl) ?_
  exact rfl
set_option maxRecDepth 20000 in
theorem D_X9_find_123_a_eq (xs : Nat → Int32) (xl d : Nat) (v1 : Int32) (v2 : Int32) (v3 : Int32) (v4 : Int32) (v5 : Int32) (v6 : Int32) (M : dp_M) : D_X9_find_123_a xs xl d v1 v2 v3 v4 v5 v6 M = if (8 : Int32) ≤ v5 then (some (.inl (some (.int (dp_I M 51 3))), M)) else (dp_w (1 : Int32) (fun y1 => D_X9_find_133 xs xl d v1 v2 v3 v4 v5 y1 M)) := by
  have hF := dp_den_grow (md := true) (xs := xs) (xl := xl) d
  unfold D_X9_find_123_a
  refine dp_s1 hF (i := .iload 5) rfl (fun _ => rfl) ?_
  refine dp_s1 hF (i := .bipush 8) rfl (fun _ => rfl) ?_
  refine dp_s2 hF (i := .if_icmp .ge 86) (a := (213, [some (.ref 51), some (.int v1), some (.int v2), some (.int v3), some (.int v4), some (.int v5), some (.int v6)], [], M)) (b := (130, [some (.ref 51), some (.int v1), some (.int v2), some (.int v3), some (.int v4), some (.int v5), some (.int v6)], [], M)) rfl (fun _ => rfl) ?_ ?_
  · refine dp_s1 hF (i := .aload_n 0) rfl (fun _ => rfl) ?_
    refine dp_s1 hF (i := .getfield 124) rfl (fun _ => rfl) ?_
    exact dp_s0 hF (i := .ireturn) rfl (fun _ => rfl)
  refine dp_s1 hF (i := .iconst 1) rfl (fun _ => rfl) ?_
  refine dp_s1w (1 : Int32) (fun (y1 : Int32) => (133, [some (.ref 51), some (.int v1), some (.int v2), some (.int v3), some (.int v4), some (.int v5), some (.int y1)], [], M)) hF (i := .istore 6) rfl (fun _ => rfl) (fun y1 => ?_)
  exact rfl
noncomputable def D_X9_keepList_0 (xs : Nat → Int32) (xl d : Nat)  (M : dp_M) : Option dp_Res := dp_lim true xs xl (dp_den true xs xl d) dp_m_X9_keepList (0, [some (.ref 51)], [], M)
theorem D_X9_keepList_0_den (xs : Nat → Int32) (xl d : Nat)  (M : dp_M) : dp_den true xs xl (d + 1) 224 [.ref 51] M = D_X9_keepList_0 xs xl d  M := rfl
set_option maxRecDepth 20000 in
theorem D_X9_keepList_0_eq (xs : Nat → Int32) (xl d : Nat)  (M : dp_M) : D_X9_keepList_0 xs xl d  M = if (dp_I M 51 3) < 0 ∨ (0 : Int32) < 0 ∨ (0 : Int32) < 0 ∨ 300 < Int32.toNatClampNeg (0 : Int32) + Int32.toNatClampNeg (dp_I M 51 3) ∨ 300 < Int32.toNatClampNeg (0 : Int32) + Int32.toNatClampNeg (dp_I M 51 3) ∨ (58 : Nat) = 57 then none else dp_w (dp_cpI M 58 (Int32.toNatClampNeg (0 : Int32)) 57 (Int32.toNatClampNeg (0 : Int32)) (Int32.toNatClampNeg (dp_I M 51 3))) (fun M1 => dp_w (dp_setI M1 51 2 (dp_I M1 51 3)) (fun M2 => some (.inl (some (.int (dp_I M2 51 2))), M2))) := by
  have hF := dp_den_grow (md := true) (xs := xs) (xl := xl) d
  unfold D_X9_keepList_0
  refine dp_s1 hF (i := .aload_n 0) rfl (fun _ => rfl) ?_
  refine dp_s1 hF (i := .getfield 30) rfl (fun _ => rfl) ?_
  refine dp_s1 hF (i := .iconst 0) rfl (fun _ => rfl) ?_
  refine dp_s1 hF (i := .aload_n 0) rfl (fun _ => rfl) ?_
  refine dp_s1 hF (i := .getfield 27) rfl (fun _ => rfl) ?_
  refine dp_s1 hF (i := .iconst 0) rfl (fun _ => rfl) ?_
  refine dp_s1 hF (i := .aload_n 0) rfl (fun _ => rfl) ?_
  refine dp_s1 hF (i := .getfield 124) rfl (fun _ => rfl) ?_
  refine dp_s3w (dp_cpI M 58 (Int32.toNatClampNeg (0 : Int32)) 57 (Int32.toNatClampNeg (0 : Int32)) (Int32.toNatClampNeg (dp_I M 51 3))) (fun (M1 : dp_M) => (17, [some (.ref 51)], [], M1)) hF (i := .invokestatic 127) rfl (fun _ => rfl) (fun M1 => ?_)
  refine dp_s1 hF (i := .aload_n 0) rfl (fun _ => rfl) ?_
  refine dp_s1 hF (i := .aload_n 0) rfl (fun _ => rfl) ?_
  refine dp_s1 hF (i := .getfield 124) rfl (fun _ => rfl) ?_
  refine dp_s1w (dp_setI M1 51 2 (dp_I M1 51 3)) (fun (M2 : dp_M) => (25, [some (.ref 51)], [], M2)) hF (i := .putfield 133) rfl (fun _ => rfl) (fun M2 => ?_)
  refine dp_s1 hF (i := .aload_n 0) rfl (fun _ => rfl) ?_
  refine dp_s1 hF (i := .getfield 133) rfl (fun _ => rfl) ?_
  exact dp_s0 hF (i := .ireturn) rfl (fun _ => rfl)
