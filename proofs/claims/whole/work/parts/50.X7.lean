noncomputable def D_X7_addSigns_0 (xs : Nat → Int32) (xl d : Nat) (v1 : Int64) (v3 : Int32) (M : dp_M) : Option dp_Res := dp_lim true xs xl (dp_den true xs xl d) dp_m_X7_addSigns (0, [some (.ref 68), some (.long v1), none, some (.int v3), none, none, none], [], M)
noncomputable def D_X7_addSigns_17 (xs : Nat → Int32) (xl d : Nat) (v1 : Int64) (v3 : Int32) (v4 : Int32) (M : dp_M) : Option dp_Res := dp_lim true xs xl (dp_den true xs xl d) dp_m_X7_addSigns (17, [some (.ref 68), some (.long v1), none, some (.int v3), some (.int v4), none, none], [], M)
noncomputable def D_X7_addSigns_67 (xs : Nat → Int32) (xl d : Nat) (v1 : Int64) (v3 : Int32) (v4 : Int32) (M : dp_M) : Option dp_Res := dp_lim true xs xl (dp_den true xs xl d) dp_m_X7_addSigns (67, [some (.ref 68), some (.long v1), none, some (.int v3), some (.int v4), none, none], [], M)
noncomputable def D_X7_addSigns_17_a (xs : Nat → Int32) (xl d : Nat) (v1 : Int64) (v3 : Int32) (v4 : Int32) (v5 : Int64) (M : dp_M) : Option dp_Res := dp_lim true xs xl (dp_den true xs xl d) dp_m_X7_addSigns (17, [some (.ref 68), some (.long v1), none, some (.int v3), some (.int v4), some (.long v5), none], [], M)
noncomputable def D_X7_addSigns_67_a (xs : Nat → Int32) (xl d : Nat) (v1 : Int64) (v3 : Int32) (v4 : Int32) (v5 : Int64) (M : dp_M) : Option dp_Res := dp_lim true xs xl (dp_den true xs xl d) dp_m_X7_addSigns (67, [some (.ref 68), some (.long v1), none, some (.int v3), some (.int v4), some (.long v5), none], [], M)
theorem D_X7_addSigns_0_den (xs : Nat → Int32) (xl d : Nat) (a0 : Int64) (a1 : Int32) (M : dp_M) : dp_den true xs xl (d + 1) 143 [.ref 68, .long a0, .int a1] M = D_X7_addSigns_0 xs xl d a0 a1 M := rfl
set_option maxRecDepth 20000 in
theorem D_X7_addSigns_0_eq (xs : Nat → Int32) (xl d : Nat) (v1 : Int64) (v3 : Int32) (M : dp_M) : D_X7_addSigns_0 xs xl d v1 v3 M = if ((dp_I M 68 0) + v3) ≤ (400 : Int32) then (dp_w (0 : Int32) (fun y1 => D_X7_addSigns_17 xs xl d v1 v3 y1 M)) else (some (.inl (some (.int (0 : Int32))), M)) := by
  have hF := dp_den_grow (md := true) (xs := xs) (xl := xl) d
  unfold D_X7_addSigns_0
  refine dp_s1 hF (i := .aload_n 0) rfl (fun _ => rfl) ?_
  refine dp_s1 hF (i := .getfield 37) rfl (fun _ => rfl) ?_
  refine dp_s1 hF (i := .iload_n 3) rfl (fun _ => rfl) ?_
  refine dp_s1 hF (i := .iadd) rfl (fun _ => rfl) ?_
  refine dp_s1 hF (i := .sipush 400) rfl (fun _ => rfl) ?_
  refine dp_s2 hF (i := .if_icmp .le 5) (a := (14, [some (.ref 68), some (.long v1), none, some (.int v3), none, none, none], [], M)) (b := (12, [some (.ref 68), some (.long v1), none, some (.int v3), none, none, none], [], M)) rfl (fun _ => rfl) ?_ ?_
  · refine dp_s1 hF (i := .iconst 0) rfl (fun _ => rfl) ?_
    refine dp_s1w (0 : Int32) (fun (y1 : Int32) => (17, [some (.ref 68), some (.long v1), none, some (.int v3), some (.int y1), none, none], [], M)) hF (i := .istore 4) rfl (fun _ => rfl) (fun y1 => ?_)
    exact rfl
  refine dp_s1 hF (i := .iconst 0) rfl (fun _ => rfl) ?_
  exact dp_s0 hF (i := .ireturn) rfl (fun _ => rfl)
set_option maxRecDepth 20000 in
theorem D_X7_addSigns_17_eq (xs : Nat → Int32) (xl d : Nat) (v1 : Int64) (v3 : Int32) (v4 : Int32) (M : dp_M) : D_X7_addSigns_17 xs xl d v1 v3 v4 M = if v3 ≤ v4 then (dp_w (v3 - (1 : Int32)) (fun y1 => D_X7_addSigns_67 xs xl d v1 v3 y1 M)) else (dp_w ((v1 >>> (Int32.toInt64 ((8 : Int32) * v4) &&& 63)) &&& (255 : Int64)) (fun y2 => if (lg_cmp y2 (32 : Int64)) < 0 then (some (.inl (some (.int (0 : Int32))), M)) else (if (lg_cmp y2 (126 : Int64)) ≤ 0 then (dp_w (v4 + (1 : Int32)) (fun y3 => D_X7_addSigns_17_a xs xl d v1 v3 y3 y2 M)) else (some (.inl (some (.int (0 : Int32))), M))))) := by
  have hF := dp_den_grow (md := true) (xs := xs) (xl := xl) d
  unfold D_X7_addSigns_17
  refine dp_s1 hF (i := .iload 4) rfl (fun _ => rfl) ?_
  refine dp_s1 hF (i := .iload_n 3) rfl (fun _ => rfl) ?_
  refine dp_s2 hF (i := .if_icmp .ge 42) (a := (62, [some (.ref 68), some (.long v1), none, some (.int v3), some (.int v4), none, none], [], M)) (b := (23, [some (.ref 68), some (.long v1), none, some (.int v3), some (.int v4), none, none], [], M)) rfl (fun _ => rfl) ?_ ?_
  · refine dp_s1 hF (i := .iload_n 3) rfl (fun _ => rfl) ?_
    refine dp_s1 hF (i := .iconst 1) rfl (fun _ => rfl) ?_
    refine dp_s1 hF (i := .isub) rfl (fun _ => rfl) ?_
    refine dp_s1w (v3 - (1 : Int32)) (fun (y1 : Int32) => (67, [some (.ref 68), some (.long v1), none, some (.int v3), some (.int y1), none, none], [], M)) hF (i := .istore 4) rfl (fun _ => rfl) (fun y1 => ?_)
    exact rfl
  refine dp_s1 hF (i := .lload_n 1) rfl (fun _ => rfl) ?_
  refine dp_s1 hF (i := .bipush 8) rfl (fun _ => rfl) ?_
  refine dp_s1 hF (i := .iload 4) rfl (fun _ => rfl) ?_
  refine dp_s1 hF (i := .imul) rfl (fun _ => rfl) ?_
  refine dp_s1 hF (i := .lshr) rfl (fun _ => rfl) ?_
  refine dp_s1 hF (i := .ldc2_w 40) rfl (fun _ => rfl) ?_
  refine dp_s1 hF (i := .land) rfl (fun _ => rfl) ?_
  refine dp_s1w ((v1 >>> (Int32.toInt64 ((8 : Int32) * v4) &&& 63)) &&& (255 : Int64)) (fun (y2 : Int64) => (36, [some (.ref 68), some (.long v1), none, some (.int v3), some (.int v4), some (.long y2), none], [], M)) hF (i := .lstore 5) rfl (fun _ => rfl) (fun y2 => ?_)
  refine dp_s1 hF (i := .lload 5) rfl (fun _ => rfl) ?_
  refine dp_s1 hF (i := .ldc2_w 42) rfl (fun _ => rfl) ?_
  refine dp_s1 hF (i := .lcmp) rfl (fun _ => rfl) ?_
  refine dp_s2 hF (i := .ifCond .lt 12) (a := (54, [some (.ref 68), some (.long v1), none, some (.int v3), some (.int v4), some (.long y2), none], [], M)) (b := (45, [some (.ref 68), some (.long v1), none, some (.int v3), some (.int v4), some (.long y2), none], [], M)) rfl (fun _ => rfl) ?_ ?_
  · refine dp_s1 hF (i := .iconst 0) rfl (fun _ => rfl) ?_
    exact dp_s0 hF (i := .ireturn) rfl (fun _ => rfl)
  refine dp_s1 hF (i := .lload 5) rfl (fun _ => rfl) ?_
  refine dp_s1 hF (i := .ldc2_w 44) rfl (fun _ => rfl) ?_
  refine dp_s1 hF (i := .lcmp) rfl (fun _ => rfl) ?_
  refine dp_s2 hF (i := .ifCond .le 5) (a := (56, [some (.ref 68), some (.long v1), none, some (.int v3), some (.int v4), some (.long y2), none], [], M)) (b := (54, [some (.ref 68), some (.long v1), none, some (.int v3), some (.int v4), some (.long y2), none], [], M)) rfl (fun _ => rfl) ?_ ?_
  · refine dp_s1w (v4 + (1 : Int32)) (fun (y3 : Int32) => (59, [some (.ref 68), some (.long v1), none, some (.int v3), some (.int y3), some (.long y2), none], [], M)) hF (i := .iinc 4 1) rfl (fun _ => rfl) (fun y3 => ?_)
    refine dp_s1 hF (i := .goto (-42)) rfl (fun _ => rfl) ?_
    exact rfl
  refine dp_s1 hF (i := .iconst 0) rfl (fun _ => rfl) ?_
  exact dp_s0 hF (i := .ireturn) rfl (fun _ => rfl)
set_option maxRecDepth 20000 in
theorem D_X7_addSigns_67_eq (xs : Nat → Int32) (xl d : Nat) (v1 : Int64) (v3 : Int32) (v4 : Int32) (M : dp_M) : D_X7_addSigns_67 xs xl d v1 v3 v4 M = if v4 < 0 then (some (.inl (some (.int (1 : Int32))), M)) else (if (dp_I M 68 0) < 0 ∨ 400 ≤ Int32.toNatClampNeg (dp_I M 68 0) then none else dp_w (dp_setI M 70 (Int32.toNatClampNeg (dp_I M 68 0)) ((Int32.toUInt32 ((Int32.toUInt32 (Int64.toInt32 ((v1 >>> (Int32.toInt64 ((8 : Int32) * v4) &&& 63)) &&& (255 : Int64))) % 65536).toInt32)).toUInt16.toUInt32.toInt32)) (fun M1 => dp_w (dp_setI M1 68 0 ((dp_I M1 68 0) + (1 : Int32))) (fun M2 => dp_w (v4 + (-1 : Int32)) (fun y3 => D_X7_addSigns_67 xs xl d v1 v3 y3 M2)))) := by
  have hF := dp_den_grow (md := true) (xs := xs) (xl := xl) d
  unfold D_X7_addSigns_67
  refine dp_s1 hF (i := .iload 4) rfl (fun _ => rfl) ?_
  refine dp_s2 hF (i := .ifCond .lt 41) (a := (110, [some (.ref 68), some (.long v1), none, some (.int v3), some (.int v4), none, none], [], M)) (b := (72, [some (.ref 68), some (.long v1), none, some (.int v3), some (.int v4), none, none], [], M)) rfl (fun _ => rfl) ?_ ?_
  · refine dp_s1 hF (i := .iconst 1) rfl (fun _ => rfl) ?_
    exact dp_s0 hF (i := .ireturn) rfl (fun _ => rfl)
  refine dp_s1 hF (i := .aload_n 0) rfl (fun _ => rfl) ?_
  refine dp_s1 hF (i := .getfield 19) rfl (fun _ => rfl) ?_
  refine dp_s1 hF (i := .aload_n 0) rfl (fun _ => rfl) ?_
  refine dp_s1 hF (i := .getfield 37) rfl (fun _ => rfl) ?_
  refine dp_s1 hF (i := .lload_n 1) rfl (fun _ => rfl) ?_
  refine dp_s1 hF (i := .bipush 8) rfl (fun _ => rfl) ?_
  refine dp_s1 hF (i := .iload 4) rfl (fun _ => rfl) ?_
  refine dp_s1 hF (i := .imul) rfl (fun _ => rfl) ?_
  refine dp_s1 hF (i := .lshr) rfl (fun _ => rfl) ?_
  refine dp_s1 hF (i := .ldc2_w 40) rfl (fun _ => rfl) ?_
  refine dp_s1 hF (i := .land) rfl (fun _ => rfl) ?_
  refine dp_s1 hF (i := .l2i) rfl (fun _ => rfl) ?_
  refine dp_s1 hF (i := .i2c) rfl (fun _ => rfl) ?_
  refine dp_s3w (dp_setI M 70 (Int32.toNatClampNeg (dp_I M 68 0)) ((Int32.toUInt32 ((Int32.toUInt32 (Int64.toInt32 ((v1 >>> (Int32.toInt64 ((8 : Int32) * v4) &&& 63)) &&& (255 : Int64))) % 65536).toInt32)).toUInt16.toUInt32.toInt32)) (fun (M1 : dp_M) => (94, [some (.ref 68), some (.long v1), none, some (.int v3), some (.int v4), none, none], [], M1)) hF (i := .castore) rfl (fun _ => rfl) (fun M1 => ?_)
  refine dp_s1 hF (i := .aload_n 0) rfl (fun _ => rfl) ?_
  refine dp_s1 hF (i := .dup) rfl (fun _ => rfl) ?_
  refine dp_s1 hF (i := .getfield 37) rfl (fun _ => rfl) ?_
  refine dp_s1 hF (i := .iconst 1) rfl (fun _ => rfl) ?_
  refine dp_s1 hF (i := .iadd) rfl (fun _ => rfl) ?_
  refine dp_s1w (dp_setI M1 68 0 ((dp_I M1 68 0) + (1 : Int32))) (fun (M2 : dp_M) => (104, [some (.ref 68), some (.long v1), none, some (.int v3), some (.int v4), none, none], [], M2)) hF (i := .putfield 37) rfl (fun _ => rfl) (fun M2 => ?_)
  refine dp_s1w (v4 + (-1 : Int32)) (fun (y3 : Int32) => (107, [some (.ref 68), some (.long v1), none, some (.int v3), some (.int y3), none, none], [], M2)) hF (i := .iinc 4 (-1)) rfl (fun _ => rfl) (fun y3 => ?_)
  refine dp_s1 hF (i := .goto (-40)) rfl (fun _ => rfl) ?_
  exact rfl
set_option maxRecDepth 20000 in
theorem D_X7_addSigns_17_a_eq (xs : Nat → Int32) (xl d : Nat) (v1 : Int64) (v3 : Int32) (v4 : Int32) (v5 : Int64) (M : dp_M) : D_X7_addSigns_17_a xs xl d v1 v3 v4 v5 M = if v3 ≤ v4 then (dp_w (v3 - (1 : Int32)) (fun y1 => D_X7_addSigns_67_a xs xl d v1 v3 y1 v5 M)) else (dp_w ((v1 >>> (Int32.toInt64 ((8 : Int32) * v4) &&& 63)) &&& (255 : Int64)) (fun y2 => if (lg_cmp y2 (32 : Int64)) < 0 then (some (.inl (some (.int (0 : Int32))), M)) else (if (lg_cmp y2 (126 : Int64)) ≤ 0 then (dp_w (v4 + (1 : Int32)) (fun y3 => D_X7_addSigns_17_a xs xl d v1 v3 y3 y2 M)) else (some (.inl (some (.int (0 : Int32))), M))))) := by
  have hF := dp_den_grow (md := true) (xs := xs) (xl := xl) d
  unfold D_X7_addSigns_17_a
  refine dp_s1 hF (i := .iload 4) rfl (fun _ => rfl) ?_
  refine dp_s1 hF (i := .iload_n 3) rfl (fun _ => rfl) ?_
  refine dp_s2 hF (i := .if_icmp .ge 42) (a := (62, [some (.ref 68), some (.long v1), none, some (.int v3), some (.int v4), some (.long v5), none], [], M)) (b := (23, [some (.ref 68), some (.long v1), none, some (.int v3), some (.int v4), some (.long v5), none], [], M)) rfl (fun _ => rfl) ?_ ?_
  · refine dp_s1 hF (i := .iload_n 3) rfl (fun _ => rfl) ?_
    refine dp_s1 hF (i := .iconst 1) rfl (fun _ => rfl) ?_
    refine dp_s1 hF (i := .isub) rfl (fun _ => rfl) ?_
    refine dp_s1w (v3 - (1 : Int32)) (fun (y1 : Int32) => (67, [some (.ref 68), some (.long v1), none, some (.int v3), some (.int y1), some (.long v5), none], [], M)) hF (i := .istore 4) rfl (fun _ => rfl) (fun y1 => ?_)
    exact rfl
  refine dp_s1 hF (i := .lload_n 1) rfl (fun _ => rfl) ?_
  refine dp_s1 hF (i := .bipush 8) rfl (fun _ => rfl) ?_
  refine dp_s1 hF (i := .iload 4) rfl (fun _ => rfl) ?_
  refine dp_s1 hF (i := .imul) rfl (fun _ => rfl) ?_
  refine dp_s1 hF (i := .lshr) rfl (fun _ => rfl) ?_
  refine dp_s1 hF (i := .ldc2_w 40) rfl (fun _ => rfl) ?_
  refine dp_s1 hF (i := .land) rfl (fun _ => rfl) ?_
  refine dp_s1w ((v1 >>> (Int32.toInt64 ((8 : Int32) * v4) &&& 63)) &&& (255 : Int64)) (fun (y2 : Int64) => (36, [some (.ref 68), some (.long v1), none, some (.int v3), some (.int v4), some (.long y2), none], [], M)) hF (i := .lstore 5) rfl (fun _ => rfl) (fun y2 => ?_)
  refine dp_s1 hF (i := .lload 5) rfl (fun _ => rfl) ?_
  refine dp_s1 hF (i := .ldc2_w 42) rfl (fun _ => rfl) ?_
  refine dp_s1 hF (i := .lcmp) rfl (fun _ => rfl) ?_
  refine dp_s2 hF (i := .ifCond .lt 12) (a := (54, [some (.ref 68), some (.long v1), none, some (.int v3), some (.int v4), some (.long y2), none], [], M)) (b := (45, [some (.ref 68), some (.long v1), none, some (.int v3), some (.int v4), some (.long y2), none], [], M)) rfl (fun _ => rfl) ?_ ?_
  · refine dp_s1 hF (i := .iconst 0) rfl (fun _ => rfl) ?_
    exact dp_s0 hF (i := .ireturn) rfl (fun _ => rfl)
  refine dp_s1 hF (i := .lload 5) rfl (fun _ => rfl) ?_
  refine dp_s1 hF (i := .ldc2_w 44) rfl (fun _ => rfl) ?_
  refine dp_s1 hF (i := .lcmp) rfl (fun _ => rfl) ?_
  refine dp_s2 hF (i := .ifCond .le 5) (a := (56, [some (.ref 68), some (.long v1), none, some (.int v3), some (.int v4), some (.long y2), none], [], M)) (b := (54, [some (.ref 68), some (.long v1), none, some (.int v3), some (.int v4), some (.long y2), none], [], M)) rfl (fun _ => rfl) ?_ ?_
  · refine dp_s1w (v4 + (1 : Int32)) (fun (y3 : Int32) => (59, [some (.ref 68), some (.long v1), none, some (.int v3), some (.int y3), some (.long y2), none], [], M)) hF (i := .iinc 4 1) rfl (fun _ => rfl) (fun y3 => ?_)
    refine dp_s1 hF (i := .goto (-42)) rfl (fun _ => rfl) ?_
    exact rfl
  refine dp_s1 hF (i := .iconst 0) rfl (fun _ => rfl) ?_
  exact dp_s0 hF (i := .ireturn) rfl (fun _ => rfl)
set_option maxRecDepth 20000 in
theorem D_X7_addSigns_67_a_eq (xs : Nat → Int32) (xl d : Nat) (v1 : Int64) (v3 : Int32) (v4 : Int32) (v5 : Int64) (M : dp_M) : D_X7_addSigns_67_a xs xl d v1 v3 v4 v5 M = if v4 < 0 then (some (.inl (some (.int (1 : Int32))), M)) else (if (dp_I M 68 0) < 0 ∨ 400 ≤ Int32.toNatClampNeg (dp_I M 68 0) then none else dp_w (dp_setI M 70 (Int32.toNatClampNeg (dp_I M 68 0)) ((Int32.toUInt32 ((Int32.toUInt32 (Int64.toInt32 ((v1 >>> (Int32.toInt64 ((8 : Int32) * v4) &&& 63)) &&& (255 : Int64))) % 65536).toInt32)).toUInt16.toUInt32.toInt32)) (fun M1 => dp_w (dp_setI M1 68 0 ((dp_I M1 68 0) + (1 : Int32))) (fun M2 => dp_w (v4 + (-1 : Int32)) (fun y3 => D_X7_addSigns_67_a xs xl d v1 v3 y3 v5 M2)))) := by
  have hF := dp_den_grow (md := true) (xs := xs) (xl := xl) d
  unfold D_X7_addSigns_67_a
  refine dp_s1 hF (i := .iload 4) rfl (fun _ => rfl) ?_
  refine dp_s2 hF (i := .ifCond .lt 41) (a := (110, [some (.ref 68), some (.long v1), none, some (.int v3), some (.int v4), some (.long v5), none], [], M)) (b := (72, [some (.ref 68), some (.long v1), none, some (.int v3), some (.int v4), some (.long v5), none], [], M)) rfl (fun _ => rfl) ?_ ?_
  · refine dp_s1 hF (i := .iconst 1) rfl (fun _ => rfl) ?_
    exact dp_s0 hF (i := .ireturn) rfl (fun _ => rfl)
  refine dp_s1 hF (i := .aload_n 0) rfl (fun _ => rfl) ?_
  refine dp_s1 hF (i := .getfield 19) rfl (fun _ => rfl) ?_
  refine dp_s1 hF (i := .aload_n 0) rfl (fun _ => rfl) ?_
  refine dp_s1 hF (i := .getfield 37) rfl (fun _ => rfl) ?_
  refine dp_s1 hF (i := .lload_n 1) rfl (fun _ => rfl) ?_
  refine dp_s1 hF (i := .bipush 8) rfl (fun _ => rfl) ?_
  refine dp_s1 hF (i := .iload 4) rfl (fun _ => rfl) ?_
  refine dp_s1 hF (i := .imul) rfl (fun _ => rfl) ?_
  refine dp_s1 hF (i := .lshr) rfl (fun _ => rfl) ?_
  refine dp_s1 hF (i := .ldc2_w 40) rfl (fun _ => rfl) ?_
  refine dp_s1 hF (i := .land) rfl (fun _ => rfl) ?_
  refine dp_s1 hF (i := .l2i) rfl (fun _ => rfl) ?_
  refine dp_s1 hF (i := .i2c) rfl (fun _ => rfl) ?_
  refine dp_s3w (dp_setI M 70 (Int32.toNatClampNeg (dp_I M 68 0)) ((Int32.toUInt32 ((Int32.toUInt32 (Int64.toInt32 ((v1 >>> (Int32.toInt64 ((8 : Int32) * v4) &&& 63)) &&& (255 : Int64))) % 65536).toInt32)).toUInt16.toUInt32.toInt32)) (fun (M1 : dp_M) => (94, [some (.ref 68), some (.long v1), none, some (.int v3), some (.int v4), some (.long v5), none], [], M1)) hF (i := .castore) rfl (fun _ => rfl) (fun M1 => ?_)
  refine dp_s1 hF (i := .aload_n 0) rfl (fun _ => rfl) ?_
  refine dp_s1 hF (i := .dup) rfl (fun _ => rfl) ?_
  refine dp_s1 hF (i := .getfield 37) rfl (fun _ => rfl) ?_
  refine dp_s1 hF (i := .iconst 1) rfl (fun _ => rfl) ?_
  refine dp_s1 hF (i := .iadd) rfl (fun _ => rfl) ?_
  refine dp_s1w (dp_setI M1 68 0 ((dp_I M1 68 0) + (1 : Int32))) (fun (M2 : dp_M) => (104, [some (.ref 68), some (.long v1), none, some (.int v3), some (.int v4), some (.long v5), none], [], M2)) hF (i := .putfield 37) rfl (fun _ => rfl) (fun M2 => ?_)
  refine dp_s1w (v4 + (-1 : Int32)) (fun (y3 : Int32) => (107, [some (.ref 68), some (.long v1), none, some (.int v3), some (.int y3), some (.long v5), none], [], M2)) hF (i := .iinc 4 (-1)) rfl (fun _ => rfl) (fun y3 => ?_)
  refine dp_s1 hF (i := .goto (-40)) rfl (fun _ => rfl) ?_
  exact rfl
noncomputable def D_X7_emptyTape_0 (xs : Nat → Int32) (xl d : Nat)  (M : dp_M) : Option dp_Res := dp_lim true xs xl (dp_den true xs xl d) dp_m_X7_emptyTape (0, [some (.ref 68)], [], M)
theorem D_X7_emptyTape_0_den (xs : Nat → Int32) (xl d : Nat)  (M : dp_M) : dp_den true xs xl (d + 1) 144 [.ref 68] M = D_X7_emptyTape_0 xs xl d  M := rfl
set_option maxRecDepth 20000 in
theorem D_X7_emptyTape_0_eq (xs : Nat → Int32) (xl d : Nat)  (M : dp_M) : D_X7_emptyTape_0 xs xl d  M = dp_w (dp_setI M 68 0 (0 : Int32)) (fun M1 => some (.inl none, M1)) := by
  have hF := dp_den_grow (md := true) (xs := xs) (xl := xl) d
  unfold D_X7_emptyTape_0
  refine dp_s1 hF (i := .aload_n 0) rfl (fun _ => rfl) ?_
  refine dp_s1 hF (i := .iconst 0) rfl (fun _ => rfl) ?_
  refine dp_s1w (dp_setI M 68 0 (0 : Int32)) (fun (M1 : dp_M) => (5, [some (.ref 68)], [], M1)) hF (i := .putfield 37) rfl (fun _ => rfl) (fun M1 => ?_)
  exact dp_s0 hF (i := .return_) rfl (fun _ => rfl)
noncomputable def D_X7_readTape_0 (xs : Nat → Int32) (xl d : Nat)  (M : dp_M) : Option dp_Res := dp_lim true xs xl (dp_den true xs xl d) dp_m_X7_readTape (0, [some (.ref 68), none], [], M)
noncomputable def D_X7_readTape_52 (xs : Nat → Int32) (xl d : Nat) (v1 : Int32) (M : dp_M) : Option dp_Res := dp_lim true xs xl (dp_den true xs xl d) dp_m_X7_readTape (52, [some (.ref 68), some (.int v1)], [], M)
theorem D_X7_readTape_0_den (xs : Nat → Int32) (xl d : Nat)  (M : dp_M) : dp_den true xs xl (d + 1) 145 [.ref 68] M = D_X7_readTape_0 xs xl d  M := rfl
set_option maxRecDepth 20000 in
theorem D_X7_readTape_0_eq (xs : Nat → Int32) (xl d : Nat)  (M : dp_M) : D_X7_readTape_0 xs xl d  M = dp_w (dp_setI M 68 9 (0 : Int32)) (fun M1 => dp_w (dp_setI M1 68 10 (0 : Int32)) (fun M2 => dp_w (dp_setI M2 68 11 (0 : Int32)) (fun M3 => dp_w (dp_setI M3 68 12 (0 : Int32)) (fun M4 => dp_w (dp_setI M4 68 2 (-1 : Int32)) (fun M5 => dp_bi (dp_den true xs xl d 153 [.ref 68, .int (0 : Int32)] M5) (fun r7 M6 => if r7 = (-1 : Int32) then (D_X7_readTape_52 xs xl d r7 M6) else (dp_bi (dp_den true xs xl d 148 [.ref 68] M6) (fun r9 M8 => if r9 = 0 then (D_X7_readTape_52 xs xl d r7 M8) else (dp_bi (dp_den true xs xl d 146 [.ref 68, .int (dp_I M8 68 9)] M8) (fun r11 M10 => D_X7_readTape_52 xs xl d r7 M10)))))))))) := by
  have hF := dp_den_grow (md := true) (xs := xs) (xl := xl) d
  unfold D_X7_readTape_0
  refine dp_s1 hF (i := .aload_n 0) rfl (fun _ => rfl) ?_
  refine dp_s1 hF (i := .iconst 0) rfl (fun _ => rfl) ?_
  refine dp_s1w (dp_setI M 68 9 (0 : Int32)) (fun (M1 : dp_M) => (5, [some (.ref 68), none], [], M1)) hF (i := .putfield 46) rfl (fun _ => rfl) (fun M1 => ?_)
  refine dp_s1 hF (i := .aload_n 0) rfl (fun _ => rfl) ?_
  refine dp_s1 hF (i := .iconst 0) rfl (fun _ => rfl) ?_
  refine dp_s1w (dp_setI M1 68 10 (0 : Int32)) (fun (M2 : dp_M) => (10, [some (.ref 68), none], [], M2)) hF (i := .putfield 49) rfl (fun _ => rfl) (fun M2 => ?_)
  refine dp_s1 hF (i := .aload_n 0) rfl (fun _ => rfl) ?_
  refine dp_s1 hF (i := .iconst 0) rfl (fun _ => rfl) ?_
  refine dp_s1w (dp_setI M2 68 11 (0 : Int32)) (fun (M3 : dp_M) => (15, [some (.ref 68), none], [], M3)) hF (i := .putfield 52) rfl (fun _ => rfl) (fun M3 => ?_)
  refine dp_s1 hF (i := .aload_n 0) rfl (fun _ => rfl) ?_
  refine dp_s1 hF (i := .iconst 0) rfl (fun _ => rfl) ?_
  refine dp_s1w (dp_setI M3 68 12 (0 : Int32)) (fun (M4 : dp_M) => (20, [some (.ref 68), none], [], M4)) hF (i := .putfield 55) rfl (fun _ => rfl) (fun M4 => ?_)
  refine dp_s1 hF (i := .aload_n 0) rfl (fun _ => rfl) ?_
  refine dp_s1 hF (i := .iconst (-1)) rfl (fun _ => rfl) ?_
  refine dp_s1w (dp_setI M4 68 2 (-1 : Int32)) (fun (M5 : dp_M) => (25, [some (.ref 68), none], [], M5)) hF (i := .putfield 11) rfl (fun _ => rfl) (fun M5 => ?_)
  refine dp_s1 hF (i := .aload_n 0) rfl (fun _ => rfl) ?_
  refine dp_s1 hF (i := .iconst 0) rfl (fun _ => rfl) ?_
  refine dp_si (mj := dp_m_X7_readRate) (i := .invokevirtual 58) rfl rfl (Or.inl rfl) rfl (fun _ => rfl) (fun r7 M6 => ?_)
  refine dp_s1 hF (i := .istore_n 1) rfl (fun _ => rfl) ?_
  refine dp_s1 hF (i := .iload_n 1) rfl (fun _ => rfl) ?_
  refine dp_s1 hF (i := .iconst (-1)) rfl (fun _ => rfl) ?_
  refine dp_s2 hF (i := .if_icmp .eq 19) (a := (52, [some (.ref 68), some (.int r7)], [], M6)) (b := (36, [some (.ref 68), some (.int r7)], [], M6)) rfl (fun _ => rfl) ?_ ?_
  · exact rfl
  refine dp_s1 hF (i := .aload_n 0) rfl (fun _ => rfl) ?_
  refine dp_si (mj := dp_m_X7_next) (i := .invokevirtual 62) rfl rfl (Or.inl rfl) rfl (fun _ => rfl) (fun r9 M8 => ?_)
  refine dp_s2 hF (i := .ifCond .eq 12) (a := (52, [some (.ref 68), some (.int r7)], [], M8)) (b := (43, [some (.ref 68), some (.int r7)], [], M8)) rfl (fun _ => rfl) ?_ ?_
  · exact rfl
  refine dp_s1 hF (i := .aload_n 0) rfl (fun _ => rfl) ?_
  refine dp_s1 hF (i := .aload_n 0) rfl (fun _ => rfl) ?_
  refine dp_s1 hF (i := .getfield 46) rfl (fun _ => rfl) ?_
  refine dp_si (mj := dp_m_X7_refuse) (i := .invokevirtual 66) rfl rfl (Or.inl rfl) rfl (fun _ => rfl) (fun r11 M10 => ?_)
  refine dp_s1 hF (i := .pop) rfl (fun _ => rfl) ?_
  exact rfl
set_option maxRecDepth 20000 in
theorem D_X7_readTape_52_eq (xs : Nat → Int32) (xl d : Nat) (v1 : Int32) (M : dp_M) : D_X7_readTape_52 xs xl d v1 M = if (dp_I M 68 2) = (-1 : Int32) then (if v1 = (-1 : Int32) then (some (.inl (some .null), M)) else (dp_bo (dp_den true xs xl d 168 [.ref 68, .int v1] M) (fun M1 => some (.inl (some .null), M1)) (fun q2 M3 => some (.inl (some (.ref q2)), M3)))) else (some (.inl (some .null), M)) := by
  have hF := dp_den_grow (md := true) (xs := xs) (xl := xl) d
  unfold D_X7_readTape_52
  refine dp_s1 hF (i := .aload_n 0) rfl (fun _ => rfl) ?_
  refine dp_s1 hF (i := .getfield 11) rfl (fun _ => rfl) ?_
  refine dp_s1 hF (i := .iconst (-1)) rfl (fun _ => rfl) ?_
  refine dp_s2 hF (i := .if_icmp .ne 16) (a := (60, [some (.ref 68), some (.int v1)], [], M)) (b := (73, [some (.ref 68), some (.int v1)], [], M)) rfl (fun _ => rfl) ?_ ?_
  · refine dp_s1 hF (i := .iload_n 1) rfl (fun _ => rfl) ?_
    refine dp_s1 hF (i := .iconst (-1)) rfl (fun _ => rfl) ?_
    refine dp_s2 hF (i := .if_icmp .eq 11) (a := (73, [some (.ref 68), some (.int v1)], [], M)) (b := (65, [some (.ref 68), some (.int v1)], [], M)) rfl (fun _ => rfl) ?_ ?_
    · refine dp_s1 hF (i := .aconst_null) rfl (fun _ => rfl) ?_
      exact dp_s0 hF (i := .areturn) rfl (fun _ => rfl)
    refine dp_s1 hF (i := .aload_n 0) rfl (fun _ => rfl) ?_
    refine dp_s1 hF (i := .iload_n 1) rfl (fun _ => rfl) ?_
    refine dp_so (mj := dp_m_X7_builtFrom) (i := .invokevirtual 69) rfl rfl ⟨_, rfl⟩ rfl (fun _ => rfl) (fun M1 => ?_) (fun q2 M3 => ?_) (fun _ h => dp_den_ob (mi := dp_m_X7_builtFrom) rfl rfl h)
    · refine dp_s1 hF (i := .goto 4) rfl (fun _ => rfl) ?_
      exact dp_s0 hF (i := .areturn) rfl (fun _ => rfl)
    refine dp_s1 hF (i := .goto 4) rfl (fun _ => rfl) ?_
    exact dp_s0 hF (i := .areturn) rfl (fun _ => rfl)
  refine dp_s1 hF (i := .aconst_null) rfl (fun _ => rfl) ?_
  exact dp_s0 hF (i := .areturn) rfl (fun _ => rfl)
noncomputable def D_X7_refuse_0 (xs : Nat → Int32) (xl d : Nat) (v1 : Int32) (M : dp_M) : Option dp_Res := dp_lim true xs xl (dp_den true xs xl d) dp_m_X7_refuse (0, [some (.ref 68), some (.int v1)], [], M)
theorem D_X7_refuse_0_den (xs : Nat → Int32) (xl d : Nat) (a0 : Int32) (M : dp_M) : dp_den true xs xl (d + 1) 146 [.ref 68, .int a0] M = D_X7_refuse_0 xs xl d a0 M := rfl
set_option maxRecDepth 20000 in
theorem D_X7_refuse_0_eq (xs : Nat → Int32) (xl d : Nat) (v1 : Int32) (M : dp_M) : D_X7_refuse_0 xs xl d v1 M = if (dp_I M 68 2) = (-1 : Int32) then (dp_w (dp_setI M 68 2 v1) (fun M1 => some (.inl (some (.int (-1 : Int32))), M1))) else (some (.inl (some (.int (-1 : Int32))), M)) := by
  have hF := dp_den_grow (md := true) (xs := xs) (xl := xl) d
  unfold D_X7_refuse_0
  refine dp_s1 hF (i := .aload_n 0) rfl (fun _ => rfl) ?_
  refine dp_s1 hF (i := .getfield 11) rfl (fun _ => rfl) ?_
  refine dp_s1 hF (i := .iconst (-1)) rfl (fun _ => rfl) ?_
  refine dp_s2 hF (i := .if_icmp .ne 8) (a := (8, [some (.ref 68), some (.int v1)], [], M)) (b := (13, [some (.ref 68), some (.int v1)], [], M)) rfl (fun _ => rfl) ?_ ?_
  · refine dp_s1 hF (i := .aload_n 0) rfl (fun _ => rfl) ?_
    refine dp_s1 hF (i := .iload_n 1) rfl (fun _ => rfl) ?_
    refine dp_s1w (dp_setI M 68 2 v1) (fun (M1 : dp_M) => (13, [some (.ref 68), some (.int v1)], [], M1)) hF (i := .putfield 11) rfl (fun _ => rfl) (fun M1 => ?_)
    refine dp_s1 hF (i := .iconst (-1)) rfl (fun _ => rfl) ?_
    exact dp_s0 hF (i := .ireturn) rfl (fun _ => rfl)
  refine dp_s1 hF (i := .iconst (-1)) rfl (fun _ => rfl) ?_
  exact dp_s0 hF (i := .ireturn) rfl (fun _ => rfl)
noncomputable def D_X7_signAt_0 (xs : Nat → Int32) (xl d : Nat) (v1 : Int32) (M : dp_M) : Option dp_Res := dp_lim true xs xl (dp_den true xs xl d) dp_m_X7_signAt (0, [some (.ref 68), some (.int v1)], [], M)
theorem D_X7_signAt_0_den (xs : Nat → Int32) (xl d : Nat) (a0 : Int32) (M : dp_M) : dp_den true xs xl (d + 1) 147 [.ref 68, .int a0] M = D_X7_signAt_0 xs xl d a0 M := rfl
set_option maxRecDepth 20000 in
theorem D_X7_signAt_0_eq (xs : Nat → Int32) (xl d : Nat) (v1 : Int32) (M : dp_M) : D_X7_signAt_0 xs xl d v1 M = if (dp_I M 68 0) ≤ v1 then (some (.inl (some (.int (0 : Int32))), M)) else (if v1 < 0 ∨ 400 ≤ Int32.toNatClampNeg v1 then none else (some (.inl (some (.int (dp_I M 70 (Int32.toNatClampNeg v1)))), M))) := by
  have hF := dp_den_grow (md := true) (xs := xs) (xl := xl) d
  unfold D_X7_signAt_0
  refine dp_s1 hF (i := .iload_n 1) rfl (fun _ => rfl) ?_
  refine dp_s1 hF (i := .aload_n 0) rfl (fun _ => rfl) ?_
  refine dp_s1 hF (i := .getfield 37) rfl (fun _ => rfl) ?_
  refine dp_s2 hF (i := .if_icmp .ge 12) (a := (17, [some (.ref 68), some (.int v1)], [], M)) (b := (8, [some (.ref 68), some (.int v1)], [], M)) rfl (fun _ => rfl) ?_ ?_
  · refine dp_s1 hF (i := .iconst 0) rfl (fun _ => rfl) ?_
    exact dp_s0 hF (i := .ireturn) rfl (fun _ => rfl)
  refine dp_s1 hF (i := .aload_n 0) rfl (fun _ => rfl) ?_
  refine dp_s1 hF (i := .getfield 19) rfl (fun _ => rfl) ?_
  refine dp_s1 hF (i := .iload_n 1) rfl (fun _ => rfl) ?_
  refine dp_s3 hF (i := .caload) rfl (fun _ => rfl) ?_
  refine dp_s1 hF (i := .goto 4) rfl (fun _ => rfl) ?_
  exact dp_s0 hF (i := .ireturn) rfl (fun _ => rfl)
noncomputable def D_X7_next_0 (xs : Nat → Int32) (xl d : Nat)  (M : dp_M) : Option dp_Res := dp_lim true xs xl (dp_den true xs xl d) dp_m_X7_next (0, [some (.ref 68)], [], M)
theorem D_X7_next_0_den (xs : Nat → Int32) (xl d : Nat)  (M : dp_M) : dp_den true xs xl (d + 1) 148 [.ref 68] M = D_X7_next_0 xs xl d  M := rfl
set_option maxRecDepth 20000 in
theorem D_X7_next_0_eq (xs : Nat → Int32) (xl d : Nat)  (M : dp_M) : D_X7_next_0 xs xl d  M = if (dp_I M 68 0) ≤ (dp_I M 68 9) then (if (dp_I M 68 0) ≤ (dp_I M 68 9) then (some (.inl (some (.int (0 : Int32))), M)) else (if (dp_I M 68 9) < 0 ∨ 400 ≤ Int32.toNatClampNeg (dp_I M 68 9) then none else (some (.inl (some (.int (dp_I M 70 (Int32.toNatClampNeg (dp_I M 68 9))))), M)))) else (if (dp_I M 68 9) < 0 ∨ 400 ≤ Int32.toNatClampNeg (dp_I M 68 9) then none else (if (dp_I M 70 (Int32.toNatClampNeg (dp_I M 68 9))) = (32 : Int32) then (dp_w (dp_setI M 68 9 ((dp_I M 68 9) + (1 : Int32))) (fun M1 => D_X7_next_0 xs xl d M1)) else (if (dp_I M 68 0) ≤ (dp_I M 68 9) then (some (.inl (some (.int (0 : Int32))), M)) else (if (dp_I M 68 9) < 0 ∨ 400 ≤ Int32.toNatClampNeg (dp_I M 68 9) then none else (some (.inl (some (.int (dp_I M 70 (Int32.toNatClampNeg (dp_I M 68 9))))), M)))))) := by
  have hF := dp_den_grow (md := true) (xs := xs) (xl := xl) d
  unfold D_X7_next_0
  refine dp_s1 hF (i := .aload_n 0) rfl (fun _ => rfl) ?_
  refine dp_s1 hF (i := .getfield 46) rfl (fun _ => rfl) ?_
  refine dp_s1 hF (i := .aload_n 0) rfl (fun _ => rfl) ?_
  refine dp_s1 hF (i := .getfield 37) rfl (fun _ => rfl) ?_
  refine dp_s2 hF (i := .if_icmp .ge 30) (a := (38, [some (.ref 68)], [], M)) (b := (11, [some (.ref 68)], [], M)) rfl (fun _ => rfl) ?_ ?_
  · refine dp_s1 hF (i := .aload_n 0) rfl (fun _ => rfl) ?_
    refine dp_s1 hF (i := .getfield 46) rfl (fun _ => rfl) ?_
    refine dp_s1 hF (i := .aload_n 0) rfl (fun _ => rfl) ?_
    refine dp_s1 hF (i := .getfield 37) rfl (fun _ => rfl) ?_
    refine dp_s2 hF (i := .if_icmp .ge 15) (a := (61, [some (.ref 68)], [], M)) (b := (49, [some (.ref 68)], [], M)) rfl (fun _ => rfl) ?_ ?_
    · refine dp_s1 hF (i := .iconst 0) rfl (fun _ => rfl) ?_
      exact dp_s0 hF (i := .ireturn) rfl (fun _ => rfl)
    refine dp_s1 hF (i := .aload_n 0) rfl (fun _ => rfl) ?_
    refine dp_s1 hF (i := .getfield 19) rfl (fun _ => rfl) ?_
    refine dp_s1 hF (i := .aload_n 0) rfl (fun _ => rfl) ?_
    refine dp_s1 hF (i := .getfield 46) rfl (fun _ => rfl) ?_
    refine dp_s3 hF (i := .caload) rfl (fun _ => rfl) ?_
    refine dp_s1 hF (i := .goto 4) rfl (fun _ => rfl) ?_
    exact dp_s0 hF (i := .ireturn) rfl (fun _ => rfl)
  refine dp_s1 hF (i := .aload_n 0) rfl (fun _ => rfl) ?_
  refine dp_s1 hF (i := .getfield 19) rfl (fun _ => rfl) ?_
  refine dp_s1 hF (i := .aload_n 0) rfl (fun _ => rfl) ?_
  refine dp_s1 hF (i := .getfield 46) rfl (fun _ => rfl) ?_
  refine dp_s3 hF (i := .caload) rfl (fun _ => rfl) ?_
  refine dp_s1 hF (i := .bipush 32) rfl (fun _ => rfl) ?_
  refine dp_s2 hF (i := .if_icmp .ne 16) (a := (25, [some (.ref 68)], [], M)) (b := (38, [some (.ref 68)], [], M)) rfl (fun _ => rfl) ?_ ?_
  · refine dp_s1 hF (i := .aload_n 0) rfl (fun _ => rfl) ?_
    refine dp_s1 hF (i := .dup) rfl (fun _ => rfl) ?_
    refine dp_s1 hF (i := .getfield 46) rfl (fun _ => rfl) ?_
    refine dp_s1 hF (i := .iconst 1) rfl (fun _ => rfl) ?_
    refine dp_s1 hF (i := .iadd) rfl (fun _ => rfl) ?_
    refine dp_s1w (dp_setI M 68 9 ((dp_I M 68 9) + (1 : Int32))) (fun (M1 : dp_M) => (35, [some (.ref 68)], [], M1)) hF (i := .putfield 46) rfl (fun _ => rfl) (fun M1 => ?_)
    refine dp_s1 hF (i := .goto (-35)) rfl (fun _ => rfl) ?_
    exact rfl
  refine dp_s1 hF (i := .aload_n 0) rfl (fun _ => rfl) ?_
  refine dp_s1 hF (i := .getfield 46) rfl (fun _ => rfl) ?_
  refine dp_s1 hF (i := .aload_n 0) rfl (fun _ => rfl) ?_
  refine dp_s1 hF (i := .getfield 37) rfl (fun _ => rfl) ?_
  refine dp_s2 hF (i := .if_icmp .ge 15) (a := (61, [some (.ref 68)], [], M)) (b := (49, [some (.ref 68)], [], M)) rfl (fun _ => rfl) ?_ ?_
  · refine dp_s1 hF (i := .iconst 0) rfl (fun _ => rfl) ?_
    exact dp_s0 hF (i := .ireturn) rfl (fun _ => rfl)
  refine dp_s1 hF (i := .aload_n 0) rfl (fun _ => rfl) ?_
  refine dp_s1 hF (i := .getfield 19) rfl (fun _ => rfl) ?_
  refine dp_s1 hF (i := .aload_n 0) rfl (fun _ => rfl) ?_
  refine dp_s1 hF (i := .getfield 46) rfl (fun _ => rfl) ?_
  refine dp_s3 hF (i := .caload) rfl (fun _ => rfl) ?_
  refine dp_s1 hF (i := .goto 4) rfl (fun _ => rfl) ?_
  exact dp_s0 hF (i := .ireturn) rfl (fun _ => rfl)
noncomputable def D_X7_pass_0 (xs : Nat → Int32) (xl d : Nat) (v1 : Int32) (M : dp_M) : Option dp_Res := dp_lim true xs xl (dp_den true xs xl d) dp_m_X7_pass (0, [some (.ref 68), some (.int v1)], [], M)
theorem D_X7_pass_0_den (xs : Nat → Int32) (xl d : Nat) (a0 : Int32) (M : dp_M) : dp_den true xs xl (d + 1) 149 [.ref 68, .int a0] M = D_X7_pass_0 xs xl d a0 M := rfl
set_option maxRecDepth 20000 in
theorem D_X7_pass_0_eq (xs : Nat → Int32) (xl d : Nat) (v1 : Int32) (M : dp_M) : D_X7_pass_0 xs xl d v1 M = dp_bi (dp_den true xs xl d 148 [.ref 68] M) (fun r2 M1 => if r2 = v1 then (dp_w (dp_setI M1 68 9 ((dp_I M1 68 9) + (1 : Int32))) (fun M3 => some (.inl (some (.int (1 : Int32))), M3))) else (dp_bi (dp_den true xs xl d 146 [.ref 68, .int (dp_I M1 68 9)] M1) (fun r5 M4 => some (.inl (some (.int (0 : Int32))), M4)))) := by
  have hF := dp_den_grow (md := true) (xs := xs) (xl := xl) d
  unfold D_X7_pass_0
  refine dp_s1 hF (i := .aload_n 0) rfl (fun _ => rfl) ?_
  refine dp_si (mj := dp_m_X7_next) (i := .invokevirtual 62) rfl rfl (Or.inl rfl) rfl (fun _ => rfl) (fun r2 M1 => ?_)
  refine dp_s1 hF (i := .iload_n 1) rfl (fun _ => rfl) ?_
  refine dp_s2 hF (i := .if_icmp .eq 14) (a := (19, [some (.ref 68), some (.int v1)], [], M1)) (b := (8, [some (.ref 68), some (.int v1)], [], M1)) rfl (fun _ => rfl) ?_ ?_
  · refine dp_s1 hF (i := .aload_n 0) rfl (fun _ => rfl) ?_
    refine dp_s1 hF (i := .dup) rfl (fun _ => rfl) ?_
    refine dp_s1 hF (i := .getfield 46) rfl (fun _ => rfl) ?_
    refine dp_s1 hF (i := .iconst 1) rfl (fun _ => rfl) ?_
    refine dp_s1 hF (i := .iadd) rfl (fun _ => rfl) ?_
    refine dp_s1w (dp_setI M1 68 9 ((dp_I M1 68 9) + (1 : Int32))) (fun (M3 : dp_M) => (29, [some (.ref 68), some (.int v1)], [], M3)) hF (i := .putfield 46) rfl (fun _ => rfl) (fun M3 => ?_)
    refine dp_s1 hF (i := .iconst 1) rfl (fun _ => rfl) ?_
    exact dp_s0 hF (i := .ireturn) rfl (fun _ => rfl)
  refine dp_s1 hF (i := .aload_n 0) rfl (fun _ => rfl) ?_
  refine dp_s1 hF (i := .aload_n 0) rfl (fun _ => rfl) ?_
  refine dp_s1 hF (i := .getfield 46) rfl (fun _ => rfl) ?_
  refine dp_si (mj := dp_m_X7_refuse) (i := .invokevirtual 66) rfl rfl (Or.inl rfl) rfl (fun _ => rfl) (fun r5 M4 => ?_)
  refine dp_s1 hF (i := .pop) rfl (fun _ => rfl) ?_
  refine dp_s1 hF (i := .iconst 0) rfl (fun _ => rfl) ?_
  exact dp_s0 hF (i := .ireturn) rfl (fun _ => rfl)
noncomputable def D_X7_addNode_0 (xs : Nat → Int32) (xl d : Nat) (v1 : Int32) (v2 : Int32) (M : dp_M) : Option dp_Res := dp_lim true xs xl (dp_den true xs xl d) dp_m_X7_addNode (0, [some (.ref 68), some (.int v1), some (.int v2), none], [], M)
theorem D_X7_addNode_0_den (xs : Nat → Int32) (xl d : Nat) (a0 : Int32) (a1 : Int32) (M : dp_M) : dp_den true xs xl (d + 1) 150 [.ref 68, .int a0, .int a1] M = D_X7_addNode_0 xs xl d a0 a1 M := rfl
set_option maxRecDepth 20000 in
theorem D_X7_addNode_0_eq (xs : Nat → Int32) (xl d : Nat) (v1 : Int32) (v2 : Int32) (M : dp_M) : D_X7_addNode_0 xs xl d v1 v2 M = if (dp_I M 68 10) < (60 : Int32) then (dp_w ((dp_I M 68 10) * (7 : Int32)) (fun y1 => if y1 < 0 ∨ 420 ≤ Int32.toNatClampNeg y1 then none else dp_w (dp_setI M 71 (Int32.toNatClampNeg y1) v1) (fun M2 => if (y1 + (1 : Int32)) < 0 ∨ 420 ≤ Int32.toNatClampNeg (y1 + (1 : Int32)) then none else dp_w (dp_setI M2 71 (Int32.toNatClampNeg (y1 + (1 : Int32))) (0 : Int32)) (fun M3 => if (y1 + (2 : Int32)) < 0 ∨ 420 ≤ Int32.toNatClampNeg (y1 + (2 : Int32)) then none else dp_w (dp_setI M3 71 (Int32.toNatClampNeg (y1 + (2 : Int32))) (-1 : Int32)) (fun M4 => if (y1 + (3 : Int32)) < 0 ∨ 420 ≤ Int32.toNatClampNeg (y1 + (3 : Int32)) then none else dp_w (dp_setI M4 71 (Int32.toNatClampNeg (y1 + (3 : Int32))) (-1 : Int32)) (fun M5 => if (y1 + (4 : Int32)) < 0 ∨ 420 ≤ Int32.toNatClampNeg (y1 + (4 : Int32)) then none else dp_w (dp_setI M5 71 (Int32.toNatClampNeg (y1 + (4 : Int32))) (-1 : Int32)) (fun M6 => if (y1 + (5 : Int32)) < 0 ∨ 420 ≤ Int32.toNatClampNeg (y1 + (5 : Int32)) then none else dp_w (dp_setI M6 71 (Int32.toNatClampNeg (y1 + (5 : Int32))) (0 : Int32)) (fun M7 => if (y1 + (6 : Int32)) < 0 ∨ 420 ≤ Int32.toNatClampNeg (y1 + (6 : Int32)) then none else dp_w (dp_setI M7 71 (Int32.toNatClampNeg (y1 + (6 : Int32))) (0 : Int32)) (fun M8 => dp_w (dp_setI M8 68 10 ((dp_I M8 68 10) + (1 : Int32))) (fun M9 => some (.inl (some (.int ((dp_I M9 68 10) - (1 : Int32)))), M9))))))))))) else (dp_bi (dp_den true xs xl d 146 [.ref 68, .int v2] M) (fun r11 M10 => some (.inl (some (.int r11)), M10))) := by
  have hF := dp_den_grow (md := true) (xs := xs) (xl := xl) d
  unfold D_X7_addNode_0
  refine dp_s1 hF (i := .aload_n 0) rfl (fun _ => rfl) ?_
  refine dp_s1 hF (i := .getfield 49) rfl (fun _ => rfl) ?_
  refine dp_s1 hF (i := .bipush 60) rfl (fun _ => rfl) ?_
  refine dp_s2 hF (i := .if_icmp .lt 9) (a := (15, [some (.ref 68), some (.int v1), some (.int v2), none], [], M)) (b := (9, [some (.ref 68), some (.int v1), some (.int v2), none], [], M)) rfl (fun _ => rfl) ?_ ?_
  · refine dp_s1 hF (i := .aload_n 0) rfl (fun _ => rfl) ?_
    refine dp_s1 hF (i := .getfield 49) rfl (fun _ => rfl) ?_
    refine dp_s1 hF (i := .bipush 7) rfl (fun _ => rfl) ?_
    refine dp_s1 hF (i := .imul) rfl (fun _ => rfl) ?_
    refine dp_s1w ((dp_I M 68 10) * (7 : Int32)) (fun (y1 : Int32) => (23, [some (.ref 68), some (.int v1), some (.int v2), some (.int y1)], [], M)) hF (i := .istore_n 3) rfl (fun _ => rfl) (fun y1 => ?_)
    refine dp_s1 hF (i := .aload_n 0) rfl (fun _ => rfl) ?_
    refine dp_s1 hF (i := .getfield 24) rfl (fun _ => rfl) ?_
    refine dp_s1 hF (i := .iload_n 3) rfl (fun _ => rfl) ?_
    refine dp_s1 hF (i := .iload_n 1) rfl (fun _ => rfl) ?_
    refine dp_s3w (dp_setI M 71 (Int32.toNatClampNeg y1) v1) (fun (M2 : dp_M) => (30, [some (.ref 68), some (.int v1), some (.int v2), some (.int y1)], [], M2)) hF (i := .iastore) rfl (fun _ => rfl) (fun M2 => ?_)
    refine dp_s1 hF (i := .aload_n 0) rfl (fun _ => rfl) ?_
    refine dp_s1 hF (i := .getfield 24) rfl (fun _ => rfl) ?_
    refine dp_s1 hF (i := .iload_n 3) rfl (fun _ => rfl) ?_
    refine dp_s1 hF (i := .iconst 1) rfl (fun _ => rfl) ?_
    refine dp_s1 hF (i := .iadd) rfl (fun _ => rfl) ?_
    refine dp_s1 hF (i := .iconst 0) rfl (fun _ => rfl) ?_
    refine dp_s3w (dp_setI M2 71 (Int32.toNatClampNeg (y1 + (1 : Int32))) (0 : Int32)) (fun (M3 : dp_M) => (39, [some (.ref 68), some (.int v1), some (.int v2), some (.int y1)], [], M3)) hF (i := .iastore) rfl (fun _ => rfl) (fun M3 => ?_)
    refine dp_s1 hF (i := .aload_n 0) rfl (fun _ => rfl) ?_
    refine dp_s1 hF (i := .getfield 24) rfl (fun _ => rfl) ?_
    refine dp_s1 hF (i := .iload_n 3) rfl (fun _ => rfl) ?_
    refine dp_s1 hF (i := .iconst 2) rfl (fun _ => rfl) ?_
    refine dp_s1 hF (i := .iadd) rfl (fun _ => rfl) ?_
    refine dp_s1 hF (i := .iconst (-1)) rfl (fun _ => rfl) ?_
    refine dp_s3w (dp_setI M3 71 (Int32.toNatClampNeg (y1 + (2 : Int32))) (-1 : Int32)) (fun (M4 : dp_M) => (48, [some (.ref 68), some (.int v1), some (.int v2), some (.int y1)], [], M4)) hF (i := .iastore) rfl (fun _ => rfl) (fun M4 => ?_)
    refine dp_s1 hF (i := .aload_n 0) rfl (fun _ => rfl) ?_
    refine dp_s1 hF (i := .getfield 24) rfl (fun _ => rfl) ?_
    refine dp_s1 hF (i := .iload_n 3) rfl (fun _ => rfl) ?_
    refine dp_s1 hF (i := .iconst 3) rfl (fun _ => rfl) ?_
    refine dp_s1 hF (i := .iadd) rfl (fun _ => rfl) ?_
    refine dp_s1 hF (i := .iconst (-1)) rfl (fun _ => rfl) ?_
    refine dp_s3w (dp_setI M4 71 (Int32.toNatClampNeg (y1 + (3 : Int32))) (-1 : Int32)) (fun (M5 : dp_M) => (57, [some (.ref 68), some (.int v1), some (.int v2), some (.int y1)], [], M5)) hF (i := .iastore) rfl (fun _ => rfl) (fun M5 => ?_)
    refine dp_s1 hF (i := .aload_n 0) rfl (fun _ => rfl) ?_
    refine dp_s1 hF (i := .getfield 24) rfl (fun _ => rfl) ?_
    refine dp_s1 hF (i := .iload_n 3) rfl (fun _ => rfl) ?_
    refine dp_s1 hF (i := .iconst 4) rfl (fun _ => rfl) ?_
    refine dp_s1 hF (i := .iadd) rfl (fun _ => rfl) ?_
    refine dp_s1 hF (i := .iconst (-1)) rfl (fun _ => rfl) ?_
    refine dp_s3w (dp_setI M5 71 (Int32.toNatClampNeg (y1 + (4 : Int32))) (-1 : Int32)) (fun (M6 : dp_M) => (66, [some (.ref 68), some (.int v1), some (.int v2), some (.int y1)], [], M6)) hF (i := .iastore) rfl (fun _ => rfl) (fun M6 => ?_)
    refine dp_s1 hF (i := .aload_n 0) rfl (fun _ => rfl) ?_
    refine dp_s1 hF (i := .getfield 24) rfl (fun _ => rfl) ?_
    refine dp_s1 hF (i := .iload_n 3) rfl (fun _ => rfl) ?_
    refine dp_s1 hF (i := .iconst 5) rfl (fun _ => rfl) ?_
    refine dp_s1 hF (i := .iadd) rfl (fun _ => rfl) ?_
    refine dp_s1 hF (i := .iconst 0) rfl (fun _ => rfl) ?_
    refine dp_s3w (dp_setI M6 71 (Int32.toNatClampNeg (y1 + (5 : Int32))) (0 : Int32)) (fun (M7 : dp_M) => (75, [some (.ref 68), some (.int v1), some (.int v2), some (.int y1)], [], M7)) hF (i := .iastore) rfl (fun _ => rfl) (fun M7 => ?_)
    refine dp_s1 hF (i := .aload_n 0) rfl (fun _ => rfl) ?_
    refine dp_s1 hF (i := .getfield 24) rfl (fun _ => rfl) ?_
    refine dp_s1 hF (i := .iload_n 3) rfl (fun _ => rfl) ?_
    refine dp_s1 hF (i := .bipush 6) rfl (fun _ => rfl) ?_
    refine dp_s1 hF (i := .iadd) rfl (fun _ => rfl) ?_
    refine dp_s1 hF (i := .iconst 0) rfl (fun _ => rfl) ?_
    refine dp_s3w (dp_setI M7 71 (Int32.toNatClampNeg (y1 + (6 : Int32))) (0 : Int32)) (fun (M8 : dp_M) => (85, [some (.ref 68), some (.int v1), some (.int v2), some (.int y1)], [], M8)) hF (i := .iastore) rfl (fun _ => rfl) (fun M8 => ?_)
    refine dp_s1 hF (i := .aload_n 0) rfl (fun _ => rfl) ?_
    refine dp_s1 hF (i := .dup) rfl (fun _ => rfl) ?_
    refine dp_s1 hF (i := .getfield 49) rfl (fun _ => rfl) ?_
    refine dp_s1 hF (i := .iconst 1) rfl (fun _ => rfl) ?_
    refine dp_s1 hF (i := .iadd) rfl (fun _ => rfl) ?_
    refine dp_s1w (dp_setI M8 68 10 ((dp_I M8 68 10) + (1 : Int32))) (fun (M9 : dp_M) => (95, [some (.ref 68), some (.int v1), some (.int v2), some (.int y1)], [], M9)) hF (i := .putfield 49) rfl (fun _ => rfl) (fun M9 => ?_)
    refine dp_s1 hF (i := .aload_n 0) rfl (fun _ => rfl) ?_
    refine dp_s1 hF (i := .getfield 49) rfl (fun _ => rfl) ?_
    refine dp_s1 hF (i := .iconst 1) rfl (fun _ => rfl) ?_
    refine dp_s1 hF (i := .isub) rfl (fun _ => rfl) ?_
    exact dp_s0 hF (i := .ireturn) rfl (fun _ => rfl)
  refine dp_s1 hF (i := .aload_n 0) rfl (fun _ => rfl) ?_
  refine dp_s1 hF (i := .iload_n 2) rfl (fun _ => rfl) ?_
  refine dp_si (mj := dp_m_X7_refuse) (i := .invokevirtual 66) rfl rfl (Or.inl rfl) rfl (fun _ => rfl) (fun r11 M10 => ?_)
  exact dp_s0 hF (i := .ireturn) rfl (fun _ => rfl)
noncomputable def D_X7_setFact_0 (xs : Nat → Int32) (xl d : Nat) (v1 : Int32) (v2 : Int32) (v3 : Int32) (M : dp_M) : Option dp_Res := dp_lim true xs xl (dp_den true xs xl d) dp_m_X7_setFact (0, [some (.ref 68), some (.int v1), some (.int v2), some (.int v3)], [], M)
theorem D_X7_setFact_0_den (xs : Nat → Int32) (xl d : Nat) (a0 : Int32) (a1 : Int32) (a2 : Int32) (M : dp_M) : dp_den true xs xl (d + 1) 151 [.ref 68, .int a0, .int a1, .int a2] M = D_X7_setFact_0 xs xl d a0 a1 a2 M := rfl
set_option maxRecDepth 20000 in
theorem D_X7_setFact_0_eq (xs : Nat → Int32) (xl d : Nat) (v1 : Int32) (v2 : Int32) (v3 : Int32) (M : dp_M) : D_X7_setFact_0 xs xl d v1 v2 v3 M = if ((v1 * (7 : Int32)) + v2) < 0 ∨ 420 ≤ Int32.toNatClampNeg ((v1 * (7 : Int32)) + v2) then none else dp_w (dp_setI M 71 (Int32.toNatClampNeg ((v1 * (7 : Int32)) + v2)) v3) (fun M1 => some (.inl none, M1)) := by
  have hF := dp_den_grow (md := true) (xs := xs) (xl := xl) d
  unfold D_X7_setFact_0
  refine dp_s1 hF (i := .aload_n 0) rfl (fun _ => rfl) ?_
  refine dp_s1 hF (i := .getfield 24) rfl (fun _ => rfl) ?_
  refine dp_s1 hF (i := .iload_n 1) rfl (fun _ => rfl) ?_
  refine dp_s1 hF (i := .bipush 7) rfl (fun _ => rfl) ?_
  refine dp_s1 hF (i := .imul) rfl (fun _ => rfl) ?_
  refine dp_s1 hF (i := .iload_n 2) rfl (fun _ => rfl) ?_
  refine dp_s1 hF (i := .iadd) rfl (fun _ => rfl) ?_
  refine dp_s1 hF (i := .iload_n 3) rfl (fun _ => rfl) ?_
  refine dp_s3w (dp_setI M 71 (Int32.toNatClampNeg ((v1 * (7 : Int32)) + v2)) v3) (fun (M1 : dp_M) => (12, [some (.ref 68), some (.int v1), some (.int v2), some (.int v3)], [], M1)) hF (i := .iastore) rfl (fun _ => rfl) (fun M1 => ?_)
  exact dp_s0 hF (i := .return_) rfl (fun _ => rfl)
noncomputable def D_X7_setBelow_0 (xs : Nat → Int32) (xl d : Nat) (v1 : Int32) (v2 : Int32) (v3 : Int32) (M : dp_M) : Option dp_Res := dp_lim true xs xl (dp_den true xs xl d) dp_m_X7_setBelow (0, [some (.ref 68), some (.int v1), some (.int v2), some (.int v3)], [], M)
theorem D_X7_setBelow_0_den (xs : Nat → Int32) (xl d : Nat) (a0 : Int32) (a1 : Int32) (a2 : Int32) (M : dp_M) : dp_den true xs xl (d + 1) 152 [.ref 68, .int a0, .int a1, .int a2] M = D_X7_setBelow_0 xs xl d a0 a1 a2 M := rfl
set_option maxRecDepth 20000 in
theorem D_X7_setBelow_0_eq (xs : Nat → Int32) (xl d : Nat) (v1 : Int32) (v2 : Int32) (v3 : Int32) (M : dp_M) : D_X7_setBelow_0 xs xl d v1 v2 v3 M = dp_bv (dp_den true xs xl d 151 [.ref 68, .int v1, .int (3 : Int32), .int v2] M) (fun M1 => dp_bv (dp_den true xs xl d 151 [.ref 68, .int v1, .int (4 : Int32), .int v3] M1) (fun M2 => some (.inl none, M2))) := by
  have hF := dp_den_grow (md := true) (xs := xs) (xl := xl) d
  unfold D_X7_setBelow_0
  refine dp_s1 hF (i := .aload_n 0) rfl (fun _ => rfl) ?_
  refine dp_s1 hF (i := .iload_n 1) rfl (fun _ => rfl) ?_
  refine dp_s1 hF (i := .iconst 3) rfl (fun _ => rfl) ?_
  refine dp_s1 hF (i := .iload_n 2) rfl (fun _ => rfl) ?_
  refine dp_sv (mj := dp_m_X7_setFact) (i := .invokevirtual 73) rfl rfl rfl rfl (fun _ => rfl) (fun M1 => ?_)
  refine dp_s1 hF (i := .aload_n 0) rfl (fun _ => rfl) ?_
  refine dp_s1 hF (i := .iload_n 1) rfl (fun _ => rfl) ?_
  refine dp_s1 hF (i := .iconst 4) rfl (fun _ => rfl) ?_
  refine dp_s1 hF (i := .iload_n 3) rfl (fun _ => rfl) ?_
  refine dp_sv (mj := dp_m_X7_setFact) (i := .invokevirtual 73) rfl rfl rfl rfl (fun _ => rfl) (fun M2 => ?_)
  exact dp_s0 hF (i := .return_) rfl (fun _ => rfl)
noncomputable def D_X7_readRate_0 (xs : Nat → Int32) (xl d : Nat) (v1 : Int32) (M : dp_M) : Option dp_Res := dp_lim true xs xl (dp_den true xs xl d) dp_m_X7_readRate (0, [some (.ref 68), some (.int v1), none, none, none, none, none], [], M)
noncomputable def D_X7_readRate_8 (xs : Nat → Int32) (xl d : Nat) (v1 : Int32) (v2 : Int32) (v3 : Int32) (M : dp_M) : Option dp_Res := dp_lim true xs xl (dp_den true xs xl d) dp_m_X7_readRate (8, [some (.ref 68), some (.int v1), some (.int v2), some (.int v3), none, none, none], [], M)
noncomputable def D_X7_readRate_56 (xs : Nat → Int32) (xl d : Nat) (v1 : Int32) (v2 : Int32) (v3 : Int32) (v4 : Int32) (vs0 : Int32) (M : dp_M) : Option dp_Res := dp_lim true xs xl (dp_den true xs xl d) dp_m_X7_readRate (56, [some (.ref 68), some (.int v1), some (.int v2), some (.int v3), some (.int v4), none, none], [.int vs0, .ref 68], M)
noncomputable def D_X7_readRate_90 (xs : Nat → Int32) (xl d : Nat) (v1 : Int32) (v2 : Int32) (v3 : Int32) (v4 : Int32) (v5 : Int32) (vs0 : Int32) (M : dp_M) : Option dp_Res := dp_lim true xs xl (dp_den true xs xl d) dp_m_X7_readRate (90, [some (.ref 68), some (.int v1), some (.int v2), some (.int v3), some (.int v4), some (.int v5), none], [.int vs0], M)
noncomputable def D_X7_readRate_8_a (xs : Nat → Int32) (xl d : Nat) (v1 : Int32) (v2 : Int32) (v3 : Int32) (v4 : Int32) (v5 : Int32) (v6 : Int32) (M : dp_M) : Option dp_Res := dp_lim true xs xl (dp_den true xs xl d) dp_m_X7_readRate (8, [some (.ref 68), some (.int v1), some (.int v2), some (.int v3), some (.int v4), some (.int v5), some (.int v6)], [], M)
noncomputable def D_X7_readRate_56_a (xs : Nat → Int32) (xl d : Nat) (v1 : Int32) (v2 : Int32) (v3 : Int32) (v4 : Int32) (v5 : Int32) (v6 : Int32) (vs0 : Int32) (M : dp_M) : Option dp_Res := dp_lim true xs xl (dp_den true xs xl d) dp_m_X7_readRate (56, [some (.ref 68), some (.int v1), some (.int v2), some (.int v3), some (.int v4), some (.int v5), some (.int v6)], [.int vs0, .ref 68], M)
noncomputable def D_X7_readRate_90_a (xs : Nat → Int32) (xl d : Nat) (v1 : Int32) (v2 : Int32) (v3 : Int32) (v4 : Int32) (v5 : Int32) (v6 : Int32) (vs0 : Int32) (M : dp_M) : Option dp_Res := dp_lim true xs xl (dp_den true xs xl d) dp_m_X7_readRate (90, [some (.ref 68), some (.int v1), some (.int v2), some (.int v3), some (.int v4), some (.int v5), some (.int v6)], [.int vs0], M)
theorem D_X7_readRate_0_den (xs : Nat → Int32) (xl d : Nat) (a0 : Int32) (M : dp_M) : dp_den true xs xl (d + 1) 153 [.ref 68, .int a0] M = D_X7_readRate_0 xs xl d a0 M := rfl
set_option maxRecDepth 20000 in
theorem D_X7_readRate_0_eq (xs : Nat → Int32) (xl d : Nat) (v1 : Int32) (M : dp_M) : D_X7_readRate_0 xs xl d v1 M = dp_bi (dp_den true xs xl d 154 [.ref 68, .int v1] M) (fun r2 M1 => dp_w (0 : Int32) (fun y3 => D_X7_readRate_8 xs xl d v1 r2 y3 M1)) := by
  have hF := dp_den_grow (md := true) (xs := xs) (xl := xl) d
  unfold D_X7_readRate_0
  refine dp_s1 hF (i := .aload_n 0) rfl (fun _ => rfl) ?_
  refine dp_s1 hF (i := .iload_n 1) rfl (fun _ => rfl) ?_
  refine dp_si (mj := dp_m_X7_readPart) (i := .invokevirtual 77) rfl rfl (Or.inl rfl) rfl (fun _ => rfl) (fun r2 M1 => ?_)
  refine dp_s1 hF (i := .istore_n 2) rfl (fun _ => rfl) ?_
  refine dp_s1 hF (i := .iconst 0) rfl (fun _ => rfl) ?_
  refine dp_s1w (0 : Int32) (fun (y3 : Int32) => (8, [some (.ref 68), some (.int v1), some (.int r2), some (.int y3), none, none, none], [], M1)) hF (i := .istore_n 3) rfl (fun _ => rfl) (fun y3 => ?_)
  exact rfl
set_option maxRecDepth 20000 in
theorem D_X7_readRate_8_eq (xs : Nat → Int32) (xl d : Nat) (v1 : Int32) (v2 : Int32) (v3 : Int32) (M : dp_M) : D_X7_readRate_8 xs xl d v1 v2 v3 M = if (400 : Int32) ≤ v3 then (some (.inl (some (.int v2)), M)) else (if v2 = (-1 : Int32) then (some (.inl (some (.int v2)), M)) else (dp_bi (dp_den true xs xl d 148 [.ref 68] M) (fun r2 M1 => if r2 = (43 : Int32) then (if r2 = (43 : Int32) then (D_X7_readRate_56 xs xl d v1 v2 v3 r2 (3 : Int32) M1) else (D_X7_readRate_56 xs xl d v1 v2 v3 r2 (4 : Int32) M1)) else (if r2 = (45 : Int32) then (if r2 = (43 : Int32) then (D_X7_readRate_56 xs xl d v1 v2 v3 r2 (3 : Int32) M1) else (D_X7_readRate_56 xs xl d v1 v2 v3 r2 (4 : Int32) M1)) else (some (.inl (some (.int v2)), M1)))))) := by
  have hF := dp_den_grow (md := true) (xs := xs) (xl := xl) d
  unfold D_X7_readRate_8
  refine dp_s1 hF (i := .iload_n 3) rfl (fun _ => rfl) ?_
  refine dp_s1 hF (i := .sipush 400) rfl (fun _ => rfl) ?_
  refine dp_s2 hF (i := .if_icmp .ge 106) (a := (118, [some (.ref 68), some (.int v1), some (.int v2), some (.int v3), none, none, none], [], M)) (b := (15, [some (.ref 68), some (.int v1), some (.int v2), some (.int v3), none, none, none], [], M)) rfl (fun _ => rfl) ?_ ?_
  · refine dp_s1 hF (i := .iload_n 2) rfl (fun _ => rfl) ?_
    exact dp_s0 hF (i := .ireturn) rfl (fun _ => rfl)
  refine dp_s1 hF (i := .iload_n 2) rfl (fun _ => rfl) ?_
  refine dp_s1 hF (i := .iconst (-1)) rfl (fun _ => rfl) ?_
  refine dp_s2 hF (i := .if_icmp .eq 101) (a := (118, [some (.ref 68), some (.int v1), some (.int v2), some (.int v3), none, none, none], [], M)) (b := (20, [some (.ref 68), some (.int v1), some (.int v2), some (.int v3), none, none, none], [], M)) rfl (fun _ => rfl) ?_ ?_
  · refine dp_s1 hF (i := .iload_n 2) rfl (fun _ => rfl) ?_
    exact dp_s0 hF (i := .ireturn) rfl (fun _ => rfl)
  refine dp_s1 hF (i := .aload_n 0) rfl (fun _ => rfl) ?_
  refine dp_si (mj := dp_m_X7_next) (i := .invokevirtual 62) rfl rfl (Or.inl rfl) rfl (fun _ => rfl) (fun r2 M1 => ?_)
  refine dp_s1 hF (i := .istore 4) rfl (fun _ => rfl) ?_
  refine dp_s1 hF (i := .iload 4) rfl (fun _ => rfl) ?_
  refine dp_s1 hF (i := .bipush 43) rfl (fun _ => rfl) ?_
  refine dp_s2 hF (i := .if_icmp .eq 13) (a := (43, [some (.ref 68), some (.int v1), some (.int v2), some (.int v3), some (.int r2), none, none], [], M1)) (b := (33, [some (.ref 68), some (.int v1), some (.int v2), some (.int v3), some (.int r2), none, none], [], M1)) rfl (fun _ => rfl) ?_ ?_
  · refine dp_s1 hF (i := .aload_n 0) rfl (fun _ => rfl) ?_
    refine dp_s1 hF (i := .iload 4) rfl (fun _ => rfl) ?_
    refine dp_s1 hF (i := .bipush 43) rfl (fun _ => rfl) ?_
    refine dp_s2 hF (i := .if_icmp .ne 7) (a := (51, [some (.ref 68), some (.int v1), some (.int v2), some (.int v3), some (.int r2), none, none], [.ref 68], M1)) (b := (55, [some (.ref 68), some (.int v1), some (.int v2), some (.int v3), some (.int r2), none, none], [.ref 68], M1)) rfl (fun _ => rfl) ?_ ?_
    · refine dp_s1 hF (i := .iconst 3) rfl (fun _ => rfl) ?_
      refine dp_s1 hF (i := .goto 4) rfl (fun _ => rfl) ?_
      exact rfl
    refine dp_s1 hF (i := .iconst 4) rfl (fun _ => rfl) ?_
    exact rfl
  refine dp_s1 hF (i := .iload 4) rfl (fun _ => rfl) ?_
  refine dp_s1 hF (i := .bipush 45) rfl (fun _ => rfl) ?_
  refine dp_s2 hF (i := .if_icmp .eq 6) (a := (43, [some (.ref 68), some (.int v1), some (.int v2), some (.int v3), some (.int r2), none, none], [], M1)) (b := (40, [some (.ref 68), some (.int v1), some (.int v2), some (.int v3), some (.int r2), none, none], [], M1)) rfl (fun _ => rfl) ?_ ?_
  · refine dp_s1 hF (i := .aload_n 0) rfl (fun _ => rfl) ?_
    refine dp_s1 hF (i := .iload 4) rfl (fun _ => rfl) ?_
    refine dp_s1 hF (i := .bipush 43) rfl (fun _ => rfl) ?_
    refine dp_s2 hF (i := .if_icmp .ne 7) (a := (51, [some (.ref 68), some (.int v1), some (.int v2), some (.int v3), some (.int r2), none, none], [.ref 68], M1)) (b := (55, [some (.ref 68), some (.int v1), some (.int v2), some (.int v3), some (.int r2), none, none], [.ref 68], M1)) rfl (fun _ => rfl) ?_ ?_
    · refine dp_s1 hF (i := .iconst 3) rfl (fun _ => rfl) ?_
      refine dp_s1 hF (i := .goto 4) rfl (fun _ => rfl) ?_
      exact rfl
    refine dp_s1 hF (i := .iconst 4) rfl (fun _ => rfl) ?_
    exact rfl
  refine dp_s1 hF (i := .goto 78) rfl (fun _ => rfl) ?_
  refine dp_s1 hF (i := .iload_n 2) rfl (fun _ => rfl) ?_
  exact dp_s0 hF (i := .ireturn) rfl (fun _ => rfl)
set_option maxRecDepth 20000 in
theorem D_X7_readRate_56_eq (xs : Nat → Int32) (xl d : Nat) (v1 : Int32) (v2 : Int32) (v3 : Int32) (v4 : Int32) (vs0 : Int32) (M : dp_M) : D_X7_readRate_56 xs xl d v1 v2 v3 v4 vs0 M = dp_bi (dp_den true xs xl d 150 [.ref 68, .int vs0, .int (dp_I M 68 9)] M) (fun r2 M1 => dp_w (dp_setI M1 68 9 ((dp_I M1 68 9) + (1 : Int32))) (fun M3 => if r2 = (-1 : Int32) then (D_X7_readRate_90 xs xl d v1 v2 v3 v4 r2 (-1 : Int32) M3) else (dp_bi (dp_den true xs xl d 154 [.ref 68, .int v1] M3) (fun r5 M4 => D_X7_readRate_90 xs xl d v1 v2 v3 v4 r2 r5 M4)))) := by
  have hF := dp_den_grow (md := true) (xs := xs) (xl := xl) d
  unfold D_X7_readRate_56
  refine dp_s1 hF (i := .aload_n 0) rfl (fun _ => rfl) ?_
  refine dp_s1 hF (i := .getfield 46) rfl (fun _ => rfl) ?_
  refine dp_si (mj := dp_m_X7_addNode) (i := .invokevirtual 80) rfl rfl (Or.inl rfl) rfl (fun _ => rfl) (fun r2 M1 => ?_)
  refine dp_s1 hF (i := .istore 5) rfl (fun _ => rfl) ?_
  refine dp_s1 hF (i := .aload_n 0) rfl (fun _ => rfl) ?_
  refine dp_s1 hF (i := .dup) rfl (fun _ => rfl) ?_
  refine dp_s1 hF (i := .getfield 46) rfl (fun _ => rfl) ?_
  refine dp_s1 hF (i := .iconst 1) rfl (fun _ => rfl) ?_
  refine dp_s1 hF (i := .iadd) rfl (fun _ => rfl) ?_
  refine dp_s1w (dp_setI M1 68 9 ((dp_I M1 68 9) + (1 : Int32))) (fun (M3 : dp_M) => (75, [some (.ref 68), some (.int v1), some (.int v2), some (.int v3), some (.int v4), some (.int r2), none], [], M3)) hF (i := .putfield 46) rfl (fun _ => rfl) (fun M3 => ?_)
  refine dp_s1 hF (i := .iload 5) rfl (fun _ => rfl) ?_
  refine dp_s1 hF (i := .iconst (-1)) rfl (fun _ => rfl) ?_
  refine dp_s2 hF (i := .if_icmp .ne 7) (a := (81, [some (.ref 68), some (.int v1), some (.int v2), some (.int v3), some (.int v4), some (.int r2), none], [], M3)) (b := (85, [some (.ref 68), some (.int v1), some (.int v2), some (.int v3), some (.int v4), some (.int r2), none], [], M3)) rfl (fun _ => rfl) ?_ ?_
  · refine dp_s1 hF (i := .iconst (-1)) rfl (fun _ => rfl) ?_
    refine dp_s1 hF (i := .goto 8) rfl (fun _ => rfl) ?_
    exact rfl
  refine dp_s1 hF (i := .aload_n 0) rfl (fun _ => rfl) ?_
  refine dp_s1 hF (i := .iload_n 1) rfl (fun _ => rfl) ?_
  refine dp_si (mj := dp_m_X7_readPart) (i := .invokevirtual 77) rfl rfl (Or.inl rfl) rfl (fun _ => rfl) (fun r5 M4 => ?_)
  exact rfl
set_option maxRecDepth 20000 in
theorem D_X7_readRate_90_eq (xs : Nat → Int32) (xl d : Nat) (v1 : Int32) (v2 : Int32) (v3 : Int32) (v4 : Int32) (v5 : Int32) (vs0 : Int32) (M : dp_M) : D_X7_readRate_90 xs xl d v1 v2 v3 v4 v5 vs0 M = if vs0 = (-1 : Int32) then (some (.inl (some (.int (-1 : Int32))), M)) else (dp_bv (dp_den true xs xl d 152 [.ref 68, .int v5, .int v2, .int vs0] M) (fun M1 => dp_w (v3 + (1 : Int32)) (fun y2 => D_X7_readRate_8_a xs xl d v1 v5 y2 v4 v5 vs0 M1))) := by
  have hF := dp_den_grow (md := true) (xs := xs) (xl := xl) d
  unfold D_X7_readRate_90
  refine dp_s1 hF (i := .istore 6) rfl (fun _ => rfl) ?_
  refine dp_s1 hF (i := .iload 6) rfl (fun _ => rfl) ?_
  refine dp_s1 hF (i := .iconst (-1)) rfl (fun _ => rfl) ?_
  refine dp_s2 hF (i := .if_icmp .ne 5) (a := (98, [some (.ref 68), some (.int v1), some (.int v2), some (.int v3), some (.int v4), some (.int v5), some (.int vs0)], [], M)) (b := (100, [some (.ref 68), some (.int v1), some (.int v2), some (.int v3), some (.int v4), some (.int v5), some (.int vs0)], [], M)) rfl (fun _ => rfl) ?_ ?_
  · refine dp_s1 hF (i := .iconst (-1)) rfl (fun _ => rfl) ?_
    exact dp_s0 hF (i := .ireturn) rfl (fun _ => rfl)
  refine dp_s1 hF (i := .aload_n 0) rfl (fun _ => rfl) ?_
  refine dp_s1 hF (i := .iload 5) rfl (fun _ => rfl) ?_
  refine dp_s1 hF (i := .iload_n 2) rfl (fun _ => rfl) ?_
  refine dp_s1 hF (i := .iload 6) rfl (fun _ => rfl) ?_
  refine dp_sv (mj := dp_m_X7_setBelow) (i := .invokevirtual 84) rfl rfl rfl rfl (fun _ => rfl) (fun M1 => ?_)
  refine dp_s1 hF (i := .iload 5) rfl (fun _ => rfl) ?_
  refine dp_s1 hF (i := .istore_n 2) rfl (fun _ => rfl) ?_
  refine dp_s1w (v3 + (1 : Int32)) (fun (y2 : Int32) => (115, [some (.ref 68), some (.int v1), some (.int v5), some (.int y2), some (.int v4), some (.int v5), some (.int vs0)], [], M1)) hF (i := .iinc 3 1) rfl (fun _ => rfl) (fun y2 => ?_)
  refine dp_s1 hF (i := .goto (-107)) rfl (fun _ => rfl) ?_
  exact rfl
set_option maxRecDepth 20000 in
theorem D_X7_readRate_8_a_eq (xs : Nat → Int32) (xl d : Nat) (v1 : Int32) (v2 : Int32) (v3 : Int32) (v4 : Int32) (v5 : Int32) (v6 : Int32) (M : dp_M) : D_X7_readRate_8_a xs xl d v1 v2 v3 v4 v5 v6 M = if (400 : Int32) ≤ v3 then (some (.inl (some (.int v2)), M)) else (if v2 = (-1 : Int32) then (some (.inl (some (.int v2)), M)) else (dp_bi (dp_den true xs xl d 148 [.ref 68] M) (fun r2 M1 => if r2 = (43 : Int32) then (if r2 = (43 : Int32) then (D_X7_readRate_56_a xs xl d v1 v2 v3 r2 v5 v6 (3 : Int32) M1) else (D_X7_readRate_56_a xs xl d v1 v2 v3 r2 v5 v6 (4 : Int32) M1)) else (if r2 = (45 : Int32) then (if r2 = (43 : Int32) then (D_X7_readRate_56_a xs xl d v1 v2 v3 r2 v5 v6 (3 : Int32) M1) else (D_X7_readRate_56_a xs xl d v1 v2 v3 r2 v5 v6 (4 : Int32) M1)) else (some (.inl (some (.int v2)), M1)))))) := by
  have hF := dp_den_grow (md := true) (xs := xs) (xl := xl) d
  unfold D_X7_readRate_8_a
  refine dp_s1 hF (i := .iload_n 3) rfl (fun _ => rfl) ?_
  refine dp_s1 hF (i := .sipush 400) rfl (fun _ => rfl) ?_
  refine dp_s2 hF (i := .if_icmp .ge 106) (a := (118, [some (.ref 68), some (.int v1), some (.int v2), some (.int v3), some (.int v4), some (.int v5), some (.int v6)], [], M)) (b := (15, [some (.ref 68), some (.int v1), some (.int v2), some (.int v3), some (.int v4), some (.int v5), some (.int v6)], [], M)) rfl (fun _ => rfl) ?_ ?_
  · refine dp_s1 hF (i := .iload_n 2) rfl (fun _ => rfl) ?_
    exact dp_s0 hF (i := .ireturn) rfl (fun _ => rfl)
  refine dp_s1 hF (i := .iload_n 2) rfl (fun _ => rfl) ?_
  refine dp_s1 hF (i := .iconst (-1)) rfl (fun _ => rfl) ?_
  refine dp_s2 hF (i := .if_icmp .eq 101) (a := (118, [some (.ref 68), some (.int v1), some (.int v2), some (.int v3), some (.int v4), some (.int v5), some (.int v6)], [], M)) (b := (20, [some (.ref 68), some (.int v1), some (.int v2), some (.int v3), some (.int v4), some (.int v5), some (.int v6)], [], M)) rfl (fun _ => rfl) ?_ ?_
  · refine dp_s1 hF (i := .iload_n 2) rfl (fun _ => rfl) ?_
    exact dp_s0 hF (i := .ireturn) rfl (fun _ => rfl)
  refine dp_s1 hF (i := .aload_n 0) rfl (fun _ => rfl) ?_
  refine dp_si (mj := dp_m_X7_next) (i := .invokevirtual 62) rfl rfl (Or.inl rfl) rfl (fun _ => rfl) (fun r2 M1 => ?_)
  refine dp_s1 hF (i := .istore 4) rfl (fun _ => rfl) ?_
  refine dp_s1 hF (i := .iload 4) rfl (fun _ => rfl) ?_
  refine dp_s1 hF (i := .bipush 43) rfl (fun _ => rfl) ?_
  refine dp_s2 hF (i := .if_icmp .eq 13) (a := (43, [some (.ref 68), some (.int v1), some (.int v2), some (.int v3), some (.int r2), some (.int v5), some (.int v6)], [], M1)) (b := (33, [some (.ref 68), some (.int v1), some (.int v2), some (.int v3), some (.int r2), some (.int v5), some (.int v6)], [], M1)) rfl (fun _ => rfl) ?_ ?_
  · refine dp_s1 hF (i := .aload_n 0) rfl (fun _ => rfl) ?_
    refine dp_s1 hF (i := .iload 4) rfl (fun _ => rfl) ?_
    refine dp_s1 hF (i := .bipush 43) rfl (fun _ => rfl) ?_
    refine dp_s2 hF (i := .if_icmp .ne 7) (a := (51, [some (.ref 68), some (.int v1), some (.int v2), some (.int v3), some (.int r2), some (.int v5), some (.int v6)], [.ref 68], M1)) (b := (55, [some (.ref 68), some (.int v1), some (.int v2), some (.int v3), some (.int r2), some (.int v5), some (.int v6)], [.ref 68], M1)) rfl (fun _ => rfl) ?_ ?_
    · refine dp_s1 hF (i := .iconst 3) rfl (fun _ => rfl) ?_
      refine dp_s1 hF (i := .goto 4) rfl (fun _ => rfl) ?_
      exact rfl
    refine dp_s1 hF (i := .iconst 4) rfl (fun _ => rfl) ?_
    exact rfl
  refine dp_s1 hF (i := .iload 4) rfl (fun _ => rfl) ?_
  refine dp_s1 hF (i := .bipush 45) rfl (fun _ => rfl) ?_
  refine dp_s2 hF (i := .if_icmp .eq 6) (a := (43, [some (.ref 68), some (.int v1), some (.int v2), some (.int v3), some (.int r2), some (.int v5), some (.int v6)], [], M1)) (b := (40, [some (.ref 68), some (.int v1), some (.int v2), some (.int v3), some (.int r2), some (.int v5), some (.int v6)], [], M1)) rfl (fun _ => rfl) ?_ ?_
  · refine dp_s1 hF (i := .aload_n 0) rfl (fun _ => rfl) ?_
    refine dp_s1 hF (i := .iload 4) rfl (fun _ => rfl) ?_
    refine dp_s1 hF (i := .bipush 43) rfl (fun _ => rfl) ?_
    refine dp_s2 hF (i := .if_icmp .ne 7) (a := (51, [some (.ref 68), some (.int v1), some (.int v2), some (.int v3), some (.int r2), some (.int v5), some (.int v6)], [.ref 68], M1)) (b := (55, [some (.ref 68), some (.int v1), some (.int v2), some (.int v3), some (.int r2), some (.int v5), some (.int v6)], [.ref 68], M1)) rfl (fun _ => rfl) ?_ ?_
    · refine dp_s1 hF (i := .iconst 3) rfl (fun _ => rfl) ?_
      refine dp_s1 hF (i := .goto 4) rfl (fun _ => rfl) ?_
      exact rfl
    refine dp_s1 hF (i := .iconst 4) rfl (fun _ => rfl) ?_
    exact rfl
  refine dp_s1 hF (i := .goto 78) rfl (fun _ => rfl) ?_
  refine dp_s1 hF (i := .iload_n 2) rfl (fun _ => rfl) ?_
  exact dp_s0 hF (i := .ireturn) rfl (fun _ => rfl)
set_option maxRecDepth 20000 in
theorem D_X7_readRate_56_a_eq (xs : Nat → Int32) (xl d : Nat) (v1 : Int32) (v2 : Int32) (v3 : Int32) (v4 : Int32) (v5 : Int32) (v6 : Int32) (vs0 : Int32) (M : dp_M) : D_X7_readRate_56_a xs xl d v1 v2 v3 v4 v5 v6 vs0 M = dp_bi (dp_den true xs xl d 150 [.ref 68, .int vs0, .int (dp_I M 68 9)] M) (fun r2 M1 => dp_w (dp_setI M1 68 9 ((dp_I M1 68 9) + (1 : Int32))) (fun M3 => if r2 = (-1 : Int32) then (D_X7_readRate_90_a xs xl d v1 v2 v3 v4 r2 v6 (-1 : Int32) M3) else (dp_bi (dp_den true xs xl d 154 [.ref 68, .int v1] M3) (fun r5 M4 => D_X7_readRate_90_a xs xl d v1 v2 v3 v4 r2 v6 r5 M4)))) := by
  have hF := dp_den_grow (md := true) (xs := xs) (xl := xl) d
  unfold D_X7_readRate_56_a
  refine dp_s1 hF (i := .aload_n 0) rfl (fun _ => rfl) ?_
  refine dp_s1 hF (i := .getfield 46) rfl (fun _ => rfl) ?_
  refine dp_si (mj := dp_m_X7_addNode) (i := .invokevirtual 80) rfl rfl (Or.inl rfl) rfl (fun _ => rfl) (fun r2 M1 => ?_)
  refine dp_s1 hF (i := .istore 5) rfl (fun _ => rfl) ?_
  refine dp_s1 hF (i := .aload_n 0) rfl (fun _ => rfl) ?_
  refine dp_s1 hF (i := .dup) rfl (fun _ => rfl) ?_
  refine dp_s1 hF (i := .getfield 46) rfl (fun _ => rfl) ?_
  refine dp_s1 hF (i := .iconst 1) rfl (fun _ => rfl) ?_
  refine dp_s1 hF (i := .iadd) rfl (fun _ => rfl) ?_
  refine dp_s1w (dp_setI M1 68 9 ((dp_I M1 68 9) + (1 : Int32))) (fun (M3 : dp_M) => (75, [some (.ref 68), some (.int v1), some (.int v2), some (.int v3), some (.int v4), some (.int r2), some (.int v6)], [], M3)) hF (i := .putfield 46) rfl (fun _ => rfl) (fun M3 => ?_)
  refine dp_s1 hF (i := .iload 5) rfl (fun _ => rfl) ?_
  refine dp_s1 hF (i := .iconst (-1)) rfl (fun _ => rfl) ?_
  refine dp_s2 hF (i := .if_icmp .ne 7) (a := (81, [some (.ref 68), some (.int v1), some (.int v2), some (.int v3), some (.int v4), some (.int r2), some (.int v6)], [], M3)) (b := (85, [some (.ref 68), some (.int v1), some (.int v2), some (.int v3), some (.int v4), some (.int r2), some (.int v6)], [], M3)) rfl (fun _ => rfl) ?_ ?_
  · refine dp_s1 hF (i := .iconst (-1)) rfl (fun _ => rfl) ?_
    refine dp_s1 hF (i := .goto 8) rfl (fun _ => rfl) ?_
    exact rfl
  refine dp_s1 hF (i := .aload_n 0) rfl (fun _ => rfl) ?_
  refine dp_s1 hF (i := .iload_n 1) rfl (fun _ => rfl) ?_
  refine dp_si (mj := dp_m_X7_readPart) (i := .invokevirtual 77) rfl rfl (Or.inl rfl) rfl (fun _ => rfl) (fun r5 M4 => ?_)
  exact rfl
set_option maxRecDepth 20000 in
theorem D_X7_readRate_90_a_eq (xs : Nat → Int32) (xl d : Nat) (v1 : Int32) (v2 : Int32) (v3 : Int32) (v4 : Int32) (v5 : Int32) (v6 : Int32) (vs0 : Int32) (M : dp_M) : D_X7_readRate_90_a xs xl d v1 v2 v3 v4 v5 v6 vs0 M = if vs0 = (-1 : Int32) then (some (.inl (some (.int (-1 : Int32))), M)) else (dp_bv (dp_den true xs xl d 152 [.ref 68, .int v5, .int v2, .int vs0] M) (fun M1 => dp_w (v3 + (1 : Int32)) (fun y2 => D_X7_readRate_8_a xs xl d v1 v5 y2 v4 v5 vs0 M1))) := by
  have hF := dp_den_grow (md := true) (xs := xs) (xl := xl) d
  unfold D_X7_readRate_90_a
  refine dp_s1 hF (i := .istore 6) rfl (fun _ => rfl) ?_
  refine dp_s1 hF (i := .iload 6) rfl (fun _ => rfl) ?_
  refine dp_s1 hF (i := .iconst (-1)) rfl (fun _ => rfl) ?_
  refine dp_s2 hF (i := .if_icmp .ne 5) (a := (98, [some (.ref 68), some (.int v1), some (.int v2), some (.int v3), some (.int v4), some (.int v5), some (.int vs0)], [], M)) (b := (100, [some (.ref 68), some (.int v1), some (.int v2), some (.int v3), some (.int v4), some (.int v5), some (.int vs0)], [], M)) rfl (fun _ => rfl) ?_ ?_
  · refine dp_s1 hF (i := .iconst (-1)) rfl (fun _ => rfl) ?_
    exact dp_s0 hF (i := .ireturn) rfl (fun _ => rfl)
  refine dp_s1 hF (i := .aload_n 0) rfl (fun _ => rfl) ?_
  refine dp_s1 hF (i := .iload 5) rfl (fun _ => rfl) ?_
  refine dp_s1 hF (i := .iload_n 2) rfl (fun _ => rfl) ?_
  refine dp_s1 hF (i := .iload 6) rfl (fun _ => rfl) ?_
  refine dp_sv (mj := dp_m_X7_setBelow) (i := .invokevirtual 84) rfl rfl rfl rfl (fun _ => rfl) (fun M1 => ?_)
  refine dp_s1 hF (i := .iload 5) rfl (fun _ => rfl) ?_
  refine dp_s1 hF (i := .istore_n 2) rfl (fun _ => rfl) ?_
  refine dp_s1w (v3 + (1 : Int32)) (fun (y2 : Int32) => (115, [some (.ref 68), some (.int v1), some (.int v5), some (.int y2), some (.int v4), some (.int v5), some (.int vs0)], [], M1)) hF (i := .iinc 3 1) rfl (fun _ => rfl) (fun y2 => ?_)
  refine dp_s1 hF (i := .goto (-107)) rfl (fun _ => rfl) ?_
  exact rfl
noncomputable def D_X7_readPart_0 (xs : Nat → Int32) (xl d : Nat) (v1 : Int32) (M : dp_M) : Option dp_Res := dp_lim true xs xl (dp_den true xs xl d) dp_m_X7_readPart (0, [some (.ref 68), some (.int v1), none, none, none], [], M)
theorem D_X7_readPart_0_den (xs : Nat → Int32) (xl d : Nat) (a0 : Int32) (M : dp_M) : dp_den true xs xl (d + 1) 154 [.ref 68, .int a0] M = D_X7_readPart_0 xs xl d a0 M := rfl
set_option maxRecDepth 20000 in
theorem D_X7_readPart_0_eq (xs : Nat → Int32) (xl d : Nat) (v1 : Int32) (M : dp_M) : D_X7_readPart_0 xs xl d v1 M = dp_bi (dp_den true xs xl d 148 [.ref 68] M) (fun r2 M1 => if r2 = (40 : Int32) then (dp_bi (dp_den true xs xl d 155 [.ref 68, .int v1] M1) (fun r4 M3 => some (.inl (some (.int r4)), M3))) else (dp_bi (dp_den true xs xl d 157 [.int r2] M1) (fun r6 M5 => if r6 = 0 then (dp_w (dp_I M5 68 9) (fun y7 => dp_bi (dp_den true xs xl d 159 [.ref 68] M5) (fun r9 M8 => dp_bi (dp_den true xs xl d 160 [.ref 68, .int y7, .int r9, .retAddr 22] M8) (fun r11 M10 => if r11 = 0 then (dp_bi (dp_den true xs xl d 160 [.ref 68, .int y7, .int r9, .retAddr 23] M10) (fun r13 M12 => if r13 = 0 then (dp_bi (dp_den true xs xl d 160 [.ref 68, .int y7, .int r9, .retAddr 24] M12) (fun r15 M14 => if r15 = 0 then (dp_bi (dp_den true xs xl d 160 [.ref 68, .int y7, .int r9, .retAddr 25] M14) (fun r17 M16 => if r17 = 0 then (dp_bi (dp_den true xs xl d 146 [.ref 68, .int y7] M16) (fun r19 M18 => some (.inl (some (.int r19)), M18))) else (dp_bi (dp_den true xs xl d 166 [.ref 68] M16) (fun r21 M20 => some (.inl (some (.int r21)), M20))))) else (dp_bi (dp_den true xs xl d 156 [.ref 68, .int (6 : Int32), .int v1] M14) (fun r23 M22 => some (.inl (some (.int r23)), M22))))) else (dp_bi (dp_den true xs xl d 156 [.ref 68, .int (5 : Int32), .int v1] M12) (fun r25 M24 => some (.inl (some (.int r25)), M24))))) else (dp_w (dp_setI M10 68 9 ((dp_I M10 68 9) + r9)) (fun M26 => dp_bi (dp_den true xs xl d 150 [.ref 68, .int (0 : Int32), .int y7] M26) (fun r28 M27 => some (.inl (some (.int r28)), M27)))))))) else (dp_bi (dp_den true xs xl d 162 [.ref 68] M5) (fun r30 M29 => some (.inl (some (.int r30)), M29)))))) := by
  have hF := dp_den_grow (md := true) (xs := xs) (xl := xl) d
  unfold D_X7_readPart_0
  refine dp_s1 hF (i := .aload_n 0) rfl (fun _ => rfl) ?_
  refine dp_si (mj := dp_m_X7_next) (i := .invokevirtual 62) rfl rfl (Or.inl rfl) rfl (fun _ => rfl) (fun r2 M1 => ?_)
  refine dp_s1 hF (i := .istore_n 2) rfl (fun _ => rfl) ?_
  refine dp_s1 hF (i := .iload_n 2) rfl (fun _ => rfl) ?_
  refine dp_s1 hF (i := .bipush 40) rfl (fun _ => rfl) ?_
  refine dp_s2 hF (i := .if_icmp .ne 9) (a := (11, [some (.ref 68), some (.int v1), some (.int r2), none, none], [], M1)) (b := (17, [some (.ref 68), some (.int v1), some (.int r2), none, none], [], M1)) rfl (fun _ => rfl) ?_ ?_
  · refine dp_s1 hF (i := .aload_n 0) rfl (fun _ => rfl) ?_
    refine dp_s1 hF (i := .iload_n 1) rfl (fun _ => rfl) ?_
    refine dp_si (mj := dp_m_X7_readBracket) (i := .invokevirtual 87) rfl rfl (Or.inl rfl) rfl (fun _ => rfl) (fun r4 M3 => ?_)
    exact dp_s0 hF (i := .ireturn) rfl (fun _ => rfl)
  refine dp_s1 hF (i := .iload_n 2) rfl (fun _ => rfl) ?_
  refine dp_si (mj := dp_m_X7_isDigit) (i := .invokestatic 90) rfl rfl (Or.inr rfl) rfl (fun _ => rfl) (fun r6 M5 => ?_)
  refine dp_s2 hF (i := .ifCond .eq 8) (a := (29, [some (.ref 68), some (.int v1), some (.int r2), none, none], [], M5)) (b := (24, [some (.ref 68), some (.int v1), some (.int r2), none, none], [], M5)) rfl (fun _ => rfl) ?_ ?_
  · refine dp_s1 hF (i := .aload_n 0) rfl (fun _ => rfl) ?_
    refine dp_s1 hF (i := .getfield 46) rfl (fun _ => rfl) ?_
    refine dp_s1w (dp_I M5 68 9) (fun (y7 : Int32) => (34, [some (.ref 68), some (.int v1), some (.int r2), some (.int y7), none], [], M5)) hF (i := .istore_n 3) rfl (fun _ => rfl) (fun y7 => ?_)
    refine dp_s1 hF (i := .aload_n 0) rfl (fun _ => rfl) ?_
    refine dp_si (mj := dp_m_X7_runOfLetters) (i := .invokevirtual 97) rfl rfl (Or.inl rfl) rfl (fun _ => rfl) (fun r9 M8 => ?_)
    refine dp_s1 hF (i := .istore 4) rfl (fun _ => rfl) ?_
    refine dp_s1 hF (i := .aload_n 0) rfl (fun _ => rfl) ?_
    refine dp_s1 hF (i := .iload_n 3) rfl (fun _ => rfl) ?_
    refine dp_s1 hF (i := .iload 4) rfl (fun _ => rfl) ?_
    refine dp_s1 hF (i := .ldc 100) rfl (fun _ => rfl) ?_
    refine dp_si (mj := dp_m_X7_isWord) (i := .invokevirtual 102) rfl rfl (Or.inr rfl) rfl (fun _ => rfl) (fun r11 M10 => ?_)
    refine dp_s2 hF (i := .ifCond .eq 21) (a := (70, [some (.ref 68), some (.int v1), some (.int r2), some (.int y7), some (.int r9)], [], M10)) (b := (52, [some (.ref 68), some (.int v1), some (.int r2), some (.int y7), some (.int r9)], [], M10)) rfl (fun _ => rfl) ?_ ?_
    · refine dp_s1 hF (i := .aload_n 0) rfl (fun _ => rfl) ?_
      refine dp_s1 hF (i := .iload_n 3) rfl (fun _ => rfl) ?_
      refine dp_s1 hF (i := .iload 4) rfl (fun _ => rfl) ?_
      refine dp_s1 hF (i := .ldc 106) rfl (fun _ => rfl) ?_
      refine dp_si (mj := dp_m_X7_isWord) (i := .invokevirtual 102) rfl rfl (Or.inr rfl) rfl (fun _ => rfl) (fun r13 M12 => ?_)
      refine dp_s2 hF (i := .ifCond .eq 10) (a := (89, [some (.ref 68), some (.int v1), some (.int r2), some (.int y7), some (.int r9)], [], M12)) (b := (82, [some (.ref 68), some (.int v1), some (.int r2), some (.int y7), some (.int r9)], [], M12)) rfl (fun _ => rfl) ?_ ?_
      · refine dp_s1 hF (i := .aload_n 0) rfl (fun _ => rfl) ?_
        refine dp_s1 hF (i := .iload_n 3) rfl (fun _ => rfl) ?_
        refine dp_s1 hF (i := .iload 4) rfl (fun _ => rfl) ?_
        refine dp_s1 hF (i := .ldc 111) rfl (fun _ => rfl) ?_
        refine dp_si (mj := dp_m_X7_isWord) (i := .invokevirtual 102) rfl rfl (Or.inr rfl) rfl (fun _ => rfl) (fun r15 M14 => ?_)
        refine dp_s2 hF (i := .ifCond .eq 11) (a := (109, [some (.ref 68), some (.int v1), some (.int r2), some (.int y7), some (.int r9)], [], M14)) (b := (101, [some (.ref 68), some (.int v1), some (.int r2), some (.int y7), some (.int r9)], [], M14)) rfl (fun _ => rfl) ?_ ?_
        · refine dp_s1 hF (i := .aload_n 0) rfl (fun _ => rfl) ?_
          refine dp_s1 hF (i := .iload_n 3) rfl (fun _ => rfl) ?_
          refine dp_s1 hF (i := .iload 4) rfl (fun _ => rfl) ?_
          refine dp_s1 hF (i := .ldc 113) rfl (fun _ => rfl) ?_
          refine dp_si (mj := dp_m_X7_isWord) (i := .invokevirtual 102) rfl rfl (Or.inr rfl) rfl (fun _ => rfl) (fun r17 M16 => ?_)
          refine dp_s2 hF (i := .ifCond .eq 10) (a := (128, [some (.ref 68), some (.int v1), some (.int r2), some (.int y7), some (.int r9)], [], M16)) (b := (121, [some (.ref 68), some (.int v1), some (.int r2), some (.int y7), some (.int r9)], [], M16)) rfl (fun _ => rfl) ?_ ?_
          · refine dp_s1 hF (i := .aload_n 0) rfl (fun _ => rfl) ?_
            refine dp_s1 hF (i := .iload_n 3) rfl (fun _ => rfl) ?_
            refine dp_si (mj := dp_m_X7_refuse) (i := .invokevirtual 66) rfl rfl (Or.inl rfl) rfl (fun _ => rfl) (fun r19 M18 => ?_)
            exact dp_s0 hF (i := .ireturn) rfl (fun _ => rfl)
          refine dp_s1 hF (i := .aload_n 0) rfl (fun _ => rfl) ?_
          refine dp_si (mj := dp_m_X7_readSteps) (i := .invokevirtual 115) rfl rfl (Or.inl rfl) rfl (fun _ => rfl) (fun r21 M20 => ?_)
          refine dp_s1 hF (i := .goto 8) rfl (fun _ => rfl) ?_
          exact dp_s0 hF (i := .ireturn) rfl (fun _ => rfl)
        refine dp_s1 hF (i := .aload_n 0) rfl (fun _ => rfl) ?_
        refine dp_s1 hF (i := .bipush 6) rfl (fun _ => rfl) ?_
        refine dp_s1 hF (i := .iload_n 1) rfl (fun _ => rfl) ?_
        refine dp_si (mj := dp_m_X7_readPair) (i := .invokevirtual 108) rfl rfl (Or.inl rfl) rfl (fun _ => rfl) (fun r23 M22 => ?_)
        exact dp_s0 hF (i := .ireturn) rfl (fun _ => rfl)
      refine dp_s1 hF (i := .aload_n 0) rfl (fun _ => rfl) ?_
      refine dp_s1 hF (i := .iconst 5) rfl (fun _ => rfl) ?_
      refine dp_s1 hF (i := .iload_n 1) rfl (fun _ => rfl) ?_
      refine dp_si (mj := dp_m_X7_readPair) (i := .invokevirtual 108) rfl rfl (Or.inl rfl) rfl (fun _ => rfl) (fun r25 M24 => ?_)
      exact dp_s0 hF (i := .ireturn) rfl (fun _ => rfl)
    refine dp_s1 hF (i := .aload_n 0) rfl (fun _ => rfl) ?_
    refine dp_s1 hF (i := .dup) rfl (fun _ => rfl) ?_
    refine dp_s1 hF (i := .getfield 46) rfl (fun _ => rfl) ?_
    refine dp_s1 hF (i := .iload 4) rfl (fun _ => rfl) ?_
    refine dp_s1 hF (i := .iadd) rfl (fun _ => rfl) ?_
    refine dp_s1w (dp_setI M10 68 9 ((dp_I M10 68 9) + r9)) (fun (M26 : dp_M) => (63, [some (.ref 68), some (.int v1), some (.int r2), some (.int y7), some (.int r9)], [], M26)) hF (i := .putfield 46) rfl (fun _ => rfl) (fun M26 => ?_)
    refine dp_s1 hF (i := .aload_n 0) rfl (fun _ => rfl) ?_
    refine dp_s1 hF (i := .iconst 0) rfl (fun _ => rfl) ?_
    refine dp_s1 hF (i := .iload_n 3) rfl (fun _ => rfl) ?_
    refine dp_si (mj := dp_m_X7_addNode) (i := .invokevirtual 80) rfl rfl (Or.inl rfl) rfl (fun _ => rfl) (fun r28 M27 => ?_)
    exact dp_s0 hF (i := .ireturn) rfl (fun _ => rfl)
  refine dp_s1 hF (i := .aload_n 0) rfl (fun _ => rfl) ?_
  refine dp_si (mj := dp_m_X7_readNumberPart) (i := .invokevirtual 94) rfl rfl (Or.inl rfl) rfl (fun _ => rfl) (fun r30 M29 => ?_)
  exact dp_s0 hF (i := .ireturn) rfl (fun _ => rfl)
noncomputable def D_X7_readBracket_0 (xs : Nat → Int32) (xl d : Nat) (v1 : Int32) (M : dp_M) : Option dp_Res := dp_lim true xs xl (dp_den true xs xl d) dp_m_X7_readBracket (0, [some (.ref 68), some (.int v1), none], [], M)
theorem D_X7_readBracket_0_den (xs : Nat → Int32) (xl d : Nat) (a0 : Int32) (M : dp_M) : dp_den true xs xl (d + 1) 155 [.ref 68, .int a0] M = D_X7_readBracket_0 xs xl d a0 M := rfl
set_option maxRecDepth 20000 in
theorem D_X7_readBracket_0_eq (xs : Nat → Int32) (xl d : Nat) (v1 : Int32) (M : dp_M) : D_X7_readBracket_0 xs xl d v1 M = if v1 < (12 : Int32) then (dp_w (dp_setI M 68 9 ((dp_I M 68 9) + (1 : Int32))) (fun M1 => dp_bi (dp_den true xs xl d 153 [.ref 68, .int (v1 + (1 : Int32))] M1) (fun r3 M2 => if r3 = (-1 : Int32) then (some (.inl (some (.int (-1 : Int32))), M2)) else (dp_bi (dp_den true xs xl d 149 [.ref 68, .int (41 : Int32)] M2) (fun r5 M4 => if r5 = 0 then (some (.inl (some (.int (-1 : Int32))), M4)) else (some (.inl (some (.int r3)), M4))))))) else (dp_bi (dp_den true xs xl d 146 [.ref 68, .int (dp_I M 68 9)] M) (fun r7 M6 => some (.inl (some (.int r7)), M6))) := by
  have hF := dp_den_grow (md := true) (xs := xs) (xl := xl) d
  unfold D_X7_readBracket_0
  refine dp_s1 hF (i := .iload_n 1) rfl (fun _ => rfl) ?_
  refine dp_s1 hF (i := .bipush 12) rfl (fun _ => rfl) ?_
  refine dp_s2 hF (i := .if_icmp .lt 12) (a := (15, [some (.ref 68), some (.int v1), none], [], M)) (b := (6, [some (.ref 68), some (.int v1), none], [], M)) rfl (fun _ => rfl) ?_ ?_
  · refine dp_s1 hF (i := .aload_n 0) rfl (fun _ => rfl) ?_
    refine dp_s1 hF (i := .dup) rfl (fun _ => rfl) ?_
    refine dp_s1 hF (i := .getfield 46) rfl (fun _ => rfl) ?_
    refine dp_s1 hF (i := .iconst 1) rfl (fun _ => rfl) ?_
    refine dp_s1 hF (i := .iadd) rfl (fun _ => rfl) ?_
    refine dp_s1w (dp_setI M 68 9 ((dp_I M 68 9) + (1 : Int32))) (fun (M1 : dp_M) => (25, [some (.ref 68), some (.int v1), none], [], M1)) hF (i := .putfield 46) rfl (fun _ => rfl) (fun M1 => ?_)
    refine dp_s1 hF (i := .aload_n 0) rfl (fun _ => rfl) ?_
    refine dp_s1 hF (i := .iload_n 1) rfl (fun _ => rfl) ?_
    refine dp_s1 hF (i := .iconst 1) rfl (fun _ => rfl) ?_
    refine dp_s1 hF (i := .iadd) rfl (fun _ => rfl) ?_
    refine dp_si (mj := dp_m_X7_readRate) (i := .invokevirtual 58) rfl rfl (Or.inl rfl) rfl (fun _ => rfl) (fun r3 M2 => ?_)
    refine dp_s1 hF (i := .istore_n 2) rfl (fun _ => rfl) ?_
    refine dp_s1 hF (i := .iload_n 2) rfl (fun _ => rfl) ?_
    refine dp_s1 hF (i := .iconst (-1)) rfl (fun _ => rfl) ?_
    refine dp_s2 hF (i := .if_icmp .eq 16) (a := (51, [some (.ref 68), some (.int v1), some (.int r3)], [], M2)) (b := (38, [some (.ref 68), some (.int v1), some (.int r3)], [], M2)) rfl (fun _ => rfl) ?_ ?_
    · refine dp_s1 hF (i := .iconst (-1)) rfl (fun _ => rfl) ?_
      exact dp_s0 hF (i := .ireturn) rfl (fun _ => rfl)
    refine dp_s1 hF (i := .aload_n 0) rfl (fun _ => rfl) ?_
    refine dp_s1 hF (i := .bipush 41) rfl (fun _ => rfl) ?_
    refine dp_si (mj := dp_m_X7_pass) (i := .invokevirtual 118) rfl rfl (Or.inr rfl) rfl (fun _ => rfl) (fun r5 M4 => ?_)
    refine dp_s2 hF (i := .ifCond .eq 7) (a := (51, [some (.ref 68), some (.int v1), some (.int r3)], [], M4)) (b := (47, [some (.ref 68), some (.int v1), some (.int r3)], [], M4)) rfl (fun _ => rfl) ?_ ?_
    · refine dp_s1 hF (i := .iconst (-1)) rfl (fun _ => rfl) ?_
      exact dp_s0 hF (i := .ireturn) rfl (fun _ => rfl)
    refine dp_s1 hF (i := .iload_n 2) rfl (fun _ => rfl) ?_
    refine dp_s1 hF (i := .goto 4) rfl (fun _ => rfl) ?_
    exact dp_s0 hF (i := .ireturn) rfl (fun _ => rfl)
  refine dp_s1 hF (i := .aload_n 0) rfl (fun _ => rfl) ?_
  refine dp_s1 hF (i := .aload_n 0) rfl (fun _ => rfl) ?_
  refine dp_s1 hF (i := .getfield 46) rfl (fun _ => rfl) ?_
  refine dp_si (mj := dp_m_X7_refuse) (i := .invokevirtual 66) rfl rfl (Or.inl rfl) rfl (fun _ => rfl) (fun r7 M6 => ?_)
  exact dp_s0 hF (i := .ireturn) rfl (fun _ => rfl)
noncomputable def D_X7_readPair_0 (xs : Nat → Int32) (xl d : Nat) (v1 : Int32) (v2 : Int32) (M : dp_M) : Option dp_Res := dp_lim true xs xl (dp_den true xs xl d) dp_m_X7_readPair (0, [some (.ref 68), some (.int v1), some (.int v2), none, none, none], [], M)
noncomputable def D_X7_readPair_26 (xs : Nat → Int32) (xl d : Nat) (v1 : Int32) (v2 : Int32) (vs0 : Int32) (M : dp_M) : Option dp_Res := dp_lim true xs xl (dp_den true xs xl d) dp_m_X7_readPair (26, [some (.ref 68), some (.int v1), some (.int v2), none, none, none], [.int vs0], M)
noncomputable def D_X7_readPair_88 (xs : Nat → Int32) (xl d : Nat) (v1 : Int32) (v2 : Int32) (v3 : Int32) (v4 : Int32) (vs0 : Int32) (M : dp_M) : Option dp_Res := dp_lim true xs xl (dp_den true xs xl d) dp_m_X7_readPair (88, [some (.ref 68), some (.int v1), some (.int v2), some (.int v3), some (.int v4), none], [.int vs0], M)
theorem D_X7_readPair_0_den (xs : Nat → Int32) (xl d : Nat) (a0 : Int32) (a1 : Int32) (M : dp_M) : dp_den true xs xl (d + 1) 156 [.ref 68, .int a0, .int a1] M = D_X7_readPair_0 xs xl d a0 a1 M := rfl
set_option maxRecDepth 20000 in
theorem D_X7_readPair_0_eq (xs : Nat → Int32) (xl d : Nat) (v1 : Int32) (v2 : Int32) (M : dp_M) : D_X7_readPair_0 xs xl d v1 v2 M = if v2 < (12 : Int32) then (dp_bi (dp_den true xs xl d 150 [.ref 68, .int v1, .int (dp_I M 68 9)] M) (fun r2 M1 => D_X7_readPair_26 xs xl d v1 v2 r2 M1)) else (dp_bi (dp_den true xs xl d 146 [.ref 68, .int (dp_I M 68 9)] M) (fun r4 M3 => D_X7_readPair_26 xs xl d v1 v2 r4 M3)) := by
  have hF := dp_den_grow (md := true) (xs := xs) (xl := xl) d
  unfold D_X7_readPair_0
  refine dp_s1 hF (i := .iload_n 2) rfl (fun _ => rfl) ?_
  refine dp_s1 hF (i := .bipush 12) rfl (fun _ => rfl) ?_
  refine dp_s2 hF (i := .if_icmp .lt 14) (a := (17, [some (.ref 68), some (.int v1), some (.int v2), none, none, none], [], M)) (b := (6, [some (.ref 68), some (.int v1), some (.int v2), none, none, none], [], M)) rfl (fun _ => rfl) ?_ ?_
  · refine dp_s1 hF (i := .aload_n 0) rfl (fun _ => rfl) ?_
    refine dp_s1 hF (i := .iload_n 1) rfl (fun _ => rfl) ?_
    refine dp_s1 hF (i := .aload_n 0) rfl (fun _ => rfl) ?_
    refine dp_s1 hF (i := .getfield 46) rfl (fun _ => rfl) ?_
    refine dp_si (mj := dp_m_X7_addNode) (i := .invokevirtual 80) rfl rfl (Or.inl rfl) rfl (fun _ => rfl) (fun r2 M1 => ?_)
    exact rfl
  refine dp_s1 hF (i := .aload_n 0) rfl (fun _ => rfl) ?_
  refine dp_s1 hF (i := .aload_n 0) rfl (fun _ => rfl) ?_
  refine dp_s1 hF (i := .getfield 46) rfl (fun _ => rfl) ?_
  refine dp_si (mj := dp_m_X7_refuse) (i := .invokevirtual 66) rfl rfl (Or.inl rfl) rfl (fun _ => rfl) (fun r4 M3 => ?_)
  refine dp_s1 hF (i := .goto 12) rfl (fun _ => rfl) ?_
  exact rfl
set_option maxRecDepth 20000 in
theorem D_X7_readPair_26_eq (xs : Nat → Int32) (xl d : Nat) (v1 : Int32) (v2 : Int32) (vs0 : Int32) (M : dp_M) : D_X7_readPair_26 xs xl d v1 v2 vs0 M = dp_w (dp_setI M 68 9 ((dp_I M 68 9) + (3 : Int32))) (fun M1 => if vs0 = (-1 : Int32) then (some (.inl (some (.int (-1 : Int32))), M1)) else (dp_bi (dp_den true xs xl d 149 [.ref 68, .int (40 : Int32)] M1) (fun r3 M2 => if r3 = 0 then (some (.inl (some (.int (-1 : Int32))), M2)) else (dp_bi (dp_den true xs xl d 153 [.ref 68, .int (v2 + (1 : Int32))] M2) (fun r5 M4 => if r5 = (-1 : Int32) then (D_X7_readPair_88 xs xl d v1 v2 vs0 r5 (-1 : Int32) M4) else (dp_bi (dp_den true xs xl d 149 [.ref 68, .int (44 : Int32)] M4) (fun r7 M6 => if r7 = 0 then (D_X7_readPair_88 xs xl d v1 v2 vs0 r5 (-1 : Int32) M6) else (dp_bi (dp_den true xs xl d 153 [.ref 68, .int (v2 + (1 : Int32))] M6) (fun r9 M8 => D_X7_readPair_88 xs xl d v1 v2 vs0 r5 r9 M8))))))))) := by
  have hF := dp_den_grow (md := true) (xs := xs) (xl := xl) d
  unfold D_X7_readPair_26
  refine dp_s1 hF (i := .istore_n 3) rfl (fun _ => rfl) ?_
  refine dp_s1 hF (i := .aload_n 0) rfl (fun _ => rfl) ?_
  refine dp_s1 hF (i := .dup) rfl (fun _ => rfl) ?_
  refine dp_s1 hF (i := .getfield 46) rfl (fun _ => rfl) ?_
  refine dp_s1 hF (i := .iconst 3) rfl (fun _ => rfl) ?_
  refine dp_s1 hF (i := .iadd) rfl (fun _ => rfl) ?_
  refine dp_s1w (dp_setI M 68 9 ((dp_I M 68 9) + (3 : Int32))) (fun (M1 : dp_M) => (37, [some (.ref 68), some (.int v1), some (.int v2), some (.int vs0), none, none], [], M1)) hF (i := .putfield 46) rfl (fun _ => rfl) (fun M1 => ?_)
  refine dp_s1 hF (i := .iload_n 3) rfl (fun _ => rfl) ?_
  refine dp_s1 hF (i := .iconst (-1)) rfl (fun _ => rfl) ?_
  refine dp_s2 hF (i := .if_icmp .eq 12) (a := (51, [some (.ref 68), some (.int v1), some (.int v2), some (.int vs0), none, none], [], M1)) (b := (42, [some (.ref 68), some (.int v1), some (.int v2), some (.int vs0), none, none], [], M1)) rfl (fun _ => rfl) ?_ ?_
  · refine dp_s1 hF (i := .iconst (-1)) rfl (fun _ => rfl) ?_
    exact dp_s0 hF (i := .ireturn) rfl (fun _ => rfl)
  refine dp_s1 hF (i := .aload_n 0) rfl (fun _ => rfl) ?_
  refine dp_s1 hF (i := .bipush 40) rfl (fun _ => rfl) ?_
  refine dp_si (mj := dp_m_X7_pass) (i := .invokevirtual 118) rfl rfl (Or.inr rfl) rfl (fun _ => rfl) (fun r3 M2 => ?_)
  refine dp_s2 hF (i := .ifCond .ne 5) (a := (51, [some (.ref 68), some (.int v1), some (.int v2), some (.int vs0), none, none], [], M2)) (b := (53, [some (.ref 68), some (.int v1), some (.int v2), some (.int vs0), none, none], [], M2)) rfl (fun _ => rfl) ?_ ?_
  · refine dp_s1 hF (i := .iconst (-1)) rfl (fun _ => rfl) ?_
    exact dp_s0 hF (i := .ireturn) rfl (fun _ => rfl)
  refine dp_s1 hF (i := .aload_n 0) rfl (fun _ => rfl) ?_
  refine dp_s1 hF (i := .iload_n 2) rfl (fun _ => rfl) ?_
  refine dp_s1 hF (i := .iconst 1) rfl (fun _ => rfl) ?_
  refine dp_s1 hF (i := .iadd) rfl (fun _ => rfl) ?_
  refine dp_si (mj := dp_m_X7_readRate) (i := .invokevirtual 58) rfl rfl (Or.inl rfl) rfl (fun _ => rfl) (fun r5 M4 => ?_)
  refine dp_s1 hF (i := .istore 4) rfl (fun _ => rfl) ?_
  refine dp_s1 hF (i := .iload 4) rfl (fun _ => rfl) ?_
  refine dp_s1 hF (i := .iconst (-1)) rfl (fun _ => rfl) ?_
  refine dp_s2 hF (i := .if_icmp .eq 22) (a := (87, [some (.ref 68), some (.int v1), some (.int v2), some (.int vs0), some (.int r5), none], [], M4)) (b := (68, [some (.ref 68), some (.int v1), some (.int v2), some (.int vs0), some (.int r5), none], [], M4)) rfl (fun _ => rfl) ?_ ?_
  · refine dp_s1 hF (i := .iconst (-1)) rfl (fun _ => rfl) ?_
    exact rfl
  refine dp_s1 hF (i := .aload_n 0) rfl (fun _ => rfl) ?_
  refine dp_s1 hF (i := .bipush 44) rfl (fun _ => rfl) ?_
  refine dp_si (mj := dp_m_X7_pass) (i := .invokevirtual 118) rfl rfl (Or.inr rfl) rfl (fun _ => rfl) (fun r7 M6 => ?_)
  refine dp_s2 hF (i := .ifCond .eq 13) (a := (87, [some (.ref 68), some (.int v1), some (.int v2), some (.int vs0), some (.int r5), none], [], M6)) (b := (77, [some (.ref 68), some (.int v1), some (.int v2), some (.int vs0), some (.int r5), none], [], M6)) rfl (fun _ => rfl) ?_ ?_
  · refine dp_s1 hF (i := .iconst (-1)) rfl (fun _ => rfl) ?_
    exact rfl
  refine dp_s1 hF (i := .aload_n 0) rfl (fun _ => rfl) ?_
  refine dp_s1 hF (i := .iload_n 2) rfl (fun _ => rfl) ?_
  refine dp_s1 hF (i := .iconst 1) rfl (fun _ => rfl) ?_
  refine dp_s1 hF (i := .iadd) rfl (fun _ => rfl) ?_
  refine dp_si (mj := dp_m_X7_readRate) (i := .invokevirtual 58) rfl rfl (Or.inl rfl) rfl (fun _ => rfl) (fun r9 M8 => ?_)
  refine dp_s1 hF (i := .goto 4) rfl (fun _ => rfl) ?_
  exact rfl
set_option maxRecDepth 20000 in
theorem D_X7_readPair_88_eq (xs : Nat → Int32) (xl d : Nat) (v1 : Int32) (v2 : Int32) (v3 : Int32) (v4 : Int32) (vs0 : Int32) (M : dp_M) : D_X7_readPair_88 xs xl d v1 v2 v3 v4 vs0 M = if vs0 = (-1 : Int32) then (some (.inl (some (.int (-1 : Int32))), M)) else (dp_bi (dp_den true xs xl d 149 [.ref 68, .int (41 : Int32)] M) (fun r2 M1 => if r2 = 0 then (some (.inl (some (.int (-1 : Int32))), M1)) else (dp_bv (dp_den true xs xl d 152 [.ref 68, .int v3, .int v4, .int vs0] M1) (fun M3 => some (.inl (some (.int v3)), M3))))) := by
  have hF := dp_den_grow (md := true) (xs := xs) (xl := xl) d
  unfold D_X7_readPair_88
  refine dp_s1 hF (i := .istore 5) rfl (fun _ => rfl) ?_
  refine dp_s1 hF (i := .iload 5) rfl (fun _ => rfl) ?_
  refine dp_s1 hF (i := .iconst (-1)) rfl (fun _ => rfl) ?_
  refine dp_s2 hF (i := .if_icmp .eq 12) (a := (105, [some (.ref 68), some (.int v1), some (.int v2), some (.int v3), some (.int v4), some (.int vs0)], [], M)) (b := (96, [some (.ref 68), some (.int v1), some (.int v2), some (.int v3), some (.int v4), some (.int vs0)], [], M)) rfl (fun _ => rfl) ?_ ?_
  · refine dp_s1 hF (i := .iconst (-1)) rfl (fun _ => rfl) ?_
    exact dp_s0 hF (i := .ireturn) rfl (fun _ => rfl)
  refine dp_s1 hF (i := .aload_n 0) rfl (fun _ => rfl) ?_
  refine dp_s1 hF (i := .bipush 41) rfl (fun _ => rfl) ?_
  refine dp_si (mj := dp_m_X7_pass) (i := .invokevirtual 118) rfl rfl (Or.inr rfl) rfl (fun _ => rfl) (fun r2 M1 => ?_)
  refine dp_s2 hF (i := .ifCond .ne 5) (a := (105, [some (.ref 68), some (.int v1), some (.int v2), some (.int v3), some (.int v4), some (.int vs0)], [], M1)) (b := (107, [some (.ref 68), some (.int v1), some (.int v2), some (.int v3), some (.int v4), some (.int vs0)], [], M1)) rfl (fun _ => rfl) ?_ ?_
  · refine dp_s1 hF (i := .iconst (-1)) rfl (fun _ => rfl) ?_
    exact dp_s0 hF (i := .ireturn) rfl (fun _ => rfl)
  refine dp_s1 hF (i := .aload_n 0) rfl (fun _ => rfl) ?_
  refine dp_s1 hF (i := .iload_n 3) rfl (fun _ => rfl) ?_
  refine dp_s1 hF (i := .iload 4) rfl (fun _ => rfl) ?_
  refine dp_s1 hF (i := .iload 5) rfl (fun _ => rfl) ?_
  refine dp_sv (mj := dp_m_X7_setBelow) (i := .invokevirtual 84) rfl rfl rfl rfl (fun _ => rfl) (fun M3 => ?_)
  refine dp_s1 hF (i := .iload_n 3) rfl (fun _ => rfl) ?_
  exact dp_s0 hF (i := .ireturn) rfl (fun _ => rfl)
noncomputable def D_X7_isDigit_0 (xs : Nat → Int32) (xl d : Nat) (v0 : Int32) (M : dp_M) : Option dp_Res := dp_lim true xs xl (dp_den true xs xl d) dp_m_X7_isDigit (0, [some (.int v0)], [], M)
theorem D_X7_isDigit_0_den (xs : Nat → Int32) (xl d : Nat) (a0 : Int32) (M : dp_M) : dp_den true xs xl (d + 1) 157 [.int a0] M = D_X7_isDigit_0 xs xl d a0 M := rfl
set_option maxRecDepth 20000 in
theorem D_X7_isDigit_0_eq (xs : Nat → Int32) (xl d : Nat) (v0 : Int32) (M : dp_M) : D_X7_isDigit_0 xs xl d v0 M = if v0 < (48 : Int32) then (some (.inl (some (.int (0 : Int32))), M)) else (if (57 : Int32) < v0 then (some (.inl (some (.int (0 : Int32))), M)) else (some (.inl (some (.int (1 : Int32))), M))) := by
  have hF := dp_den_grow (md := true) (xs := xs) (xl := xl) d
  unfold D_X7_isDigit_0
  refine dp_s1 hF (i := .iload_n 0) rfl (fun _ => rfl) ?_
  refine dp_s1 hF (i := .bipush 48) rfl (fun _ => rfl) ?_
  refine dp_s2 hF (i := .if_icmp .lt 13) (a := (16, [some (.int v0)], [], M)) (b := (6, [some (.int v0)], [], M)) rfl (fun _ => rfl) ?_ ?_
  · refine dp_s1 hF (i := .iconst 0) rfl (fun _ => rfl) ?_
    exact dp_s0 hF (i := .ireturn) rfl (fun _ => rfl)
  refine dp_s1 hF (i := .iload_n 0) rfl (fun _ => rfl) ?_
  refine dp_s1 hF (i := .bipush 57) rfl (fun _ => rfl) ?_
  refine dp_s2 hF (i := .if_icmp .gt 7) (a := (16, [some (.int v0)], [], M)) (b := (12, [some (.int v0)], [], M)) rfl (fun _ => rfl) ?_ ?_
  · refine dp_s1 hF (i := .iconst 0) rfl (fun _ => rfl) ?_
    exact dp_s0 hF (i := .ireturn) rfl (fun _ => rfl)
  refine dp_s1 hF (i := .iconst 1) rfl (fun _ => rfl) ?_
  refine dp_s1 hF (i := .goto 4) rfl (fun _ => rfl) ?_
  exact dp_s0 hF (i := .ireturn) rfl (fun _ => rfl)
noncomputable def D_X7_runOfDigits_0 (xs : Nat → Int32) (xl d : Nat) (v1 : Int32) (M : dp_M) : Option dp_Res := dp_lim true xs xl (dp_den true xs xl d) dp_m_X7_runOfDigits (0, [some (.ref 68), some (.int v1), none], [], M)
noncomputable def D_X7_runOfDigits_2 (xs : Nat → Int32) (xl d : Nat) (v1 : Int32) (v2 : Int32) (M : dp_M) : Option dp_Res := dp_lim true xs xl (dp_den true xs xl d) dp_m_X7_runOfDigits (2, [some (.ref 68), some (.int v1), some (.int v2)], [], M)
theorem D_X7_runOfDigits_0_den (xs : Nat → Int32) (xl d : Nat) (a0 : Int32) (M : dp_M) : dp_den true xs xl (d + 1) 158 [.ref 68, .int a0] M = D_X7_runOfDigits_0 xs xl d a0 M := rfl
set_option maxRecDepth 20000 in
theorem D_X7_runOfDigits_0_eq (xs : Nat → Int32) (xl d : Nat) (v1 : Int32) (M : dp_M) : D_X7_runOfDigits_0 xs xl d v1 M = dp_w (0 : Int32) (fun y1 => D_X7_runOfDigits_2 xs xl d v1 y1 M) := by
  have hF := dp_den_grow (md := true) (xs := xs) (xl := xl) d
  unfold D_X7_runOfDigits_0
  refine dp_s1 hF (i := .iconst 0) rfl (fun _ => rfl) ?_
  refine dp_s1w (0 : Int32) (fun (y1 : Int32) => (2, [some (.ref 68), some (.int v1), some (.int y1)], [], M)) hF (i := .istore_n 2) rfl (fun _ => rfl) (fun y1 => ?_)
  exact rfl
set_option maxRecDepth 20000 in
theorem D_X7_runOfDigits_2_eq (xs : Nat → Int32) (xl d : Nat) (v1 : Int32) (v2 : Int32) (M : dp_M) : D_X7_runOfDigits_2 xs xl d v1 v2 M = if (dp_I M 68 0) ≤ (v1 + v2) then (some (.inl (some (.int v2)), M)) else (if (v1 + v2) < 0 ∨ 400 ≤ Int32.toNatClampNeg (v1 + v2) then none else (if (dp_I M 70 (Int32.toNatClampNeg (v1 + v2))) < (48 : Int32) then (some (.inl (some (.int v2)), M)) else (if (v1 + v2) < 0 ∨ 400 ≤ Int32.toNatClampNeg (v1 + v2) then none else (if (57 : Int32) < (dp_I M 70 (Int32.toNatClampNeg (v1 + v2))) then (some (.inl (some (.int v2)), M)) else (dp_w (v2 + (1 : Int32)) (fun y1 => D_X7_runOfDigits_2 xs xl d v1 y1 M)))))) := by
  have hF := dp_den_grow (md := true) (xs := xs) (xl := xl) d
  unfold D_X7_runOfDigits_2
  refine dp_s1 hF (i := .iload_n 1) rfl (fun _ => rfl) ?_
  refine dp_s1 hF (i := .iload_n 2) rfl (fun _ => rfl) ?_
  refine dp_s1 hF (i := .iadd) rfl (fun _ => rfl) ?_
  refine dp_s1 hF (i := .aload_n 0) rfl (fun _ => rfl) ?_
  refine dp_s1 hF (i := .getfield 37) rfl (fun _ => rfl) ?_
  refine dp_s2 hF (i := .if_icmp .ge 35) (a := (44, [some (.ref 68), some (.int v1), some (.int v2)], [], M)) (b := (12, [some (.ref 68), some (.int v1), some (.int v2)], [], M)) rfl (fun _ => rfl) ?_ ?_
  · refine dp_s1 hF (i := .iload_n 2) rfl (fun _ => rfl) ?_
    exact dp_s0 hF (i := .ireturn) rfl (fun _ => rfl)
  refine dp_s1 hF (i := .aload_n 0) rfl (fun _ => rfl) ?_
  refine dp_s1 hF (i := .getfield 19) rfl (fun _ => rfl) ?_
  refine dp_s1 hF (i := .iload_n 1) rfl (fun _ => rfl) ?_
  refine dp_s1 hF (i := .iload_n 2) rfl (fun _ => rfl) ?_
  refine dp_s1 hF (i := .iadd) rfl (fun _ => rfl) ?_
  refine dp_s3 hF (i := .caload) rfl (fun _ => rfl) ?_
  refine dp_s1 hF (i := .bipush 48) rfl (fun _ => rfl) ?_
  refine dp_s2 hF (i := .if_icmp .lt 22) (a := (44, [some (.ref 68), some (.int v1), some (.int v2)], [], M)) (b := (25, [some (.ref 68), some (.int v1), some (.int v2)], [], M)) rfl (fun _ => rfl) ?_ ?_
  · refine dp_s1 hF (i := .iload_n 2) rfl (fun _ => rfl) ?_
    exact dp_s0 hF (i := .ireturn) rfl (fun _ => rfl)
  refine dp_s1 hF (i := .aload_n 0) rfl (fun _ => rfl) ?_
  refine dp_s1 hF (i := .getfield 19) rfl (fun _ => rfl) ?_
  refine dp_s1 hF (i := .iload_n 1) rfl (fun _ => rfl) ?_
  refine dp_s1 hF (i := .iload_n 2) rfl (fun _ => rfl) ?_
  refine dp_s1 hF (i := .iadd) rfl (fun _ => rfl) ?_
  refine dp_s3 hF (i := .caload) rfl (fun _ => rfl) ?_
  refine dp_s1 hF (i := .bipush 57) rfl (fun _ => rfl) ?_
  refine dp_s2 hF (i := .if_icmp .gt 9) (a := (44, [some (.ref 68), some (.int v1), some (.int v2)], [], M)) (b := (38, [some (.ref 68), some (.int v1), some (.int v2)], [], M)) rfl (fun _ => rfl) ?_ ?_
  · refine dp_s1 hF (i := .iload_n 2) rfl (fun _ => rfl) ?_
    exact dp_s0 hF (i := .ireturn) rfl (fun _ => rfl)
  refine dp_s1w (v2 + (1 : Int32)) (fun (y1 : Int32) => (41, [some (.ref 68), some (.int v1), some (.int y1)], [], M)) hF (i := .iinc 2 1) rfl (fun _ => rfl) (fun y1 => ?_)
  refine dp_s1 hF (i := .goto (-39)) rfl (fun _ => rfl) ?_
  exact rfl
noncomputable def D_X7_runOfLetters_0 (xs : Nat → Int32) (xl d : Nat)  (M : dp_M) : Option dp_Res := dp_lim true xs xl (dp_den true xs xl d) dp_m_X7_runOfLetters (0, [some (.ref 68), none], [], M)
noncomputable def D_X7_runOfLetters_2 (xs : Nat → Int32) (xl d : Nat) (v1 : Int32) (M : dp_M) : Option dp_Res := dp_lim true xs xl (dp_den true xs xl d) dp_m_X7_runOfLetters (2, [some (.ref 68), some (.int v1)], [], M)
theorem D_X7_runOfLetters_0_den (xs : Nat → Int32) (xl d : Nat)  (M : dp_M) : dp_den true xs xl (d + 1) 159 [.ref 68] M = D_X7_runOfLetters_0 xs xl d  M := rfl
set_option maxRecDepth 20000 in
theorem D_X7_runOfLetters_0_eq (xs : Nat → Int32) (xl d : Nat)  (M : dp_M) : D_X7_runOfLetters_0 xs xl d  M = dp_w (0 : Int32) (fun y1 => D_X7_runOfLetters_2 xs xl d y1 M) := by
  have hF := dp_den_grow (md := true) (xs := xs) (xl := xl) d
  unfold D_X7_runOfLetters_0
  refine dp_s1 hF (i := .iconst 0) rfl (fun _ => rfl) ?_
  refine dp_s1w (0 : Int32) (fun (y1 : Int32) => (2, [some (.ref 68), some (.int y1)], [], M)) hF (i := .istore_n 1) rfl (fun _ => rfl) (fun y1 => ?_)
  exact rfl
set_option maxRecDepth 20000 in
theorem D_X7_runOfLetters_2_eq (xs : Nat → Int32) (xl d : Nat) (v1 : Int32) (M : dp_M) : D_X7_runOfLetters_2 xs xl d v1 M = if (dp_I M 68 0) ≤ ((dp_I M 68 9) + v1) then (some (.inl (some (.int v1)), M)) else (dp_bi (dp_den true xs xl d 147 [.ref 68, .int ((dp_I M 68 9) + v1)] M) (fun r2 M1 => if r2 < (97 : Int32) then (some (.inl (some (.int v1)), M1)) else (dp_bi (dp_den true xs xl d 147 [.ref 68, .int ((dp_I M1 68 9) + v1)] M1) (fun r4 M3 => if (122 : Int32) < r4 then (some (.inl (some (.int v1)), M3)) else (dp_w (v1 + (1 : Int32)) (fun y5 => D_X7_runOfLetters_2 xs xl d y5 M3)))))) := by
  have hF := dp_den_grow (md := true) (xs := xs) (xl := xl) d
  unfold D_X7_runOfLetters_2
  refine dp_s1 hF (i := .aload_n 0) rfl (fun _ => rfl) ?_
  refine dp_s1 hF (i := .getfield 46) rfl (fun _ => rfl) ?_
  refine dp_s1 hF (i := .iload_n 1) rfl (fun _ => rfl) ?_
  refine dp_s1 hF (i := .iadd) rfl (fun _ => rfl) ?_
  refine dp_s1 hF (i := .aload_n 0) rfl (fun _ => rfl) ?_
  refine dp_s1 hF (i := .getfield 37) rfl (fun _ => rfl) ?_
  refine dp_s2 hF (i := .if_icmp .ge 39) (a := (51, [some (.ref 68), some (.int v1)], [], M)) (b := (15, [some (.ref 68), some (.int v1)], [], M)) rfl (fun _ => rfl) ?_ ?_
  · refine dp_s1 hF (i := .iload_n 1) rfl (fun _ => rfl) ?_
    exact dp_s0 hF (i := .ireturn) rfl (fun _ => rfl)
  refine dp_s1 hF (i := .aload_n 0) rfl (fun _ => rfl) ?_
  refine dp_s1 hF (i := .aload_n 0) rfl (fun _ => rfl) ?_
  refine dp_s1 hF (i := .getfield 46) rfl (fun _ => rfl) ?_
  refine dp_s1 hF (i := .iload_n 1) rfl (fun _ => rfl) ?_
  refine dp_s1 hF (i := .iadd) rfl (fun _ => rfl) ?_
  refine dp_si (mj := dp_m_X7_signAt) (i := .invokevirtual 122) rfl rfl (Or.inl rfl) rfl (fun _ => rfl) (fun r2 M1 => ?_)
  refine dp_s1 hF (i := .bipush 97) rfl (fun _ => rfl) ?_
  refine dp_s2 hF (i := .if_icmp .lt 24) (a := (51, [some (.ref 68), some (.int v1)], [], M1)) (b := (30, [some (.ref 68), some (.int v1)], [], M1)) rfl (fun _ => rfl) ?_ ?_
  · refine dp_s1 hF (i := .iload_n 1) rfl (fun _ => rfl) ?_
    exact dp_s0 hF (i := .ireturn) rfl (fun _ => rfl)
  refine dp_s1 hF (i := .aload_n 0) rfl (fun _ => rfl) ?_
  refine dp_s1 hF (i := .aload_n 0) rfl (fun _ => rfl) ?_
  refine dp_s1 hF (i := .getfield 46) rfl (fun _ => rfl) ?_
  refine dp_s1 hF (i := .iload_n 1) rfl (fun _ => rfl) ?_
  refine dp_s1 hF (i := .iadd) rfl (fun _ => rfl) ?_
  refine dp_si (mj := dp_m_X7_signAt) (i := .invokevirtual 122) rfl rfl (Or.inl rfl) rfl (fun _ => rfl) (fun r4 M3 => ?_)
  refine dp_s1 hF (i := .bipush 122) rfl (fun _ => rfl) ?_
  refine dp_s2 hF (i := .if_icmp .gt 9) (a := (51, [some (.ref 68), some (.int v1)], [], M3)) (b := (45, [some (.ref 68), some (.int v1)], [], M3)) rfl (fun _ => rfl) ?_ ?_
  · refine dp_s1 hF (i := .iload_n 1) rfl (fun _ => rfl) ?_
    exact dp_s0 hF (i := .ireturn) rfl (fun _ => rfl)
  refine dp_s1w (v1 + (1 : Int32)) (fun (y5 : Int32) => (48, [some (.ref 68), some (.int y5)], [], M3)) hF (i := .iinc 1 1) rfl (fun _ => rfl) (fun y5 => ?_)
  refine dp_s1 hF (i := .goto (-46)) rfl (fun _ => rfl) ?_
  exact rfl
noncomputable def D_X7_isWord_0 (xs : Nat → Int32) (xl d : Nat) (v1 : Int32) (v2 : Int32) (M : dp_M) : Option dp_Res := dp_lim true xs xl (dp_den true xs xl d) dp_m_X7_isWord (0, [some (.ref 68), some (.int v1), some (.int v2), some (.retAddr 22), none], [], M)
noncomputable def D_X7_isWord_0_a (xs : Nat → Int32) (xl d : Nat) (v1 : Int32) (v2 : Int32) (M : dp_M) : Option dp_Res := dp_lim true xs xl (dp_den true xs xl d) dp_m_X7_isWord (0, [some (.ref 68), some (.int v1), some (.int v2), some (.retAddr 23), none], [], M)
noncomputable def D_X7_isWord_0_b (xs : Nat → Int32) (xl d : Nat) (v1 : Int32) (v2 : Int32) (M : dp_M) : Option dp_Res := dp_lim true xs xl (dp_den true xs xl d) dp_m_X7_isWord (0, [some (.ref 68), some (.int v1), some (.int v2), some (.retAddr 24), none], [], M)
noncomputable def D_X7_isWord_0_c (xs : Nat → Int32) (xl d : Nat) (v1 : Int32) (v2 : Int32) (M : dp_M) : Option dp_Res := dp_lim true xs xl (dp_den true xs xl d) dp_m_X7_isWord (0, [some (.ref 68), some (.int v1), some (.int v2), some (.retAddr 25), none], [], M)
noncomputable def D_X7_isWord_13 (xs : Nat → Int32) (xl d : Nat) (v1 : Int32) (v2 : Int32) (v4 : Int32) (M : dp_M) : Option dp_Res := dp_lim true xs xl (dp_den true xs xl d) dp_m_X7_isWord (13, [some (.ref 68), some (.int v1), some (.int v2), some (.retAddr 22), some (.int v4)], [], M)
noncomputable def D_X7_isWord_13_a (xs : Nat → Int32) (xl d : Nat) (v1 : Int32) (v2 : Int32) (v4 : Int32) (M : dp_M) : Option dp_Res := dp_lim true xs xl (dp_den true xs xl d) dp_m_X7_isWord (13, [some (.ref 68), some (.int v1), some (.int v2), some (.retAddr 23), some (.int v4)], [], M)
noncomputable def D_X7_isWord_13_b (xs : Nat → Int32) (xl d : Nat) (v1 : Int32) (v2 : Int32) (v4 : Int32) (M : dp_M) : Option dp_Res := dp_lim true xs xl (dp_den true xs xl d) dp_m_X7_isWord (13, [some (.ref 68), some (.int v1), some (.int v2), some (.retAddr 24), some (.int v4)], [], M)
noncomputable def D_X7_isWord_13_c (xs : Nat → Int32) (xl d : Nat) (v1 : Int32) (v2 : Int32) (v4 : Int32) (M : dp_M) : Option dp_Res := dp_lim true xs xl (dp_den true xs xl d) dp_m_X7_isWord (13, [some (.ref 68), some (.int v1), some (.int v2), some (.retAddr 25), some (.int v4)], [], M)
theorem D_X7_isWord_0_den (xs : Nat → Int32) (xl d : Nat) (a0 : Int32) (a1 : Int32) (M : dp_M) : dp_den true xs xl (d + 1) 160 [.ref 68, .int a0, .int a1, .retAddr 22] M = D_X7_isWord_0 xs xl d a0 a1 M := rfl
theorem D_X7_isWord_0_a_den (xs : Nat → Int32) (xl d : Nat) (a0 : Int32) (a1 : Int32) (M : dp_M) : dp_den true xs xl (d + 1) 160 [.ref 68, .int a0, .int a1, .retAddr 23] M = D_X7_isWord_0_a xs xl d a0 a1 M := rfl
theorem D_X7_isWord_0_b_den (xs : Nat → Int32) (xl d : Nat) (a0 : Int32) (a1 : Int32) (M : dp_M) : dp_den true xs xl (d + 1) 160 [.ref 68, .int a0, .int a1, .retAddr 24] M = D_X7_isWord_0_b xs xl d a0 a1 M := rfl
theorem D_X7_isWord_0_c_den (xs : Nat → Int32) (xl d : Nat) (a0 : Int32) (a1 : Int32) (M : dp_M) : dp_den true xs xl (d + 1) 160 [.ref 68, .int a0, .int a1, .retAddr 25] M = D_X7_isWord_0_c xs xl d a0 a1 M := rfl
set_option maxRecDepth 20000 in
theorem D_X7_isWord_0_eq (xs : Nat → Int32) (xl d : Nat) (v1 : Int32) (v2 : Int32) (M : dp_M) : D_X7_isWord_0 xs xl d v1 v2 M = if v2 = (4 : Int32) then (dp_w (0 : Int32) (fun y1 => D_X7_isWord_13 xs xl d v1 v2 y1 M)) else (some (.inl (some (.int (0 : Int32))), M)) := by
  have hF := dp_den_grow (md := true) (xs := xs) (xl := xl) d
  unfold D_X7_isWord_0
  refine dp_s1 hF (i := .iload_n 2) rfl (fun _ => rfl) ?_
  refine dp_s1 hF (i := .aload_n 3) rfl (fun _ => rfl) ?_
  refine dp_s1 hF (i := .invokevirtual 125) rfl (fun _ => rfl) ?_
  refine dp_s2 hF (i := .if_icmp .eq 5) (a := (10, [some (.ref 68), some (.int v1), some (.int v2), some (.retAddr 22), none], [], M)) (b := (8, [some (.ref 68), some (.int v1), some (.int v2), some (.retAddr 22), none], [], M)) rfl (fun _ => rfl) ?_ ?_
  · refine dp_s1 hF (i := .iconst 0) rfl (fun _ => rfl) ?_
    refine dp_s1w (0 : Int32) (fun (y1 : Int32) => (13, [some (.ref 68), some (.int v1), some (.int v2), some (.retAddr 22), some (.int y1)], [], M)) hF (i := .istore 4) rfl (fun _ => rfl) (fun y1 => ?_)
    exact rfl
  refine dp_s1 hF (i := .iconst 0) rfl (fun _ => rfl) ?_
  exact dp_s0 hF (i := .ireturn) rfl (fun _ => rfl)
set_option maxRecDepth 20000 in
theorem D_X7_isWord_0_a_eq (xs : Nat → Int32) (xl d : Nat) (v1 : Int32) (v2 : Int32) (M : dp_M) : D_X7_isWord_0_a xs xl d v1 v2 M = if v2 = (3 : Int32) then (dp_w (0 : Int32) (fun y1 => D_X7_isWord_13_a xs xl d v1 v2 y1 M)) else (some (.inl (some (.int (0 : Int32))), M)) := by
  have hF := dp_den_grow (md := true) (xs := xs) (xl := xl) d
  unfold D_X7_isWord_0_a
  refine dp_s1 hF (i := .iload_n 2) rfl (fun _ => rfl) ?_
  refine dp_s1 hF (i := .aload_n 3) rfl (fun _ => rfl) ?_
  refine dp_s1 hF (i := .invokevirtual 125) rfl (fun _ => rfl) ?_
  refine dp_s2 hF (i := .if_icmp .eq 5) (a := (10, [some (.ref 68), some (.int v1), some (.int v2), some (.retAddr 23), none], [], M)) (b := (8, [some (.ref 68), some (.int v1), some (.int v2), some (.retAddr 23), none], [], M)) rfl (fun _ => rfl) ?_ ?_
  · refine dp_s1 hF (i := .iconst 0) rfl (fun _ => rfl) ?_
    refine dp_s1w (0 : Int32) (fun (y1 : Int32) => (13, [some (.ref 68), some (.int v1), some (.int v2), some (.retAddr 23), some (.int y1)], [], M)) hF (i := .istore 4) rfl (fun _ => rfl) (fun y1 => ?_)
    exact rfl
  refine dp_s1 hF (i := .iconst 0) rfl (fun _ => rfl) ?_
  exact dp_s0 hF (i := .ireturn) rfl (fun _ => rfl)
set_option maxRecDepth 20000 in
theorem D_X7_isWord_0_b_eq (xs : Nat → Int32) (xl d : Nat) (v1 : Int32) (v2 : Int32) (M : dp_M) : D_X7_isWord_0_b xs xl d v1 v2 M = if v2 = (3 : Int32) then (dp_w (0 : Int32) (fun y1 => D_X7_isWord_13_b xs xl d v1 v2 y1 M)) else (some (.inl (some (.int (0 : Int32))), M)) := by
  have hF := dp_den_grow (md := true) (xs := xs) (xl := xl) d
  unfold D_X7_isWord_0_b
  refine dp_s1 hF (i := .iload_n 2) rfl (fun _ => rfl) ?_
  refine dp_s1 hF (i := .aload_n 3) rfl (fun _ => rfl) ?_
  refine dp_s1 hF (i := .invokevirtual 125) rfl (fun _ => rfl) ?_
  refine dp_s2 hF (i := .if_icmp .eq 5) (a := (10, [some (.ref 68), some (.int v1), some (.int v2), some (.retAddr 24), none], [], M)) (b := (8, [some (.ref 68), some (.int v1), some (.int v2), some (.retAddr 24), none], [], M)) rfl (fun _ => rfl) ?_ ?_
  · refine dp_s1 hF (i := .iconst 0) rfl (fun _ => rfl) ?_
    refine dp_s1w (0 : Int32) (fun (y1 : Int32) => (13, [some (.ref 68), some (.int v1), some (.int v2), some (.retAddr 24), some (.int y1)], [], M)) hF (i := .istore 4) rfl (fun _ => rfl) (fun y1 => ?_)
    exact rfl
  refine dp_s1 hF (i := .iconst 0) rfl (fun _ => rfl) ?_
  exact dp_s0 hF (i := .ireturn) rfl (fun _ => rfl)
set_option maxRecDepth 20000 in
theorem D_X7_isWord_0_c_eq (xs : Nat → Int32) (xl d : Nat) (v1 : Int32) (v2 : Int32) (M : dp_M) : D_X7_isWord_0_c xs xl d v1 v2 M = if v2 = (4 : Int32) then (dp_w (0 : Int32) (fun y1 => D_X7_isWord_13_c xs xl d v1 v2 y1 M)) else (some (.inl (some (.int (0 : Int32))), M)) := by
  have hF := dp_den_grow (md := true) (xs := xs) (xl := xl) d
  unfold D_X7_isWord_0_c
  refine dp_s1 hF (i := .iload_n 2) rfl (fun _ => rfl) ?_
  refine dp_s1 hF (i := .aload_n 3) rfl (fun _ => rfl) ?_
  refine dp_s1 hF (i := .invokevirtual 125) rfl (fun _ => rfl) ?_
  refine dp_s2 hF (i := .if_icmp .eq 5) (a := (10, [some (.ref 68), some (.int v1), some (.int v2), some (.retAddr 25), none], [], M)) (b := (8, [some (.ref 68), some (.int v1), some (.int v2), some (.retAddr 25), none], [], M)) rfl (fun _ => rfl) ?_ ?_
  · refine dp_s1 hF (i := .iconst 0) rfl (fun _ => rfl) ?_
    refine dp_s1w (0 : Int32) (fun (y1 : Int32) => (13, [some (.ref 68), some (.int v1), some (.int v2), some (.retAddr 25), some (.int y1)], [], M)) hF (i := .istore 4) rfl (fun _ => rfl) (fun y1 => ?_)
    exact rfl
  refine dp_s1 hF (i := .iconst 0) rfl (fun _ => rfl) ?_
  exact dp_s0 hF (i := .ireturn) rfl (fun _ => rfl)
set_option maxRecDepth 20000 in
theorem D_X7_isWord_13_eq (xs : Nat → Int32) (xl d : Nat) (v1 : Int32) (v2 : Int32) (v4 : Int32) (M : dp_M) : D_X7_isWord_13 xs xl d v1 v2 v4 M = if v2 ≤ v4 then (some (.inl (some (.int (1 : Int32))), M)) else (dp_bi (dp_den true xs xl d 147 [.ref 68, .int (v1 + v4)] M) (fun r2 M1 => if v4 < 0 ∨ 4 ≤ Int32.toNatClampNeg v4 then none else (if r2 = (List.getD (dp_sc 22) (Int32.toNatClampNeg v4) 0) then (dp_w (v4 + (1 : Int32)) (fun y3 => D_X7_isWord_13 xs xl d v1 v2 y3 M1)) else (some (.inl (some (.int (0 : Int32))), M1))))) := by
  have hF := dp_den_grow (md := true) (xs := xs) (xl := xl) d
  unfold D_X7_isWord_13
  refine dp_s1 hF (i := .iload 4) rfl (fun _ => rfl) ?_
  refine dp_s1 hF (i := .iload_n 2) rfl (fun _ => rfl) ?_
  refine dp_s2 hF (i := .if_icmp .ge 28) (a := (44, [some (.ref 68), some (.int v1), some (.int v2), some (.retAddr 22), some (.int v4)], [], M)) (b := (19, [some (.ref 68), some (.int v1), some (.int v2), some (.retAddr 22), some (.int v4)], [], M)) rfl (fun _ => rfl) ?_ ?_
  · refine dp_s1 hF (i := .iconst 1) rfl (fun _ => rfl) ?_
    exact dp_s0 hF (i := .ireturn) rfl (fun _ => rfl)
  refine dp_s1 hF (i := .aload_n 0) rfl (fun _ => rfl) ?_
  refine dp_s1 hF (i := .iload_n 1) rfl (fun _ => rfl) ?_
  refine dp_s1 hF (i := .iload 4) rfl (fun _ => rfl) ?_
  refine dp_s1 hF (i := .iadd) rfl (fun _ => rfl) ?_
  refine dp_si (mj := dp_m_X7_signAt) (i := .invokevirtual 122) rfl rfl (Or.inl rfl) rfl (fun _ => rfl) (fun r2 M1 => ?_)
  refine dp_s1 hF (i := .aload_n 3) rfl (fun _ => rfl) ?_
  refine dp_s1 hF (i := .iload 4) rfl (fun _ => rfl) ?_
  refine dp_s3 hF (i := .invokevirtual 130) rfl (fun _ => rfl) ?_
  refine dp_s2 hF (i := .if_icmp .eq 5) (a := (38, [some (.ref 68), some (.int v1), some (.int v2), some (.retAddr 22), some (.int v4)], [], M1)) (b := (36, [some (.ref 68), some (.int v1), some (.int v2), some (.retAddr 22), some (.int v4)], [], M1)) rfl (fun _ => rfl) ?_ ?_
  · refine dp_s1w (v4 + (1 : Int32)) (fun (y3 : Int32) => (41, [some (.ref 68), some (.int v1), some (.int v2), some (.retAddr 22), some (.int y3)], [], M1)) hF (i := .iinc 4 1) rfl (fun _ => rfl) (fun y3 => ?_)
    refine dp_s1 hF (i := .goto (-28)) rfl (fun _ => rfl) ?_
    exact rfl
  refine dp_s1 hF (i := .iconst 0) rfl (fun _ => rfl) ?_
  exact dp_s0 hF (i := .ireturn) rfl (fun _ => rfl)
set_option maxRecDepth 20000 in
theorem D_X7_isWord_13_a_eq (xs : Nat → Int32) (xl d : Nat) (v1 : Int32) (v2 : Int32) (v4 : Int32) (M : dp_M) : D_X7_isWord_13_a xs xl d v1 v2 v4 M = if v2 ≤ v4 then (some (.inl (some (.int (1 : Int32))), M)) else (dp_bi (dp_den true xs xl d 147 [.ref 68, .int (v1 + v4)] M) (fun r2 M1 => if v4 < 0 ∨ 3 ≤ Int32.toNatClampNeg v4 then none else (if r2 = (List.getD (dp_sc 23) (Int32.toNatClampNeg v4) 0) then (dp_w (v4 + (1 : Int32)) (fun y3 => D_X7_isWord_13_a xs xl d v1 v2 y3 M1)) else (some (.inl (some (.int (0 : Int32))), M1))))) := by
  have hF := dp_den_grow (md := true) (xs := xs) (xl := xl) d
  unfold D_X7_isWord_13_a
  refine dp_s1 hF (i := .iload 4) rfl (fun _ => rfl) ?_
  refine dp_s1 hF (i := .iload_n 2) rfl (fun _ => rfl) ?_
  refine dp_s2 hF (i := .if_icmp .ge 28) (a := (44, [some (.ref 68), some (.int v1), some (.int v2), some (.retAddr 23), some (.int v4)], [], M)) (b := (19, [some (.ref 68), some (.int v1), some (.int v2), some (.retAddr 23), some (.int v4)], [], M)) rfl (fun _ => rfl) ?_ ?_
  · refine dp_s1 hF (i := .iconst 1) rfl (fun _ => rfl) ?_
    exact dp_s0 hF (i := .ireturn) rfl (fun _ => rfl)
  refine dp_s1 hF (i := .aload_n 0) rfl (fun _ => rfl) ?_
  refine dp_s1 hF (i := .iload_n 1) rfl (fun _ => rfl) ?_
  refine dp_s1 hF (i := .iload 4) rfl (fun _ => rfl) ?_
  refine dp_s1 hF (i := .iadd) rfl (fun _ => rfl) ?_
  refine dp_si (mj := dp_m_X7_signAt) (i := .invokevirtual 122) rfl rfl (Or.inl rfl) rfl (fun _ => rfl) (fun r2 M1 => ?_)
  refine dp_s1 hF (i := .aload_n 3) rfl (fun _ => rfl) ?_
  refine dp_s1 hF (i := .iload 4) rfl (fun _ => rfl) ?_
  refine dp_s3 hF (i := .invokevirtual 130) rfl (fun _ => rfl) ?_
  refine dp_s2 hF (i := .if_icmp .eq 5) (a := (38, [some (.ref 68), some (.int v1), some (.int v2), some (.retAddr 23), some (.int v4)], [], M1)) (b := (36, [some (.ref 68), some (.int v1), some (.int v2), some (.retAddr 23), some (.int v4)], [], M1)) rfl (fun _ => rfl) ?_ ?_
  · refine dp_s1w (v4 + (1 : Int32)) (fun (y3 : Int32) => (41, [some (.ref 68), some (.int v1), some (.int v2), some (.retAddr 23), some (.int y3)], [], M1)) hF (i := .iinc 4 1) rfl (fun _ => rfl) (fun y3 => ?_)
    refine dp_s1 hF (i := .goto (-28)) rfl (fun _ => rfl) ?_
    exact rfl
  refine dp_s1 hF (i := .iconst 0) rfl (fun _ => rfl) ?_
  exact dp_s0 hF (i := .ireturn) rfl (fun _ => rfl)
set_option maxRecDepth 20000 in
theorem D_X7_isWord_13_b_eq (xs : Nat → Int32) (xl d : Nat) (v1 : Int32) (v2 : Int32) (v4 : Int32) (M : dp_M) : D_X7_isWord_13_b xs xl d v1 v2 v4 M = if v2 ≤ v4 then (some (.inl (some (.int (1 : Int32))), M)) else (dp_bi (dp_den true xs xl d 147 [.ref 68, .int (v1 + v4)] M) (fun r2 M1 => if v4 < 0 ∨ 3 ≤ Int32.toNatClampNeg v4 then none else (if r2 = (List.getD (dp_sc 24) (Int32.toNatClampNeg v4) 0) then (dp_w (v4 + (1 : Int32)) (fun y3 => D_X7_isWord_13_b xs xl d v1 v2 y3 M1)) else (some (.inl (some (.int (0 : Int32))), M1))))) := by
  have hF := dp_den_grow (md := true) (xs := xs) (xl := xl) d
  unfold D_X7_isWord_13_b
  refine dp_s1 hF (i := .iload 4) rfl (fun _ => rfl) ?_
  refine dp_s1 hF (i := .iload_n 2) rfl (fun _ => rfl) ?_
  refine dp_s2 hF (i := .if_icmp .ge 28) (a := (44, [some (.ref 68), some (.int v1), some (.int v2), some (.retAddr 24), some (.int v4)], [], M)) (b := (19, [some (.ref 68), some (.int v1), some (.int v2), some (.retAddr 24), some (.int v4)], [], M)) rfl (fun _ => rfl) ?_ ?_
  · refine dp_s1 hF (i := .iconst 1) rfl (fun _ => rfl) ?_
    exact dp_s0 hF (i := .ireturn) rfl (fun _ => rfl)
  refine dp_s1 hF (i := .aload_n 0) rfl (fun _ => rfl) ?_
  refine dp_s1 hF (i := .iload_n 1) rfl (fun _ => rfl) ?_
  refine dp_s1 hF (i := .iload 4) rfl (fun _ => rfl) ?_
  refine dp_s1 hF (i := .iadd) rfl (fun _ => rfl) ?_
  refine dp_si (mj := dp_m_X7_signAt) (i := .invokevirtual 122) rfl rfl (Or.inl rfl) rfl (fun _ => rfl) (fun r2 M1 => ?_)
  refine dp_s1 hF (i := .aload_n 3) rfl (fun _ => rfl) ?_
  refine dp_s1 hF (i := .iload 4) rfl (fun _ => rfl) ?_
  refine dp_s3 hF (i := .invokevirtual 130) rfl (fun _ => rfl) ?_
  refine dp_s2 hF (i := .if_icmp .eq 5) (a := (38, [some (.ref 68), some (.int v1), some (.int v2), some (.retAddr 24), some (.int v4)], [], M1)) (b := (36, [some (.ref 68), some (.int v1), some (.int v2), some (.retAddr 24), some (.int v4)], [], M1)) rfl (fun _ => rfl) ?_ ?_
  · refine dp_s1w (v4 + (1 : Int32)) (fun (y3 : Int32) => (41, [some (.ref 68), some (.int v1), some (.int v2), some (.retAddr 24), some (.int y3)], [], M1)) hF (i := .iinc 4 1) rfl (fun _ => rfl) (fun y3 => ?_)
    refine dp_s1 hF (i := .goto (-28)) rfl (fun _ => rfl) ?_
    exact rfl
  refine dp_s1 hF (i := .iconst 0) rfl (fun _ => rfl) ?_
  exact dp_s0 hF (i := .ireturn) rfl (fun _ => rfl)
set_option maxRecDepth 20000 in
theorem D_X7_isWord_13_c_eq (xs : Nat → Int32) (xl d : Nat) (v1 : Int32) (v2 : Int32) (v4 : Int32) (M : dp_M) : D_X7_isWord_13_c xs xl d v1 v2 v4 M = if v2 ≤ v4 then (some (.inl (some (.int (1 : Int32))), M)) else (dp_bi (dp_den true xs xl d 147 [.ref 68, .int (v1 + v4)] M) (fun r2 M1 => if v4 < 0 ∨ 4 ≤ Int32.toNatClampNeg v4 then none else (if r2 = (List.getD (dp_sc 25) (Int32.toNatClampNeg v4) 0) then (dp_w (v4 + (1 : Int32)) (fun y3 => D_X7_isWord_13_c xs xl d v1 v2 y3 M1)) else (some (.inl (some (.int (0 : Int32))), M1))))) := by
  have hF := dp_den_grow (md := true) (xs := xs) (xl := xl) d
  unfold D_X7_isWord_13_c
  refine dp_s1 hF (i := .iload 4) rfl (fun _ => rfl) ?_
  refine dp_s1 hF (i := .iload_n 2) rfl (fun _ => rfl) ?_
  refine dp_s2 hF (i := .if_icmp .ge 28) (a := (44, [some (.ref 68), some (.int v1), some (.int v2), some (.retAddr 25), some (.int v4)], [], M)) (b := (19, [some (.ref 68), some (.int v1), some (.int v2), some (.retAddr 25), some (.int v4)], [], M)) rfl (fun _ => rfl) ?_ ?_
  · refine dp_s1 hF (i := .iconst 1) rfl (fun _ => rfl) ?_
    exact dp_s0 hF (i := .ireturn) rfl (fun _ => rfl)
  refine dp_s1 hF (i := .aload_n 0) rfl (fun _ => rfl) ?_
  refine dp_s1 hF (i := .iload_n 1) rfl (fun _ => rfl) ?_
  refine dp_s1 hF (i := .iload 4) rfl (fun _ => rfl) ?_
  refine dp_s1 hF (i := .iadd) rfl (fun _ => rfl) ?_
  refine dp_si (mj := dp_m_X7_signAt) (i := .invokevirtual 122) rfl rfl (Or.inl rfl) rfl (fun _ => rfl) (fun r2 M1 => ?_)
  refine dp_s1 hF (i := .aload_n 3) rfl (fun _ => rfl) ?_
  refine dp_s1 hF (i := .iload 4) rfl (fun _ => rfl) ?_
  refine dp_s3 hF (i := .invokevirtual 130) rfl (fun _ => rfl) ?_
  refine dp_s2 hF (i := .if_icmp .eq 5) (a := (38, [some (.ref 68), some (.int v1), some (.int v2), some (.retAddr 25), some (.int v4)], [], M1)) (b := (36, [some (.ref 68), some (.int v1), some (.int v2), some (.retAddr 25), some (.int v4)], [], M1)) rfl (fun _ => rfl) ?_ ?_
  · refine dp_s1w (v4 + (1 : Int32)) (fun (y3 : Int32) => (41, [some (.ref 68), some (.int v1), some (.int v2), some (.retAddr 25), some (.int y3)], [], M1)) hF (i := .iinc 4 1) rfl (fun _ => rfl) (fun y3 => ?_)
    refine dp_s1 hF (i := .goto (-28)) rfl (fun _ => rfl) ?_
    exact rfl
  refine dp_s1 hF (i := .iconst 0) rfl (fun _ => rfl) ?_
  exact dp_s0 hF (i := .ireturn) rfl (fun _ => rfl)
noncomputable def D_X7_digits_0 (xs : Nat → Int32) (xl d : Nat) (v1 : Int32) (v2 : Int32) (M : dp_M) : Option dp_Res := dp_lim true xs xl (dp_den true xs xl d) dp_m_X7_digits (0, [some (.ref 68), some (.int v1), some (.int v2), none, none], [], M)
noncomputable def D_X7_digits_5 (xs : Nat → Int32) (xl d : Nat) (v1 : Int32) (v2 : Int32) (v3 : Int32) (v4 : Int32) (M : dp_M) : Option dp_Res := dp_lim true xs xl (dp_den true xs xl d) dp_m_X7_digits (5, [some (.ref 68), some (.int v1), some (.int v2), some (.int v3), some (.int v4)], [], M)
theorem D_X7_digits_0_den (xs : Nat → Int32) (xl d : Nat) (a0 : Int32) (a1 : Int32) (M : dp_M) : dp_den true xs xl (d + 1) 161 [.ref 68, .int a0, .int a1] M = D_X7_digits_0 xs xl d a0 a1 M := rfl
set_option maxRecDepth 20000 in
theorem D_X7_digits_0_eq (xs : Nat → Int32) (xl d : Nat) (v1 : Int32) (v2 : Int32) (M : dp_M) : D_X7_digits_0 xs xl d v1 v2 M = dp_w (0 : Int32) (fun y1 => D_X7_digits_5 xs xl d v1 v2 y1 v1 M) := by
  have hF := dp_den_grow (md := true) (xs := xs) (xl := xl) d
  unfold D_X7_digits_0
  refine dp_s1 hF (i := .iconst 0) rfl (fun _ => rfl) ?_
  refine dp_s1w (0 : Int32) (fun (y1 : Int32) => (2, [some (.ref 68), some (.int v1), some (.int v2), some (.int y1), none], [], M)) hF (i := .istore_n 3) rfl (fun _ => rfl) (fun y1 => ?_)
  refine dp_s1 hF (i := .iload_n 1) rfl (fun _ => rfl) ?_
  refine dp_s1 hF (i := .istore 4) rfl (fun _ => rfl) ?_
  exact rfl
set_option maxRecDepth 20000 in
theorem D_X7_digits_5_eq (xs : Nat → Int32) (xl d : Nat) (v1 : Int32) (v2 : Int32) (v3 : Int32) (v4 : Int32) (M : dp_M) : D_X7_digits_5 xs xl d v1 v2 v3 v4 M = if (v1 + v2) ≤ v4 then (some (.inl (some (.int v3)), M)) else (if (dp_I M 68 0) ≤ v4 then (some (.inl (some (.int v3)), M)) else (if v4 < 0 ∨ 400 ≤ Int32.toNatClampNeg v4 then none else (dp_w (((v3 * (10 : Int32)) + (dp_I M 70 (Int32.toNatClampNeg v4))) - (48 : Int32)) (fun y1 => dp_w (v4 + (1 : Int32)) (fun y2 => D_X7_digits_5 xs xl d v1 v2 y1 y2 M))))) := by
  have hF := dp_den_grow (md := true) (xs := xs) (xl := xl) d
  unfold D_X7_digits_5
  refine dp_s1 hF (i := .iload 4) rfl (fun _ => rfl) ?_
  refine dp_s1 hF (i := .iload_n 1) rfl (fun _ => rfl) ?_
  refine dp_s1 hF (i := .iload_n 2) rfl (fun _ => rfl) ?_
  refine dp_s1 hF (i := .iadd) rfl (fun _ => rfl) ?_
  refine dp_s2 hF (i := .if_icmp .ge 34) (a := (44, [some (.ref 68), some (.int v1), some (.int v2), some (.int v3), some (.int v4)], [], M)) (b := (13, [some (.ref 68), some (.int v1), some (.int v2), some (.int v3), some (.int v4)], [], M)) rfl (fun _ => rfl) ?_ ?_
  · refine dp_s1 hF (i := .iload_n 3) rfl (fun _ => rfl) ?_
    exact dp_s0 hF (i := .ireturn) rfl (fun _ => rfl)
  refine dp_s1 hF (i := .iload 4) rfl (fun _ => rfl) ?_
  refine dp_s1 hF (i := .aload_n 0) rfl (fun _ => rfl) ?_
  refine dp_s1 hF (i := .getfield 37) rfl (fun _ => rfl) ?_
  refine dp_s2 hF (i := .if_icmp .ge 25) (a := (44, [some (.ref 68), some (.int v1), some (.int v2), some (.int v3), some (.int v4)], [], M)) (b := (22, [some (.ref 68), some (.int v1), some (.int v2), some (.int v3), some (.int v4)], [], M)) rfl (fun _ => rfl) ?_ ?_
  · refine dp_s1 hF (i := .iload_n 3) rfl (fun _ => rfl) ?_
    exact dp_s0 hF (i := .ireturn) rfl (fun _ => rfl)
  refine dp_s1 hF (i := .iload_n 3) rfl (fun _ => rfl) ?_
  refine dp_s1 hF (i := .bipush 10) rfl (fun _ => rfl) ?_
  refine dp_s1 hF (i := .imul) rfl (fun _ => rfl) ?_
  refine dp_s1 hF (i := .aload_n 0) rfl (fun _ => rfl) ?_
  refine dp_s1 hF (i := .getfield 19) rfl (fun _ => rfl) ?_
  refine dp_s1 hF (i := .iload 4) rfl (fun _ => rfl) ?_
  refine dp_s3 hF (i := .caload) rfl (fun _ => rfl) ?_
  refine dp_s1 hF (i := .iadd) rfl (fun _ => rfl) ?_
  refine dp_s1 hF (i := .bipush 48) rfl (fun _ => rfl) ?_
  refine dp_s1 hF (i := .isub) rfl (fun _ => rfl) ?_
  refine dp_s1w (((v3 * (10 : Int32)) + (dp_I M 70 (Int32.toNatClampNeg v4))) - (48 : Int32)) (fun (y1 : Int32) => (38, [some (.ref 68), some (.int v1), some (.int v2), some (.int y1), some (.int v4)], [], M)) hF (i := .istore_n 3) rfl (fun _ => rfl) (fun y1 => ?_)
  refine dp_s1w (v4 + (1 : Int32)) (fun (y2 : Int32) => (41, [some (.ref 68), some (.int v1), some (.int v2), some (.int y1), some (.int y2)], [], M)) hF (i := .iinc 4 1) rfl (fun _ => rfl) (fun y2 => ?_)
  refine dp_s1 hF (i := .goto (-36)) rfl (fun _ => rfl) ?_
  exact rfl
noncomputable def D_X7_readNumberPart_0 (xs : Nat → Int32) (xl d : Nat)  (M : dp_M) : Option dp_Res := dp_lim true xs xl (dp_den true xs xl d) dp_m_X7_readNumberPart (0, [some (.ref 68), none, none], [], M)
noncomputable def D_X7_readNumberPart_23 (xs : Nat → Int32) (xl d : Nat) (v1 : Int32) (vs0 : Int32) (M : dp_M) : Option dp_Res := dp_lim true xs xl (dp_den true xs xl d) dp_m_X7_readNumberPart (23, [some (.ref 68), some (.int v1), none], [.int vs0], M)
theorem D_X7_readNumberPart_0_den (xs : Nat → Int32) (xl d : Nat)  (M : dp_M) : dp_den true xs xl (d + 1) 162 [.ref 68] M = D_X7_readNumberPart_0 xs xl d  M := rfl
set_option maxRecDepth 20000 in
theorem D_X7_readNumberPart_0_eq (xs : Nat → Int32) (xl d : Nat)  (M : dp_M) : D_X7_readNumberPart_0 xs xl d  M = dp_bi (dp_den true xs xl d 150 [.ref 68, .int (1 : Int32), .int (dp_I M 68 9)] M) (fun r2 M1 => if r2 = (-1 : Int32) then (D_X7_readNumberPart_23 xs xl d r2 (-1 : Int32) M1) else (dp_bi (dp_den true xs xl d 164 [.ref 68] M1) (fun r4 M3 => D_X7_readNumberPart_23 xs xl d r2 r4 M3))) := by
  have hF := dp_den_grow (md := true) (xs := xs) (xl := xl) d
  unfold D_X7_readNumberPart_0
  refine dp_s1 hF (i := .aload_n 0) rfl (fun _ => rfl) ?_
  refine dp_s1 hF (i := .iconst 1) rfl (fun _ => rfl) ?_
  refine dp_s1 hF (i := .aload_n 0) rfl (fun _ => rfl) ?_
  refine dp_s1 hF (i := .getfield 46) rfl (fun _ => rfl) ?_
  refine dp_si (mj := dp_m_X7_addNode) (i := .invokevirtual 80) rfl rfl (Or.inl rfl) rfl (fun _ => rfl) (fun r2 M1 => ?_)
  refine dp_s1 hF (i := .istore_n 1) rfl (fun _ => rfl) ?_
  refine dp_s1 hF (i := .iload_n 1) rfl (fun _ => rfl) ?_
  refine dp_s1 hF (i := .iconst (-1)) rfl (fun _ => rfl) ?_
  refine dp_s2 hF (i := .if_icmp .ne 7) (a := (15, [some (.ref 68), some (.int r2), none], [], M1)) (b := (19, [some (.ref 68), some (.int r2), none], [], M1)) rfl (fun _ => rfl) ?_ ?_
  · refine dp_s1 hF (i := .iconst (-1)) rfl (fun _ => rfl) ?_
    refine dp_s1 hF (i := .goto 7) rfl (fun _ => rfl) ?_
    exact rfl
  refine dp_s1 hF (i := .aload_n 0) rfl (fun _ => rfl) ?_
  refine dp_si (mj := dp_m_X7_readNumber) (i := .invokevirtual 134) rfl rfl (Or.inl rfl) rfl (fun _ => rfl) (fun r4 M3 => ?_)
  exact rfl
set_option maxRecDepth 20000 in
theorem D_X7_readNumberPart_23_eq (xs : Nat → Int32) (xl d : Nat) (v1 : Int32) (vs0 : Int32) (M : dp_M) : D_X7_readNumberPart_23 xs xl d v1 vs0 M = if vs0 = (-1 : Int32) then (some (.inl (some (.int (-1 : Int32))), M)) else (dp_bv (dp_den true xs xl d 151 [.ref 68, .int v1, .int (1 : Int32), .int vs0] M) (fun M1 => dp_bi (dp_den true xs xl d 148 [.ref 68] M1) (fun r3 M2 => if r3 = (47 : Int32) then (dp_w (dp_setI M2 68 9 ((dp_I M2 68 9) + (1 : Int32))) (fun M4 => dp_bi (dp_den true xs xl d 163 [.ref 68, .int v1] M4) (fun r6 M5 => some (.inl (some (.int r6)), M5)))) else (dp_bi (dp_den true xs xl d 149 [.ref 68, .int (37 : Int32)] M2) (fun r8 M7 => if r8 = 0 then (some (.inl (some (.int (-1 : Int32))), M7)) else (some (.inl (some (.int v1)), M7))))))) := by
  have hF := dp_den_grow (md := true) (xs := xs) (xl := xl) d
  unfold D_X7_readNumberPart_23
  refine dp_s1 hF (i := .istore_n 2) rfl (fun _ => rfl) ?_
  refine dp_s1 hF (i := .iload_n 2) rfl (fun _ => rfl) ?_
  refine dp_s1 hF (i := .iconst (-1)) rfl (fun _ => rfl) ?_
  refine dp_s2 hF (i := .if_icmp .ne 5) (a := (29, [some (.ref 68), some (.int v1), some (.int vs0)], [], M)) (b := (31, [some (.ref 68), some (.int v1), some (.int vs0)], [], M)) rfl (fun _ => rfl) ?_ ?_
  · refine dp_s1 hF (i := .iconst (-1)) rfl (fun _ => rfl) ?_
    exact dp_s0 hF (i := .ireturn) rfl (fun _ => rfl)
  refine dp_s1 hF (i := .aload_n 0) rfl (fun _ => rfl) ?_
  refine dp_s1 hF (i := .iload_n 1) rfl (fun _ => rfl) ?_
  refine dp_s1 hF (i := .iconst 1) rfl (fun _ => rfl) ?_
  refine dp_s1 hF (i := .iload_n 2) rfl (fun _ => rfl) ?_
  refine dp_sv (mj := dp_m_X7_setFact) (i := .invokevirtual 73) rfl rfl rfl rfl (fun _ => rfl) (fun M1 => ?_)
  refine dp_s1 hF (i := .aload_n 0) rfl (fun _ => rfl) ?_
  refine dp_si (mj := dp_m_X7_next) (i := .invokevirtual 62) rfl rfl (Or.inl rfl) rfl (fun _ => rfl) (fun r3 M2 => ?_)
  refine dp_s1 hF (i := .bipush 47) rfl (fun _ => rfl) ?_
  refine dp_s2 hF (i := .if_icmp .ne 19) (a := (47, [some (.ref 68), some (.int v1), some (.int vs0)], [], M2)) (b := (63, [some (.ref 68), some (.int v1), some (.int vs0)], [], M2)) rfl (fun _ => rfl) ?_ ?_
  · refine dp_s1 hF (i := .aload_n 0) rfl (fun _ => rfl) ?_
    refine dp_s1 hF (i := .dup) rfl (fun _ => rfl) ?_
    refine dp_s1 hF (i := .getfield 46) rfl (fun _ => rfl) ?_
    refine dp_s1 hF (i := .iconst 1) rfl (fun _ => rfl) ?_
    refine dp_s1 hF (i := .iadd) rfl (fun _ => rfl) ?_
    refine dp_s1w (dp_setI M2 68 9 ((dp_I M2 68 9) + (1 : Int32))) (fun (M4 : dp_M) => (57, [some (.ref 68), some (.int v1), some (.int vs0)], [], M4)) hF (i := .putfield 46) rfl (fun _ => rfl) (fun M4 => ?_)
    refine dp_s1 hF (i := .aload_n 0) rfl (fun _ => rfl) ?_
    refine dp_s1 hF (i := .iload_n 1) rfl (fun _ => rfl) ?_
    refine dp_si (mj := dp_m_X7_readUnit) (i := .invokevirtual 137) rfl rfl (Or.inl rfl) rfl (fun _ => rfl) (fun r6 M5 => ?_)
    exact dp_s0 hF (i := .ireturn) rfl (fun _ => rfl)
  refine dp_s1 hF (i := .aload_n 0) rfl (fun _ => rfl) ?_
  refine dp_s1 hF (i := .bipush 37) rfl (fun _ => rfl) ?_
  refine dp_si (mj := dp_m_X7_pass) (i := .invokevirtual 118) rfl rfl (Or.inr rfl) rfl (fun _ => rfl) (fun r8 M7 => ?_)
  refine dp_s2 hF (i := .ifCond .eq 7) (a := (76, [some (.ref 68), some (.int v1), some (.int vs0)], [], M7)) (b := (72, [some (.ref 68), some (.int v1), some (.int vs0)], [], M7)) rfl (fun _ => rfl) ?_ ?_
  · refine dp_s1 hF (i := .iconst (-1)) rfl (fun _ => rfl) ?_
    exact dp_s0 hF (i := .ireturn) rfl (fun _ => rfl)
  refine dp_s1 hF (i := .iload_n 1) rfl (fun _ => rfl) ?_
  refine dp_s1 hF (i := .goto 4) rfl (fun _ => rfl) ?_
  exact dp_s0 hF (i := .ireturn) rfl (fun _ => rfl)
noncomputable def D_X7_readUnit_0 (xs : Nat → Int32) (xl d : Nat) (v1 : Int32) (M : dp_M) : Option dp_Res := dp_lim true xs xl (dp_den true xs xl d) dp_m_X7_readUnit (0, [some (.ref 68), some (.int v1), none], [], M)
theorem D_X7_readUnit_0_den (xs : Nat → Int32) (xl d : Nat) (a0 : Int32) (M : dp_M) : dp_den true xs xl (d + 1) 163 [.ref 68, .int a0] M = D_X7_readUnit_0 xs xl d a0 M := rfl
set_option maxRecDepth 20000 in
theorem D_X7_readUnit_0_eq (xs : Nat → Int32) (xl d : Nat) (v1 : Int32) (M : dp_M) : D_X7_readUnit_0 xs xl d v1 M = dp_bi (dp_den true xs xl d 148 [.ref 68] M) (fun r2 M1 => if r2 < (65 : Int32) then (dp_bi (dp_den true xs xl d 146 [.ref 68, .int (dp_I M1 68 9)] M1) (fun r4 M3 => some (.inl (some (.int r4)), M3))) else (if r2 ≤ (72 : Int32) then (dp_w (dp_setI M1 68 9 ((dp_I M1 68 9) + (1 : Int32))) (fun M5 => dp_bv (dp_den true xs xl d 151 [.ref 68, .int v1, .int (0 : Int32), .int (2 : Int32)] M5) (fun M6 => dp_bv (dp_den true xs xl d 151 [.ref 68, .int v1, .int (2 : Int32), .int (r2 - (65 : Int32))] M6) (fun M7 => dp_w (dp_setI M7 68 12 ((dp_I M7 68 12) ||| ((1 : Int32) <<< ((r2 - (65 : Int32)) &&& 31)))) (fun M8 => some (.inl (some (.int v1)), M8)))))) else (dp_bi (dp_den true xs xl d 146 [.ref 68, .int (dp_I M1 68 9)] M1) (fun r10 M9 => some (.inl (some (.int r10)), M9))))) := by
  have hF := dp_den_grow (md := true) (xs := xs) (xl := xl) d
  unfold D_X7_readUnit_0
  refine dp_s1 hF (i := .aload_n 0) rfl (fun _ => rfl) ?_
  refine dp_si (mj := dp_m_X7_next) (i := .invokevirtual 62) rfl rfl (Or.inl rfl) rfl (fun _ => rfl) (fun r2 M1 => ?_)
  refine dp_s1 hF (i := .istore_n 2) rfl (fun _ => rfl) ?_
  refine dp_s1 hF (i := .iload_n 2) rfl (fun _ => rfl) ?_
  refine dp_s1 hF (i := .bipush 65) rfl (fun _ => rfl) ?_
  refine dp_s2 hF (i := .if_icmp .lt 9) (a := (17, [some (.ref 68), some (.int v1), some (.int r2)], [], M1)) (b := (11, [some (.ref 68), some (.int v1), some (.int r2)], [], M1)) rfl (fun _ => rfl) ?_ ?_
  · refine dp_s1 hF (i := .aload_n 0) rfl (fun _ => rfl) ?_
    refine dp_s1 hF (i := .aload_n 0) rfl (fun _ => rfl) ?_
    refine dp_s1 hF (i := .getfield 46) rfl (fun _ => rfl) ?_
    refine dp_si (mj := dp_m_X7_refuse) (i := .invokevirtual 66) rfl rfl (Or.inl rfl) rfl (fun _ => rfl) (fun r4 M3 => ?_)
    exact dp_s0 hF (i := .ireturn) rfl (fun _ => rfl)
  refine dp_s1 hF (i := .iload_n 2) rfl (fun _ => rfl) ?_
  refine dp_s1 hF (i := .bipush 72) rfl (fun _ => rfl) ?_
  refine dp_s2 hF (i := .if_icmp .le 12) (a := (26, [some (.ref 68), some (.int v1), some (.int r2)], [], M1)) (b := (17, [some (.ref 68), some (.int v1), some (.int r2)], [], M1)) rfl (fun _ => rfl) ?_ ?_
  · refine dp_s1 hF (i := .aload_n 0) rfl (fun _ => rfl) ?_
    refine dp_s1 hF (i := .dup) rfl (fun _ => rfl) ?_
    refine dp_s1 hF (i := .getfield 46) rfl (fun _ => rfl) ?_
    refine dp_s1 hF (i := .iconst 1) rfl (fun _ => rfl) ?_
    refine dp_s1 hF (i := .iadd) rfl (fun _ => rfl) ?_
    refine dp_s1w (dp_setI M1 68 9 ((dp_I M1 68 9) + (1 : Int32))) (fun (M5 : dp_M) => (36, [some (.ref 68), some (.int v1), some (.int r2)], [], M5)) hF (i := .putfield 46) rfl (fun _ => rfl) (fun M5 => ?_)
    refine dp_s1 hF (i := .aload_n 0) rfl (fun _ => rfl) ?_
    refine dp_s1 hF (i := .iload_n 1) rfl (fun _ => rfl) ?_
    refine dp_s1 hF (i := .iconst 0) rfl (fun _ => rfl) ?_
    refine dp_s1 hF (i := .iconst 2) rfl (fun _ => rfl) ?_
    refine dp_sv (mj := dp_m_X7_setFact) (i := .invokevirtual 73) rfl rfl rfl rfl (fun _ => rfl) (fun M6 => ?_)
    refine dp_s1 hF (i := .aload_n 0) rfl (fun _ => rfl) ?_
    refine dp_s1 hF (i := .iload_n 1) rfl (fun _ => rfl) ?_
    refine dp_s1 hF (i := .iconst 2) rfl (fun _ => rfl) ?_
    refine dp_s1 hF (i := .iload_n 2) rfl (fun _ => rfl) ?_
    refine dp_s1 hF (i := .bipush 65) rfl (fun _ => rfl) ?_
    refine dp_s1 hF (i := .isub) rfl (fun _ => rfl) ?_
    refine dp_sv (mj := dp_m_X7_setFact) (i := .invokevirtual 73) rfl rfl rfl rfl (fun _ => rfl) (fun M7 => ?_)
    refine dp_s1 hF (i := .aload_n 0) rfl (fun _ => rfl) ?_
    refine dp_s1 hF (i := .dup) rfl (fun _ => rfl) ?_
    refine dp_s1 hF (i := .getfield 55) rfl (fun _ => rfl) ?_
    refine dp_s1 hF (i := .iconst 1) rfl (fun _ => rfl) ?_
    refine dp_s1 hF (i := .iload_n 2) rfl (fun _ => rfl) ?_
    refine dp_s1 hF (i := .bipush 65) rfl (fun _ => rfl) ?_
    refine dp_s1 hF (i := .isub) rfl (fun _ => rfl) ?_
    refine dp_s1 hF (i := .ishl) rfl (fun _ => rfl) ?_
    refine dp_s1 hF (i := .ior) rfl (fun _ => rfl) ?_
    refine dp_s1w (dp_setI M7 68 12 ((dp_I M7 68 12) ||| ((1 : Int32) <<< ((r2 - (65 : Int32)) &&& 31)))) (fun (M8 : dp_M) => (68, [some (.ref 68), some (.int v1), some (.int r2)], [], M8)) hF (i := .putfield 55) rfl (fun _ => rfl) (fun M8 => ?_)
    refine dp_s1 hF (i := .iload_n 1) rfl (fun _ => rfl) ?_
    exact dp_s0 hF (i := .ireturn) rfl (fun _ => rfl)
  refine dp_s1 hF (i := .aload_n 0) rfl (fun _ => rfl) ?_
  refine dp_s1 hF (i := .aload_n 0) rfl (fun _ => rfl) ?_
  refine dp_s1 hF (i := .getfield 46) rfl (fun _ => rfl) ?_
  refine dp_si (mj := dp_m_X7_refuse) (i := .invokevirtual 66) rfl rfl (Or.inl rfl) rfl (fun _ => rfl) (fun r10 M9 => ?_)
  exact dp_s0 hF (i := .ireturn) rfl (fun _ => rfl)
noncomputable def D_X7_readNumber_0 (xs : Nat → Int32) (xl d : Nat)  (M : dp_M) : Option dp_Res := dp_lim true xs xl (dp_den true xs xl d) dp_m_X7_readNumber (0, [some (.ref 68), none, none, none, none, none, none], [], M)
noncomputable def D_X7_readNumber_108 (xs : Nat → Int32) (xl d : Nat) (v1 : Int32) (v2 : Int32) (v3 : Int32) (v4 : Int32) (v5 : Int32) (v6 : Int32) (M : dp_M) : Option dp_Res := dp_lim true xs xl (dp_den true xs xl d) dp_m_X7_readNumber (108, [some (.ref 68), some (.int v1), some (.int v2), some (.int v3), some (.int v4), some (.int v5), some (.int v6)], [], M)
theorem D_X7_readNumber_0_den (xs : Nat → Int32) (xl d : Nat)  (M : dp_M) : dp_den true xs xl (d + 1) 164 [.ref 68] M = D_X7_readNumber_0 xs xl d  M := rfl
set_option maxRecDepth 20000 in
theorem D_X7_readNumber_0_eq (xs : Nat → Int32) (xl d : Nat)  (M : dp_M) : D_X7_readNumber_0 xs xl d  M = dp_w (dp_I M 68 9) (fun y1 => dp_bi (dp_den true xs xl d 158 [.ref 68, .int y1] M) (fun r3 M2 => if r3 < (1 : Int32) then (dp_bi (dp_den true xs xl d 146 [.ref 68, .int y1] M2) (fun r5 M4 => some (.inl (some (.int r5)), M4))) else (if r3 ≤ (5 : Int32) then (dp_bi (dp_den true xs xl d 161 [.ref 68, .int y1, .int r3] M2) (fun r7 M6 => dp_w ((1000 : Int32) * r7) (fun y8 => dp_w (dp_setI M6 68 9 (y1 + r3)) (fun M9 => dp_bi (dp_den true xs xl d 147 [.ref 68, .int (dp_I M9 68 9)] M9) (fun r11 M10 => if r11 = (46 : Int32) then (dp_bi (dp_den true xs xl d 158 [.ref 68, .int ((dp_I M10 68 9) + (1 : Int32))] M10) (fun r13 M12 => if r13 < (1 : Int32) then (dp_bi (dp_den true xs xl d 146 [.ref 68, .int y1] M12) (fun r15 M14 => some (.inl (some (.int r15)), M14))) else (if r13 ≤ (3 : Int32) then (dp_bi (dp_den true xs xl d 161 [.ref 68, .int ((dp_I M12 68 9) + (1 : Int32)), .int r13] M12) (fun r17 M16 => D_X7_readNumber_108 xs xl d y1 r3 y8 r13 r17 r13 M16)) else (dp_bi (dp_den true xs xl d 146 [.ref 68, .int y1] M12) (fun r19 M18 => some (.inl (some (.int r19)), M18)))))) else (some (.inl (some (.int y8)), M10))))))) else (dp_bi (dp_den true xs xl d 146 [.ref 68, .int y1] M2) (fun r21 M20 => some (.inl (some (.int r21)), M20)))))) := by
  have hF := dp_den_grow (md := true) (xs := xs) (xl := xl) d
  unfold D_X7_readNumber_0
  refine dp_s1 hF (i := .aload_n 0) rfl (fun _ => rfl) ?_
  refine dp_s1 hF (i := .getfield 46) rfl (fun _ => rfl) ?_
  refine dp_s1w (dp_I M 68 9) (fun (y1 : Int32) => (5, [some (.ref 68), some (.int y1), none, none, none, none, none], [], M)) hF (i := .istore_n 1) rfl (fun _ => rfl) (fun y1 => ?_)
  refine dp_s1 hF (i := .aload_n 0) rfl (fun _ => rfl) ?_
  refine dp_s1 hF (i := .iload_n 1) rfl (fun _ => rfl) ?_
  refine dp_si (mj := dp_m_X7_runOfDigits) (i := .invokevirtual 140) rfl rfl (Or.inl rfl) rfl (fun _ => rfl) (fun r3 M2 => ?_)
  refine dp_s1 hF (i := .istore_n 2) rfl (fun _ => rfl) ?_
  refine dp_s1 hF (i := .iload_n 2) rfl (fun _ => rfl) ?_
  refine dp_s1 hF (i := .iconst 1) rfl (fun _ => rfl) ?_
  refine dp_s2 hF (i := .if_icmp .lt 8) (a := (21, [some (.ref 68), some (.int y1), some (.int r3), none, none, none, none], [], M2)) (b := (16, [some (.ref 68), some (.int y1), some (.int r3), none, none, none, none], [], M2)) rfl (fun _ => rfl) ?_ ?_
  · refine dp_s1 hF (i := .aload_n 0) rfl (fun _ => rfl) ?_
    refine dp_s1 hF (i := .iload_n 1) rfl (fun _ => rfl) ?_
    refine dp_si (mj := dp_m_X7_refuse) (i := .invokevirtual 66) rfl rfl (Or.inl rfl) rfl (fun _ => rfl) (fun r5 M4 => ?_)
    exact dp_s0 hF (i := .ireturn) rfl (fun _ => rfl)
  refine dp_s1 hF (i := .iload_n 2) rfl (fun _ => rfl) ?_
  refine dp_s1 hF (i := .iconst 5) rfl (fun _ => rfl) ?_
  refine dp_s2 hF (i := .if_icmp .le 9) (a := (27, [some (.ref 68), some (.int y1), some (.int r3), none, none, none, none], [], M2)) (b := (21, [some (.ref 68), some (.int y1), some (.int r3), none, none, none, none], [], M2)) rfl (fun _ => rfl) ?_ ?_
  · refine dp_s1 hF (i := .sipush 1000) rfl (fun _ => rfl) ?_
    refine dp_s1 hF (i := .aload_n 0) rfl (fun _ => rfl) ?_
    refine dp_s1 hF (i := .iload_n 1) rfl (fun _ => rfl) ?_
    refine dp_s1 hF (i := .iload_n 2) rfl (fun _ => rfl) ?_
    refine dp_si (mj := dp_m_X7_digits) (i := .invokevirtual 143) rfl rfl (Or.inl rfl) rfl (fun _ => rfl) (fun r7 M6 => ?_)
    refine dp_s1 hF (i := .imul) rfl (fun _ => rfl) ?_
    refine dp_s1w ((1000 : Int32) * r7) (fun (y8 : Int32) => (38, [some (.ref 68), some (.int y1), some (.int r3), some (.int y8), none, none, none], [], M6)) hF (i := .istore_n 3) rfl (fun _ => rfl) (fun y8 => ?_)
    refine dp_s1 hF (i := .aload_n 0) rfl (fun _ => rfl) ?_
    refine dp_s1 hF (i := .iload_n 1) rfl (fun _ => rfl) ?_
    refine dp_s1 hF (i := .iload_n 2) rfl (fun _ => rfl) ?_
    refine dp_s1 hF (i := .iadd) rfl (fun _ => rfl) ?_
    refine dp_s1w (dp_setI M6 68 9 (y1 + r3)) (fun (M9 : dp_M) => (45, [some (.ref 68), some (.int y1), some (.int r3), some (.int y8), none, none, none], [], M9)) hF (i := .putfield 46) rfl (fun _ => rfl) (fun M9 => ?_)
    refine dp_s1 hF (i := .aload_n 0) rfl (fun _ => rfl) ?_
    refine dp_s1 hF (i := .aload_n 0) rfl (fun _ => rfl) ?_
    refine dp_s1 hF (i := .getfield 46) rfl (fun _ => rfl) ?_
    refine dp_si (mj := dp_m_X7_signAt) (i := .invokevirtual 122) rfl rfl (Or.inl rfl) rfl (fun _ => rfl) (fun r11 M10 => ?_)
    refine dp_s1 hF (i := .bipush 46) rfl (fun _ => rfl) ?_
    refine dp_s2 hF (i := .if_icmp .eq 5) (a := (60, [some (.ref 68), some (.int y1), some (.int r3), some (.int y8), none, none, none], [], M10)) (b := (58, [some (.ref 68), some (.int y1), some (.int r3), some (.int y8), none, none, none], [], M10)) rfl (fun _ => rfl) ?_ ?_
    · refine dp_s1 hF (i := .aload_n 0) rfl (fun _ => rfl) ?_
      refine dp_s1 hF (i := .aload_n 0) rfl (fun _ => rfl) ?_
      refine dp_s1 hF (i := .getfield 46) rfl (fun _ => rfl) ?_
      refine dp_s1 hF (i := .iconst 1) rfl (fun _ => rfl) ?_
      refine dp_s1 hF (i := .iadd) rfl (fun _ => rfl) ?_
      refine dp_si (mj := dp_m_X7_runOfDigits) (i := .invokevirtual 140) rfl rfl (Or.inl rfl) rfl (fun _ => rfl) (fun r13 M12 => ?_)
      refine dp_s1 hF (i := .istore 4) rfl (fun _ => rfl) ?_
      refine dp_s1 hF (i := .iload 4) rfl (fun _ => rfl) ?_
      refine dp_s1 hF (i := .iconst 1) rfl (fun _ => rfl) ?_
      refine dp_s2 hF (i := .if_icmp .lt 9) (a := (84, [some (.ref 68), some (.int y1), some (.int r3), some (.int y8), some (.int r13), none, none], [], M12)) (b := (78, [some (.ref 68), some (.int y1), some (.int r3), some (.int y8), some (.int r13), none, none], [], M12)) rfl (fun _ => rfl) ?_ ?_
      · refine dp_s1 hF (i := .aload_n 0) rfl (fun _ => rfl) ?_
        refine dp_s1 hF (i := .iload_n 1) rfl (fun _ => rfl) ?_
        refine dp_si (mj := dp_m_X7_refuse) (i := .invokevirtual 66) rfl rfl (Or.inl rfl) rfl (fun _ => rfl) (fun r15 M14 => ?_)
        exact dp_s0 hF (i := .ireturn) rfl (fun _ => rfl)
      refine dp_s1 hF (i := .iload 4) rfl (fun _ => rfl) ?_
      refine dp_s1 hF (i := .iconst 3) rfl (fun _ => rfl) ?_
      refine dp_s2 hF (i := .if_icmp .le 9) (a := (90, [some (.ref 68), some (.int y1), some (.int r3), some (.int y8), some (.int r13), none, none], [], M12)) (b := (84, [some (.ref 68), some (.int y1), some (.int r3), some (.int y8), some (.int r13), none, none], [], M12)) rfl (fun _ => rfl) ?_ ?_
      · refine dp_s1 hF (i := .aload_n 0) rfl (fun _ => rfl) ?_
        refine dp_s1 hF (i := .aload_n 0) rfl (fun _ => rfl) ?_
        refine dp_s1 hF (i := .getfield 46) rfl (fun _ => rfl) ?_
        refine dp_s1 hF (i := .iconst 1) rfl (fun _ => rfl) ?_
        refine dp_s1 hF (i := .iadd) rfl (fun _ => rfl) ?_
        refine dp_s1 hF (i := .iload 4) rfl (fun _ => rfl) ?_
        refine dp_si (mj := dp_m_X7_digits) (i := .invokevirtual 143) rfl rfl (Or.inl rfl) rfl (fun _ => rfl) (fun r17 M16 => ?_)
        refine dp_s1 hF (i := .istore 5) rfl (fun _ => rfl) ?_
        refine dp_s1 hF (i := .iload 4) rfl (fun _ => rfl) ?_
        refine dp_s1 hF (i := .istore 6) rfl (fun _ => rfl) ?_
        exact rfl
      refine dp_s1 hF (i := .aload_n 0) rfl (fun _ => rfl) ?_
      refine dp_s1 hF (i := .iload_n 1) rfl (fun _ => rfl) ?_
      refine dp_si (mj := dp_m_X7_refuse) (i := .invokevirtual 66) rfl rfl (Or.inl rfl) rfl (fun _ => rfl) (fun r19 M18 => ?_)
      exact dp_s0 hF (i := .ireturn) rfl (fun _ => rfl)
    refine dp_s1 hF (i := .iload_n 3) rfl (fun _ => rfl) ?_
    exact dp_s0 hF (i := .ireturn) rfl (fun _ => rfl)
  refine dp_s1 hF (i := .aload_n 0) rfl (fun _ => rfl) ?_
  refine dp_s1 hF (i := .iload_n 1) rfl (fun _ => rfl) ?_
  refine dp_si (mj := dp_m_X7_refuse) (i := .invokevirtual 66) rfl rfl (Or.inl rfl) rfl (fun _ => rfl) (fun r21 M20 => ?_)
  exact dp_s0 hF (i := .ireturn) rfl (fun _ => rfl)
set_option maxRecDepth 20000 in
theorem D_X7_readNumber_108_eq (xs : Nat → Int32) (xl d : Nat) (v1 : Int32) (v2 : Int32) (v3 : Int32) (v4 : Int32) (v5 : Int32) (v6 : Int32) (M : dp_M) : D_X7_readNumber_108 xs xl d v1 v2 v3 v4 v5 v6 M = if (3 : Int32) ≤ v6 then (dp_w (dp_setI M 68 9 ((dp_I M 68 9) + ((1 : Int32) + v4))) (fun M1 => some (.inl (some (.int (v3 + v5))), M1))) else (dp_w (v5 * (10 : Int32)) (fun y2 => dp_w (v6 + (1 : Int32)) (fun y3 => D_X7_readNumber_108 xs xl d v1 v2 v3 v4 y2 y3 M))) := by
  have hF := dp_den_grow (md := true) (xs := xs) (xl := xl) d
  unfold D_X7_readNumber_108
  refine dp_s1 hF (i := .iload 6) rfl (fun _ => rfl) ?_
  refine dp_s1 hF (i := .iconst 3) rfl (fun _ => rfl) ?_
  refine dp_s2 hF (i := .if_icmp .ge 16) (a := (127, [some (.ref 68), some (.int v1), some (.int v2), some (.int v3), some (.int v4), some (.int v5), some (.int v6)], [], M)) (b := (114, [some (.ref 68), some (.int v1), some (.int v2), some (.int v3), some (.int v4), some (.int v5), some (.int v6)], [], M)) rfl (fun _ => rfl) ?_ ?_
  · refine dp_s1 hF (i := .aload_n 0) rfl (fun _ => rfl) ?_
    refine dp_s1 hF (i := .dup) rfl (fun _ => rfl) ?_
    refine dp_s1 hF (i := .getfield 46) rfl (fun _ => rfl) ?_
    refine dp_s1 hF (i := .iconst 1) rfl (fun _ => rfl) ?_
    refine dp_s1 hF (i := .iload 4) rfl (fun _ => rfl) ?_
    refine dp_s1 hF (i := .iadd) rfl (fun _ => rfl) ?_
    refine dp_s1 hF (i := .iadd) rfl (fun _ => rfl) ?_
    refine dp_s1w (dp_setI M 68 9 ((dp_I M 68 9) + ((1 : Int32) + v4))) (fun (M1 : dp_M) => (140, [some (.ref 68), some (.int v1), some (.int v2), some (.int v3), some (.int v4), some (.int v5), some (.int v6)], [], M1)) hF (i := .putfield 46) rfl (fun _ => rfl) (fun M1 => ?_)
    refine dp_s1 hF (i := .iload_n 3) rfl (fun _ => rfl) ?_
    refine dp_s1 hF (i := .iload 5) rfl (fun _ => rfl) ?_
    refine dp_s1 hF (i := .iadd) rfl (fun _ => rfl) ?_
    exact dp_s0 hF (i := .ireturn) rfl (fun _ => rfl)
  refine dp_s1 hF (i := .iload 5) rfl (fun _ => rfl) ?_
  refine dp_s1 hF (i := .bipush 10) rfl (fun _ => rfl) ?_
  refine dp_s1 hF (i := .imul) rfl (fun _ => rfl) ?_
  refine dp_s1w (v5 * (10 : Int32)) (fun (y2 : Int32) => (121, [some (.ref 68), some (.int v1), some (.int v2), some (.int v3), some (.int v4), some (.int y2), some (.int v6)], [], M)) hF (i := .istore 5) rfl (fun _ => rfl) (fun y2 => ?_)
  refine dp_s1w (v6 + (1 : Int32)) (fun (y3 : Int32) => (124, [some (.ref 68), some (.int v1), some (.int v2), some (.int v3), some (.int v4), some (.int y2), some (.int y3)], [], M)) hF (i := .iinc 6 1) rfl (fun _ => rfl) (fun y3 => ?_)
  refine dp_s1 hF (i := .goto (-16)) rfl (fun _ => rfl) ?_
  exact rfl
noncomputable def D_X7_readWhole_0 (xs : Nat → Int32) (xl d : Nat)  (M : dp_M) : Option dp_Res := dp_lim true xs xl (dp_den true xs xl d) dp_m_X7_readWhole (0, [some (.ref 68), none, none], [], M)
theorem D_X7_readWhole_0_den (xs : Nat → Int32) (xl d : Nat)  (M : dp_M) : dp_den true xs xl (d + 1) 165 [.ref 68] M = D_X7_readWhole_0 xs xl d  M := rfl
set_option maxRecDepth 20000 in
theorem D_X7_readWhole_0_eq (xs : Nat → Int32) (xl d : Nat)  (M : dp_M) : D_X7_readWhole_0 xs xl d  M = dp_bi (dp_den true xs xl d 148 [.ref 68] M) (fun r2 M1 => dp_w (dp_I M1 68 9) (fun y3 => dp_bi (dp_den true xs xl d 158 [.ref 68, .int y3] M1) (fun r5 M4 => if r5 < (1 : Int32) then (dp_bi (dp_den true xs xl d 146 [.ref 68, .int y3] M4) (fun r7 M6 => some (.inl (some (.int r7)), M6))) else (if r5 ≤ (6 : Int32) then (dp_w (dp_setI M4 68 9 (y3 + r5)) (fun M8 => dp_bi (dp_den true xs xl d 161 [.ref 68, .int y3, .int r5] M8) (fun r10 M9 => some (.inl (some (.int r10)), M9)))) else (dp_bi (dp_den true xs xl d 146 [.ref 68, .int y3] M4) (fun r12 M11 => some (.inl (some (.int r12)), M11))))))) := by
  have hF := dp_den_grow (md := true) (xs := xs) (xl := xl) d
  unfold D_X7_readWhole_0
  refine dp_s1 hF (i := .aload_n 0) rfl (fun _ => rfl) ?_
  refine dp_si (mj := dp_m_X7_next) (i := .invokevirtual 62) rfl rfl (Or.inl rfl) rfl (fun _ => rfl) (fun r2 M1 => ?_)
  refine dp_s1 hF (i := .pop) rfl (fun _ => rfl) ?_
  refine dp_s1 hF (i := .aload_n 0) rfl (fun _ => rfl) ?_
  refine dp_s1 hF (i := .getfield 46) rfl (fun _ => rfl) ?_
  refine dp_s1w (dp_I M1 68 9) (fun (y3 : Int32) => (10, [some (.ref 68), some (.int y3), none], [], M1)) hF (i := .istore_n 1) rfl (fun _ => rfl) (fun y3 => ?_)
  refine dp_s1 hF (i := .aload_n 0) rfl (fun _ => rfl) ?_
  refine dp_s1 hF (i := .iload_n 1) rfl (fun _ => rfl) ?_
  refine dp_si (mj := dp_m_X7_runOfDigits) (i := .invokevirtual 140) rfl rfl (Or.inl rfl) rfl (fun _ => rfl) (fun r5 M4 => ?_)
  refine dp_s1 hF (i := .istore_n 2) rfl (fun _ => rfl) ?_
  refine dp_s1 hF (i := .iload_n 2) rfl (fun _ => rfl) ?_
  refine dp_s1 hF (i := .iconst 1) rfl (fun _ => rfl) ?_
  refine dp_s2 hF (i := .if_icmp .lt 9) (a := (27, [some (.ref 68), some (.int y3), some (.int r5)], [], M4)) (b := (21, [some (.ref 68), some (.int y3), some (.int r5)], [], M4)) rfl (fun _ => rfl) ?_ ?_
  · refine dp_s1 hF (i := .aload_n 0) rfl (fun _ => rfl) ?_
    refine dp_s1 hF (i := .iload_n 1) rfl (fun _ => rfl) ?_
    refine dp_si (mj := dp_m_X7_refuse) (i := .invokevirtual 66) rfl rfl (Or.inl rfl) rfl (fun _ => rfl) (fun r7 M6 => ?_)
    exact dp_s0 hF (i := .ireturn) rfl (fun _ => rfl)
  refine dp_s1 hF (i := .iload_n 2) rfl (fun _ => rfl) ?_
  refine dp_s1 hF (i := .bipush 6) rfl (fun _ => rfl) ?_
  refine dp_s2 hF (i := .if_icmp .le 9) (a := (33, [some (.ref 68), some (.int y3), some (.int r5)], [], M4)) (b := (27, [some (.ref 68), some (.int y3), some (.int r5)], [], M4)) rfl (fun _ => rfl) ?_ ?_
  · refine dp_s1 hF (i := .aload_n 0) rfl (fun _ => rfl) ?_
    refine dp_s1 hF (i := .iload_n 1) rfl (fun _ => rfl) ?_
    refine dp_s1 hF (i := .iload_n 2) rfl (fun _ => rfl) ?_
    refine dp_s1 hF (i := .iadd) rfl (fun _ => rfl) ?_
    refine dp_s1w (dp_setI M4 68 9 (y3 + r5)) (fun (M8 : dp_M) => (40, [some (.ref 68), some (.int y3), some (.int r5)], [], M8)) hF (i := .putfield 46) rfl (fun _ => rfl) (fun M8 => ?_)
    refine dp_s1 hF (i := .aload_n 0) rfl (fun _ => rfl) ?_
    refine dp_s1 hF (i := .iload_n 1) rfl (fun _ => rfl) ?_
    refine dp_s1 hF (i := .iload_n 2) rfl (fun _ => rfl) ?_
    refine dp_si (mj := dp_m_X7_digits) (i := .invokevirtual 143) rfl rfl (Or.inl rfl) rfl (fun _ => rfl) (fun r10 M9 => ?_)
    exact dp_s0 hF (i := .ireturn) rfl (fun _ => rfl)
  refine dp_s1 hF (i := .aload_n 0) rfl (fun _ => rfl) ?_
  refine dp_s1 hF (i := .iload_n 1) rfl (fun _ => rfl) ?_
  refine dp_si (mj := dp_m_X7_refuse) (i := .invokevirtual 66) rfl rfl (Or.inl rfl) rfl (fun _ => rfl) (fun r12 M11 => ?_)
  exact dp_s0 hF (i := .ireturn) rfl (fun _ => rfl)
noncomputable def D_X7_readSteps_0 (xs : Nat → Int32) (xl d : Nat)  (M : dp_M) : Option dp_Res := dp_lim true xs xl (dp_den true xs xl d) dp_m_X7_readSteps (0, [some (.ref 68), none, none, none], [], M)
theorem D_X7_readSteps_0_den (xs : Nat → Int32) (xl d : Nat)  (M : dp_M) : dp_den true xs xl (d + 1) 166 [.ref 68] M = D_X7_readSteps_0 xs xl d  M := rfl
set_option maxRecDepth 20000 in
theorem D_X7_readSteps_0_eq (xs : Nat → Int32) (xl d : Nat)  (M : dp_M) : D_X7_readSteps_0 xs xl d  M = dp_bi (dp_den true xs xl d 150 [.ref 68, .int (7 : Int32), .int (dp_I M 68 9)] M) (fun r2 M1 => dp_w (dp_setI M1 68 9 ((dp_I M1 68 9) + (4 : Int32))) (fun M3 => if r2 = (-1 : Int32) then (some (.inl (some (.int (-1 : Int32))), M3)) else (dp_bi (dp_den true xs xl d 149 [.ref 68, .int (40 : Int32)] M3) (fun r5 M4 => if r5 = 0 then (some (.inl (some (.int (-1 : Int32))), M4)) else (dp_bi (dp_den true xs xl d 165 [.ref 68] M4) (fun r7 M6 => if r7 = (-1 : Int32) then (some (.inl (some (.int (-1 : Int32))), M6)) else (dp_bi (dp_den true xs xl d 149 [.ref 68, .int (58 : Int32)] M6) (fun r9 M8 => if r9 = 0 then (some (.inl (some (.int (-1 : Int32))), M8)) else (dp_bi (dp_den true xs xl d 167 [.ref 68] M8) (fun r11 M10 => if r11 = (-1 : Int32) then (some (.inl (some (.int (-1 : Int32))), M10)) else (dp_bi (dp_den true xs xl d 149 [.ref 68, .int (41 : Int32)] M10) (fun r13 M12 => if r13 = 0 then (some (.inl (some (.int (-1 : Int32))), M12)) else (dp_bv (dp_den true xs xl d 151 [.ref 68, .int r2, .int (1 : Int32), .int r7] M12) (fun M14 => dp_bv (dp_den true xs xl d 151 [.ref 68, .int r2, .int (5 : Int32), .int r11] M14) (fun M15 => dp_bv (dp_den true xs xl d 151 [.ref 68, .int r2, .int (6 : Int32), .int ((dp_I M15 68 11) - r11)] M15) (fun M16 => some (.inl (some (.int r2)), M16))))))))))))))))) := by
  have hF := dp_den_grow (md := true) (xs := xs) (xl := xl) d
  unfold D_X7_readSteps_0
  refine dp_s1 hF (i := .aload_n 0) rfl (fun _ => rfl) ?_
  refine dp_s1 hF (i := .bipush 7) rfl (fun _ => rfl) ?_
  refine dp_s1 hF (i := .aload_n 0) rfl (fun _ => rfl) ?_
  refine dp_s1 hF (i := .getfield 46) rfl (fun _ => rfl) ?_
  refine dp_si (mj := dp_m_X7_addNode) (i := .invokevirtual 80) rfl rfl (Or.inl rfl) rfl (fun _ => rfl) (fun r2 M1 => ?_)
  refine dp_s1 hF (i := .istore_n 1) rfl (fun _ => rfl) ?_
  refine dp_s1 hF (i := .aload_n 0) rfl (fun _ => rfl) ?_
  refine dp_s1 hF (i := .dup) rfl (fun _ => rfl) ?_
  refine dp_s1 hF (i := .getfield 46) rfl (fun _ => rfl) ?_
  refine dp_s1 hF (i := .iconst 4) rfl (fun _ => rfl) ?_
  refine dp_s1 hF (i := .iadd) rfl (fun _ => rfl) ?_
  refine dp_s1w (dp_setI M1 68 9 ((dp_I M1 68 9) + (4 : Int32))) (fun (M3 : dp_M) => (21, [some (.ref 68), some (.int r2), none, none], [], M3)) hF (i := .putfield 46) rfl (fun _ => rfl) (fun M3 => ?_)
  refine dp_s1 hF (i := .iload_n 1) rfl (fun _ => rfl) ?_
  refine dp_s1 hF (i := .iconst (-1)) rfl (fun _ => rfl) ?_
  refine dp_s2 hF (i := .if_icmp .eq 12) (a := (35, [some (.ref 68), some (.int r2), none, none], [], M3)) (b := (26, [some (.ref 68), some (.int r2), none, none], [], M3)) rfl (fun _ => rfl) ?_ ?_
  · refine dp_s1 hF (i := .iconst (-1)) rfl (fun _ => rfl) ?_
    exact dp_s0 hF (i := .ireturn) rfl (fun _ => rfl)
  refine dp_s1 hF (i := .aload_n 0) rfl (fun _ => rfl) ?_
  refine dp_s1 hF (i := .bipush 40) rfl (fun _ => rfl) ?_
  refine dp_si (mj := dp_m_X7_pass) (i := .invokevirtual 118) rfl rfl (Or.inr rfl) rfl (fun _ => rfl) (fun r5 M4 => ?_)
  refine dp_s2 hF (i := .ifCond .ne 5) (a := (35, [some (.ref 68), some (.int r2), none, none], [], M4)) (b := (37, [some (.ref 68), some (.int r2), none, none], [], M4)) rfl (fun _ => rfl) ?_ ?_
  · refine dp_s1 hF (i := .iconst (-1)) rfl (fun _ => rfl) ?_
    exact dp_s0 hF (i := .ireturn) rfl (fun _ => rfl)
  refine dp_s1 hF (i := .aload_n 0) rfl (fun _ => rfl) ?_
  refine dp_si (mj := dp_m_X7_readWhole) (i := .invokevirtual 146) rfl rfl (Or.inl rfl) rfl (fun _ => rfl) (fun r7 M6 => ?_)
  refine dp_s1 hF (i := .istore_n 2) rfl (fun _ => rfl) ?_
  refine dp_s1 hF (i := .iload_n 2) rfl (fun _ => rfl) ?_
  refine dp_s1 hF (i := .iconst (-1)) rfl (fun _ => rfl) ?_
  refine dp_s2 hF (i := .if_icmp .eq 12) (a := (56, [some (.ref 68), some (.int r2), some (.int r7), none], [], M6)) (b := (47, [some (.ref 68), some (.int r2), some (.int r7), none], [], M6)) rfl (fun _ => rfl) ?_ ?_
  · refine dp_s1 hF (i := .iconst (-1)) rfl (fun _ => rfl) ?_
    exact dp_s0 hF (i := .ireturn) rfl (fun _ => rfl)
  refine dp_s1 hF (i := .aload_n 0) rfl (fun _ => rfl) ?_
  refine dp_s1 hF (i := .bipush 58) rfl (fun _ => rfl) ?_
  refine dp_si (mj := dp_m_X7_pass) (i := .invokevirtual 118) rfl rfl (Or.inr rfl) rfl (fun _ => rfl) (fun r9 M8 => ?_)
  refine dp_s2 hF (i := .ifCond .ne 5) (a := (56, [some (.ref 68), some (.int r2), some (.int r7), none], [], M8)) (b := (58, [some (.ref 68), some (.int r2), some (.int r7), none], [], M8)) rfl (fun _ => rfl) ?_ ?_
  · refine dp_s1 hF (i := .iconst (-1)) rfl (fun _ => rfl) ?_
    exact dp_s0 hF (i := .ireturn) rfl (fun _ => rfl)
  refine dp_s1 hF (i := .aload_n 0) rfl (fun _ => rfl) ?_
  refine dp_si (mj := dp_m_X7_readStepRows) (i := .invokevirtual 149) rfl rfl (Or.inl rfl) rfl (fun _ => rfl) (fun r11 M10 => ?_)
  refine dp_s1 hF (i := .istore_n 3) rfl (fun _ => rfl) ?_
  refine dp_s1 hF (i := .iload_n 3) rfl (fun _ => rfl) ?_
  refine dp_s1 hF (i := .iconst (-1)) rfl (fun _ => rfl) ?_
  refine dp_s2 hF (i := .if_icmp .eq 12) (a := (77, [some (.ref 68), some (.int r2), some (.int r7), some (.int r11)], [], M10)) (b := (68, [some (.ref 68), some (.int r2), some (.int r7), some (.int r11)], [], M10)) rfl (fun _ => rfl) ?_ ?_
  · refine dp_s1 hF (i := .iconst (-1)) rfl (fun _ => rfl) ?_
    exact dp_s0 hF (i := .ireturn) rfl (fun _ => rfl)
  refine dp_s1 hF (i := .aload_n 0) rfl (fun _ => rfl) ?_
  refine dp_s1 hF (i := .bipush 41) rfl (fun _ => rfl) ?_
  refine dp_si (mj := dp_m_X7_pass) (i := .invokevirtual 118) rfl rfl (Or.inr rfl) rfl (fun _ => rfl) (fun r13 M12 => ?_)
  refine dp_s2 hF (i := .ifCond .ne 5) (a := (77, [some (.ref 68), some (.int r2), some (.int r7), some (.int r11)], [], M12)) (b := (79, [some (.ref 68), some (.int r2), some (.int r7), some (.int r11)], [], M12)) rfl (fun _ => rfl) ?_ ?_
  · refine dp_s1 hF (i := .iconst (-1)) rfl (fun _ => rfl) ?_
    exact dp_s0 hF (i := .ireturn) rfl (fun _ => rfl)
  refine dp_s1 hF (i := .aload_n 0) rfl (fun _ => rfl) ?_
  refine dp_s1 hF (i := .iload_n 1) rfl (fun _ => rfl) ?_
  refine dp_s1 hF (i := .iconst 1) rfl (fun _ => rfl) ?_
  refine dp_s1 hF (i := .iload_n 2) rfl (fun _ => rfl) ?_
  refine dp_sv (mj := dp_m_X7_setFact) (i := .invokevirtual 73) rfl rfl rfl rfl (fun _ => rfl) (fun M14 => ?_)
  refine dp_s1 hF (i := .aload_n 0) rfl (fun _ => rfl) ?_
  refine dp_s1 hF (i := .iload_n 1) rfl (fun _ => rfl) ?_
  refine dp_s1 hF (i := .iconst 5) rfl (fun _ => rfl) ?_
  refine dp_s1 hF (i := .iload_n 3) rfl (fun _ => rfl) ?_
  refine dp_sv (mj := dp_m_X7_setFact) (i := .invokevirtual 73) rfl rfl rfl rfl (fun _ => rfl) (fun M15 => ?_)
  refine dp_s1 hF (i := .aload_n 0) rfl (fun _ => rfl) ?_
  refine dp_s1 hF (i := .iload_n 1) rfl (fun _ => rfl) ?_
  refine dp_s1 hF (i := .bipush 6) rfl (fun _ => rfl) ?_
  refine dp_s1 hF (i := .aload_n 0) rfl (fun _ => rfl) ?_
  refine dp_s1 hF (i := .getfield 52) rfl (fun _ => rfl) ?_
  refine dp_s1 hF (i := .iload_n 3) rfl (fun _ => rfl) ?_
  refine dp_s1 hF (i := .isub) rfl (fun _ => rfl) ?_
  refine dp_sv (mj := dp_m_X7_setFact) (i := .invokevirtual 73) rfl rfl rfl rfl (fun _ => rfl) (fun M16 => ?_)
  refine dp_s1 hF (i := .iload_n 1) rfl (fun _ => rfl) ?_
  exact dp_s0 hF (i := .ireturn) rfl (fun _ => rfl)
noncomputable def D_X7_readStepRows_0 (xs : Nat → Int32) (xl d : Nat)  (M : dp_M) : Option dp_Res := dp_lim true xs xl (dp_den true xs xl d) dp_m_X7_readStepRows (0, [some (.ref 68), none, none, none, none, none], [], M)
noncomputable def D_X7_readStepRows_4 (xs : Nat → Int32) (xl d : Nat) (v1 : Int32) (v2 : Int32) (M : dp_M) : Option dp_Res := dp_lim true xs xl (dp_den true xs xl d) dp_m_X7_readStepRows (4, [some (.ref 68), some (.int v1), some (.int v2), none, none, none], [], M)
noncomputable def D_X7_readStepRows_49 (xs : Nat → Int32) (xl d : Nat) (v1 : Int32) (v2 : Int32) (v3 : Int32) (v4 : Int32) (vs0 : Int32) (M : dp_M) : Option dp_Res := dp_lim true xs xl (dp_den true xs xl d) dp_m_X7_readStepRows (49, [some (.ref 68), some (.int v1), some (.int v2), some (.int v3), some (.int v4), none], [.int vs0], M)
noncomputable def D_X7_readStepRows_4_a (xs : Nat → Int32) (xl d : Nat) (v1 : Int32) (v2 : Int32) (v3 : Int32) (v4 : Int32) (v5 : Int32) (M : dp_M) : Option dp_Res := dp_lim true xs xl (dp_den true xs xl d) dp_m_X7_readStepRows (4, [some (.ref 68), some (.int v1), some (.int v2), some (.int v3), some (.int v4), some (.int v5)], [], M)
noncomputable def D_X7_readStepRows_49_a (xs : Nat → Int32) (xl d : Nat) (v1 : Int32) (v2 : Int32) (v3 : Int32) (v4 : Int32) (v5 : Int32) (vs0 : Int32) (M : dp_M) : Option dp_Res := dp_lim true xs xl (dp_den true xs xl d) dp_m_X7_readStepRows (49, [some (.ref 68), some (.int v1), some (.int v2), some (.int v3), some (.int v4), some (.int v5)], [.int vs0], M)
theorem D_X7_readStepRows_0_den (xs : Nat → Int32) (xl d : Nat)  (M : dp_M) : dp_den true xs xl (d + 1) 167 [.ref 68] M = D_X7_readStepRows_0 xs xl d  M := rfl
set_option maxRecDepth 20000 in
theorem D_X7_readStepRows_0_eq (xs : Nat → Int32) (xl d : Nat)  (M : dp_M) : D_X7_readStepRows_0 xs xl d  M = dp_w (-1 : Int32) (fun y1 => dp_w (0 : Int32) (fun y2 => D_X7_readStepRows_4 xs xl d y1 y2 M)) := by
  have hF := dp_den_grow (md := true) (xs := xs) (xl := xl) d
  unfold D_X7_readStepRows_0
  refine dp_s1 hF (i := .iconst (-1)) rfl (fun _ => rfl) ?_
  refine dp_s1w (-1 : Int32) (fun (y1 : Int32) => (2, [some (.ref 68), some (.int y1), none, none, none, none], [], M)) hF (i := .istore_n 1) rfl (fun _ => rfl) (fun y1 => ?_)
  refine dp_s1 hF (i := .iconst 0) rfl (fun _ => rfl) ?_
  refine dp_s1w (0 : Int32) (fun (y2 : Int32) => (4, [some (.ref 68), some (.int y1), some (.int y2), none, none, none], [], M)) hF (i := .istore_n 2) rfl (fun _ => rfl) (fun y2 => ?_)
  exact rfl
set_option maxRecDepth 20000 in
theorem D_X7_readStepRows_4_eq (xs : Nat → Int32) (xl d : Nat) (v1 : Int32) (v2 : Int32) (M : dp_M) : D_X7_readStepRows_4 xs xl d v1 v2 M = if (6 : Int32) < v2 then (some (.inl (some (.int (-1 : Int32))), M)) else (dp_bi (dp_den true xs xl d 148 [.ref 68] M) (fun r2 M1 => dp_w (dp_I M1 68 9) (fun y3 => dp_bi (dp_den true xs xl d 165 [.ref 68] M1) (fun r5 M4 => if r5 = (-1 : Int32) then (D_X7_readStepRows_49 xs xl d v1 v2 y3 r5 (-1 : Int32) M4) else (dp_bi (dp_den true xs xl d 149 [.ref 68, .int (61 : Int32)] M4) (fun r7 M6 => if r7 = 0 then (D_X7_readStepRows_49 xs xl d v1 v2 y3 r5 (-1 : Int32) M6) else (dp_bi (dp_den true xs xl d 165 [.ref 68] M6) (fun r9 M8 => D_X7_readStepRows_49 xs xl d v1 v2 y3 r5 r9 M8)))))))) := by
  have hF := dp_den_grow (md := true) (xs := xs) (xl := xl) d
  unfold D_X7_readStepRows_4
  refine dp_s1 hF (i := .iload_n 2) rfl (fun _ => rfl) ?_
  refine dp_s1 hF (i := .bipush 6) rfl (fun _ => rfl) ?_
  refine dp_s2 hF (i := .if_icmp .gt 150) (a := (157, [some (.ref 68), some (.int v1), some (.int v2), none, none, none], [], M)) (b := (10, [some (.ref 68), some (.int v1), some (.int v2), none, none, none], [], M)) rfl (fun _ => rfl) ?_ ?_
  · refine dp_s1 hF (i := .iconst (-1)) rfl (fun _ => rfl) ?_
    exact dp_s0 hF (i := .ireturn) rfl (fun _ => rfl)
  refine dp_s1 hF (i := .aload_n 0) rfl (fun _ => rfl) ?_
  refine dp_si (mj := dp_m_X7_next) (i := .invokevirtual 62) rfl rfl (Or.inl rfl) rfl (fun _ => rfl) (fun r2 M1 => ?_)
  refine dp_s1 hF (i := .pop) rfl (fun _ => rfl) ?_
  refine dp_s1 hF (i := .aload_n 0) rfl (fun _ => rfl) ?_
  refine dp_s1 hF (i := .getfield 46) rfl (fun _ => rfl) ?_
  refine dp_s1w (dp_I M1 68 9) (fun (y3 : Int32) => (20, [some (.ref 68), some (.int v1), some (.int v2), some (.int y3), none, none], [], M1)) hF (i := .istore_n 3) rfl (fun _ => rfl) (fun y3 => ?_)
  refine dp_s1 hF (i := .aload_n 0) rfl (fun _ => rfl) ?_
  refine dp_si (mj := dp_m_X7_readWhole) (i := .invokevirtual 146) rfl rfl (Or.inl rfl) rfl (fun _ => rfl) (fun r5 M4 => ?_)
  refine dp_s1 hF (i := .istore 4) rfl (fun _ => rfl) ?_
  refine dp_s1 hF (i := .iload 4) rfl (fun _ => rfl) ?_
  refine dp_s1 hF (i := .iconst (-1)) rfl (fun _ => rfl) ?_
  refine dp_s2 hF (i := .if_icmp .eq 19) (a := (48, [some (.ref 68), some (.int v1), some (.int v2), some (.int y3), some (.int r5), none], [], M4)) (b := (32, [some (.ref 68), some (.int v1), some (.int v2), some (.int y3), some (.int r5), none], [], M4)) rfl (fun _ => rfl) ?_ ?_
  · refine dp_s1 hF (i := .iconst (-1)) rfl (fun _ => rfl) ?_
    exact rfl
  refine dp_s1 hF (i := .aload_n 0) rfl (fun _ => rfl) ?_
  refine dp_s1 hF (i := .bipush 61) rfl (fun _ => rfl) ?_
  refine dp_si (mj := dp_m_X7_pass) (i := .invokevirtual 118) rfl rfl (Or.inr rfl) rfl (fun _ => rfl) (fun r7 M6 => ?_)
  refine dp_s2 hF (i := .ifCond .eq 10) (a := (48, [some (.ref 68), some (.int v1), some (.int v2), some (.int y3), some (.int r5), none], [], M6)) (b := (41, [some (.ref 68), some (.int v1), some (.int v2), some (.int y3), some (.int r5), none], [], M6)) rfl (fun _ => rfl) ?_ ?_
  · refine dp_s1 hF (i := .iconst (-1)) rfl (fun _ => rfl) ?_
    exact rfl
  refine dp_s1 hF (i := .aload_n 0) rfl (fun _ => rfl) ?_
  refine dp_si (mj := dp_m_X7_readWhole) (i := .invokevirtual 146) rfl rfl (Or.inl rfl) rfl (fun _ => rfl) (fun r9 M8 => ?_)
  refine dp_s1 hF (i := .goto 4) rfl (fun _ => rfl) ?_
  exact rfl
set_option maxRecDepth 20000 in
theorem D_X7_readStepRows_49_eq (xs : Nat → Int32) (xl d : Nat) (v1 : Int32) (v2 : Int32) (v3 : Int32) (v4 : Int32) (vs0 : Int32) (M : dp_M) : D_X7_readStepRows_49 xs xl d v1 v2 v3 v4 vs0 M = if vs0 = (-1 : Int32) then (some (.inl (some (.int (-1 : Int32))), M)) else (if (6 : Int32) ≤ v2 then (dp_bi (dp_den true xs xl d 146 [.ref 68, .int v3] M) (fun r2 M1 => some (.inl (some (.int r2)), M1))) else (if v4 ≤ v1 then (dp_bi (dp_den true xs xl d 146 [.ref 68, .int v3] M) (fun r4 M3 => some (.inl (some (.int r4)), M3))) else (if (dp_I M 68 11) < (200 : Int32) then (if ((dp_I M 68 11) * (2 : Int32)) < 0 ∨ 400 ≤ Int32.toNatClampNeg ((dp_I M 68 11) * (2 : Int32)) then none else dp_w (dp_setI M 72 (Int32.toNatClampNeg ((dp_I M 68 11) * (2 : Int32))) v4) (fun M5 => if (((dp_I M5 68 11) * (2 : Int32)) + (1 : Int32)) < 0 ∨ 400 ≤ Int32.toNatClampNeg (((dp_I M5 68 11) * (2 : Int32)) + (1 : Int32)) then none else dp_w (dp_setI M5 72 (Int32.toNatClampNeg (((dp_I M5 68 11) * (2 : Int32)) + (1 : Int32))) vs0) (fun M6 => dp_w (dp_setI M6 68 11 ((dp_I M6 68 11) + (1 : Int32))) (fun M7 => dp_bi (dp_den true xs xl d 148 [.ref 68] M7) (fun r9 M8 => if r9 = (44 : Int32) then (dp_w (dp_setI M8 68 9 ((dp_I M8 68 9) + (1 : Int32))) (fun M10 => dp_w (v2 + (1 : Int32)) (fun y11 => D_X7_readStepRows_4_a xs xl d v4 y11 v3 v4 vs0 M10))) else (some (.inl (some (.int (v2 + (1 : Int32)))), M8))))))) else (dp_bi (dp_den true xs xl d 146 [.ref 68, .int v3] M) (fun r13 M12 => some (.inl (some (.int r13)), M12)))))) := by
  have hF := dp_den_grow (md := true) (xs := xs) (xl := xl) d
  unfold D_X7_readStepRows_49
  refine dp_s1 hF (i := .istore 5) rfl (fun _ => rfl) ?_
  refine dp_s1 hF (i := .iload 5) rfl (fun _ => rfl) ?_
  refine dp_s1 hF (i := .iconst (-1)) rfl (fun _ => rfl) ?_
  refine dp_s2 hF (i := .if_icmp .ne 5) (a := (57, [some (.ref 68), some (.int v1), some (.int v2), some (.int v3), some (.int v4), some (.int vs0)], [], M)) (b := (59, [some (.ref 68), some (.int v1), some (.int v2), some (.int v3), some (.int v4), some (.int vs0)], [], M)) rfl (fun _ => rfl) ?_ ?_
  · refine dp_s1 hF (i := .iconst (-1)) rfl (fun _ => rfl) ?_
    exact dp_s0 hF (i := .ireturn) rfl (fun _ => rfl)
  refine dp_s1 hF (i := .iload_n 2) rfl (fun _ => rfl) ?_
  refine dp_s1 hF (i := .bipush 6) rfl (fun _ => rfl) ?_
  refine dp_s2 hF (i := .if_icmp .ge 19) (a := (81, [some (.ref 68), some (.int v1), some (.int v2), some (.int v3), some (.int v4), some (.int vs0)], [], M)) (b := (65, [some (.ref 68), some (.int v1), some (.int v2), some (.int v3), some (.int v4), some (.int vs0)], [], M)) rfl (fun _ => rfl) ?_ ?_
  · refine dp_s1 hF (i := .aload_n 0) rfl (fun _ => rfl) ?_
    refine dp_s1 hF (i := .iload_n 3) rfl (fun _ => rfl) ?_
    refine dp_si (mj := dp_m_X7_refuse) (i := .invokevirtual 66) rfl rfl (Or.inl rfl) rfl (fun _ => rfl) (fun r2 M1 => ?_)
    exact dp_s0 hF (i := .ireturn) rfl (fun _ => rfl)
  refine dp_s1 hF (i := .iload 4) rfl (fun _ => rfl) ?_
  refine dp_s1 hF (i := .iload_n 1) rfl (fun _ => rfl) ?_
  refine dp_s2 hF (i := .if_icmp .le 13) (a := (81, [some (.ref 68), some (.int v1), some (.int v2), some (.int v3), some (.int v4), some (.int vs0)], [], M)) (b := (71, [some (.ref 68), some (.int v1), some (.int v2), some (.int v3), some (.int v4), some (.int vs0)], [], M)) rfl (fun _ => rfl) ?_ ?_
  · refine dp_s1 hF (i := .aload_n 0) rfl (fun _ => rfl) ?_
    refine dp_s1 hF (i := .iload_n 3) rfl (fun _ => rfl) ?_
    refine dp_si (mj := dp_m_X7_refuse) (i := .invokevirtual 66) rfl rfl (Or.inl rfl) rfl (fun _ => rfl) (fun r4 M3 => ?_)
    exact dp_s0 hF (i := .ireturn) rfl (fun _ => rfl)
  refine dp_s1 hF (i := .aload_n 0) rfl (fun _ => rfl) ?_
  refine dp_s1 hF (i := .getfield 52) rfl (fun _ => rfl) ?_
  refine dp_s1 hF (i := .sipush 200) rfl (fun _ => rfl) ?_
  refine dp_s2 hF (i := .if_icmp .lt 9) (a := (87, [some (.ref 68), some (.int v1), some (.int v2), some (.int v3), some (.int v4), some (.int vs0)], [], M)) (b := (81, [some (.ref 68), some (.int v1), some (.int v2), some (.int v3), some (.int v4), some (.int vs0)], [], M)) rfl (fun _ => rfl) ?_ ?_
  · refine dp_s1 hF (i := .aload_n 0) rfl (fun _ => rfl) ?_
    refine dp_s1 hF (i := .getfield 28) rfl (fun _ => rfl) ?_
    refine dp_s1 hF (i := .aload_n 0) rfl (fun _ => rfl) ?_
    refine dp_s1 hF (i := .getfield 52) rfl (fun _ => rfl) ?_
    refine dp_s1 hF (i := .iconst 2) rfl (fun _ => rfl) ?_
    refine dp_s1 hF (i := .imul) rfl (fun _ => rfl) ?_
    refine dp_s1 hF (i := .iload 4) rfl (fun _ => rfl) ?_
    refine dp_s3w (dp_setI M 72 (Int32.toNatClampNeg ((dp_I M 68 11) * (2 : Int32))) v4) (fun (M5 : dp_M) => (100, [some (.ref 68), some (.int v1), some (.int v2), some (.int v3), some (.int v4), some (.int vs0)], [], M5)) hF (i := .iastore) rfl (fun _ => rfl) (fun M5 => ?_)
    refine dp_s1 hF (i := .aload_n 0) rfl (fun _ => rfl) ?_
    refine dp_s1 hF (i := .getfield 28) rfl (fun _ => rfl) ?_
    refine dp_s1 hF (i := .aload_n 0) rfl (fun _ => rfl) ?_
    refine dp_s1 hF (i := .getfield 52) rfl (fun _ => rfl) ?_
    refine dp_s1 hF (i := .iconst 2) rfl (fun _ => rfl) ?_
    refine dp_s1 hF (i := .imul) rfl (fun _ => rfl) ?_
    refine dp_s1 hF (i := .iconst 1) rfl (fun _ => rfl) ?_
    refine dp_s1 hF (i := .iadd) rfl (fun _ => rfl) ?_
    refine dp_s1 hF (i := .iload 5) rfl (fun _ => rfl) ?_
    refine dp_s3w (dp_setI M5 72 (Int32.toNatClampNeg (((dp_I M5 68 11) * (2 : Int32)) + (1 : Int32))) vs0) (fun (M6 : dp_M) => (115, [some (.ref 68), some (.int v1), some (.int v2), some (.int v3), some (.int v4), some (.int vs0)], [], M6)) hF (i := .iastore) rfl (fun _ => rfl) (fun M6 => ?_)
    refine dp_s1 hF (i := .aload_n 0) rfl (fun _ => rfl) ?_
    refine dp_s1 hF (i := .dup) rfl (fun _ => rfl) ?_
    refine dp_s1 hF (i := .getfield 52) rfl (fun _ => rfl) ?_
    refine dp_s1 hF (i := .iconst 1) rfl (fun _ => rfl) ?_
    refine dp_s1 hF (i := .iadd) rfl (fun _ => rfl) ?_
    refine dp_s1w (dp_setI M6 68 11 ((dp_I M6 68 11) + (1 : Int32))) (fun (M7 : dp_M) => (125, [some (.ref 68), some (.int v1), some (.int v2), some (.int v3), some (.int v4), some (.int vs0)], [], M7)) hF (i := .putfield 52) rfl (fun _ => rfl) (fun M7 => ?_)
    refine dp_s1 hF (i := .iload 4) rfl (fun _ => rfl) ?_
    refine dp_s1 hF (i := .istore_n 1) rfl (fun _ => rfl) ?_
    refine dp_s1 hF (i := .aload_n 0) rfl (fun _ => rfl) ?_
    refine dp_si (mj := dp_m_X7_next) (i := .invokevirtual 62) rfl rfl (Or.inl rfl) rfl (fun _ => rfl) (fun r9 M8 => ?_)
    refine dp_s1 hF (i := .bipush 44) rfl (fun _ => rfl) ?_
    refine dp_s2 hF (i := .if_icmp .eq 7) (a := (141, [some (.ref 68), some (.int v4), some (.int v2), some (.int v3), some (.int v4), some (.int vs0)], [], M8)) (b := (137, [some (.ref 68), some (.int v4), some (.int v2), some (.int v3), some (.int v4), some (.int vs0)], [], M8)) rfl (fun _ => rfl) ?_ ?_
    · refine dp_s1 hF (i := .aload_n 0) rfl (fun _ => rfl) ?_
      refine dp_s1 hF (i := .dup) rfl (fun _ => rfl) ?_
      refine dp_s1 hF (i := .getfield 46) rfl (fun _ => rfl) ?_
      refine dp_s1 hF (i := .iconst 1) rfl (fun _ => rfl) ?_
      refine dp_s1 hF (i := .iadd) rfl (fun _ => rfl) ?_
      refine dp_s1w (dp_setI M8 68 9 ((dp_I M8 68 9) + (1 : Int32))) (fun (M10 : dp_M) => (151, [some (.ref 68), some (.int v4), some (.int v2), some (.int v3), some (.int v4), some (.int vs0)], [], M10)) hF (i := .putfield 46) rfl (fun _ => rfl) (fun M10 => ?_)
      refine dp_s1w (v2 + (1 : Int32)) (fun (y11 : Int32) => (154, [some (.ref 68), some (.int v4), some (.int y11), some (.int v3), some (.int v4), some (.int vs0)], [], M10)) hF (i := .iinc 2 1) rfl (fun _ => rfl) (fun y11 => ?_)
      refine dp_s1 hF (i := .goto (-150)) rfl (fun _ => rfl) ?_
      exact rfl
    refine dp_s1 hF (i := .iload_n 2) rfl (fun _ => rfl) ?_
    refine dp_s1 hF (i := .iconst 1) rfl (fun _ => rfl) ?_
    refine dp_s1 hF (i := .iadd) rfl (fun _ => rfl) ?_
    exact dp_s0 hF (i := .ireturn) rfl (fun _ => rfl)
  refine dp_s1 hF (i := .aload_n 0) rfl (fun _ => rfl) ?_
  refine dp_s1 hF (i := .iload_n 3) rfl (fun _ => rfl) ?_
  refine dp_si (mj := dp_m_X7_refuse) (i := .invokevirtual 66) rfl rfl (Or.inl rfl) rfl (fun _ => rfl) (fun r13 M12 => ?_)
  exact dp_s0 hF (i := .ireturn) rfl (fun _ => rfl)
set_option maxRecDepth 20000 in
theorem D_X7_readStepRows_4_a_eq (xs : Nat → Int32) (xl d : Nat) (v1 : Int32) (v2 : Int32) (v3 : Int32) (v4 : Int32) (v5 : Int32) (M : dp_M) : D_X7_readStepRows_4_a xs xl d v1 v2 v3 v4 v5 M = if (6 : Int32) < v2 then (some (.inl (some (.int (-1 : Int32))), M)) else (dp_bi (dp_den true xs xl d 148 [.ref 68] M) (fun r2 M1 => dp_w (dp_I M1 68 9) (fun y3 => dp_bi (dp_den true xs xl d 165 [.ref 68] M1) (fun r5 M4 => if r5 = (-1 : Int32) then (D_X7_readStepRows_49_a xs xl d v1 v2 y3 r5 v5 (-1 : Int32) M4) else (dp_bi (dp_den true xs xl d 149 [.ref 68, .int (61 : Int32)] M4) (fun r7 M6 => if r7 = 0 then (D_X7_readStepRows_49_a xs xl d v1 v2 y3 r5 v5 (-1 : Int32) M6) else (dp_bi (dp_den true xs xl d 165 [.ref 68] M6) (fun r9 M8 => D_X7_readStepRows_49_a xs xl d v1 v2 y3 r5 v5 r9 M8)))))))) := by
  have hF := dp_den_grow (md := true) (xs := xs) (xl := xl) d
  unfold D_X7_readStepRows_4_a
  refine dp_s1 hF (i := .iload_n 2) rfl (fun _ => rfl) ?_
  refine dp_s1 hF (i := .bipush 6) rfl (fun _ => rfl) ?_
  refine dp_s2 hF (i := .if_icmp .gt 150) (a := (157, [some (.ref 68), some (.int v1), some (.int v2), some (.int v3), some (.int v4), some (.int v5)], [], M)) (b := (10, [some (.ref 68), some (.int v1), some (.int v2), some (.int v3), some (.int v4), some (.int v5)], [], M)) rfl (fun _ => rfl) ?_ ?_
  · refine dp_s1 hF (i := .iconst (-1)) rfl (fun _ => rfl) ?_
    exact dp_s0 hF (i := .ireturn) rfl (fun _ => rfl)
  refine dp_s1 hF (i := .aload_n 0) rfl (fun _ => rfl) ?_
  refine dp_si (mj := dp_m_X7_next) (i := .invokevirtual 62) rfl rfl (Or.inl rfl) rfl (fun _ => rfl) (fun r2 M1 => ?_)
  refine dp_s1 hF (i := .pop) rfl (fun _ => rfl) ?_
  refine dp_s1 hF (i := .aload_n 0) rfl (fun _ => rfl) ?_
  refine dp_s1 hF (i := .getfield 46) rfl (fun _ => rfl) ?_
  refine dp_s1w (dp_I M1 68 9) (fun (y3 : Int32) => (20, [some (.ref 68), some (.int v1), some (.int v2), some (.int y3), some (.int v4), some (.int v5)], [], M1)) hF (i := .istore_n 3) rfl (fun _ => rfl) (fun y3 => ?_)
  refine dp_s1 hF (i := .aload_n 0) rfl (fun _ => rfl) ?_
  refine dp_si (mj := dp_m_X7_readWhole) (i := .invokevirtual 146) rfl rfl (Or.inl rfl) rfl (fun _ => rfl) (fun r5 M4 => ?_)
  refine dp_s1 hF (i := .istore 4) rfl (fun _ => rfl) ?_
  refine dp_s1 hF (i := .iload 4) rfl (fun _ => rfl) ?_
  refine dp_s1 hF (i := .iconst (-1)) rfl (fun _ => rfl) ?_
  refine dp_s2 hF (i := .if_icmp .eq 19) (a := (48, [some (.ref 68), some (.int v1), some (.int v2), some (.int y3), some (.int r5), some (.int v5)], [], M4)) (b := (32, [some (.ref 68), some (.int v1), some (.int v2), some (.int y3), some (.int r5), some (.int v5)], [], M4)) rfl (fun _ => rfl) ?_ ?_
  · refine dp_s1 hF (i := .iconst (-1)) rfl (fun _ => rfl) ?_
    exact rfl
  refine dp_s1 hF (i := .aload_n 0) rfl (fun _ => rfl) ?_
  refine dp_s1 hF (i := .bipush 61) rfl (fun _ => rfl) ?_
  refine dp_si (mj := dp_m_X7_pass) (i := .invokevirtual 118) rfl rfl (Or.inr rfl) rfl (fun _ => rfl) (fun r7 M6 => ?_)
  refine dp_s2 hF (i := .ifCond .eq 10) (a := (48, [some (.ref 68), some (.int v1), some (.int v2), some (.int y3), some (.int r5), some (.int v5)], [], M6)) (b := (41, [some (.ref 68), some (.int v1), some (.int v2), some (.int y3), some (.int r5), some (.int v5)], [], M6)) rfl (fun _ => rfl) ?_ ?_
  · refine dp_s1 hF (i := .iconst (-1)) rfl (fun _ => rfl) ?_
    exact rfl
  refine dp_s1 hF (i := .aload_n 0) rfl (fun _ => rfl) ?_
  refine dp_si (mj := dp_m_X7_readWhole) (i := .invokevirtual 146) rfl rfl (Or.inl rfl) rfl (fun _ => rfl) (fun r9 M8 => ?_)
  refine dp_s1 hF (i := .goto 4) rfl (fun _ => rfl) ?_
  exact rfl
set_option maxRecDepth 20000 in
theorem D_X7_readStepRows_49_a_eq (xs : Nat → Int32) (xl d : Nat) (v1 : Int32) (v2 : Int32) (v3 : Int32) (v4 : Int32) (v5 : Int32) (vs0 : Int32) (M : dp_M) : D_X7_readStepRows_49_a xs xl d v1 v2 v3 v4 v5 vs0 M = if vs0 = (-1 : Int32) then (some (.inl (some (.int (-1 : Int32))), M)) else (if (6 : Int32) ≤ v2 then (dp_bi (dp_den true xs xl d 146 [.ref 68, .int v3] M) (fun r2 M1 => some (.inl (some (.int r2)), M1))) else (if v4 ≤ v1 then (dp_bi (dp_den true xs xl d 146 [.ref 68, .int v3] M) (fun r4 M3 => some (.inl (some (.int r4)), M3))) else (if (dp_I M 68 11) < (200 : Int32) then (if ((dp_I M 68 11) * (2 : Int32)) < 0 ∨ 400 ≤ Int32.toNatClampNeg ((dp_I M 68 11) * (2 : Int32)) then none else dp_w (dp_setI M 72 (Int32.toNatClampNeg ((dp_I M 68 11) * (2 : Int32))) v4) (fun M5 => if (((dp_I M5 68 11) * (2 : Int32)) + (1 : Int32)) < 0 ∨ 400 ≤ Int32.toNatClampNeg (((dp_I M5 68 11) * (2 : Int32)) + (1 : Int32)) then none else dp_w (dp_setI M5 72 (Int32.toNatClampNeg (((dp_I M5 68 11) * (2 : Int32)) + (1 : Int32))) vs0) (fun M6 => dp_w (dp_setI M6 68 11 ((dp_I M6 68 11) + (1 : Int32))) (fun M7 => dp_bi (dp_den true xs xl d 148 [.ref 68] M7) (fun r9 M8 => if r9 = (44 : Int32) then (dp_w (dp_setI M8 68 9 ((dp_I M8 68 9) + (1 : Int32))) (fun M10 => dp_w (v2 + (1 : Int32)) (fun y11 => D_X7_readStepRows_4_a xs xl d v4 y11 v3 v4 vs0 M10))) else (some (.inl (some (.int (v2 + (1 : Int32)))), M8))))))) else (dp_bi (dp_den true xs xl d 146 [.ref 68, .int v3] M) (fun r13 M12 => some (.inl (some (.int r13)), M12)))))) := by
  have hF := dp_den_grow (md := true) (xs := xs) (xl := xl) d
  unfold D_X7_readStepRows_49_a
  refine dp_s1 hF (i := .istore 5) rfl (fun _ => rfl) ?_
  refine dp_s1 hF (i := .iload 5) rfl (fun _ => rfl) ?_
  refine dp_s1 hF (i := .iconst (-1)) rfl (fun _ => rfl) ?_
  refine dp_s2 hF (i := .if_icmp .ne 5) (a := (57, [some (.ref 68), some (.int v1), some (.int v2), some (.int v3), some (.int v4), some (.int vs0)], [], M)) (b := (59, [some (.ref 68), some (.int v1), some (.int v2), some (.int v3), some (.int v4), some (.int vs0)], [], M)) rfl (fun _ => rfl) ?_ ?_
  · refine dp_s1 hF (i := .iconst (-1)) rfl (fun _ => rfl) ?_
    exact dp_s0 hF (i := .ireturn) rfl (fun _ => rfl)
  refine dp_s1 hF (i := .iload_n 2) rfl (fun _ => rfl) ?_
  refine dp_s1 hF (i := .bipush 6) rfl (fun _ => rfl) ?_
  refine dp_s2 hF (i := .if_icmp .ge 19) (a := (81, [some (.ref 68), some (.int v1), some (.int v2), some (.int v3), some (.int v4), some (.int vs0)], [], M)) (b := (65, [some (.ref 68), some (.int v1), some (.int v2), some (.int v3), some (.int v4), some (.int vs0)], [], M)) rfl (fun _ => rfl) ?_ ?_
  · refine dp_s1 hF (i := .aload_n 0) rfl (fun _ => rfl) ?_
    refine dp_s1 hF (i := .iload_n 3) rfl (fun _ => rfl) ?_
    refine dp_si (mj := dp_m_X7_refuse) (i := .invokevirtual 66) rfl rfl (Or.inl rfl) rfl (fun _ => rfl) (fun r2 M1 => ?_)
    exact dp_s0 hF (i := .ireturn) rfl (fun _ => rfl)
  refine dp_s1 hF (i := .iload 4) rfl (fun _ => rfl) ?_
  refine dp_s1 hF (i := .iload_n 1) rfl (fun _ => rfl) ?_
  refine dp_s2 hF (i := .if_icmp .le 13) (a := (81, [some (.ref 68), some (.int v1), some (.int v2), some (.int v3), some (.int v4), some (.int vs0)], [], M)) (b := (71, [some (.ref 68), some (.int v1), some (.int v2), some (.int v3), some (.int v4), some (.int vs0)], [], M)) rfl (fun _ => rfl) ?_ ?_
  · refine dp_s1 hF (i := .aload_n 0) rfl (fun _ => rfl) ?_
    refine dp_s1 hF (i := .iload_n 3) rfl (fun _ => rfl) ?_
    refine dp_si (mj := dp_m_X7_refuse) (i := .invokevirtual 66) rfl rfl (Or.inl rfl) rfl (fun _ => rfl) (fun r4 M3 => ?_)
    exact dp_s0 hF (i := .ireturn) rfl (fun _ => rfl)
  refine dp_s1 hF (i := .aload_n 0) rfl (fun _ => rfl) ?_
  refine dp_s1 hF (i := .getfield 52) rfl (fun _ => rfl) ?_
  refine dp_s1 hF (i := .sipush 200) rfl (fun _ => rfl) ?_
  refine dp_s2 hF (i := .if_icmp .lt 9) (a := (87, [some (.ref 68), some (.int v1), some (.int v2), some (.int v3), some (.int v4), some (.int vs0)], [], M)) (b := (81, [some (.ref 68), some (.int v1), some (.int v2), some (.int v3), some (.int v4), some (.int vs0)], [], M)) rfl (fun _ => rfl) ?_ ?_
  · refine dp_s1 hF (i := .aload_n 0) rfl (fun _ => rfl) ?_
    refine dp_s1 hF (i := .getfield 28) rfl (fun _ => rfl) ?_
    refine dp_s1 hF (i := .aload_n 0) rfl (fun _ => rfl) ?_
    refine dp_s1 hF (i := .getfield 52) rfl (fun _ => rfl) ?_
    refine dp_s1 hF (i := .iconst 2) rfl (fun _ => rfl) ?_
    refine dp_s1 hF (i := .imul) rfl (fun _ => rfl) ?_
    refine dp_s1 hF (i := .iload 4) rfl (fun _ => rfl) ?_
    refine dp_s3w (dp_setI M 72 (Int32.toNatClampNeg ((dp_I M 68 11) * (2 : Int32))) v4) (fun (M5 : dp_M) => (100, [some (.ref 68), some (.int v1), some (.int v2), some (.int v3), some (.int v4), some (.int vs0)], [], M5)) hF (i := .iastore) rfl (fun _ => rfl) (fun M5 => ?_)
    refine dp_s1 hF (i := .aload_n 0) rfl (fun _ => rfl) ?_
    refine dp_s1 hF (i := .getfield 28) rfl (fun _ => rfl) ?_
    refine dp_s1 hF (i := .aload_n 0) rfl (fun _ => rfl) ?_
    refine dp_s1 hF (i := .getfield 52) rfl (fun _ => rfl) ?_
    refine dp_s1 hF (i := .iconst 2) rfl (fun _ => rfl) ?_
    refine dp_s1 hF (i := .imul) rfl (fun _ => rfl) ?_
    refine dp_s1 hF (i := .iconst 1) rfl (fun _ => rfl) ?_
    refine dp_s1 hF (i := .iadd) rfl (fun _ => rfl) ?_
    refine dp_s1 hF (i := .iload 5) rfl (fun _ => rfl) ?_
    refine dp_s3w (dp_setI M5 72 (Int32.toNatClampNeg (((dp_I M5 68 11) * (2 : Int32)) + (1 : Int32))) vs0) (fun (M6 : dp_M) => (115, [some (.ref 68), some (.int v1), some (.int v2), some (.int v3), some (.int v4), some (.int vs0)], [], M6)) hF (i := .iastore) rfl (fun _ => rfl) (fun M6 => ?_)
    refine dp_s1 hF (i := .aload_n 0) rfl (fun _ => rfl) ?_
    refine dp_s1 hF (i := .dup) rfl (fun _ => rfl) ?_
    refine dp_s1 hF (i := .getfield 52) rfl (fun _ => rfl) ?_
    refine dp_s1 hF (i := .iconst 1) rfl (fun _ => rfl) ?_
    refine dp_s1 hF (i := .iadd) rfl (fun _ => rfl) ?_
    refine dp_s1w (dp_setI M6 68 11 ((dp_I M6 68 11) + (1 : Int32))) (fun (M7 : dp_M) => (125, [some (.ref 68), some (.int v1), some (.int v2), some (.int v3), some (.int v4), some (.int vs0)], [], M7)) hF (i := .putfield 52) rfl (fun _ => rfl) (fun M7 => ?_)
    refine dp_s1 hF (i := .iload 4) rfl (fun _ => rfl) ?_
    refine dp_s1 hF (i := .istore_n 1) rfl (fun _ => rfl) ?_
    refine dp_s1 hF (i := .aload_n 0) rfl (fun _ => rfl) ?_
    refine dp_si (mj := dp_m_X7_next) (i := .invokevirtual 62) rfl rfl (Or.inl rfl) rfl (fun _ => rfl) (fun r9 M8 => ?_)
    refine dp_s1 hF (i := .bipush 44) rfl (fun _ => rfl) ?_
    refine dp_s2 hF (i := .if_icmp .eq 7) (a := (141, [some (.ref 68), some (.int v4), some (.int v2), some (.int v3), some (.int v4), some (.int vs0)], [], M8)) (b := (137, [some (.ref 68), some (.int v4), some (.int v2), some (.int v3), some (.int v4), some (.int vs0)], [], M8)) rfl (fun _ => rfl) ?_ ?_
    · refine dp_s1 hF (i := .aload_n 0) rfl (fun _ => rfl) ?_
      refine dp_s1 hF (i := .dup) rfl (fun _ => rfl) ?_
      refine dp_s1 hF (i := .getfield 46) rfl (fun _ => rfl) ?_
      refine dp_s1 hF (i := .iconst 1) rfl (fun _ => rfl) ?_
      refine dp_s1 hF (i := .iadd) rfl (fun _ => rfl) ?_
      refine dp_s1w (dp_setI M8 68 9 ((dp_I M8 68 9) + (1 : Int32))) (fun (M10 : dp_M) => (151, [some (.ref 68), some (.int v4), some (.int v2), some (.int v3), some (.int v4), some (.int vs0)], [], M10)) hF (i := .putfield 46) rfl (fun _ => rfl) (fun M10 => ?_)
      refine dp_s1w (v2 + (1 : Int32)) (fun (y11 : Int32) => (154, [some (.ref 68), some (.int v4), some (.int y11), some (.int v3), some (.int v4), some (.int vs0)], [], M10)) hF (i := .iinc 2 1) rfl (fun _ => rfl) (fun y11 => ?_)
      refine dp_s1 hF (i := .goto (-150)) rfl (fun _ => rfl) ?_
      exact rfl
    refine dp_s1 hF (i := .iload_n 2) rfl (fun _ => rfl) ?_
    refine dp_s1 hF (i := .iconst 1) rfl (fun _ => rfl) ?_
    refine dp_s1 hF (i := .iadd) rfl (fun _ => rfl) ?_
    exact dp_s0 hF (i := .ireturn) rfl (fun _ => rfl)
  refine dp_s1 hF (i := .aload_n 0) rfl (fun _ => rfl) ?_
  refine dp_s1 hF (i := .iload_n 3) rfl (fun _ => rfl) ?_
  refine dp_si (mj := dp_m_X7_refuse) (i := .invokevirtual 66) rfl rfl (Or.inl rfl) rfl (fun _ => rfl) (fun r13 M12 => ?_)
  exact dp_s0 hF (i := .ireturn) rfl (fun _ => rfl)
noncomputable def D_X7_numberOf_0 (xs : Nat → Int32) (xl d : Nat) (v1 : Int32) (M : dp_M) : Option dp_Res := dp_lim true xs xl (dp_den true xs xl d) dp_m_X7_numberOf (0, [some (.ref 68), some (.int v1)], [], M)
theorem D_X7_numberOf_0_den (xs : Nat → Int32) (xl d : Nat) (a0 : Int32) (M : dp_M) : dp_den true xs xl (d + 1) 169 [.ref 68, .int a0] M = D_X7_numberOf_0 xs xl d a0 M := rfl
set_option maxRecDepth 20000 in
theorem D_X7_numberOf_0_eq (xs : Nat → Int32) (xl d : Nat) (v1 : Int32) (M : dp_M) : D_X7_numberOf_0 xs xl d v1 M = if v1 = (-1 : Int32) then (some (.inl (some (.int (-1 : Int32))), M)) else (if v1 < 0 ∨ 60 ≤ Int32.toNatClampNeg v1 then none else (some (.inl (some (.int (dp_I M 73 (Int32.toNatClampNeg v1)))), M))) := by
  have hF := dp_den_grow (md := true) (xs := xs) (xl := xl) d
  unfold D_X7_numberOf_0
  refine dp_s1 hF (i := .iload_n 1) rfl (fun _ => rfl) ?_
  refine dp_s1 hF (i := .iconst (-1)) rfl (fun _ => rfl) ?_
  refine dp_s2 hF (i := .if_icmp .ne 7) (a := (5, [some (.ref 68), some (.int v1)], [], M)) (b := (9, [some (.ref 68), some (.int v1)], [], M)) rfl (fun _ => rfl) ?_ ?_
  · refine dp_s1 hF (i := .iconst (-1)) rfl (fun _ => rfl) ?_
    refine dp_s1 hF (i := .goto 9) rfl (fun _ => rfl) ?_
    exact dp_s0 hF (i := .ireturn) rfl (fun _ => rfl)
  refine dp_s1 hF (i := .aload_n 0) rfl (fun _ => rfl) ?_
  refine dp_s1 hF (i := .getfield 31) rfl (fun _ => rfl) ?_
  refine dp_s1 hF (i := .iload_n 1) rfl (fun _ => rfl) ?_
  refine dp_s3 hF (i := .iaload) rfl (fun _ => rfl) ?_
  exact dp_s0 hF (i := .ireturn) rfl (fun _ => rfl)
noncomputable def D_X7_numberFrom_0 (xs : Nat → Int32) (xl d : Nat) (v1 : Int32) (M : dp_M) : Option dp_Res := dp_lim true xs xl (dp_den true xs xl d) dp_m_X7_numberFrom (0, [some (.ref 68), some (.int v1), none, none], [], M)
noncomputable def D_X7_numberFrom_12 (xs : Nat → Int32) (xl d : Nat) (v1 : Int32) (v2 : Int32) (M : dp_M) : Option dp_Res := dp_lim true xs xl (dp_den true xs xl d) dp_m_X7_numberFrom (12, [some (.ref 68), some (.int v1), some (.int v2), none], [], M)
noncomputable def D_X7_numberFrom_12_a (xs : Nat → Int32) (xl d : Nat) (v1 : Int32) (v2 : Int32) (v3 : Int32) (M : dp_M) : Option dp_Res := dp_lim true xs xl (dp_den true xs xl d) dp_m_X7_numberFrom (12, [some (.ref 68), some (.int v1), some (.int v2), some (.int v3)], [], M)
theorem D_X7_numberFrom_0_den (xs : Nat → Int32) (xl d : Nat) (a0 : Int32) (M : dp_M) : dp_den true xs xl (d + 1) 170 [.ref 68, .int a0] M = D_X7_numberFrom_0 xs xl d a0 M := rfl
set_option maxRecDepth 20000 in
theorem D_X7_numberFrom_0_eq (xs : Nat → Int32) (xl d : Nat) (v1 : Int32) (M : dp_M) : D_X7_numberFrom_0 xs xl d v1 M = dp_w (dp_setI M 68 13 (0 : Int32)) (fun M1 => dp_bv (dp_den true xs xl d 171 [.ref 68, .int v1] M1) (fun M2 => dp_w (0 : Int32) (fun y3 => D_X7_numberFrom_12 xs xl d v1 y3 M2))) := by
  have hF := dp_den_grow (md := true) (xs := xs) (xl := xl) d
  unfold D_X7_numberFrom_0
  refine dp_s1 hF (i := .aload_n 0) rfl (fun _ => rfl) ?_
  refine dp_s1 hF (i := .iconst 0) rfl (fun _ => rfl) ?_
  refine dp_s1w (dp_setI M 68 13 (0 : Int32)) (fun (M1 : dp_M) => (5, [some (.ref 68), some (.int v1), none, none], [], M1)) hF (i := .putfield 174) rfl (fun _ => rfl) (fun M1 => ?_)
  refine dp_s1 hF (i := .aload_n 0) rfl (fun _ => rfl) ?_
  refine dp_s1 hF (i := .iload_n 1) rfl (fun _ => rfl) ?_
  refine dp_sv (mj := dp_m_X7_push) (i := .invokevirtual 177) rfl rfl rfl rfl (fun _ => rfl) (fun M2 => ?_)
  refine dp_s1 hF (i := .iconst 0) rfl (fun _ => rfl) ?_
  refine dp_s1w (0 : Int32) (fun (y3 : Int32) => (12, [some (.ref 68), some (.int v1), some (.int y3), none], [], M2)) hF (i := .istore_n 2) rfl (fun _ => rfl) (fun y3 => ?_)
  exact rfl
set_option maxRecDepth 20000 in
theorem D_X7_numberFrom_12_eq (xs : Nat → Int32) (xl d : Nat) (v1 : Int32) (v2 : Int32) (M : dp_M) : D_X7_numberFrom_12 xs xl d v1 v2 M = if (dp_I M 68 10) ≤ v2 then (some (.inl none, M)) else (if (dp_I M 68 13) ≤ 0 then (some (.inl none, M)) else (dp_bi (dp_den true xs xl d 172 [.ref 68] M) (fun r2 M1 => if r2 < 0 ∨ 60 ≤ Int32.toNatClampNeg r2 then none else dp_w (dp_setI M1 73 (Int32.toNatClampNeg r2) v2) (fun M3 => if ((r2 * (7 : Int32)) + (3 : Int32)) < 0 ∨ 420 ≤ Int32.toNatClampNeg ((r2 * (7 : Int32)) + (3 : Int32)) then none else (if (dp_I M3 71 (Int32.toNatClampNeg ((r2 * (7 : Int32)) + (3 : Int32)))) = (-1 : Int32) then (dp_w (v2 + (1 : Int32)) (fun y4 => D_X7_numberFrom_12_a xs xl d v1 y4 r2 M3)) else (if ((r2 * (7 : Int32)) + (4 : Int32)) < 0 ∨ 420 ≤ Int32.toNatClampNeg ((r2 * (7 : Int32)) + (4 : Int32)) then none else (dp_bv (dp_den true xs xl d 171 [.ref 68, .int (dp_I M3 71 (Int32.toNatClampNeg ((r2 * (7 : Int32)) + (4 : Int32))))] M3) (fun M5 => if ((r2 * (7 : Int32)) + (3 : Int32)) < 0 ∨ 420 ≤ Int32.toNatClampNeg ((r2 * (7 : Int32)) + (3 : Int32)) then none else (dp_bv (dp_den true xs xl d 171 [.ref 68, .int (dp_I M5 71 (Int32.toNatClampNeg ((r2 * (7 : Int32)) + (3 : Int32))))] M5) (fun M6 => dp_w (v2 + (1 : Int32)) (fun y7 => D_X7_numberFrom_12_a xs xl d v1 y7 r2 M6))))))))))) := by
  have hF := dp_den_grow (md := true) (xs := xs) (xl := xl) d
  unfold D_X7_numberFrom_12
  refine dp_s1 hF (i := .iload_n 2) rfl (fun _ => rfl) ?_
  refine dp_s1 hF (i := .aload_n 0) rfl (fun _ => rfl) ?_
  refine dp_s1 hF (i := .getfield 49) rfl (fun _ => rfl) ?_
  refine dp_s2 hF (i := .if_icmp .ge 73) (a := (90, [some (.ref 68), some (.int v1), some (.int v2), none], [], M)) (b := (20, [some (.ref 68), some (.int v1), some (.int v2), none], [], M)) rfl (fun _ => rfl) ?_ ?_
  · exact dp_s0 hF (i := .return_) rfl (fun _ => rfl)
  refine dp_s1 hF (i := .aload_n 0) rfl (fun _ => rfl) ?_
  refine dp_s1 hF (i := .getfield 174) rfl (fun _ => rfl) ?_
  refine dp_s2 hF (i := .ifCond .le 66) (a := (90, [some (.ref 68), some (.int v1), some (.int v2), none], [], M)) (b := (27, [some (.ref 68), some (.int v1), some (.int v2), none], [], M)) rfl (fun _ => rfl) ?_ ?_
  · exact dp_s0 hF (i := .return_) rfl (fun _ => rfl)
  refine dp_s1 hF (i := .aload_n 0) rfl (fun _ => rfl) ?_
  refine dp_si (mj := dp_m_X7_pop) (i := .invokevirtual 180) rfl rfl (Or.inl rfl) rfl (fun _ => rfl) (fun r2 M1 => ?_)
  refine dp_s1 hF (i := .istore_n 3) rfl (fun _ => rfl) ?_
  refine dp_s1 hF (i := .aload_n 0) rfl (fun _ => rfl) ?_
  refine dp_s1 hF (i := .getfield 31) rfl (fun _ => rfl) ?_
  refine dp_s1 hF (i := .iload_n 3) rfl (fun _ => rfl) ?_
  refine dp_s1 hF (i := .iload_n 2) rfl (fun _ => rfl) ?_
  refine dp_s3w (dp_setI M1 73 (Int32.toNatClampNeg r2) v2) (fun (M3 : dp_M) => (39, [some (.ref 68), some (.int v1), some (.int v2), some (.int r2)], [], M3)) hF (i := .iastore) rfl (fun _ => rfl) (fun M3 => ?_)
  refine dp_s1 hF (i := .aload_n 0) rfl (fun _ => rfl) ?_
  refine dp_s1 hF (i := .getfield 24) rfl (fun _ => rfl) ?_
  refine dp_s1 hF (i := .iload_n 3) rfl (fun _ => rfl) ?_
  refine dp_s1 hF (i := .bipush 7) rfl (fun _ => rfl) ?_
  refine dp_s1 hF (i := .imul) rfl (fun _ => rfl) ?_
  refine dp_s1 hF (i := .iconst 3) rfl (fun _ => rfl) ?_
  refine dp_s1 hF (i := .iadd) rfl (fun _ => rfl) ?_
  refine dp_s3 hF (i := .iaload) rfl (fun _ => rfl) ?_
  refine dp_s1 hF (i := .iconst (-1)) rfl (fun _ => rfl) ?_
  refine dp_s2 hF (i := .if_icmp .eq 33) (a := (84, [some (.ref 68), some (.int v1), some (.int v2), some (.int r2)], [], M3)) (b := (54, [some (.ref 68), some (.int v1), some (.int v2), some (.int r2)], [], M3)) rfl (fun _ => rfl) ?_ ?_
  · refine dp_s1w (v2 + (1 : Int32)) (fun (y4 : Int32) => (87, [some (.ref 68), some (.int v1), some (.int y4), some (.int r2)], [], M3)) hF (i := .iinc 2 1) rfl (fun _ => rfl) (fun y4 => ?_)
    refine dp_s1 hF (i := .goto (-75)) rfl (fun _ => rfl) ?_
    exact rfl
  refine dp_s1 hF (i := .aload_n 0) rfl (fun _ => rfl) ?_
  refine dp_s1 hF (i := .aload_n 0) rfl (fun _ => rfl) ?_
  refine dp_s1 hF (i := .getfield 24) rfl (fun _ => rfl) ?_
  refine dp_s1 hF (i := .iload_n 3) rfl (fun _ => rfl) ?_
  refine dp_s1 hF (i := .bipush 7) rfl (fun _ => rfl) ?_
  refine dp_s1 hF (i := .imul) rfl (fun _ => rfl) ?_
  refine dp_s1 hF (i := .iconst 4) rfl (fun _ => rfl) ?_
  refine dp_s1 hF (i := .iadd) rfl (fun _ => rfl) ?_
  refine dp_s3 hF (i := .iaload) rfl (fun _ => rfl) ?_
  refine dp_sv (mj := dp_m_X7_push) (i := .invokevirtual 177) rfl rfl rfl rfl (fun _ => rfl) (fun M5 => ?_)
  refine dp_s1 hF (i := .aload_n 0) rfl (fun _ => rfl) ?_
  refine dp_s1 hF (i := .aload_n 0) rfl (fun _ => rfl) ?_
  refine dp_s1 hF (i := .getfield 24) rfl (fun _ => rfl) ?_
  refine dp_s1 hF (i := .iload_n 3) rfl (fun _ => rfl) ?_
  refine dp_s1 hF (i := .bipush 7) rfl (fun _ => rfl) ?_
  refine dp_s1 hF (i := .imul) rfl (fun _ => rfl) ?_
  refine dp_s1 hF (i := .iconst 3) rfl (fun _ => rfl) ?_
  refine dp_s1 hF (i := .iadd) rfl (fun _ => rfl) ?_
  refine dp_s3 hF (i := .iaload) rfl (fun _ => rfl) ?_
  refine dp_sv (mj := dp_m_X7_push) (i := .invokevirtual 177) rfl rfl rfl rfl (fun _ => rfl) (fun M6 => ?_)
  refine dp_s1w (v2 + (1 : Int32)) (fun (y7 : Int32) => (87, [some (.ref 68), some (.int v1), some (.int y7), some (.int r2)], [], M6)) hF (i := .iinc 2 1) rfl (fun _ => rfl) (fun y7 => ?_)
  refine dp_s1 hF (i := .goto (-75)) rfl (fun _ => rfl) ?_
  exact rfl
set_option maxRecDepth 20000 in
theorem D_X7_numberFrom_12_a_eq (xs : Nat → Int32) (xl d : Nat) (v1 : Int32) (v2 : Int32) (v3 : Int32) (M : dp_M) : D_X7_numberFrom_12_a xs xl d v1 v2 v3 M = if (dp_I M 68 10) ≤ v2 then (some (.inl none, M)) else (if (dp_I M 68 13) ≤ 0 then (some (.inl none, M)) else (dp_bi (dp_den true xs xl d 172 [.ref 68] M) (fun r2 M1 => if r2 < 0 ∨ 60 ≤ Int32.toNatClampNeg r2 then none else dp_w (dp_setI M1 73 (Int32.toNatClampNeg r2) v2) (fun M3 => if ((r2 * (7 : Int32)) + (3 : Int32)) < 0 ∨ 420 ≤ Int32.toNatClampNeg ((r2 * (7 : Int32)) + (3 : Int32)) then none else (if (dp_I M3 71 (Int32.toNatClampNeg ((r2 * (7 : Int32)) + (3 : Int32)))) = (-1 : Int32) then (dp_w (v2 + (1 : Int32)) (fun y4 => D_X7_numberFrom_12_a xs xl d v1 y4 r2 M3)) else (if ((r2 * (7 : Int32)) + (4 : Int32)) < 0 ∨ 420 ≤ Int32.toNatClampNeg ((r2 * (7 : Int32)) + (4 : Int32)) then none else (dp_bv (dp_den true xs xl d 171 [.ref 68, .int (dp_I M3 71 (Int32.toNatClampNeg ((r2 * (7 : Int32)) + (4 : Int32))))] M3) (fun M5 => if ((r2 * (7 : Int32)) + (3 : Int32)) < 0 ∨ 420 ≤ Int32.toNatClampNeg ((r2 * (7 : Int32)) + (3 : Int32)) then none else (dp_bv (dp_den true xs xl d 171 [.ref 68, .int (dp_I M5 71 (Int32.toNatClampNeg ((r2 * (7 : Int32)) + (3 : Int32))))] M5) (fun M6 => dp_w (v2 + (1 : Int32)) (fun y7 => D_X7_numberFrom_12_a xs xl d v1 y7 r2 M6))))))))))) := by
  have hF := dp_den_grow (md := true) (xs := xs) (xl := xl) d
  unfold D_X7_numberFrom_12_a
  refine dp_s1 hF (i := .iload_n 2) rfl (fun _ => rfl) ?_
  refine dp_s1 hF (i := .aload_n 0) rfl (fun _ => rfl) ?_
  refine dp_s1 hF (i := .getfield 49) rfl (fun _ => rfl) ?_
  refine dp_s2 hF (i := .if_icmp .ge 73) (a := (90, [some (.ref 68), some (.int v1), some (.int v2), some (.int v3)], [], M)) (b := (20, [some (.ref 68), some (.int v1), some (.int v2), some (.int v3)], [], M)) rfl (fun _ => rfl) ?_ ?_
  · exact dp_s0 hF (i := .return_) rfl (fun _ => rfl)
  refine dp_s1 hF (i := .aload_n 0) rfl (fun _ => rfl) ?_
  refine dp_s1 hF (i := .getfield 174) rfl (fun _ => rfl) ?_
  refine dp_s2 hF (i := .ifCond .le 66) (a := (90, [some (.ref 68), some (.int v1), some (.int v2), some (.int v3)], [], M)) (b := (27, [some (.ref 68), some (.int v1), some (.int v2), some (.int v3)], [], M)) rfl (fun _ => rfl) ?_ ?_
  · exact dp_s0 hF (i := .return_) rfl (fun _ => rfl)
  refine dp_s1 hF (i := .aload_n 0) rfl (fun _ => rfl) ?_
  refine dp_si (mj := dp_m_X7_pop) (i := .invokevirtual 180) rfl rfl (Or.inl rfl) rfl (fun _ => rfl) (fun r2 M1 => ?_)
  refine dp_s1 hF (i := .istore_n 3) rfl (fun _ => rfl) ?_
  refine dp_s1 hF (i := .aload_n 0) rfl (fun _ => rfl) ?_
  refine dp_s1 hF (i := .getfield 31) rfl (fun _ => rfl) ?_
  refine dp_s1 hF (i := .iload_n 3) rfl (fun _ => rfl) ?_
  refine dp_s1 hF (i := .iload_n 2) rfl (fun _ => rfl) ?_
  refine dp_s3w (dp_setI M1 73 (Int32.toNatClampNeg r2) v2) (fun (M3 : dp_M) => (39, [some (.ref 68), some (.int v1), some (.int v2), some (.int r2)], [], M3)) hF (i := .iastore) rfl (fun _ => rfl) (fun M3 => ?_)
  refine dp_s1 hF (i := .aload_n 0) rfl (fun _ => rfl) ?_
  refine dp_s1 hF (i := .getfield 24) rfl (fun _ => rfl) ?_
  refine dp_s1 hF (i := .iload_n 3) rfl (fun _ => rfl) ?_
  refine dp_s1 hF (i := .bipush 7) rfl (fun _ => rfl) ?_
  refine dp_s1 hF (i := .imul) rfl (fun _ => rfl) ?_
  refine dp_s1 hF (i := .iconst 3) rfl (fun _ => rfl) ?_
  refine dp_s1 hF (i := .iadd) rfl (fun _ => rfl) ?_
  refine dp_s3 hF (i := .iaload) rfl (fun _ => rfl) ?_
  refine dp_s1 hF (i := .iconst (-1)) rfl (fun _ => rfl) ?_
  refine dp_s2 hF (i := .if_icmp .eq 33) (a := (84, [some (.ref 68), some (.int v1), some (.int v2), some (.int r2)], [], M3)) (b := (54, [some (.ref 68), some (.int v1), some (.int v2), some (.int r2)], [], M3)) rfl (fun _ => rfl) ?_ ?_
  · refine dp_s1w (v2 + (1 : Int32)) (fun (y4 : Int32) => (87, [some (.ref 68), some (.int v1), some (.int y4), some (.int r2)], [], M3)) hF (i := .iinc 2 1) rfl (fun _ => rfl) (fun y4 => ?_)
    refine dp_s1 hF (i := .goto (-75)) rfl (fun _ => rfl) ?_
    exact rfl
  refine dp_s1 hF (i := .aload_n 0) rfl (fun _ => rfl) ?_
  refine dp_s1 hF (i := .aload_n 0) rfl (fun _ => rfl) ?_
  refine dp_s1 hF (i := .getfield 24) rfl (fun _ => rfl) ?_
  refine dp_s1 hF (i := .iload_n 3) rfl (fun _ => rfl) ?_
  refine dp_s1 hF (i := .bipush 7) rfl (fun _ => rfl) ?_
  refine dp_s1 hF (i := .imul) rfl (fun _ => rfl) ?_
  refine dp_s1 hF (i := .iconst 4) rfl (fun _ => rfl) ?_
  refine dp_s1 hF (i := .iadd) rfl (fun _ => rfl) ?_
  refine dp_s3 hF (i := .iaload) rfl (fun _ => rfl) ?_
  refine dp_sv (mj := dp_m_X7_push) (i := .invokevirtual 177) rfl rfl rfl rfl (fun _ => rfl) (fun M5 => ?_)
  refine dp_s1 hF (i := .aload_n 0) rfl (fun _ => rfl) ?_
  refine dp_s1 hF (i := .aload_n 0) rfl (fun _ => rfl) ?_
  refine dp_s1 hF (i := .getfield 24) rfl (fun _ => rfl) ?_
  refine dp_s1 hF (i := .iload_n 3) rfl (fun _ => rfl) ?_
  refine dp_s1 hF (i := .bipush 7) rfl (fun _ => rfl) ?_
  refine dp_s1 hF (i := .imul) rfl (fun _ => rfl) ?_
  refine dp_s1 hF (i := .iconst 3) rfl (fun _ => rfl) ?_
  refine dp_s1 hF (i := .iadd) rfl (fun _ => rfl) ?_
  refine dp_s3 hF (i := .iaload) rfl (fun _ => rfl) ?_
  refine dp_sv (mj := dp_m_X7_push) (i := .invokevirtual 177) rfl rfl rfl rfl (fun _ => rfl) (fun M6 => ?_)
  refine dp_s1w (v2 + (1 : Int32)) (fun (y7 : Int32) => (87, [some (.ref 68), some (.int v1), some (.int y7), some (.int r2)], [], M6)) hF (i := .iinc 2 1) rfl (fun _ => rfl) (fun y7 => ?_)
  refine dp_s1 hF (i := .goto (-75)) rfl (fun _ => rfl) ?_
  exact rfl
noncomputable def D_X7_push_0 (xs : Nat → Int32) (xl d : Nat) (v1 : Int32) (M : dp_M) : Option dp_Res := dp_lim true xs xl (dp_den true xs xl d) dp_m_X7_push (0, [some (.ref 68), some (.int v1)], [], M)
theorem D_X7_push_0_den (xs : Nat → Int32) (xl d : Nat) (a0 : Int32) (M : dp_M) : dp_den true xs xl (d + 1) 171 [.ref 68, .int a0] M = D_X7_push_0 xs xl d a0 M := rfl
set_option maxRecDepth 20000 in
theorem D_X7_push_0_eq (xs : Nat → Int32) (xl d : Nat) (v1 : Int32) (M : dp_M) : D_X7_push_0 xs xl d v1 M = if (Int32.ofNat 840) ≤ (dp_I M 68 13) then (some (.inl none, M)) else (if (dp_I M 68 13) < 0 ∨ 840 ≤ Int32.toNatClampNeg (dp_I M 68 13) then none else dp_w (dp_setI M 74 (Int32.toNatClampNeg (dp_I M 68 13)) v1) (fun M1 => dp_w (dp_setI M1 68 13 ((dp_I M1 68 13) + (1 : Int32))) (fun M2 => some (.inl none, M2)))) := by
  have hF := dp_den_grow (md := true) (xs := xs) (xl := xl) d
  unfold D_X7_push_0
  refine dp_s1 hF (i := .aload_n 0) rfl (fun _ => rfl) ?_
  refine dp_s1 hF (i := .getfield 174) rfl (fun _ => rfl) ?_
  refine dp_s1 hF (i := .aload_n 0) rfl (fun _ => rfl) ?_
  refine dp_s1 hF (i := .getfield 34) rfl (fun _ => rfl) ?_
  refine dp_s1 hF (i := .arraylength) rfl (fun _ => rfl) ?_
  refine dp_s2 hF (i := .if_icmp .ge 23) (a := (32, [some (.ref 68), some (.int v1)], [], M)) (b := (12, [some (.ref 68), some (.int v1)], [], M)) rfl (fun _ => rfl) ?_ ?_
  · exact dp_s0 hF (i := .return_) rfl (fun _ => rfl)
  refine dp_s1 hF (i := .aload_n 0) rfl (fun _ => rfl) ?_
  refine dp_s1 hF (i := .getfield 34) rfl (fun _ => rfl) ?_
  refine dp_s1 hF (i := .aload_n 0) rfl (fun _ => rfl) ?_
  refine dp_s1 hF (i := .getfield 174) rfl (fun _ => rfl) ?_
  refine dp_s1 hF (i := .iload_n 1) rfl (fun _ => rfl) ?_
  refine dp_s3w (dp_setI M 74 (Int32.toNatClampNeg (dp_I M 68 13)) v1) (fun (M1 : dp_M) => (22, [some (.ref 68), some (.int v1)], [], M1)) hF (i := .iastore) rfl (fun _ => rfl) (fun M1 => ?_)
  refine dp_s1 hF (i := .aload_n 0) rfl (fun _ => rfl) ?_
  refine dp_s1 hF (i := .dup) rfl (fun _ => rfl) ?_
  refine dp_s1 hF (i := .getfield 174) rfl (fun _ => rfl) ?_
  refine dp_s1 hF (i := .iconst 1) rfl (fun _ => rfl) ?_
  refine dp_s1 hF (i := .iadd) rfl (fun _ => rfl) ?_
  refine dp_s1w (dp_setI M1 68 13 ((dp_I M1 68 13) + (1 : Int32))) (fun (M2 : dp_M) => (32, [some (.ref 68), some (.int v1)], [], M2)) hF (i := .putfield 174) rfl (fun _ => rfl) (fun M2 => ?_)
  exact dp_s0 hF (i := .return_) rfl (fun _ => rfl)
noncomputable def D_X7_pop_0 (xs : Nat → Int32) (xl d : Nat)  (M : dp_M) : Option dp_Res := dp_lim true xs xl (dp_den true xs xl d) dp_m_X7_pop (0, [some (.ref 68)], [], M)
theorem D_X7_pop_0_den (xs : Nat → Int32) (xl d : Nat)  (M : dp_M) : dp_den true xs xl (d + 1) 172 [.ref 68] M = D_X7_pop_0 xs xl d  M := rfl
set_option maxRecDepth 20000 in
theorem D_X7_pop_0_eq (xs : Nat → Int32) (xl d : Nat)  (M : dp_M) : D_X7_pop_0 xs xl d  M = dp_w (dp_setI M 68 13 ((dp_I M 68 13) - (1 : Int32))) (fun M1 => if (dp_I M1 68 13) < 0 ∨ 840 ≤ Int32.toNatClampNeg (dp_I M1 68 13) then none else (some (.inl (some (.int (dp_I M1 74 (Int32.toNatClampNeg (dp_I M1 68 13))))), M1))) := by
  have hF := dp_den_grow (md := true) (xs := xs) (xl := xl) d
  unfold D_X7_pop_0
  refine dp_s1 hF (i := .aload_n 0) rfl (fun _ => rfl) ?_
  refine dp_s1 hF (i := .dup) rfl (fun _ => rfl) ?_
  refine dp_s1 hF (i := .getfield 174) rfl (fun _ => rfl) ?_
  refine dp_s1 hF (i := .iconst 1) rfl (fun _ => rfl) ?_
  refine dp_s1 hF (i := .isub) rfl (fun _ => rfl) ?_
  refine dp_s1w (dp_setI M 68 13 ((dp_I M 68 13) - (1 : Int32))) (fun (M1 : dp_M) => (10, [some (.ref 68)], [], M1)) hF (i := .putfield 174) rfl (fun _ => rfl) (fun M1 => ?_)
  refine dp_s1 hF (i := .aload_n 0) rfl (fun _ => rfl) ?_
  refine dp_s1 hF (i := .getfield 34) rfl (fun _ => rfl) ?_
  refine dp_s1 hF (i := .aload_n 0) rfl (fun _ => rfl) ?_
  refine dp_s1 hF (i := .getfield 174) rfl (fun _ => rfl) ?_
  refine dp_s3 hF (i := .iaload) rfl (fun _ => rfl) ?_
  exact dp_s0 hF (i := .ireturn) rfl (fun _ => rfl)
noncomputable def D_X7_printRate_0 (xs : Nat → Int32) (xl d : Nat) (p1 : Nat) (M : dp_M) : Option dp_Res := dp_lim true xs xl (dp_den true xs xl d) dp_m_X7_printRate (0, [some (.ref 68), some (.ref p1), none, none], [], M)
noncomputable def D_X7_printRate_17 (xs : Nat → Int32) (xl d : Nat) (p1 : Nat) (v2 : Int32) (M : dp_M) : Option dp_Res := dp_lim true xs xl (dp_den true xs xl d) dp_m_X7_printRate (17, [some (.ref 68), some (.ref p1), some (.int v2), none], [], M)
noncomputable def D_X7_printRate_17_a (xs : Nat → Int32) (xl d : Nat) (p1 : Nat) (v2 : Int32) (v3 : Int32) (M : dp_M) : Option dp_Res := dp_lim true xs xl (dp_den true xs xl d) dp_m_X7_printRate (17, [some (.ref 68), some (.ref p1), some (.int v2), some (.int v3)], [], M)
theorem D_X7_printRate_0_den (xs : Nat → Int32) (xl d : Nat) (a0 : Nat) (M : dp_M) : dp_den true xs xl (d + 1) 173 [.ref 68, .ref a0] M = D_X7_printRate_0 xs xl d a0 M := rfl
set_option maxRecDepth 20000 in
theorem D_X7_printRate_0_eq (xs : Nat → Int32) (xl d : Nat) (p1 : Nat) (M : dp_M) : D_X7_printRate_0 xs xl d p1 M = dp_w (dp_setI M 68 1 (0 : Int32)) (fun M1 => dp_w (dp_setI M1 68 13 (0 : Int32)) (fun M2 => dp_bv (dp_den true xs xl d 171 [.ref 68, .int (0 : Int32)] M2) (fun M3 => dp_w (0 : Int32) (fun y4 => D_X7_printRate_17 xs xl d p1 y4 M3)))) := by
  have hF := dp_den_grow (md := true) (xs := xs) (xl := xl) d
  unfold D_X7_printRate_0
  refine dp_s1 hF (i := .aload_n 0) rfl (fun _ => rfl) ?_
  refine dp_s1 hF (i := .iconst 0) rfl (fun _ => rfl) ?_
  refine dp_s1w (dp_setI M 68 1 (0 : Int32)) (fun (M1 : dp_M) => (5, [some (.ref 68), some (.ref p1), none, none], [], M1)) hF (i := .putfield 183) rfl (fun _ => rfl) (fun M1 => ?_)
  refine dp_s1 hF (i := .aload_n 0) rfl (fun _ => rfl) ?_
  refine dp_s1 hF (i := .iconst 0) rfl (fun _ => rfl) ?_
  refine dp_s1w (dp_setI M1 68 13 (0 : Int32)) (fun (M2 : dp_M) => (10, [some (.ref 68), some (.ref p1), none, none], [], M2)) hF (i := .putfield 174) rfl (fun _ => rfl) (fun M2 => ?_)
  refine dp_s1 hF (i := .aload_n 0) rfl (fun _ => rfl) ?_
  refine dp_s1 hF (i := .iconst 0) rfl (fun _ => rfl) ?_
  refine dp_sv (mj := dp_m_X7_push) (i := .invokevirtual 177) rfl rfl rfl rfl (fun _ => rfl) (fun M3 => ?_)
  refine dp_s1 hF (i := .iconst 0) rfl (fun _ => rfl) ?_
  refine dp_s1w (0 : Int32) (fun (y4 : Int32) => (17, [some (.ref 68), some (.ref p1), some (.int y4), none], [], M3)) hF (i := .istore_n 2) rfl (fun _ => rfl) (fun y4 => ?_)
  exact rfl
set_option maxRecDepth 20000 in
theorem D_X7_printRate_17_eq (xs : Nat → Int32) (xl d : Nat) (p1 : Nat) (v2 : Int32) (M : dp_M) : D_X7_printRate_17 xs xl d p1 v2 M = if (1024 : Int32) ≤ v2 then (some (.inl (some (.int (dp_I M 68 1))), M)) else (if (dp_I M 68 13) ≤ 0 then (some (.inl (some (.int (dp_I M 68 1))), M)) else (dp_bi (dp_den true xs xl d 172 [.ref 68] M) (fun r2 M1 => if 0 ≤ r2 then (dp_bv (dp_den true xs xl d 176 [.ref 68, .ref p1, .int r2] M1) (fun M3 => dp_w (v2 + (1 : Int32)) (fun y4 => D_X7_printRate_17_a xs xl d p1 y4 r2 M3))) else (dp_bv (dp_den true xs xl d 174 [.ref 68, .int (-r2)] M1) (fun M5 => dp_w (v2 + (1 : Int32)) (fun y6 => D_X7_printRate_17_a xs xl d p1 y6 r2 M5)))))) := by
  have hF := dp_den_grow (md := true) (xs := xs) (xl := xl) d
  unfold D_X7_printRate_17
  refine dp_s1 hF (i := .iload_n 2) rfl (fun _ => rfl) ?_
  refine dp_s1 hF (i := .sipush 1024) rfl (fun _ => rfl) ?_
  refine dp_s2 hF (i := .if_icmp .ge 40) (a := (61, [some (.ref 68), some (.ref p1), some (.int v2), none], [], M)) (b := (24, [some (.ref 68), some (.ref p1), some (.int v2), none], [], M)) rfl (fun _ => rfl) ?_ ?_
  · refine dp_s1 hF (i := .aload_n 0) rfl (fun _ => rfl) ?_
    refine dp_s1 hF (i := .getfield 183) rfl (fun _ => rfl) ?_
    exact dp_s0 hF (i := .ireturn) rfl (fun _ => rfl)
  refine dp_s1 hF (i := .aload_n 0) rfl (fun _ => rfl) ?_
  refine dp_s1 hF (i := .getfield 174) rfl (fun _ => rfl) ?_
  refine dp_s2 hF (i := .ifCond .le 33) (a := (61, [some (.ref 68), some (.ref p1), some (.int v2), none], [], M)) (b := (31, [some (.ref 68), some (.ref p1), some (.int v2), none], [], M)) rfl (fun _ => rfl) ?_ ?_
  · refine dp_s1 hF (i := .aload_n 0) rfl (fun _ => rfl) ?_
    refine dp_s1 hF (i := .getfield 183) rfl (fun _ => rfl) ?_
    exact dp_s0 hF (i := .ireturn) rfl (fun _ => rfl)
  refine dp_s1 hF (i := .aload_n 0) rfl (fun _ => rfl) ?_
  refine dp_si (mj := dp_m_X7_pop) (i := .invokevirtual 180) rfl rfl (Or.inl rfl) rfl (fun _ => rfl) (fun r2 M1 => ?_)
  refine dp_s1 hF (i := .istore_n 3) rfl (fun _ => rfl) ?_
  refine dp_s1 hF (i := .iload_n 3) rfl (fun _ => rfl) ?_
  refine dp_s2 hF (i := .ifCond .ge 12) (a := (49, [some (.ref 68), some (.ref p1), some (.int v2), some (.int r2)], [], M1)) (b := (40, [some (.ref 68), some (.ref p1), some (.int v2), some (.int r2)], [], M1)) rfl (fun _ => rfl) ?_ ?_
  · refine dp_s1 hF (i := .aload_n 0) rfl (fun _ => rfl) ?_
    refine dp_s1 hF (i := .aload_n 1) rfl (fun _ => rfl) ?_
    refine dp_s1 hF (i := .iload_n 3) rfl (fun _ => rfl) ?_
    refine dp_sv (mj := dp_m_X7_printNode) (i := .invokevirtual 189) rfl rfl rfl rfl (fun _ => rfl) (fun M3 => ?_)
    refine dp_s1w (v2 + (1 : Int32)) (fun (y4 : Int32) => (58, [some (.ref 68), some (.ref p1), some (.int y4), some (.int r2)], [], M3)) hF (i := .iinc 2 1) rfl (fun _ => rfl) (fun y4 => ?_)
    refine dp_s1 hF (i := .goto (-41)) rfl (fun _ => rfl) ?_
    exact rfl
  refine dp_s1 hF (i := .aload_n 0) rfl (fun _ => rfl) ?_
  refine dp_s1 hF (i := .iload_n 3) rfl (fun _ => rfl) ?_
  refine dp_s1 hF (i := .ineg) rfl (fun _ => rfl) ?_
  refine dp_sv (mj := dp_m_X7_addSign) (i := .invokevirtual 186) rfl rfl rfl rfl (fun _ => rfl) (fun M5 => ?_)
  refine dp_s1 hF (i := .goto 9) rfl (fun _ => rfl) ?_
  refine dp_s1w (v2 + (1 : Int32)) (fun (y6 : Int32) => (58, [some (.ref 68), some (.ref p1), some (.int y6), some (.int r2)], [], M5)) hF (i := .iinc 2 1) rfl (fun _ => rfl) (fun y6 => ?_)
  refine dp_s1 hF (i := .goto (-41)) rfl (fun _ => rfl) ?_
  exact rfl
set_option maxRecDepth 20000 in
theorem D_X7_printRate_17_a_eq (xs : Nat → Int32) (xl d : Nat) (p1 : Nat) (v2 : Int32) (v3 : Int32) (M : dp_M) : D_X7_printRate_17_a xs xl d p1 v2 v3 M = if (1024 : Int32) ≤ v2 then (some (.inl (some (.int (dp_I M 68 1))), M)) else (if (dp_I M 68 13) ≤ 0 then (some (.inl (some (.int (dp_I M 68 1))), M)) else (dp_bi (dp_den true xs xl d 172 [.ref 68] M) (fun r2 M1 => if 0 ≤ r2 then (dp_bv (dp_den true xs xl d 176 [.ref 68, .ref p1, .int r2] M1) (fun M3 => dp_w (v2 + (1 : Int32)) (fun y4 => D_X7_printRate_17_a xs xl d p1 y4 r2 M3))) else (dp_bv (dp_den true xs xl d 174 [.ref 68, .int (-r2)] M1) (fun M5 => dp_w (v2 + (1 : Int32)) (fun y6 => D_X7_printRate_17_a xs xl d p1 y6 r2 M5)))))) := by
  have hF := dp_den_grow (md := true) (xs := xs) (xl := xl) d
  unfold D_X7_printRate_17_a
  refine dp_s1 hF (i := .iload_n 2) rfl (fun _ => rfl) ?_
  refine dp_s1 hF (i := .sipush 1024) rfl (fun _ => rfl) ?_
  refine dp_s2 hF (i := .if_icmp .ge 40) (a := (61, [some (.ref 68), some (.ref p1), some (.int v2), some (.int v3)], [], M)) (b := (24, [some (.ref 68), some (.ref p1), some (.int v2), some (.int v3)], [], M)) rfl (fun _ => rfl) ?_ ?_
  · refine dp_s1 hF (i := .aload_n 0) rfl (fun _ => rfl) ?_
    refine dp_s1 hF (i := .getfield 183) rfl (fun _ => rfl) ?_
    exact dp_s0 hF (i := .ireturn) rfl (fun _ => rfl)
  refine dp_s1 hF (i := .aload_n 0) rfl (fun _ => rfl) ?_
  refine dp_s1 hF (i := .getfield 174) rfl (fun _ => rfl) ?_
  refine dp_s2 hF (i := .ifCond .le 33) (a := (61, [some (.ref 68), some (.ref p1), some (.int v2), some (.int v3)], [], M)) (b := (31, [some (.ref 68), some (.ref p1), some (.int v2), some (.int v3)], [], M)) rfl (fun _ => rfl) ?_ ?_
  · refine dp_s1 hF (i := .aload_n 0) rfl (fun _ => rfl) ?_
    refine dp_s1 hF (i := .getfield 183) rfl (fun _ => rfl) ?_
    exact dp_s0 hF (i := .ireturn) rfl (fun _ => rfl)
  refine dp_s1 hF (i := .aload_n 0) rfl (fun _ => rfl) ?_
  refine dp_si (mj := dp_m_X7_pop) (i := .invokevirtual 180) rfl rfl (Or.inl rfl) rfl (fun _ => rfl) (fun r2 M1 => ?_)
  refine dp_s1 hF (i := .istore_n 3) rfl (fun _ => rfl) ?_
  refine dp_s1 hF (i := .iload_n 3) rfl (fun _ => rfl) ?_
  refine dp_s2 hF (i := .ifCond .ge 12) (a := (49, [some (.ref 68), some (.ref p1), some (.int v2), some (.int r2)], [], M1)) (b := (40, [some (.ref 68), some (.ref p1), some (.int v2), some (.int r2)], [], M1)) rfl (fun _ => rfl) ?_ ?_
  · refine dp_s1 hF (i := .aload_n 0) rfl (fun _ => rfl) ?_
    refine dp_s1 hF (i := .aload_n 1) rfl (fun _ => rfl) ?_
    refine dp_s1 hF (i := .iload_n 3) rfl (fun _ => rfl) ?_
    refine dp_sv (mj := dp_m_X7_printNode) (i := .invokevirtual 189) rfl rfl rfl rfl (fun _ => rfl) (fun M3 => ?_)
    refine dp_s1w (v2 + (1 : Int32)) (fun (y4 : Int32) => (58, [some (.ref 68), some (.ref p1), some (.int y4), some (.int r2)], [], M3)) hF (i := .iinc 2 1) rfl (fun _ => rfl) (fun y4 => ?_)
    refine dp_s1 hF (i := .goto (-41)) rfl (fun _ => rfl) ?_
    exact rfl
  refine dp_s1 hF (i := .aload_n 0) rfl (fun _ => rfl) ?_
  refine dp_s1 hF (i := .iload_n 3) rfl (fun _ => rfl) ?_
  refine dp_s1 hF (i := .ineg) rfl (fun _ => rfl) ?_
  refine dp_sv (mj := dp_m_X7_addSign) (i := .invokevirtual 186) rfl rfl rfl rfl (fun _ => rfl) (fun M5 => ?_)
  refine dp_s1 hF (i := .goto 9) rfl (fun _ => rfl) ?_
  refine dp_s1w (v2 + (1 : Int32)) (fun (y6 : Int32) => (58, [some (.ref 68), some (.ref p1), some (.int y6), some (.int r2)], [], M5)) hF (i := .iinc 2 1) rfl (fun _ => rfl) (fun y6 => ?_)
  refine dp_s1 hF (i := .goto (-41)) rfl (fun _ => rfl) ?_
  exact rfl
noncomputable def D_X7_addSign_0 (xs : Nat → Int32) (xl d : Nat) (v1 : Int32) (M : dp_M) : Option dp_Res := dp_lim true xs xl (dp_den true xs xl d) dp_m_X7_addSign (0, [some (.ref 68), some (.int v1)], [], M)
theorem D_X7_addSign_0_den (xs : Nat → Int32) (xl d : Nat) (a0 : Int32) (M : dp_M) : dp_den true xs xl (d + 1) 174 [.ref 68, .int a0] M = D_X7_addSign_0 xs xl d a0 M := rfl
set_option maxRecDepth 20000 in
theorem D_X7_addSign_0_eq (xs : Nat → Int32) (xl d : Nat) (v1 : Int32) (M : dp_M) : D_X7_addSign_0 xs xl d v1 M = if (1024 : Int32) ≤ (dp_I M 68 1) then (some (.inl none, M)) else (if (dp_I M 68 1) < 0 ∨ 1024 ≤ Int32.toNatClampNeg (dp_I M 68 1) then none else dp_w (dp_setI M 69 (Int32.toNatClampNeg (dp_I M 68 1)) ((Int32.toUInt32 ((Int32.toUInt32 v1 % 65536).toInt32)).toUInt16.toUInt32.toInt32)) (fun M1 => dp_w (dp_setI M1 68 1 ((dp_I M1 68 1) + (1 : Int32))) (fun M2 => some (.inl none, M2)))) := by
  have hF := dp_den_grow (md := true) (xs := xs) (xl := xl) d
  unfold D_X7_addSign_0
  refine dp_s1 hF (i := .aload_n 0) rfl (fun _ => rfl) ?_
  refine dp_s1 hF (i := .getfield 183) rfl (fun _ => rfl) ?_
  refine dp_s1 hF (i := .sipush 1024) rfl (fun _ => rfl) ?_
  refine dp_s2 hF (i := .if_icmp .ge 24) (a := (31, [some (.ref 68), some (.int v1)], [], M)) (b := (10, [some (.ref 68), some (.int v1)], [], M)) rfl (fun _ => rfl) ?_ ?_
  · exact dp_s0 hF (i := .return_) rfl (fun _ => rfl)
  refine dp_s1 hF (i := .aload_n 0) rfl (fun _ => rfl) ?_
  refine dp_s1 hF (i := .getfield 15) rfl (fun _ => rfl) ?_
  refine dp_s1 hF (i := .aload_n 0) rfl (fun _ => rfl) ?_
  refine dp_s1 hF (i := .getfield 183) rfl (fun _ => rfl) ?_
  refine dp_s1 hF (i := .iload_n 1) rfl (fun _ => rfl) ?_
  refine dp_s1 hF (i := .i2c) rfl (fun _ => rfl) ?_
  refine dp_s3w (dp_setI M 69 (Int32.toNatClampNeg (dp_I M 68 1)) ((Int32.toUInt32 ((Int32.toUInt32 v1 % 65536).toInt32)).toUInt16.toUInt32.toInt32)) (fun (M1 : dp_M) => (21, [some (.ref 68), some (.int v1)], [], M1)) hF (i := .castore) rfl (fun _ => rfl) (fun M1 => ?_)
  refine dp_s1 hF (i := .aload_n 0) rfl (fun _ => rfl) ?_
  refine dp_s1 hF (i := .dup) rfl (fun _ => rfl) ?_
  refine dp_s1 hF (i := .getfield 183) rfl (fun _ => rfl) ?_
  refine dp_s1 hF (i := .iconst 1) rfl (fun _ => rfl) ?_
  refine dp_s1 hF (i := .iadd) rfl (fun _ => rfl) ?_
  refine dp_s1w (dp_setI M1 68 1 ((dp_I M1 68 1) + (1 : Int32))) (fun (M2 : dp_M) => (31, [some (.ref 68), some (.int v1)], [], M2)) hF (i := .putfield 183) rfl (fun _ => rfl) (fun M2 => ?_)
  exact dp_s0 hF (i := .return_) rfl (fun _ => rfl)
noncomputable def D_X7_addWord_0 (xs : Nat → Int32) (xl d : Nat)  (M : dp_M) : Option dp_Res := dp_lim true xs xl (dp_den true xs xl d) dp_m_X7_addWord (0, [some (.ref 68), some (.retAddr 22), none], [], M)
noncomputable def D_X7_addWord_0_a (xs : Nat → Int32) (xl d : Nat)  (M : dp_M) : Option dp_Res := dp_lim true xs xl (dp_den true xs xl d) dp_m_X7_addWord (0, [some (.ref 68), some (.retAddr 28), none], [], M)
noncomputable def D_X7_addWord_0_b (xs : Nat → Int32) (xl d : Nat)  (M : dp_M) : Option dp_Res := dp_lim true xs xl (dp_den true xs xl d) dp_m_X7_addWord (0, [some (.ref 68), some (.retAddr 29), none], [], M)
noncomputable def D_X7_addWord_0_c (xs : Nat → Int32) (xl d : Nat)  (M : dp_M) : Option dp_Res := dp_lim true xs xl (dp_den true xs xl d) dp_m_X7_addWord (0, [some (.ref 68), some (.retAddr 30), none], [], M)
noncomputable def D_X7_addWord_0_d (xs : Nat → Int32) (xl d : Nat)  (M : dp_M) : Option dp_Res := dp_lim true xs xl (dp_den true xs xl d) dp_m_X7_addWord (0, [some (.ref 68), some (.retAddr 31), none], [], M)
noncomputable def D_X7_addWord_0_e (xs : Nat → Int32) (xl d : Nat)  (M : dp_M) : Option dp_Res := dp_lim true xs xl (dp_den true xs xl d) dp_m_X7_addWord (0, [some (.ref 68), some (.retAddr 32), none], [], M)
noncomputable def D_X7_addWord_2 (xs : Nat → Int32) (xl d : Nat) (v2 : Int32) (M : dp_M) : Option dp_Res := dp_lim true xs xl (dp_den true xs xl d) dp_m_X7_addWord (2, [some (.ref 68), some (.retAddr 22), some (.int v2)], [], M)
noncomputable def D_X7_addWord_2_a (xs : Nat → Int32) (xl d : Nat) (v2 : Int32) (M : dp_M) : Option dp_Res := dp_lim true xs xl (dp_den true xs xl d) dp_m_X7_addWord (2, [some (.ref 68), some (.retAddr 28), some (.int v2)], [], M)
noncomputable def D_X7_addWord_2_b (xs : Nat → Int32) (xl d : Nat) (v2 : Int32) (M : dp_M) : Option dp_Res := dp_lim true xs xl (dp_den true xs xl d) dp_m_X7_addWord (2, [some (.ref 68), some (.retAddr 29), some (.int v2)], [], M)
noncomputable def D_X7_addWord_2_c (xs : Nat → Int32) (xl d : Nat) (v2 : Int32) (M : dp_M) : Option dp_Res := dp_lim true xs xl (dp_den true xs xl d) dp_m_X7_addWord (2, [some (.ref 68), some (.retAddr 30), some (.int v2)], [], M)
noncomputable def D_X7_addWord_2_d (xs : Nat → Int32) (xl d : Nat) (v2 : Int32) (M : dp_M) : Option dp_Res := dp_lim true xs xl (dp_den true xs xl d) dp_m_X7_addWord (2, [some (.ref 68), some (.retAddr 31), some (.int v2)], [], M)
noncomputable def D_X7_addWord_2_e (xs : Nat → Int32) (xl d : Nat) (v2 : Int32) (M : dp_M) : Option dp_Res := dp_lim true xs xl (dp_den true xs xl d) dp_m_X7_addWord (2, [some (.ref 68), some (.retAddr 32), some (.int v2)], [], M)
theorem D_X7_addWord_0_den (xs : Nat → Int32) (xl d : Nat)  (M : dp_M) : dp_den true xs xl (d + 1) 175 [.ref 68, .retAddr 22] M = D_X7_addWord_0 xs xl d  M := rfl
theorem D_X7_addWord_0_a_den (xs : Nat → Int32) (xl d : Nat)  (M : dp_M) : dp_den true xs xl (d + 1) 175 [.ref 68, .retAddr 28] M = D_X7_addWord_0_a xs xl d  M := rfl
theorem D_X7_addWord_0_b_den (xs : Nat → Int32) (xl d : Nat)  (M : dp_M) : dp_den true xs xl (d + 1) 175 [.ref 68, .retAddr 29] M = D_X7_addWord_0_b xs xl d  M := rfl
theorem D_X7_addWord_0_c_den (xs : Nat → Int32) (xl d : Nat)  (M : dp_M) : dp_den true xs xl (d + 1) 175 [.ref 68, .retAddr 30] M = D_X7_addWord_0_c xs xl d  M := rfl
theorem D_X7_addWord_0_d_den (xs : Nat → Int32) (xl d : Nat)  (M : dp_M) : dp_den true xs xl (d + 1) 175 [.ref 68, .retAddr 31] M = D_X7_addWord_0_d xs xl d  M := rfl
theorem D_X7_addWord_0_e_den (xs : Nat → Int32) (xl d : Nat)  (M : dp_M) : dp_den true xs xl (d + 1) 175 [.ref 68, .retAddr 32] M = D_X7_addWord_0_e xs xl d  M := rfl
set_option maxRecDepth 20000 in
theorem D_X7_addWord_0_eq (xs : Nat → Int32) (xl d : Nat)  (M : dp_M) : D_X7_addWord_0 xs xl d  M = dp_w (0 : Int32) (fun y1 => D_X7_addWord_2 xs xl d y1 M) := by
  have hF := dp_den_grow (md := true) (xs := xs) (xl := xl) d
  unfold D_X7_addWord_0
  refine dp_s1 hF (i := .iconst 0) rfl (fun _ => rfl) ?_
  refine dp_s1w (0 : Int32) (fun (y1 : Int32) => (2, [some (.ref 68), some (.retAddr 22), some (.int y1)], [], M)) hF (i := .istore_n 2) rfl (fun _ => rfl) (fun y1 => ?_)
  exact rfl
set_option maxRecDepth 20000 in
theorem D_X7_addWord_0_a_eq (xs : Nat → Int32) (xl d : Nat)  (M : dp_M) : D_X7_addWord_0_a xs xl d  M = dp_w (0 : Int32) (fun y1 => D_X7_addWord_2_a xs xl d y1 M) := by
  have hF := dp_den_grow (md := true) (xs := xs) (xl := xl) d
  unfold D_X7_addWord_0_a
  refine dp_s1 hF (i := .iconst 0) rfl (fun _ => rfl) ?_
  refine dp_s1w (0 : Int32) (fun (y1 : Int32) => (2, [some (.ref 68), some (.retAddr 28), some (.int y1)], [], M)) hF (i := .istore_n 2) rfl (fun _ => rfl) (fun y1 => ?_)
  exact rfl
set_option maxRecDepth 20000 in
theorem D_X7_addWord_0_b_eq (xs : Nat → Int32) (xl d : Nat)  (M : dp_M) : D_X7_addWord_0_b xs xl d  M = dp_w (0 : Int32) (fun y1 => D_X7_addWord_2_b xs xl d y1 M) := by
  have hF := dp_den_grow (md := true) (xs := xs) (xl := xl) d
  unfold D_X7_addWord_0_b
  refine dp_s1 hF (i := .iconst 0) rfl (fun _ => rfl) ?_
  refine dp_s1w (0 : Int32) (fun (y1 : Int32) => (2, [some (.ref 68), some (.retAddr 29), some (.int y1)], [], M)) hF (i := .istore_n 2) rfl (fun _ => rfl) (fun y1 => ?_)
  exact rfl
set_option maxRecDepth 20000 in
theorem D_X7_addWord_0_c_eq (xs : Nat → Int32) (xl d : Nat)  (M : dp_M) : D_X7_addWord_0_c xs xl d  M = dp_w (0 : Int32) (fun y1 => D_X7_addWord_2_c xs xl d y1 M) := by
  have hF := dp_den_grow (md := true) (xs := xs) (xl := xl) d
  unfold D_X7_addWord_0_c
  refine dp_s1 hF (i := .iconst 0) rfl (fun _ => rfl) ?_
  refine dp_s1w (0 : Int32) (fun (y1 : Int32) => (2, [some (.ref 68), some (.retAddr 30), some (.int y1)], [], M)) hF (i := .istore_n 2) rfl (fun _ => rfl) (fun y1 => ?_)
  exact rfl
set_option maxRecDepth 20000 in
theorem D_X7_addWord_0_d_eq (xs : Nat → Int32) (xl d : Nat)  (M : dp_M) : D_X7_addWord_0_d xs xl d  M = dp_w (0 : Int32) (fun y1 => D_X7_addWord_2_d xs xl d y1 M) := by
  have hF := dp_den_grow (md := true) (xs := xs) (xl := xl) d
  unfold D_X7_addWord_0_d
  refine dp_s1 hF (i := .iconst 0) rfl (fun _ => rfl) ?_
  refine dp_s1w (0 : Int32) (fun (y1 : Int32) => (2, [some (.ref 68), some (.retAddr 31), some (.int y1)], [], M)) hF (i := .istore_n 2) rfl (fun _ => rfl) (fun y1 => ?_)
  exact rfl
set_option maxRecDepth 20000 in
theorem D_X7_addWord_0_e_eq (xs : Nat → Int32) (xl d : Nat)  (M : dp_M) : D_X7_addWord_0_e xs xl d  M = dp_w (0 : Int32) (fun y1 => D_X7_addWord_2_e xs xl d y1 M) := by
  have hF := dp_den_grow (md := true) (xs := xs) (xl := xl) d
  unfold D_X7_addWord_0_e
  refine dp_s1 hF (i := .iconst 0) rfl (fun _ => rfl) ?_
  refine dp_s1w (0 : Int32) (fun (y1 : Int32) => (2, [some (.ref 68), some (.retAddr 32), some (.int y1)], [], M)) hF (i := .istore_n 2) rfl (fun _ => rfl) (fun y1 => ?_)
  exact rfl
set_option maxRecDepth 20000 in
theorem D_X7_addWord_2_eq (xs : Nat → Int32) (xl d : Nat) (v2 : Int32) (M : dp_M) : D_X7_addWord_2 xs xl d v2 M = if (4 : Int32) ≤ v2 then (some (.inl none, M)) else (if v2 < 0 ∨ 4 ≤ Int32.toNatClampNeg v2 then none else (dp_bv (dp_den true xs xl d 174 [.ref 68, .int (List.getD (dp_sc 22) (Int32.toNatClampNeg v2) 0)] M) (fun M1 => dp_w (v2 + (1 : Int32)) (fun y2 => D_X7_addWord_2 xs xl d y2 M1)))) := by
  have hF := dp_den_grow (md := true) (xs := xs) (xl := xl) d
  unfold D_X7_addWord_2
  refine dp_s1 hF (i := .iload_n 2) rfl (fun _ => rfl) ?_
  refine dp_s1 hF (i := .aload_n 1) rfl (fun _ => rfl) ?_
  refine dp_s1 hF (i := .invokevirtual 125) rfl (fun _ => rfl) ?_
  refine dp_s2 hF (i := .if_icmp .ge 18) (a := (25, [some (.ref 68), some (.retAddr 22), some (.int v2)], [], M)) (b := (10, [some (.ref 68), some (.retAddr 22), some (.int v2)], [], M)) rfl (fun _ => rfl) ?_ ?_
  · exact dp_s0 hF (i := .return_) rfl (fun _ => rfl)
  refine dp_s1 hF (i := .aload_n 0) rfl (fun _ => rfl) ?_
  refine dp_s1 hF (i := .aload_n 1) rfl (fun _ => rfl) ?_
  refine dp_s1 hF (i := .iload_n 2) rfl (fun _ => rfl) ?_
  refine dp_s3 hF (i := .invokevirtual 130) rfl (fun _ => rfl) ?_
  refine dp_sv (mj := dp_m_X7_addSign) (i := .invokevirtual 186) rfl rfl rfl rfl (fun _ => rfl) (fun M1 => ?_)
  refine dp_s1w (v2 + (1 : Int32)) (fun (y2 : Int32) => (22, [some (.ref 68), some (.retAddr 22), some (.int y2)], [], M1)) hF (i := .iinc 2 1) rfl (fun _ => rfl) (fun y2 => ?_)
  refine dp_s1 hF (i := .goto (-20)) rfl (fun _ => rfl) ?_
  exact rfl
set_option maxRecDepth 20000 in
theorem D_X7_addWord_2_a_eq (xs : Nat → Int32) (xl d : Nat) (v2 : Int32) (M : dp_M) : D_X7_addWord_2_a xs xl d v2 M = if (5 : Int32) ≤ v2 then (some (.inl none, M)) else (if v2 < 0 ∨ 5 ≤ Int32.toNatClampNeg v2 then none else (dp_bv (dp_den true xs xl d 174 [.ref 68, .int (List.getD (dp_sc 28) (Int32.toNatClampNeg v2) 0)] M) (fun M1 => dp_w (v2 + (1 : Int32)) (fun y2 => D_X7_addWord_2_a xs xl d y2 M1)))) := by
  have hF := dp_den_grow (md := true) (xs := xs) (xl := xl) d
  unfold D_X7_addWord_2_a
  refine dp_s1 hF (i := .iload_n 2) rfl (fun _ => rfl) ?_
  refine dp_s1 hF (i := .aload_n 1) rfl (fun _ => rfl) ?_
  refine dp_s1 hF (i := .invokevirtual 125) rfl (fun _ => rfl) ?_
  refine dp_s2 hF (i := .if_icmp .ge 18) (a := (25, [some (.ref 68), some (.retAddr 28), some (.int v2)], [], M)) (b := (10, [some (.ref 68), some (.retAddr 28), some (.int v2)], [], M)) rfl (fun _ => rfl) ?_ ?_
  · exact dp_s0 hF (i := .return_) rfl (fun _ => rfl)
  refine dp_s1 hF (i := .aload_n 0) rfl (fun _ => rfl) ?_
  refine dp_s1 hF (i := .aload_n 1) rfl (fun _ => rfl) ?_
  refine dp_s1 hF (i := .iload_n 2) rfl (fun _ => rfl) ?_
  refine dp_s3 hF (i := .invokevirtual 130) rfl (fun _ => rfl) ?_
  refine dp_sv (mj := dp_m_X7_addSign) (i := .invokevirtual 186) rfl rfl rfl rfl (fun _ => rfl) (fun M1 => ?_)
  refine dp_s1w (v2 + (1 : Int32)) (fun (y2 : Int32) => (22, [some (.ref 68), some (.retAddr 28), some (.int y2)], [], M1)) hF (i := .iinc 2 1) rfl (fun _ => rfl) (fun y2 => ?_)
  refine dp_s1 hF (i := .goto (-20)) rfl (fun _ => rfl) ?_
  exact rfl
set_option maxRecDepth 20000 in
theorem D_X7_addWord_2_b_eq (xs : Nat → Int32) (xl d : Nat) (v2 : Int32) (M : dp_M) : D_X7_addWord_2_b xs xl d v2 M = if (1 : Int32) ≤ v2 then (some (.inl none, M)) else (if v2 < 0 ∨ 1 ≤ Int32.toNatClampNeg v2 then none else (dp_bv (dp_den true xs xl d 174 [.ref 68, .int (List.getD (dp_sc 29) (Int32.toNatClampNeg v2) 0)] M) (fun M1 => dp_w (v2 + (1 : Int32)) (fun y2 => D_X7_addWord_2_b xs xl d y2 M1)))) := by
  have hF := dp_den_grow (md := true) (xs := xs) (xl := xl) d
  unfold D_X7_addWord_2_b
  refine dp_s1 hF (i := .iload_n 2) rfl (fun _ => rfl) ?_
  refine dp_s1 hF (i := .aload_n 1) rfl (fun _ => rfl) ?_
  refine dp_s1 hF (i := .invokevirtual 125) rfl (fun _ => rfl) ?_
  refine dp_s2 hF (i := .if_icmp .ge 18) (a := (25, [some (.ref 68), some (.retAddr 29), some (.int v2)], [], M)) (b := (10, [some (.ref 68), some (.retAddr 29), some (.int v2)], [], M)) rfl (fun _ => rfl) ?_ ?_
  · exact dp_s0 hF (i := .return_) rfl (fun _ => rfl)
  refine dp_s1 hF (i := .aload_n 0) rfl (fun _ => rfl) ?_
  refine dp_s1 hF (i := .aload_n 1) rfl (fun _ => rfl) ?_
  refine dp_s1 hF (i := .iload_n 2) rfl (fun _ => rfl) ?_
  refine dp_s3 hF (i := .invokevirtual 130) rfl (fun _ => rfl) ?_
  refine dp_sv (mj := dp_m_X7_addSign) (i := .invokevirtual 186) rfl rfl rfl rfl (fun _ => rfl) (fun M1 => ?_)
  refine dp_s1w (v2 + (1 : Int32)) (fun (y2 : Int32) => (22, [some (.ref 68), some (.retAddr 29), some (.int y2)], [], M1)) hF (i := .iinc 2 1) rfl (fun _ => rfl) (fun y2 => ?_)
  refine dp_s1 hF (i := .goto (-20)) rfl (fun _ => rfl) ?_
  exact rfl
set_option maxRecDepth 20000 in
theorem D_X7_addWord_2_c_eq (xs : Nat → Int32) (xl d : Nat) (v2 : Int32) (M : dp_M) : D_X7_addWord_2_c xs xl d v2 M = if (2 : Int32) ≤ v2 then (some (.inl none, M)) else (if v2 < 0 ∨ 2 ≤ Int32.toNatClampNeg v2 then none else (dp_bv (dp_den true xs xl d 174 [.ref 68, .int (List.getD (dp_sc 30) (Int32.toNatClampNeg v2) 0)] M) (fun M1 => dp_w (v2 + (1 : Int32)) (fun y2 => D_X7_addWord_2_c xs xl d y2 M1)))) := by
  have hF := dp_den_grow (md := true) (xs := xs) (xl := xl) d
  unfold D_X7_addWord_2_c
  refine dp_s1 hF (i := .iload_n 2) rfl (fun _ => rfl) ?_
  refine dp_s1 hF (i := .aload_n 1) rfl (fun _ => rfl) ?_
  refine dp_s1 hF (i := .invokevirtual 125) rfl (fun _ => rfl) ?_
  refine dp_s2 hF (i := .if_icmp .ge 18) (a := (25, [some (.ref 68), some (.retAddr 30), some (.int v2)], [], M)) (b := (10, [some (.ref 68), some (.retAddr 30), some (.int v2)], [], M)) rfl (fun _ => rfl) ?_ ?_
  · exact dp_s0 hF (i := .return_) rfl (fun _ => rfl)
  refine dp_s1 hF (i := .aload_n 0) rfl (fun _ => rfl) ?_
  refine dp_s1 hF (i := .aload_n 1) rfl (fun _ => rfl) ?_
  refine dp_s1 hF (i := .iload_n 2) rfl (fun _ => rfl) ?_
  refine dp_s3 hF (i := .invokevirtual 130) rfl (fun _ => rfl) ?_
  refine dp_sv (mj := dp_m_X7_addSign) (i := .invokevirtual 186) rfl rfl rfl rfl (fun _ => rfl) (fun M1 => ?_)
  refine dp_s1w (v2 + (1 : Int32)) (fun (y2 : Int32) => (22, [some (.ref 68), some (.retAddr 30), some (.int y2)], [], M1)) hF (i := .iinc 2 1) rfl (fun _ => rfl) (fun y2 => ?_)
  refine dp_s1 hF (i := .goto (-20)) rfl (fun _ => rfl) ?_
  exact rfl
set_option maxRecDepth 20000 in
theorem D_X7_addWord_2_d_eq (xs : Nat → Int32) (xl d : Nat) (v2 : Int32) (M : dp_M) : D_X7_addWord_2_d xs xl d v2 M = if (4 : Int32) ≤ v2 then (some (.inl none, M)) else (if v2 < 0 ∨ 4 ≤ Int32.toNatClampNeg v2 then none else (dp_bv (dp_den true xs xl d 174 [.ref 68, .int (List.getD (dp_sc 31) (Int32.toNatClampNeg v2) 0)] M) (fun M1 => dp_w (v2 + (1 : Int32)) (fun y2 => D_X7_addWord_2_d xs xl d y2 M1)))) := by
  have hF := dp_den_grow (md := true) (xs := xs) (xl := xl) d
  unfold D_X7_addWord_2_d
  refine dp_s1 hF (i := .iload_n 2) rfl (fun _ => rfl) ?_
  refine dp_s1 hF (i := .aload_n 1) rfl (fun _ => rfl) ?_
  refine dp_s1 hF (i := .invokevirtual 125) rfl (fun _ => rfl) ?_
  refine dp_s2 hF (i := .if_icmp .ge 18) (a := (25, [some (.ref 68), some (.retAddr 31), some (.int v2)], [], M)) (b := (10, [some (.ref 68), some (.retAddr 31), some (.int v2)], [], M)) rfl (fun _ => rfl) ?_ ?_
  · exact dp_s0 hF (i := .return_) rfl (fun _ => rfl)
  refine dp_s1 hF (i := .aload_n 0) rfl (fun _ => rfl) ?_
  refine dp_s1 hF (i := .aload_n 1) rfl (fun _ => rfl) ?_
  refine dp_s1 hF (i := .iload_n 2) rfl (fun _ => rfl) ?_
  refine dp_s3 hF (i := .invokevirtual 130) rfl (fun _ => rfl) ?_
  refine dp_sv (mj := dp_m_X7_addSign) (i := .invokevirtual 186) rfl rfl rfl rfl (fun _ => rfl) (fun M1 => ?_)
  refine dp_s1w (v2 + (1 : Int32)) (fun (y2 : Int32) => (22, [some (.ref 68), some (.retAddr 31), some (.int y2)], [], M1)) hF (i := .iinc 2 1) rfl (fun _ => rfl) (fun y2 => ?_)
  refine dp_s1 hF (i := .goto (-20)) rfl (fun _ => rfl) ?_
  exact rfl
set_option maxRecDepth 20000 in
theorem D_X7_addWord_2_e_eq (xs : Nat → Int32) (xl d : Nat) (v2 : Int32) (M : dp_M) : D_X7_addWord_2_e xs xl d v2 M = if (4 : Int32) ≤ v2 then (some (.inl none, M)) else (if v2 < 0 ∨ 4 ≤ Int32.toNatClampNeg v2 then none else (dp_bv (dp_den true xs xl d 174 [.ref 68, .int (List.getD (dp_sc 32) (Int32.toNatClampNeg v2) 0)] M) (fun M1 => dp_w (v2 + (1 : Int32)) (fun y2 => D_X7_addWord_2_e xs xl d y2 M1)))) := by
  have hF := dp_den_grow (md := true) (xs := xs) (xl := xl) d
  unfold D_X7_addWord_2_e
  refine dp_s1 hF (i := .iload_n 2) rfl (fun _ => rfl) ?_
  refine dp_s1 hF (i := .aload_n 1) rfl (fun _ => rfl) ?_
  refine dp_s1 hF (i := .invokevirtual 125) rfl (fun _ => rfl) ?_
  refine dp_s2 hF (i := .if_icmp .ge 18) (a := (25, [some (.ref 68), some (.retAddr 32), some (.int v2)], [], M)) (b := (10, [some (.ref 68), some (.retAddr 32), some (.int v2)], [], M)) rfl (fun _ => rfl) ?_ ?_
  · exact dp_s0 hF (i := .return_) rfl (fun _ => rfl)
  refine dp_s1 hF (i := .aload_n 0) rfl (fun _ => rfl) ?_
  refine dp_s1 hF (i := .aload_n 1) rfl (fun _ => rfl) ?_
  refine dp_s1 hF (i := .iload_n 2) rfl (fun _ => rfl) ?_
  refine dp_s3 hF (i := .invokevirtual 130) rfl (fun _ => rfl) ?_
  refine dp_sv (mj := dp_m_X7_addSign) (i := .invokevirtual 186) rfl rfl rfl rfl (fun _ => rfl) (fun M1 => ?_)
  refine dp_s1w (v2 + (1 : Int32)) (fun (y2 : Int32) => (22, [some (.ref 68), some (.retAddr 32), some (.int y2)], [], M1)) hF (i := .iinc 2 1) rfl (fun _ => rfl) (fun y2 => ?_)
  refine dp_s1 hF (i := .goto (-20)) rfl (fun _ => rfl) ?_
  exact rfl
noncomputable def D_X7_printNode_0 (xs : Nat → Int32) (xl d : Nat) (p1 : Nat) (v2 : Int32) (M : dp_M) : Option dp_Res := dp_lim true xs xl (dp_den true xs xl d) dp_m_X7_printNode (0, [some (.ref 68), some (.ref p1), some (.int v2)], [], M)
theorem D_X7_printNode_0_den (xs : Nat → Int32) (xl d : Nat) (a0 : Nat) (a1 : Int32) (M : dp_M) : dp_den true xs xl (d + 1) 176 [.ref 68, .ref a0, .int a1] M = D_X7_printNode_0 xs xl d a0 a1 M := rfl
set_option maxRecDepth 20000 in
theorem D_X7_printNode_0_eq (xs : Nat → Int32) (xl d : Nat) (p1 : Nat) (v2 : Int32) (M : dp_M) : D_X7_printNode_0 xs xl d p1 v2 M = if dp_t true M p1 = 16 then dp_bi (dp_den true xs xl d 136 [.ref p1, .int v2] M) (fun r2 M1 => if r2 = (0 : Int32) then (dp_bv (dp_den true xs xl d 175 [.ref 68, .retAddr 22] M1) (fun M4 => some (.inl none, M4))) else if r2 = (1 : Int32) then (if dp_t true M1 p1 = 16 then dp_bi (dp_den true xs xl d 135 [.ref p1, .int v2, .int (1 : Int32)] M1) (fun r6 M5 => dp_bv (dp_den true xs xl d 180 [.ref 68, .int r6] M5) (fun M7 => dp_bv (dp_den true xs xl d 174 [.ref 68, .int (37 : Int32)] M7) (fun M8 => some (.inl none, M8)))) else none) else if r2 = (2 : Int32) then (if dp_t true M1 p1 = 16 then dp_bi (dp_den true xs xl d 135 [.ref p1, .int v2, .int (1 : Int32)] M1) (fun r10 M9 => dp_bv (dp_den true xs xl d 180 [.ref 68, .int r10] M9) (fun M11 => dp_bv (dp_den true xs xl d 174 [.ref 68, .int (47 : Int32)] M11) (fun M12 => if dp_t true M12 p1 = 16 then dp_bi (dp_den true xs xl d 135 [.ref p1, .int v2, .int (2 : Int32)] M12) (fun r14 M13 => dp_bv (dp_den true xs xl d 174 [.ref 68, .int ((65 : Int32) + r14)] M13) (fun M15 => some (.inl none, M15))) else none))) else none) else if r2 = (3 : Int32) then (dp_bv (dp_den true xs xl d 177 [.ref 68, .ref p1, .int v2] M1) (fun M16 => some (.inl none, M16))) else if r2 = (4 : Int32) then (dp_bv (dp_den true xs xl d 177 [.ref 68, .ref p1, .int v2] M1) (fun M17 => some (.inl none, M17))) else if r2 = (5 : Int32) then (dp_bv (dp_den true xs xl d 178 [.ref 68, .ref p1, .int v2] M1) (fun M18 => some (.inl none, M18))) else if r2 = (6 : Int32) then (dp_bv (dp_den true xs xl d 178 [.ref 68, .ref p1, .int v2] M1) (fun M19 => some (.inl none, M19))) else if r2 = (7 : Int32) then (dp_bv (dp_den true xs xl d 179 [.ref 68, .ref p1, .int v2] M1) (fun M20 => some (.inl none, M20))) else (dp_bv (dp_den true xs xl d 178 [.ref 68, .ref p1, .int v2] M1) (fun M3 => some (.inl none, M3)))) else none := by
  have hF := dp_den_grow (md := true) (xs := xs) (xl := xl) d
  unfold D_X7_printNode_0
  refine dp_s1 hF (i := .aload_n 1) rfl (fun _ => rfl) ?_
  refine dp_s1 hF (i := .iload_n 2) rfl (fun _ => rfl) ?_
  refine dp_si4 (mj := dp_m_X6_kindOf) (i := .invokevirtual 193) rfl rfl (Or.inl rfl) rfl (fun _ => rfl) (fun r2 M1 => ?_)
  refine (dp_s (E := fun k => if r2 = (0 : Int32) then k (52, [some (.ref 68), some (.ref p1), some (.int v2)], [], M1) else if r2 = (1 : Int32) then k (61, [some (.ref 68), some (.ref p1), some (.int v2)], [], M1) else if r2 = (2 : Int32) then k (80, [some (.ref 68), some (.ref p1), some (.int v2)], [], M1) else if r2 = (3 : Int32) then k (112, [some (.ref 68), some (.ref p1), some (.int v2)], [], M1) else if r2 = (4 : Int32) then k (112, [some (.ref 68), some (.ref p1), some (.int v2)], [], M1) else if r2 = (5 : Int32) then k (130, [some (.ref 68), some (.ref p1), some (.int v2)], [], M1) else if r2 = (6 : Int32) then k (130, [some (.ref 68), some (.ref p1), some (.int v2)], [], M1) else if r2 = (7 : Int32) then k (121, [some (.ref 68), some (.ref p1), some (.int v2)], [], M1) else k (130, [some (.ref 68), some (.ref p1), some (.int v2)], [], M1)) hF (i := .tableswitch 125 0 7 #[47, 56, 75, 107, 107, 125, 125, 116]) rfl (fun _ => rfl)).trans ?_
  refine dp_ifc ?_ ?_
  · refine dp_s1 hF (i := .aload_n 0) rfl (fun _ => rfl) ?_
    refine dp_s1 hF (i := .ldc 100) rfl (fun _ => rfl) ?_
    refine dp_sv (mj := dp_m_X7_addWord) (i := .invokevirtual 196) rfl rfl rfl rfl (fun _ => rfl) (fun M4 => ?_)
    refine dp_s1 hF (i := .goto 78) rfl (fun _ => rfl) ?_
    exact dp_s0 hF (i := .return_) rfl (fun _ => rfl)
  refine dp_ifc ?_ ?_
  · refine dp_s1 hF (i := .aload_n 0) rfl (fun _ => rfl) ?_
    refine dp_s1 hF (i := .aload_n 1) rfl (fun _ => rfl) ?_
    refine dp_s1 hF (i := .iload_n 2) rfl (fun _ => rfl) ?_
    refine dp_s1 hF (i := .iconst 1) rfl (fun _ => rfl) ?_
    refine dp_si4 (mj := dp_m_X6_fact) (i := .invokevirtual 200) rfl rfl (Or.inl rfl) rfl (fun _ => rfl) (fun r6 M5 => ?_)
    refine dp_sv (mj := dp_m_X7_printNumber) (i := .invokevirtual 203) rfl rfl rfl rfl (fun _ => rfl) (fun M7 => ?_)
    refine dp_s1 hF (i := .aload_n 0) rfl (fun _ => rfl) ?_
    refine dp_s1 hF (i := .bipush 37) rfl (fun _ => rfl) ?_
    refine dp_sv (mj := dp_m_X7_addSign) (i := .invokevirtual 186) rfl rfl rfl rfl (fun _ => rfl) (fun M8 => ?_)
    refine dp_s1 hF (i := .goto 59) rfl (fun _ => rfl) ?_
    exact dp_s0 hF (i := .return_) rfl (fun _ => rfl)
  refine dp_ifc ?_ ?_
  · refine dp_s1 hF (i := .aload_n 0) rfl (fun _ => rfl) ?_
    refine dp_s1 hF (i := .aload_n 1) rfl (fun _ => rfl) ?_
    refine dp_s1 hF (i := .iload_n 2) rfl (fun _ => rfl) ?_
    refine dp_s1 hF (i := .iconst 1) rfl (fun _ => rfl) ?_
    refine dp_si4 (mj := dp_m_X6_fact) (i := .invokevirtual 200) rfl rfl (Or.inl rfl) rfl (fun _ => rfl) (fun r10 M9 => ?_)
    refine dp_sv (mj := dp_m_X7_printNumber) (i := .invokevirtual 203) rfl rfl rfl rfl (fun _ => rfl) (fun M11 => ?_)
    refine dp_s1 hF (i := .aload_n 0) rfl (fun _ => rfl) ?_
    refine dp_s1 hF (i := .bipush 47) rfl (fun _ => rfl) ?_
    refine dp_sv (mj := dp_m_X7_addSign) (i := .invokevirtual 186) rfl rfl rfl rfl (fun _ => rfl) (fun M12 => ?_)
    refine dp_s1 hF (i := .aload_n 0) rfl (fun _ => rfl) ?_
    refine dp_s1 hF (i := .bipush 65) rfl (fun _ => rfl) ?_
    refine dp_s1 hF (i := .aload_n 1) rfl (fun _ => rfl) ?_
    refine dp_s1 hF (i := .iload_n 2) rfl (fun _ => rfl) ?_
    refine dp_s1 hF (i := .iconst 2) rfl (fun _ => rfl) ?_
    refine dp_si4 (mj := dp_m_X6_fact) (i := .invokevirtual 200) rfl rfl (Or.inl rfl) rfl (fun _ => rfl) (fun r14 M13 => ?_)
    refine dp_s1 hF (i := .iadd) rfl (fun _ => rfl) ?_
    refine dp_sv (mj := dp_m_X7_addSign) (i := .invokevirtual 186) rfl rfl rfl rfl (fun _ => rfl) (fun M15 => ?_)
    refine dp_s1 hF (i := .goto 27) rfl (fun _ => rfl) ?_
    exact dp_s0 hF (i := .return_) rfl (fun _ => rfl)
  refine dp_ifc ?_ ?_
  · refine dp_s1 hF (i := .aload_n 0) rfl (fun _ => rfl) ?_
    refine dp_s1 hF (i := .aload_n 1) rfl (fun _ => rfl) ?_
    refine dp_s1 hF (i := .iload_n 2) rfl (fun _ => rfl) ?_
    refine dp_sv (mj := dp_m_X7_stackJoined) (i := .invokevirtual 206) rfl rfl rfl rfl (fun _ => rfl) (fun M16 => ?_)
    refine dp_s1 hF (i := .goto 18) rfl (fun _ => rfl) ?_
    exact dp_s0 hF (i := .return_) rfl (fun _ => rfl)
  refine dp_ifc ?_ ?_
  · refine dp_s1 hF (i := .aload_n 0) rfl (fun _ => rfl) ?_
    refine dp_s1 hF (i := .aload_n 1) rfl (fun _ => rfl) ?_
    refine dp_s1 hF (i := .iload_n 2) rfl (fun _ => rfl) ?_
    refine dp_sv (mj := dp_m_X7_stackJoined) (i := .invokevirtual 206) rfl rfl rfl rfl (fun _ => rfl) (fun M17 => ?_)
    refine dp_s1 hF (i := .goto 18) rfl (fun _ => rfl) ?_
    exact dp_s0 hF (i := .return_) rfl (fun _ => rfl)
  refine dp_ifc ?_ ?_
  · refine dp_s1 hF (i := .aload_n 0) rfl (fun _ => rfl) ?_
    refine dp_s1 hF (i := .aload_n 1) rfl (fun _ => rfl) ?_
    refine dp_s1 hF (i := .iload_n 2) rfl (fun _ => rfl) ?_
    refine dp_sv (mj := dp_m_X7_stackPair) (i := .invokevirtual 212) rfl rfl rfl rfl (fun _ => rfl) (fun M18 => ?_)
    exact dp_s0 hF (i := .return_) rfl (fun _ => rfl)
  refine dp_ifc ?_ ?_
  · refine dp_s1 hF (i := .aload_n 0) rfl (fun _ => rfl) ?_
    refine dp_s1 hF (i := .aload_n 1) rfl (fun _ => rfl) ?_
    refine dp_s1 hF (i := .iload_n 2) rfl (fun _ => rfl) ?_
    refine dp_sv (mj := dp_m_X7_stackPair) (i := .invokevirtual 212) rfl rfl rfl rfl (fun _ => rfl) (fun M19 => ?_)
    exact dp_s0 hF (i := .return_) rfl (fun _ => rfl)
  refine dp_ifc ?_ ?_
  · refine dp_s1 hF (i := .aload_n 0) rfl (fun _ => rfl) ?_
    refine dp_s1 hF (i := .aload_n 1) rfl (fun _ => rfl) ?_
    refine dp_s1 hF (i := .iload_n 2) rfl (fun _ => rfl) ?_
    refine dp_sv (mj := dp_m_X7_printSteps) (i := .invokevirtual 209) rfl rfl rfl rfl (fun _ => rfl) (fun M20 => ?_)
    refine dp_s1 hF (i := .goto 9) rfl (fun _ => rfl) ?_
    exact dp_s0 hF (i := .return_) rfl (fun _ => rfl)
  refine dp_s1 hF (i := .aload_n 0) rfl (fun _ => rfl) ?_
  refine dp_s1 hF (i := .aload_n 1) rfl (fun _ => rfl) ?_
  refine dp_s1 hF (i := .iload_n 2) rfl (fun _ => rfl) ?_
  refine dp_sv (mj := dp_m_X7_stackPair) (i := .invokevirtual 212) rfl rfl rfl rfl (fun _ => rfl) (fun M3 => ?_)
  exact dp_s0 hF (i := .return_) rfl (fun _ => rfl)
noncomputable def D_X7_stackJoined_0 (xs : Nat → Int32) (xl d : Nat) (p1 : Nat) (v2 : Int32) (M : dp_M) : Option dp_Res := dp_lim true xs xl (dp_den true xs xl d) dp_m_X7_stackJoined (0, [some (.ref 68), some (.ref p1), some (.int v2), none, none], [], M)
noncomputable def D_X7_stackJoined_30 (xs : Nat → Int32) (xl d : Nat) (p1 : Nat) (v2 : Int32) (v3 : Int32) (vs0 : Int32) (M : dp_M) : Option dp_Res := dp_lim true xs xl (dp_den true xs xl d) dp_m_X7_stackJoined (30, [some (.ref 68), some (.ref p1), some (.int v2), some (.int v3), none], [.int vs0], M)
noncomputable def D_X7_stackJoined_59 (xs : Nat → Int32) (xl d : Nat) (p1 : Nat) (v2 : Int32) (v3 : Int32) (v4 : Int32) (M : dp_M) : Option dp_Res := dp_lim true xs xl (dp_den true xs xl d) dp_m_X7_stackJoined (59, [some (.ref 68), some (.ref p1), some (.int v2), some (.int v3), some (.int v4)], [], M)
theorem D_X7_stackJoined_0_den (xs : Nat → Int32) (xl d : Nat) (a0 : Nat) (a1 : Int32) (M : dp_M) : dp_den true xs xl (d + 1) 177 [.ref 68, .ref a0, .int a1] M = D_X7_stackJoined_0 xs xl d a0 a1 M := rfl
set_option maxRecDepth 20000 in
theorem D_X7_stackJoined_0_eq (xs : Nat → Int32) (xl d : Nat) (p1 : Nat) (v2 : Int32) (M : dp_M) : D_X7_stackJoined_0 xs xl d p1 v2 M = if dp_t true M p1 = 16 then dp_bi (dp_den true xs xl d 135 [.ref p1, .int v2, .int (4 : Int32)] M) (fun r2 M1 => if dp_t true M1 p1 = 16 then dp_bi (dp_den true xs xl d 136 [.ref p1, .int r2] M1) (fun r4 M3 => if r4 = (3 : Int32) then (D_X7_stackJoined_30 xs xl d p1 v2 r2 (1 : Int32) M3) else (if dp_t true M3 p1 = 16 then dp_bi (dp_den true xs xl d 136 [.ref p1, .int r2] M3) (fun r6 M5 => if r6 = (4 : Int32) then (D_X7_stackJoined_30 xs xl d p1 v2 r2 (1 : Int32) M5) else (D_X7_stackJoined_30 xs xl d p1 v2 r2 (0 : Int32) M5)) else none)) else none) else none := by
  have hF := dp_den_grow (md := true) (xs := xs) (xl := xl) d
  unfold D_X7_stackJoined_0
  refine dp_s1 hF (i := .aload_n 1) rfl (fun _ => rfl) ?_
  refine dp_s1 hF (i := .iload_n 2) rfl (fun _ => rfl) ?_
  refine dp_s1 hF (i := .iconst 4) rfl (fun _ => rfl) ?_
  refine dp_si4 (mj := dp_m_X6_fact) (i := .invokevirtual 200) rfl rfl (Or.inl rfl) rfl (fun _ => rfl) (fun r2 M1 => ?_)
  refine dp_s1 hF (i := .istore_n 3) rfl (fun _ => rfl) ?_
  refine dp_s1 hF (i := .aload_n 1) rfl (fun _ => rfl) ?_
  refine dp_s1 hF (i := .iload_n 3) rfl (fun _ => rfl) ?_
  refine dp_si4 (mj := dp_m_X6_kindOf) (i := .invokevirtual 193) rfl rfl (Or.inl rfl) rfl (fun _ => rfl) (fun r4 M3 => ?_)
  refine dp_s1 hF (i := .iconst 3) rfl (fun _ => rfl) ?_
  refine dp_s2 hF (i := .if_icmp .eq 12) (a := (25, [some (.ref 68), some (.ref p1), some (.int v2), some (.int r2), none], [], M3)) (b := (16, [some (.ref 68), some (.ref p1), some (.int v2), some (.int r2), none], [], M3)) rfl (fun _ => rfl) ?_ ?_
  · refine dp_s1 hF (i := .iconst 1) rfl (fun _ => rfl) ?_
    refine dp_s1 hF (i := .goto 4) rfl (fun _ => rfl) ?_
    exact rfl
  refine dp_s1 hF (i := .aload_n 1) rfl (fun _ => rfl) ?_
  refine dp_s1 hF (i := .iload_n 3) rfl (fun _ => rfl) ?_
  refine dp_si4 (mj := dp_m_X6_kindOf) (i := .invokevirtual 193) rfl rfl (Or.inl rfl) rfl (fun _ => rfl) (fun r6 M5 => ?_)
  refine dp_s1 hF (i := .iconst 4) rfl (fun _ => rfl) ?_
  refine dp_s2 hF (i := .if_icmp .ne 7) (a := (25, [some (.ref 68), some (.ref p1), some (.int v2), some (.int r2), none], [], M5)) (b := (29, [some (.ref 68), some (.ref p1), some (.int v2), some (.int r2), none], [], M5)) rfl (fun _ => rfl) ?_ ?_
  · refine dp_s1 hF (i := .iconst 1) rfl (fun _ => rfl) ?_
    refine dp_s1 hF (i := .goto 4) rfl (fun _ => rfl) ?_
    exact rfl
  refine dp_s1 hF (i := .iconst 0) rfl (fun _ => rfl) ?_
  exact rfl
set_option maxRecDepth 20000 in
theorem D_X7_stackJoined_30_eq (xs : Nat → Int32) (xl d : Nat) (p1 : Nat) (v2 : Int32) (v3 : Int32) (vs0 : Int32) (M : dp_M) : D_X7_stackJoined_30 xs xl d p1 v2 v3 vs0 M = if vs0 = 0 then (dp_bv (dp_den true xs xl d 171 [.ref 68, .int v3] M) (fun M1 => if vs0 = 0 then (D_X7_stackJoined_59 xs xl d p1 v2 v3 vs0 M1) else (dp_bv (dp_den true xs xl d 171 [.ref 68, .int (-40 : Int32)] M1) (fun M2 => D_X7_stackJoined_59 xs xl d p1 v2 v3 vs0 M2)))) else (dp_bv (dp_den true xs xl d 171 [.ref 68, .int (-41 : Int32)] M) (fun M3 => dp_bv (dp_den true xs xl d 171 [.ref 68, .int v3] M3) (fun M4 => if vs0 = 0 then (D_X7_stackJoined_59 xs xl d p1 v2 v3 vs0 M4) else (dp_bv (dp_den true xs xl d 171 [.ref 68, .int (-40 : Int32)] M4) (fun M5 => D_X7_stackJoined_59 xs xl d p1 v2 v3 vs0 M5))))) := by
  have hF := dp_den_grow (md := true) (xs := xs) (xl := xl) d
  unfold D_X7_stackJoined_30
  refine dp_s1 hF (i := .istore 4) rfl (fun _ => rfl) ?_
  refine dp_s1 hF (i := .iload 4) rfl (fun _ => rfl) ?_
  refine dp_s2 hF (i := .ifCond .eq 9) (a := (43, [some (.ref 68), some (.ref p1), some (.int v2), some (.int v3), some (.int vs0)], [], M)) (b := (37, [some (.ref 68), some (.ref p1), some (.int v2), some (.int v3), some (.int vs0)], [], M)) rfl (fun _ => rfl) ?_ ?_
  · refine dp_s1 hF (i := .aload_n 0) rfl (fun _ => rfl) ?_
    refine dp_s1 hF (i := .iload_n 3) rfl (fun _ => rfl) ?_
    refine dp_sv (mj := dp_m_X7_push) (i := .invokevirtual 177) rfl rfl rfl rfl (fun _ => rfl) (fun M1 => ?_)
    refine dp_s1 hF (i := .iload 4) rfl (fun _ => rfl) ?_
    refine dp_s2 hF (i := .ifCond .eq 9) (a := (59, [some (.ref 68), some (.ref p1), some (.int v2), some (.int v3), some (.int vs0)], [], M1)) (b := (53, [some (.ref 68), some (.ref p1), some (.int v2), some (.int v3), some (.int vs0)], [], M1)) rfl (fun _ => rfl) ?_ ?_
    · exact rfl
    refine dp_s1 hF (i := .aload_n 0) rfl (fun _ => rfl) ?_
    refine dp_s1 hF (i := .bipush (-40)) rfl (fun _ => rfl) ?_
    refine dp_sv (mj := dp_m_X7_push) (i := .invokevirtual 177) rfl rfl rfl rfl (fun _ => rfl) (fun M2 => ?_)
    exact rfl
  refine dp_s1 hF (i := .aload_n 0) rfl (fun _ => rfl) ?_
  refine dp_s1 hF (i := .bipush (-41)) rfl (fun _ => rfl) ?_
  refine dp_sv (mj := dp_m_X7_push) (i := .invokevirtual 177) rfl rfl rfl rfl (fun _ => rfl) (fun M3 => ?_)
  refine dp_s1 hF (i := .aload_n 0) rfl (fun _ => rfl) ?_
  refine dp_s1 hF (i := .iload_n 3) rfl (fun _ => rfl) ?_
  refine dp_sv (mj := dp_m_X7_push) (i := .invokevirtual 177) rfl rfl rfl rfl (fun _ => rfl) (fun M4 => ?_)
  refine dp_s1 hF (i := .iload 4) rfl (fun _ => rfl) ?_
  refine dp_s2 hF (i := .ifCond .eq 9) (a := (59, [some (.ref 68), some (.ref p1), some (.int v2), some (.int v3), some (.int vs0)], [], M4)) (b := (53, [some (.ref 68), some (.ref p1), some (.int v2), some (.int v3), some (.int vs0)], [], M4)) rfl (fun _ => rfl) ?_ ?_
  · exact rfl
  refine dp_s1 hF (i := .aload_n 0) rfl (fun _ => rfl) ?_
  refine dp_s1 hF (i := .bipush (-40)) rfl (fun _ => rfl) ?_
  refine dp_sv (mj := dp_m_X7_push) (i := .invokevirtual 177) rfl rfl rfl rfl (fun _ => rfl) (fun M5 => ?_)
  exact rfl
set_option maxRecDepth 20000 in
theorem D_X7_stackJoined_59_eq (xs : Nat → Int32) (xl d : Nat) (p1 : Nat) (v2 : Int32) (v3 : Int32) (v4 : Int32) (M : dp_M) : D_X7_stackJoined_59 xs xl d p1 v2 v3 v4 M = dp_bv (dp_den true xs xl d 171 [.ref 68, .int (-32 : Int32)] M) (fun M1 => if dp_t true M1 p1 = 16 then dp_bi (dp_den true xs xl d 136 [.ref p1, .int v2] M1) (fun r3 M2 => if r3 = (3 : Int32) then (dp_bv (dp_den true xs xl d 171 [.ref 68, .int (-43 : Int32)] M2) (fun M4 => dp_bv (dp_den true xs xl d 171 [.ref 68, .int (-32 : Int32)] M4) (fun M5 => if dp_t true M5 p1 = 16 then dp_bi (dp_den true xs xl d 135 [.ref p1, .int v2, .int (3 : Int32)] M5) (fun r7 M6 => dp_bv (dp_den true xs xl d 171 [.ref 68, .int r7] M6) (fun M8 => some (.inl none, M8))) else none))) else (dp_bv (dp_den true xs xl d 171 [.ref 68, .int (-45 : Int32)] M2) (fun M9 => dp_bv (dp_den true xs xl d 171 [.ref 68, .int (-32 : Int32)] M9) (fun M10 => if dp_t true M10 p1 = 16 then dp_bi (dp_den true xs xl d 135 [.ref p1, .int v2, .int (3 : Int32)] M10) (fun r12 M11 => dp_bv (dp_den true xs xl d 171 [.ref 68, .int r12] M11) (fun M13 => some (.inl none, M13))) else none)))) else none) := by
  have hF := dp_den_grow (md := true) (xs := xs) (xl := xl) d
  unfold D_X7_stackJoined_59
  refine dp_s1 hF (i := .aload_n 0) rfl (fun _ => rfl) ?_
  refine dp_s1 hF (i := .bipush (-32)) rfl (fun _ => rfl) ?_
  refine dp_sv (mj := dp_m_X7_push) (i := .invokevirtual 177) rfl rfl rfl rfl (fun _ => rfl) (fun M1 => ?_)
  refine dp_s1 hF (i := .aload_n 0) rfl (fun _ => rfl) ?_
  refine dp_s1 hF (i := .aload_n 1) rfl (fun _ => rfl) ?_
  refine dp_s1 hF (i := .iload_n 2) rfl (fun _ => rfl) ?_
  refine dp_si4 (mj := dp_m_X6_kindOf) (i := .invokevirtual 193) rfl rfl (Or.inl rfl) rfl (fun _ => rfl) (fun r3 M2 => ?_)
  refine dp_s1 hF (i := .iconst 3) rfl (fun _ => rfl) ?_
  refine dp_s2 hF (i := .if_icmp .ne 8) (a := (75, [some (.ref 68), some (.ref p1), some (.int v2), some (.int v3), some (.int v4)], [.ref 68], M2)) (b := (80, [some (.ref 68), some (.ref p1), some (.int v2), some (.int v3), some (.int v4)], [.ref 68], M2)) rfl (fun _ => rfl) ?_ ?_
  · refine dp_s1 hF (i := .bipush (-43)) rfl (fun _ => rfl) ?_
    refine dp_s1 hF (i := .goto 5) rfl (fun _ => rfl) ?_
    refine dp_sv (mj := dp_m_X7_push) (i := .invokevirtual 177) rfl rfl rfl rfl (fun _ => rfl) (fun M4 => ?_)
    refine dp_s1 hF (i := .aload_n 0) rfl (fun _ => rfl) ?_
    refine dp_s1 hF (i := .bipush (-32)) rfl (fun _ => rfl) ?_
    refine dp_sv (mj := dp_m_X7_push) (i := .invokevirtual 177) rfl rfl rfl rfl (fun _ => rfl) (fun M5 => ?_)
    refine dp_s1 hF (i := .aload_n 0) rfl (fun _ => rfl) ?_
    refine dp_s1 hF (i := .aload_n 1) rfl (fun _ => rfl) ?_
    refine dp_s1 hF (i := .iload_n 2) rfl (fun _ => rfl) ?_
    refine dp_s1 hF (i := .iconst 3) rfl (fun _ => rfl) ?_
    refine dp_si4 (mj := dp_m_X6_fact) (i := .invokevirtual 200) rfl rfl (Or.inl rfl) rfl (fun _ => rfl) (fun r7 M6 => ?_)
    refine dp_sv (mj := dp_m_X7_push) (i := .invokevirtual 177) rfl rfl rfl rfl (fun _ => rfl) (fun M8 => ?_)
    exact dp_s0 hF (i := .return_) rfl (fun _ => rfl)
  refine dp_s1 hF (i := .bipush (-45)) rfl (fun _ => rfl) ?_
  refine dp_sv (mj := dp_m_X7_push) (i := .invokevirtual 177) rfl rfl rfl rfl (fun _ => rfl) (fun M9 => ?_)
  refine dp_s1 hF (i := .aload_n 0) rfl (fun _ => rfl) ?_
  refine dp_s1 hF (i := .bipush (-32)) rfl (fun _ => rfl) ?_
  refine dp_sv (mj := dp_m_X7_push) (i := .invokevirtual 177) rfl rfl rfl rfl (fun _ => rfl) (fun M10 => ?_)
  refine dp_s1 hF (i := .aload_n 0) rfl (fun _ => rfl) ?_
  refine dp_s1 hF (i := .aload_n 1) rfl (fun _ => rfl) ?_
  refine dp_s1 hF (i := .iload_n 2) rfl (fun _ => rfl) ?_
  refine dp_s1 hF (i := .iconst 3) rfl (fun _ => rfl) ?_
  refine dp_si4 (mj := dp_m_X6_fact) (i := .invokevirtual 200) rfl rfl (Or.inl rfl) rfl (fun _ => rfl) (fun r12 M11 => ?_)
  refine dp_sv (mj := dp_m_X7_push) (i := .invokevirtual 177) rfl rfl rfl rfl (fun _ => rfl) (fun M13 => ?_)
  exact dp_s0 hF (i := .return_) rfl (fun _ => rfl)
noncomputable def D_X7_stackPair_0 (xs : Nat → Int32) (xl d : Nat) (p1 : Nat) (v2 : Int32) (M : dp_M) : Option dp_Res := dp_lim true xs xl (dp_den true xs xl d) dp_m_X7_stackPair (0, [some (.ref 68), some (.ref p1), some (.int v2)], [], M)
noncomputable def D_X7_stackPair_17 (xs : Nat → Int32) (xl d : Nat) (p1 : Nat) (v2 : Int32) (M : dp_M) : Option dp_Res := dp_lim true xs xl (dp_den true xs xl d) dp_m_X7_stackPair (17, [some (.ref 68), some (.ref p1), some (.int v2)], [.retAddr 31, .ref 68], M)
noncomputable def D_X7_stackPair_17_a (xs : Nat → Int32) (xl d : Nat) (p1 : Nat) (v2 : Int32) (M : dp_M) : Option dp_Res := dp_lim true xs xl (dp_den true xs xl d) dp_m_X7_stackPair (17, [some (.ref 68), some (.ref p1), some (.int v2)], [.retAddr 32, .ref 68], M)
theorem D_X7_stackPair_0_den (xs : Nat → Int32) (xl d : Nat) (a0 : Nat) (a1 : Int32) (M : dp_M) : dp_den true xs xl (d + 1) 178 [.ref 68, .ref a0, .int a1] M = D_X7_stackPair_0 xs xl d a0 a1 M := rfl
set_option maxRecDepth 20000 in
theorem D_X7_stackPair_0_eq (xs : Nat → Int32) (xl d : Nat) (p1 : Nat) (v2 : Int32) (M : dp_M) : D_X7_stackPair_0 xs xl d p1 v2 M = if dp_t true M p1 = 16 then dp_bi (dp_den true xs xl d 136 [.ref p1, .int v2] M) (fun r2 M1 => if r2 = (5 : Int32) then (D_X7_stackPair_17 xs xl d p1 v2 M1) else (D_X7_stackPair_17_a xs xl d p1 v2 M1)) else none := by
  have hF := dp_den_grow (md := true) (xs := xs) (xl := xl) d
  unfold D_X7_stackPair_0
  refine dp_s1 hF (i := .aload_n 0) rfl (fun _ => rfl) ?_
  refine dp_s1 hF (i := .aload_n 1) rfl (fun _ => rfl) ?_
  refine dp_s1 hF (i := .iload_n 2) rfl (fun _ => rfl) ?_
  refine dp_si4 (mj := dp_m_X6_kindOf) (i := .invokevirtual 193) rfl rfl (Or.inl rfl) rfl (fun _ => rfl) (fun r2 M1 => ?_)
  refine dp_s1 hF (i := .iconst 5) rfl (fun _ => rfl) ?_
  refine dp_s2 hF (i := .if_icmp .ne 8) (a := (10, [some (.ref 68), some (.ref p1), some (.int v2)], [.ref 68], M1)) (b := (15, [some (.ref 68), some (.ref p1), some (.int v2)], [.ref 68], M1)) rfl (fun _ => rfl) ?_ ?_
  · refine dp_s1 hF (i := .ldc 215) rfl (fun _ => rfl) ?_
    refine dp_s1 hF (i := .goto 5) rfl (fun _ => rfl) ?_
    exact rfl
  refine dp_s1 hF (i := .ldc 217) rfl (fun _ => rfl) ?_
  exact rfl
set_option maxRecDepth 20000 in
theorem D_X7_stackPair_17_eq (xs : Nat → Int32) (xl d : Nat) (p1 : Nat) (v2 : Int32) (M : dp_M) : D_X7_stackPair_17 xs xl d p1 v2 M = dp_bv (dp_den true xs xl d 175 [.ref 68, .retAddr 31] M) (fun M1 => dp_bv (dp_den true xs xl d 171 [.ref 68, .int (-41 : Int32)] M1) (fun M2 => if dp_t true M2 p1 = 16 then dp_bi (dp_den true xs xl d 135 [.ref p1, .int v2, .int (4 : Int32)] M2) (fun r4 M3 => dp_bv (dp_den true xs xl d 171 [.ref 68, .int r4] M3) (fun M5 => dp_bv (dp_den true xs xl d 171 [.ref 68, .int (-32 : Int32)] M5) (fun M6 => dp_bv (dp_den true xs xl d 171 [.ref 68, .int (-44 : Int32)] M6) (fun M7 => if dp_t true M7 p1 = 16 then dp_bi (dp_den true xs xl d 135 [.ref p1, .int v2, .int (3 : Int32)] M7) (fun r9 M8 => dp_bv (dp_den true xs xl d 171 [.ref 68, .int r9] M8) (fun M10 => some (.inl none, M10))) else none)))) else none)) := by
  have hF := dp_den_grow (md := true) (xs := xs) (xl := xl) d
  unfold D_X7_stackPair_17
  refine dp_sv (mj := dp_m_X7_addWord) (i := .invokevirtual 196) rfl rfl rfl rfl (fun _ => rfl) (fun M1 => ?_)
  refine dp_s1 hF (i := .aload_n 0) rfl (fun _ => rfl) ?_
  refine dp_s1 hF (i := .bipush (-41)) rfl (fun _ => rfl) ?_
  refine dp_sv (mj := dp_m_X7_push) (i := .invokevirtual 177) rfl rfl rfl rfl (fun _ => rfl) (fun M2 => ?_)
  refine dp_s1 hF (i := .aload_n 0) rfl (fun _ => rfl) ?_
  refine dp_s1 hF (i := .aload_n 1) rfl (fun _ => rfl) ?_
  refine dp_s1 hF (i := .iload_n 2) rfl (fun _ => rfl) ?_
  refine dp_s1 hF (i := .iconst 4) rfl (fun _ => rfl) ?_
  refine dp_si4 (mj := dp_m_X6_fact) (i := .invokevirtual 200) rfl rfl (Or.inl rfl) rfl (fun _ => rfl) (fun r4 M3 => ?_)
  refine dp_sv (mj := dp_m_X7_push) (i := .invokevirtual 177) rfl rfl rfl rfl (fun _ => rfl) (fun M5 => ?_)
  refine dp_s1 hF (i := .aload_n 0) rfl (fun _ => rfl) ?_
  refine dp_s1 hF (i := .bipush (-32)) rfl (fun _ => rfl) ?_
  refine dp_sv (mj := dp_m_X7_push) (i := .invokevirtual 177) rfl rfl rfl rfl (fun _ => rfl) (fun M6 => ?_)
  refine dp_s1 hF (i := .aload_n 0) rfl (fun _ => rfl) ?_
  refine dp_s1 hF (i := .bipush (-44)) rfl (fun _ => rfl) ?_
  refine dp_sv (mj := dp_m_X7_push) (i := .invokevirtual 177) rfl rfl rfl rfl (fun _ => rfl) (fun M7 => ?_)
  refine dp_s1 hF (i := .aload_n 0) rfl (fun _ => rfl) ?_
  refine dp_s1 hF (i := .aload_n 1) rfl (fun _ => rfl) ?_
  refine dp_s1 hF (i := .iload_n 2) rfl (fun _ => rfl) ?_
  refine dp_s1 hF (i := .iconst 3) rfl (fun _ => rfl) ?_
  refine dp_si4 (mj := dp_m_X6_fact) (i := .invokevirtual 200) rfl rfl (Or.inl rfl) rfl (fun _ => rfl) (fun r9 M8 => ?_)
  refine dp_sv (mj := dp_m_X7_push) (i := .invokevirtual 177) rfl rfl rfl rfl (fun _ => rfl) (fun M10 => ?_)
  exact dp_s0 hF (i := .return_) rfl (fun _ => rfl)
set_option maxRecDepth 20000 in
theorem D_X7_stackPair_17_a_eq (xs : Nat → Int32) (xl d : Nat) (p1 : Nat) (v2 : Int32) (M : dp_M) : D_X7_stackPair_17_a xs xl d p1 v2 M = dp_bv (dp_den true xs xl d 175 [.ref 68, .retAddr 32] M) (fun M1 => dp_bv (dp_den true xs xl d 171 [.ref 68, .int (-41 : Int32)] M1) (fun M2 => if dp_t true M2 p1 = 16 then dp_bi (dp_den true xs xl d 135 [.ref p1, .int v2, .int (4 : Int32)] M2) (fun r4 M3 => dp_bv (dp_den true xs xl d 171 [.ref 68, .int r4] M3) (fun M5 => dp_bv (dp_den true xs xl d 171 [.ref 68, .int (-32 : Int32)] M5) (fun M6 => dp_bv (dp_den true xs xl d 171 [.ref 68, .int (-44 : Int32)] M6) (fun M7 => if dp_t true M7 p1 = 16 then dp_bi (dp_den true xs xl d 135 [.ref p1, .int v2, .int (3 : Int32)] M7) (fun r9 M8 => dp_bv (dp_den true xs xl d 171 [.ref 68, .int r9] M8) (fun M10 => some (.inl none, M10))) else none)))) else none)) := by
  have hF := dp_den_grow (md := true) (xs := xs) (xl := xl) d
  unfold D_X7_stackPair_17_a
  refine dp_sv (mj := dp_m_X7_addWord) (i := .invokevirtual 196) rfl rfl rfl rfl (fun _ => rfl) (fun M1 => ?_)
  refine dp_s1 hF (i := .aload_n 0) rfl (fun _ => rfl) ?_
  refine dp_s1 hF (i := .bipush (-41)) rfl (fun _ => rfl) ?_
  refine dp_sv (mj := dp_m_X7_push) (i := .invokevirtual 177) rfl rfl rfl rfl (fun _ => rfl) (fun M2 => ?_)
  refine dp_s1 hF (i := .aload_n 0) rfl (fun _ => rfl) ?_
  refine dp_s1 hF (i := .aload_n 1) rfl (fun _ => rfl) ?_
  refine dp_s1 hF (i := .iload_n 2) rfl (fun _ => rfl) ?_
  refine dp_s1 hF (i := .iconst 4) rfl (fun _ => rfl) ?_
  refine dp_si4 (mj := dp_m_X6_fact) (i := .invokevirtual 200) rfl rfl (Or.inl rfl) rfl (fun _ => rfl) (fun r4 M3 => ?_)
  refine dp_sv (mj := dp_m_X7_push) (i := .invokevirtual 177) rfl rfl rfl rfl (fun _ => rfl) (fun M5 => ?_)
  refine dp_s1 hF (i := .aload_n 0) rfl (fun _ => rfl) ?_
  refine dp_s1 hF (i := .bipush (-32)) rfl (fun _ => rfl) ?_
  refine dp_sv (mj := dp_m_X7_push) (i := .invokevirtual 177) rfl rfl rfl rfl (fun _ => rfl) (fun M6 => ?_)
  refine dp_s1 hF (i := .aload_n 0) rfl (fun _ => rfl) ?_
  refine dp_s1 hF (i := .bipush (-44)) rfl (fun _ => rfl) ?_
  refine dp_sv (mj := dp_m_X7_push) (i := .invokevirtual 177) rfl rfl rfl rfl (fun _ => rfl) (fun M7 => ?_)
  refine dp_s1 hF (i := .aload_n 0) rfl (fun _ => rfl) ?_
  refine dp_s1 hF (i := .aload_n 1) rfl (fun _ => rfl) ?_
  refine dp_s1 hF (i := .iload_n 2) rfl (fun _ => rfl) ?_
  refine dp_s1 hF (i := .iconst 3) rfl (fun _ => rfl) ?_
  refine dp_si4 (mj := dp_m_X6_fact) (i := .invokevirtual 200) rfl rfl (Or.inl rfl) rfl (fun _ => rfl) (fun r9 M8 => ?_)
  refine dp_sv (mj := dp_m_X7_push) (i := .invokevirtual 177) rfl rfl rfl rfl (fun _ => rfl) (fun M10 => ?_)
  exact dp_s0 hF (i := .return_) rfl (fun _ => rfl)
noncomputable def D_X7_printSteps_0 (xs : Nat → Int32) (xl d : Nat) (p1 : Nat) (v2 : Int32) (M : dp_M) : Option dp_Res := dp_lim true xs xl (dp_den true xs xl d) dp_m_X7_printSteps (0, [some (.ref 68), some (.ref p1), some (.int v2), none], [], M)
noncomputable def D_X7_printSteps_24 (xs : Nat → Int32) (xl d : Nat) (p1 : Nat) (v2 : Int32) (v3 : Int32) (M : dp_M) : Option dp_Res := dp_lim true xs xl (dp_den true xs xl d) dp_m_X7_printSteps (24, [some (.ref 68), some (.ref p1), some (.int v2), some (.int v3)], [], M)
noncomputable def D_X7_printSteps_46 (xs : Nat → Int32) (xl d : Nat) (p1 : Nat) (v2 : Int32) (v3 : Int32) (M : dp_M) : Option dp_Res := dp_lim true xs xl (dp_den true xs xl d) dp_m_X7_printSteps (46, [some (.ref 68), some (.ref p1), some (.int v2), some (.int v3)], [.retAddr 29, .ref 68], M)
noncomputable def D_X7_printSteps_46_a (xs : Nat → Int32) (xl d : Nat) (p1 : Nat) (v2 : Int32) (v3 : Int32) (M : dp_M) : Option dp_Res := dp_lim true xs xl (dp_den true xs xl d) dp_m_X7_printSteps (46, [some (.ref 68), some (.ref p1), some (.int v2), some (.int v3)], [.retAddr 30, .ref 68], M)
theorem D_X7_printSteps_0_den (xs : Nat → Int32) (xl d : Nat) (a0 : Nat) (a1 : Int32) (M : dp_M) : dp_den true xs xl (d + 1) 179 [.ref 68, .ref a0, .int a1] M = D_X7_printSteps_0 xs xl d a0 a1 M := rfl
set_option maxRecDepth 20000 in
theorem D_X7_printSteps_0_eq (xs : Nat → Int32) (xl d : Nat) (p1 : Nat) (v2 : Int32) (M : dp_M) : D_X7_printSteps_0 xs xl d p1 v2 M = dp_bv (dp_den true xs xl d 175 [.ref 68, .retAddr 28] M) (fun M1 => if dp_t true M1 p1 = 16 then dp_bi (dp_den true xs xl d 135 [.ref p1, .int v2, .int (1 : Int32)] M1) (fun r3 M2 => dp_bv (dp_den true xs xl d 181 [.ref 68, .int r3] M2) (fun M4 => dp_bv (dp_den true xs xl d 174 [.ref 68, .int (58 : Int32)] M4) (fun M5 => dp_w (0 : Int32) (fun y6 => D_X7_printSteps_24 xs xl d p1 v2 y6 M5)))) else none) := by
  have hF := dp_den_grow (md := true) (xs := xs) (xl := xl) d
  unfold D_X7_printSteps_0
  refine dp_s1 hF (i := .aload_n 0) rfl (fun _ => rfl) ?_
  refine dp_s1 hF (i := .ldc 219) rfl (fun _ => rfl) ?_
  refine dp_sv (mj := dp_m_X7_addWord) (i := .invokevirtual 196) rfl rfl rfl rfl (fun _ => rfl) (fun M1 => ?_)
  refine dp_s1 hF (i := .aload_n 0) rfl (fun _ => rfl) ?_
  refine dp_s1 hF (i := .aload_n 1) rfl (fun _ => rfl) ?_
  refine dp_s1 hF (i := .iload_n 2) rfl (fun _ => rfl) ?_
  refine dp_s1 hF (i := .iconst 1) rfl (fun _ => rfl) ?_
  refine dp_si4 (mj := dp_m_X6_fact) (i := .invokevirtual 200) rfl rfl (Or.inl rfl) rfl (fun _ => rfl) (fun r3 M2 => ?_)
  refine dp_sv (mj := dp_m_X7_printWhole) (i := .invokevirtual 221) rfl rfl rfl rfl (fun _ => rfl) (fun M4 => ?_)
  refine dp_s1 hF (i := .aload_n 0) rfl (fun _ => rfl) ?_
  refine dp_s1 hF (i := .bipush 58) rfl (fun _ => rfl) ?_
  refine dp_sv (mj := dp_m_X7_addSign) (i := .invokevirtual 186) rfl rfl rfl rfl (fun _ => rfl) (fun M5 => ?_)
  refine dp_s1 hF (i := .iconst 0) rfl (fun _ => rfl) ?_
  refine dp_s1w (0 : Int32) (fun (y6 : Int32) => (24, [some (.ref 68), some (.ref p1), some (.int v2), some (.int y6)], [], M5)) hF (i := .istore_n 3) rfl (fun _ => rfl) (fun y6 => ?_)
  exact rfl
set_option maxRecDepth 20000 in
theorem D_X7_printSteps_24_eq (xs : Nat → Int32) (xl d : Nat) (p1 : Nat) (v2 : Int32) (v3 : Int32) (M : dp_M) : D_X7_printSteps_24 xs xl d p1 v2 v3 M = if dp_t true M p1 = 16 then dp_bi (dp_den true xs xl d 135 [.ref p1, .int v2, .int (5 : Int32)] M) (fun r2 M1 => if r2 ≤ v3 then (dp_bv (dp_den true xs xl d 174 [.ref 68, .int (41 : Int32)] M1) (fun M3 => some (.inl none, M3))) else (if v3 = 0 then (D_X7_printSteps_46 xs xl d p1 v2 v3 M1) else (D_X7_printSteps_46_a xs xl d p1 v2 v3 M1))) else none := by
  have hF := dp_den_grow (md := true) (xs := xs) (xl := xl) d
  unfold D_X7_printSteps_24
  refine dp_s1 hF (i := .iload_n 3) rfl (fun _ => rfl) ?_
  refine dp_s1 hF (i := .aload_n 1) rfl (fun _ => rfl) ?_
  refine dp_s1 hF (i := .iload_n 2) rfl (fun _ => rfl) ?_
  refine dp_s1 hF (i := .iconst 5) rfl (fun _ => rfl) ?_
  refine dp_si4 (mj := dp_m_X6_fact) (i := .invokevirtual 200) rfl rfl (Or.inl rfl) rfl (fun _ => rfl) (fun r2 M1 => ?_)
  refine dp_s2 hF (i := .if_icmp .ge 52) (a := (83, [some (.ref 68), some (.ref p1), some (.int v2), some (.int v3)], [], M1)) (b := (34, [some (.ref 68), some (.ref p1), some (.int v2), some (.int v3)], [], M1)) rfl (fun _ => rfl) ?_ ?_
  · refine dp_s1 hF (i := .aload_n 0) rfl (fun _ => rfl) ?_
    refine dp_s1 hF (i := .bipush 41) rfl (fun _ => rfl) ?_
    refine dp_sv (mj := dp_m_X7_addSign) (i := .invokevirtual 186) rfl rfl rfl rfl (fun _ => rfl) (fun M3 => ?_)
    exact dp_s0 hF (i := .return_) rfl (fun _ => rfl)
  refine dp_s1 hF (i := .aload_n 0) rfl (fun _ => rfl) ?_
  refine dp_s1 hF (i := .iload_n 3) rfl (fun _ => rfl) ?_
  refine dp_s2 hF (i := .ifCond .ne 8) (a := (39, [some (.ref 68), some (.ref p1), some (.int v2), some (.int v3)], [.ref 68], M1)) (b := (44, [some (.ref 68), some (.ref p1), some (.int v2), some (.int v3)], [.ref 68], M1)) rfl (fun _ => rfl) ?_ ?_
  · refine dp_s1 hF (i := .ldc 224) rfl (fun _ => rfl) ?_
    refine dp_s1 hF (i := .goto 5) rfl (fun _ => rfl) ?_
    exact rfl
  refine dp_s1 hF (i := .ldc 226) rfl (fun _ => rfl) ?_
  exact rfl
set_option maxRecDepth 20000 in
theorem D_X7_printSteps_46_eq (xs : Nat → Int32) (xl d : Nat) (p1 : Nat) (v2 : Int32) (v3 : Int32) (M : dp_M) : D_X7_printSteps_46 xs xl d p1 v2 v3 M = dp_bv (dp_den true xs xl d 175 [.ref 68, .retAddr 29] M) (fun M1 => if dp_t true M1 p1 = 16 then dp_bi (dp_den true xs xl d 137 [.ref p1, .int v2, .int v3, .int (0 : Int32)] M1) (fun r3 M2 => dp_bv (dp_den true xs xl d 181 [.ref 68, .int r3] M2) (fun M4 => dp_bv (dp_den true xs xl d 174 [.ref 68, .int (61 : Int32)] M4) (fun M5 => if dp_t true M5 p1 = 16 then dp_bi (dp_den true xs xl d 137 [.ref p1, .int v2, .int v3, .int (1 : Int32)] M5) (fun r7 M6 => dp_bv (dp_den true xs xl d 181 [.ref 68, .int r7] M6) (fun M8 => dp_w (v3 + (1 : Int32)) (fun y9 => D_X7_printSteps_24 xs xl d p1 v2 y9 M8))) else none))) else none) := by
  have hF := dp_den_grow (md := true) (xs := xs) (xl := xl) d
  unfold D_X7_printSteps_46
  refine dp_sv (mj := dp_m_X7_addWord) (i := .invokevirtual 196) rfl rfl rfl rfl (fun _ => rfl) (fun M1 => ?_)
  refine dp_s1 hF (i := .aload_n 0) rfl (fun _ => rfl) ?_
  refine dp_s1 hF (i := .aload_n 1) rfl (fun _ => rfl) ?_
  refine dp_s1 hF (i := .iload_n 2) rfl (fun _ => rfl) ?_
  refine dp_s1 hF (i := .iload_n 3) rfl (fun _ => rfl) ?_
  refine dp_s1 hF (i := .iconst 0) rfl (fun _ => rfl) ?_
  refine dp_si4 (mj := dp_m_X6_stepFact) (i := .invokevirtual 228) rfl rfl (Or.inl rfl) rfl (fun _ => rfl) (fun r3 M2 => ?_)
  refine dp_sv (mj := dp_m_X7_printWhole) (i := .invokevirtual 221) rfl rfl rfl rfl (fun _ => rfl) (fun M4 => ?_)
  refine dp_s1 hF (i := .aload_n 0) rfl (fun _ => rfl) ?_
  refine dp_s1 hF (i := .bipush 61) rfl (fun _ => rfl) ?_
  refine dp_sv (mj := dp_m_X7_addSign) (i := .invokevirtual 186) rfl rfl rfl rfl (fun _ => rfl) (fun M5 => ?_)
  refine dp_s1 hF (i := .aload_n 0) rfl (fun _ => rfl) ?_
  refine dp_s1 hF (i := .aload_n 1) rfl (fun _ => rfl) ?_
  refine dp_s1 hF (i := .iload_n 2) rfl (fun _ => rfl) ?_
  refine dp_s1 hF (i := .iload_n 3) rfl (fun _ => rfl) ?_
  refine dp_s1 hF (i := .iconst 1) rfl (fun _ => rfl) ?_
  refine dp_si4 (mj := dp_m_X6_stepFact) (i := .invokevirtual 228) rfl rfl (Or.inl rfl) rfl (fun _ => rfl) (fun r7 M6 => ?_)
  refine dp_sv (mj := dp_m_X7_printWhole) (i := .invokevirtual 221) rfl rfl rfl rfl (fun _ => rfl) (fun M8 => ?_)
  refine dp_s1w (v3 + (1 : Int32)) (fun (y9 : Int32) => (80, [some (.ref 68), some (.ref p1), some (.int v2), some (.int y9)], [], M8)) hF (i := .iinc 3 1) rfl (fun _ => rfl) (fun y9 => ?_)
  refine dp_s1 hF (i := .goto (-56)) rfl (fun _ => rfl) ?_
  exact rfl
set_option maxRecDepth 20000 in
theorem D_X7_printSteps_46_a_eq (xs : Nat → Int32) (xl d : Nat) (p1 : Nat) (v2 : Int32) (v3 : Int32) (M : dp_M) : D_X7_printSteps_46_a xs xl d p1 v2 v3 M = dp_bv (dp_den true xs xl d 175 [.ref 68, .retAddr 30] M) (fun M1 => if dp_t true M1 p1 = 16 then dp_bi (dp_den true xs xl d 137 [.ref p1, .int v2, .int v3, .int (0 : Int32)] M1) (fun r3 M2 => dp_bv (dp_den true xs xl d 181 [.ref 68, .int r3] M2) (fun M4 => dp_bv (dp_den true xs xl d 174 [.ref 68, .int (61 : Int32)] M4) (fun M5 => if dp_t true M5 p1 = 16 then dp_bi (dp_den true xs xl d 137 [.ref p1, .int v2, .int v3, .int (1 : Int32)] M5) (fun r7 M6 => dp_bv (dp_den true xs xl d 181 [.ref 68, .int r7] M6) (fun M8 => dp_w (v3 + (1 : Int32)) (fun y9 => D_X7_printSteps_24 xs xl d p1 v2 y9 M8))) else none))) else none) := by
  have hF := dp_den_grow (md := true) (xs := xs) (xl := xl) d
  unfold D_X7_printSteps_46_a
  refine dp_sv (mj := dp_m_X7_addWord) (i := .invokevirtual 196) rfl rfl rfl rfl (fun _ => rfl) (fun M1 => ?_)
  refine dp_s1 hF (i := .aload_n 0) rfl (fun _ => rfl) ?_
  refine dp_s1 hF (i := .aload_n 1) rfl (fun _ => rfl) ?_
  refine dp_s1 hF (i := .iload_n 2) rfl (fun _ => rfl) ?_
  refine dp_s1 hF (i := .iload_n 3) rfl (fun _ => rfl) ?_
  refine dp_s1 hF (i := .iconst 0) rfl (fun _ => rfl) ?_
  refine dp_si4 (mj := dp_m_X6_stepFact) (i := .invokevirtual 228) rfl rfl (Or.inl rfl) rfl (fun _ => rfl) (fun r3 M2 => ?_)
  refine dp_sv (mj := dp_m_X7_printWhole) (i := .invokevirtual 221) rfl rfl rfl rfl (fun _ => rfl) (fun M4 => ?_)
  refine dp_s1 hF (i := .aload_n 0) rfl (fun _ => rfl) ?_
  refine dp_s1 hF (i := .bipush 61) rfl (fun _ => rfl) ?_
  refine dp_sv (mj := dp_m_X7_addSign) (i := .invokevirtual 186) rfl rfl rfl rfl (fun _ => rfl) (fun M5 => ?_)
  refine dp_s1 hF (i := .aload_n 0) rfl (fun _ => rfl) ?_
  refine dp_s1 hF (i := .aload_n 1) rfl (fun _ => rfl) ?_
  refine dp_s1 hF (i := .iload_n 2) rfl (fun _ => rfl) ?_
  refine dp_s1 hF (i := .iload_n 3) rfl (fun _ => rfl) ?_
  refine dp_s1 hF (i := .iconst 1) rfl (fun _ => rfl) ?_
  refine dp_si4 (mj := dp_m_X6_stepFact) (i := .invokevirtual 228) rfl rfl (Or.inl rfl) rfl (fun _ => rfl) (fun r7 M6 => ?_)
  refine dp_sv (mj := dp_m_X7_printWhole) (i := .invokevirtual 221) rfl rfl rfl rfl (fun _ => rfl) (fun M8 => ?_)
  refine dp_s1w (v3 + (1 : Int32)) (fun (y9 : Int32) => (80, [some (.ref 68), some (.ref p1), some (.int v2), some (.int y9)], [], M8)) hF (i := .iinc 3 1) rfl (fun _ => rfl) (fun y9 => ?_)
  refine dp_s1 hF (i := .goto (-56)) rfl (fun _ => rfl) ?_
  exact rfl
noncomputable def D_X7_printNumber_0 (xs : Nat → Int32) (xl d : Nat) (v1 : Int32) (M : dp_M) : Option dp_Res := dp_lim true xs xl (dp_den true xs xl d) dp_m_X7_printNumber (0, [some (.ref 68), some (.int v1), none, none], [], M)
noncomputable def D_X7_printNumber_27 (xs : Nat → Int32) (xl d : Nat) (v1 : Int32) (v2 : Int32) (v3 : Int32) (M : dp_M) : Option dp_Res := dp_lim true xs xl (dp_den true xs xl d) dp_m_X7_printNumber (27, [some (.ref 68), some (.int v1), some (.int v2), some (.int v3)], [], M)
theorem D_X7_printNumber_0_den (xs : Nat → Int32) (xl d : Nat) (a0 : Int32) (M : dp_M) : dp_den true xs xl (d + 1) 180 [.ref 68, .int a0] M = D_X7_printNumber_0 xs xl d a0 M := rfl
set_option maxRecDepth 20000 in
theorem D_X7_printNumber_0_eq (xs : Nat → Int32) (xl d : Nat) (v1 : Int32) (M : dp_M) : D_X7_printNumber_0 xs xl d v1 M = dp_bv (dp_den true xs xl d 181 [.ref 68, .int (v1 / (1000 : Int32))] M) (fun M1 => dp_w (v1 - v1 / (1000 : Int32) * (1000 : Int32)) (fun y2 => if y2 ≤ 0 then (dp_w (0 : Int32) (fun y3 => D_X7_printNumber_27 xs xl d v1 y2 y3 M1)) else (dp_bv (dp_den true xs xl d 174 [.ref 68, .int (46 : Int32)] M1) (fun M4 => dp_w (0 : Int32) (fun y5 => D_X7_printNumber_27 xs xl d v1 y2 y5 M4))))) := by
  have hF := dp_den_grow (md := true) (xs := xs) (xl := xl) d
  unfold D_X7_printNumber_0
  refine dp_s1 hF (i := .aload_n 0) rfl (fun _ => rfl) ?_
  refine dp_s1 hF (i := .iload_n 1) rfl (fun _ => rfl) ?_
  refine dp_s1 hF (i := .sipush 1000) rfl (fun _ => rfl) ?_
  refine dp_s1 hF (i := .idiv) rfl (fun _ => rfl) ?_
  refine dp_sv (mj := dp_m_X7_printWhole) (i := .invokevirtual 221) rfl rfl rfl rfl (fun _ => rfl) (fun M1 => ?_)
  refine dp_s1 hF (i := .iload_n 1) rfl (fun _ => rfl) ?_
  refine dp_s1 hF (i := .sipush 1000) rfl (fun _ => rfl) ?_
  refine dp_s1 hF (i := .irem) rfl (fun _ => rfl) ?_
  refine dp_s1w (v1 - v1 / (1000 : Int32) * (1000 : Int32)) (fun (y2 : Int32) => (15, [some (.ref 68), some (.int v1), some (.int y2), none], [], M1)) hF (i := .istore_n 2) rfl (fun _ => rfl) (fun y2 => ?_)
  refine dp_s1 hF (i := .iload_n 2) rfl (fun _ => rfl) ?_
  refine dp_s2 hF (i := .ifCond .le 9) (a := (25, [some (.ref 68), some (.int v1), some (.int y2), none], [], M1)) (b := (19, [some (.ref 68), some (.int v1), some (.int y2), none], [], M1)) rfl (fun _ => rfl) ?_ ?_
  · refine dp_s1 hF (i := .iconst 0) rfl (fun _ => rfl) ?_
    refine dp_s1w (0 : Int32) (fun (y3 : Int32) => (27, [some (.ref 68), some (.int v1), some (.int y2), some (.int y3)], [], M1)) hF (i := .istore_n 3) rfl (fun _ => rfl) (fun y3 => ?_)
    exact rfl
  refine dp_s1 hF (i := .aload_n 0) rfl (fun _ => rfl) ?_
  refine dp_s1 hF (i := .bipush 46) rfl (fun _ => rfl) ?_
  refine dp_sv (mj := dp_m_X7_addSign) (i := .invokevirtual 186) rfl rfl rfl rfl (fun _ => rfl) (fun M4 => ?_)
  refine dp_s1 hF (i := .iconst 0) rfl (fun _ => rfl) ?_
  refine dp_s1w (0 : Int32) (fun (y5 : Int32) => (27, [some (.ref 68), some (.int v1), some (.int y2), some (.int y5)], [], M4)) hF (i := .istore_n 3) rfl (fun _ => rfl) (fun y5 => ?_)
  exact rfl
set_option maxRecDepth 20000 in
theorem D_X7_printNumber_27_eq (xs : Nat → Int32) (xl d : Nat) (v1 : Int32) (v2 : Int32) (v3 : Int32) (M : dp_M) : D_X7_printNumber_27 xs xl d v1 v2 v3 M = if (3 : Int32) ≤ v3 then (some (.inl none, M)) else (if v2 ≤ 0 then (some (.inl none, M)) else (dp_bv (dp_den true xs xl d 174 [.ref 68, .int ((48 : Int32) + (v2 / (100 : Int32)))] M) (fun M1 => dp_w ((v2 - v2 / (100 : Int32) * (100 : Int32)) * (10 : Int32)) (fun y2 => dp_w (v3 + (1 : Int32)) (fun y3 => D_X7_printNumber_27 xs xl d v1 y2 y3 M1))))) := by
  have hF := dp_den_grow (md := true) (xs := xs) (xl := xl) d
  unfold D_X7_printNumber_27
  refine dp_s1 hF (i := .iload_n 3) rfl (fun _ => rfl) ?_
  refine dp_s1 hF (i := .iconst 3) rfl (fun _ => rfl) ?_
  refine dp_s2 hF (i := .if_icmp .ge 32) (a := (61, [some (.ref 68), some (.int v1), some (.int v2), some (.int v3)], [], M)) (b := (32, [some (.ref 68), some (.int v1), some (.int v2), some (.int v3)], [], M)) rfl (fun _ => rfl) ?_ ?_
  · exact dp_s0 hF (i := .return_) rfl (fun _ => rfl)
  refine dp_s1 hF (i := .iload_n 2) rfl (fun _ => rfl) ?_
  refine dp_s2 hF (i := .ifCond .le 28) (a := (61, [some (.ref 68), some (.int v1), some (.int v2), some (.int v3)], [], M)) (b := (36, [some (.ref 68), some (.int v1), some (.int v2), some (.int v3)], [], M)) rfl (fun _ => rfl) ?_ ?_
  · exact dp_s0 hF (i := .return_) rfl (fun _ => rfl)
  refine dp_s1 hF (i := .aload_n 0) rfl (fun _ => rfl) ?_
  refine dp_s1 hF (i := .bipush 48) rfl (fun _ => rfl) ?_
  refine dp_s1 hF (i := .iload_n 2) rfl (fun _ => rfl) ?_
  refine dp_s1 hF (i := .bipush 100) rfl (fun _ => rfl) ?_
  refine dp_s1 hF (i := .idiv) rfl (fun _ => rfl) ?_
  refine dp_s1 hF (i := .iadd) rfl (fun _ => rfl) ?_
  refine dp_sv (mj := dp_m_X7_addSign) (i := .invokevirtual 186) rfl rfl rfl rfl (fun _ => rfl) (fun M1 => ?_)
  refine dp_s1 hF (i := .iload_n 2) rfl (fun _ => rfl) ?_
  refine dp_s1 hF (i := .bipush 100) rfl (fun _ => rfl) ?_
  refine dp_s1 hF (i := .irem) rfl (fun _ => rfl) ?_
  refine dp_s1 hF (i := .bipush 10) rfl (fun _ => rfl) ?_
  refine dp_s1 hF (i := .imul) rfl (fun _ => rfl) ?_
  refine dp_s1w ((v2 - v2 / (100 : Int32) * (100 : Int32)) * (10 : Int32)) (fun (y2 : Int32) => (55, [some (.ref 68), some (.int v1), some (.int y2), some (.int v3)], [], M1)) hF (i := .istore_n 2) rfl (fun _ => rfl) (fun y2 => ?_)
  refine dp_s1w (v3 + (1 : Int32)) (fun (y3 : Int32) => (58, [some (.ref 68), some (.int v1), some (.int y2), some (.int y3)], [], M1)) hF (i := .iinc 3 1) rfl (fun _ => rfl) (fun y3 => ?_)
  refine dp_s1 hF (i := .goto (-31)) rfl (fun _ => rfl) ?_
  exact rfl
noncomputable def D_X7_printWhole_0 (xs : Nat → Int32) (xl d : Nat) (v1 : Int32) (M : dp_M) : Option dp_Res := dp_lim true xs xl (dp_den true xs xl d) dp_m_X7_printWhole (0, [some (.ref 68), some (.int v1), none, none], [], M)
noncomputable def D_X7_printWhole_4 (xs : Nat → Int32) (xl d : Nat) (v1 : Int32) (v2 : Int32) (v3 : Int32) (M : dp_M) : Option dp_Res := dp_lim true xs xl (dp_den true xs xl d) dp_m_X7_printWhole (4, [some (.ref 68), some (.int v1), some (.int v2), some (.int v3)], [], M)
noncomputable def D_X7_printWhole_31 (xs : Nat → Int32) (xl d : Nat) (v1 : Int32) (v2 : Int32) (v3 : Int32) (M : dp_M) : Option dp_Res := dp_lim true xs xl (dp_den true xs xl d) dp_m_X7_printWhole (31, [some (.ref 68), some (.int v1), some (.int v2), some (.int v3)], [], M)
theorem D_X7_printWhole_0_den (xs : Nat → Int32) (xl d : Nat) (a0 : Int32) (M : dp_M) : dp_den true xs xl (d + 1) 181 [.ref 68, .int a0] M = D_X7_printWhole_0 xs xl d a0 M := rfl
set_option maxRecDepth 20000 in
theorem D_X7_printWhole_0_eq (xs : Nat → Int32) (xl d : Nat) (v1 : Int32) (M : dp_M) : D_X7_printWhole_0 xs xl d v1 M = dp_w (1 : Int32) (fun y1 => dp_w (0 : Int32) (fun y2 => D_X7_printWhole_4 xs xl d v1 y1 y2 M)) := by
  have hF := dp_den_grow (md := true) (xs := xs) (xl := xl) d
  unfold D_X7_printWhole_0
  refine dp_s1 hF (i := .iconst 1) rfl (fun _ => rfl) ?_
  refine dp_s1w (1 : Int32) (fun (y1 : Int32) => (2, [some (.ref 68), some (.int v1), some (.int y1), none], [], M)) hF (i := .istore_n 2) rfl (fun _ => rfl) (fun y1 => ?_)
  refine dp_s1 hF (i := .iconst 0) rfl (fun _ => rfl) ?_
  refine dp_s1w (0 : Int32) (fun (y2 : Int32) => (4, [some (.ref 68), some (.int v1), some (.int y1), some (.int y2)], [], M)) hF (i := .istore_n 3) rfl (fun _ => rfl) (fun y2 => ?_)
  exact rfl
set_option maxRecDepth 20000 in
theorem D_X7_printWhole_4_eq (xs : Nat → Int32) (xl d : Nat) (v1 : Int32) (v2 : Int32) (v3 : Int32) (M : dp_M) : D_X7_printWhole_4 xs xl d v1 v2 v3 M = if (9 : Int32) ≤ v3 then (dp_w (0 : Int32) (fun y1 => D_X7_printWhole_31 xs xl d v1 v2 y1 M)) else (if v2 = 0 then none else (if (v1 / v2) < (10 : Int32) then (dp_w (0 : Int32) (fun y2 => D_X7_printWhole_31 xs xl d v1 v2 y2 M)) else (dp_w (v2 * (10 : Int32)) (fun y3 => dp_w (v3 + (1 : Int32)) (fun y4 => D_X7_printWhole_4 xs xl d v1 y3 y4 M))))) := by
  have hF := dp_den_grow (md := true) (xs := xs) (xl := xl) d
  unfold D_X7_printWhole_4
  refine dp_s1 hF (i := .iload_n 3) rfl (fun _ => rfl) ?_
  refine dp_s1 hF (i := .bipush 9) rfl (fun _ => rfl) ?_
  refine dp_s2 hF (i := .if_icmp .ge 22) (a := (29, [some (.ref 68), some (.int v1), some (.int v2), some (.int v3)], [], M)) (b := (10, [some (.ref 68), some (.int v1), some (.int v2), some (.int v3)], [], M)) rfl (fun _ => rfl) ?_ ?_
  · refine dp_s1 hF (i := .iconst 0) rfl (fun _ => rfl) ?_
    refine dp_s1w (0 : Int32) (fun (y1 : Int32) => (31, [some (.ref 68), some (.int v1), some (.int v2), some (.int y1)], [], M)) hF (i := .istore_n 3) rfl (fun _ => rfl) (fun y1 => ?_)
    exact rfl
  refine dp_s1 hF (i := .iload_n 1) rfl (fun _ => rfl) ?_
  refine dp_s1 hF (i := .iload_n 2) rfl (fun _ => rfl) ?_
  refine dp_s3 hF (i := .idiv) rfl (fun _ => rfl) ?_
  refine dp_s1 hF (i := .bipush 10) rfl (fun _ => rfl) ?_
  refine dp_s2 hF (i := .if_icmp .lt 14) (a := (29, [some (.ref 68), some (.int v1), some (.int v2), some (.int v3)], [], M)) (b := (18, [some (.ref 68), some (.int v1), some (.int v2), some (.int v3)], [], M)) rfl (fun _ => rfl) ?_ ?_
  · refine dp_s1 hF (i := .iconst 0) rfl (fun _ => rfl) ?_
    refine dp_s1w (0 : Int32) (fun (y2 : Int32) => (31, [some (.ref 68), some (.int v1), some (.int v2), some (.int y2)], [], M)) hF (i := .istore_n 3) rfl (fun _ => rfl) (fun y2 => ?_)
    exact rfl
  refine dp_s1 hF (i := .iload_n 2) rfl (fun _ => rfl) ?_
  refine dp_s1 hF (i := .bipush 10) rfl (fun _ => rfl) ?_
  refine dp_s1 hF (i := .imul) rfl (fun _ => rfl) ?_
  refine dp_s1w (v2 * (10 : Int32)) (fun (y3 : Int32) => (23, [some (.ref 68), some (.int v1), some (.int y3), some (.int v3)], [], M)) hF (i := .istore_n 2) rfl (fun _ => rfl) (fun y3 => ?_)
  refine dp_s1w (v3 + (1 : Int32)) (fun (y4 : Int32) => (26, [some (.ref 68), some (.int v1), some (.int y3), some (.int y4)], [], M)) hF (i := .iinc 3 1) rfl (fun _ => rfl) (fun y4 => ?_)
  refine dp_s1 hF (i := .goto (-22)) rfl (fun _ => rfl) ?_
  exact rfl
set_option maxRecDepth 20000 in
theorem D_X7_printWhole_31_eq (xs : Nat → Int32) (xl d : Nat) (v1 : Int32) (v2 : Int32) (v3 : Int32) (M : dp_M) : D_X7_printWhole_31 xs xl d v1 v2 v3 M = if (10 : Int32) ≤ v3 then (some (.inl none, M)) else (if v2 ≤ 0 then (some (.inl none, M)) else (if v2 = 0 then none else (dp_bv (dp_den true xs xl d 174 [.ref 68, .int ((48 : Int32) + ((v1 / v2) - (v1 / v2) / (10 : Int32) * (10 : Int32)))] M) (fun M1 => dp_w (v2 / (10 : Int32)) (fun y2 => dp_w (v3 + (1 : Int32)) (fun y3 => D_X7_printWhole_31 xs xl d v1 y2 y3 M1)))))) := by
  have hF := dp_den_grow (md := true) (xs := xs) (xl := xl) d
  unfold D_X7_printWhole_31
  refine dp_s1 hF (i := .iload_n 3) rfl (fun _ => rfl) ?_
  refine dp_s1 hF (i := .bipush 10) rfl (fun _ => rfl) ?_
  refine dp_s2 hF (i := .if_icmp .ge 31) (a := (65, [some (.ref 68), some (.int v1), some (.int v2), some (.int v3)], [], M)) (b := (37, [some (.ref 68), some (.int v1), some (.int v2), some (.int v3)], [], M)) rfl (fun _ => rfl) ?_ ?_
  · exact dp_s0 hF (i := .return_) rfl (fun _ => rfl)
  refine dp_s1 hF (i := .iload_n 2) rfl (fun _ => rfl) ?_
  refine dp_s2 hF (i := .ifCond .le 27) (a := (65, [some (.ref 68), some (.int v1), some (.int v2), some (.int v3)], [], M)) (b := (41, [some (.ref 68), some (.int v1), some (.int v2), some (.int v3)], [], M)) rfl (fun _ => rfl) ?_ ?_
  · exact dp_s0 hF (i := .return_) rfl (fun _ => rfl)
  refine dp_s1 hF (i := .aload_n 0) rfl (fun _ => rfl) ?_
  refine dp_s1 hF (i := .bipush 48) rfl (fun _ => rfl) ?_
  refine dp_s1 hF (i := .iload_n 1) rfl (fun _ => rfl) ?_
  refine dp_s1 hF (i := .iload_n 2) rfl (fun _ => rfl) ?_
  refine dp_s3 hF (i := .idiv) rfl (fun _ => rfl) ?_
  refine dp_s1 hF (i := .bipush 10) rfl (fun _ => rfl) ?_
  refine dp_s1 hF (i := .irem) rfl (fun _ => rfl) ?_
  refine dp_s1 hF (i := .iadd) rfl (fun _ => rfl) ?_
  refine dp_sv (mj := dp_m_X7_addSign) (i := .invokevirtual 186) rfl rfl rfl rfl (fun _ => rfl) (fun M1 => ?_)
  refine dp_s1 hF (i := .iload_n 2) rfl (fun _ => rfl) ?_
  refine dp_s1 hF (i := .bipush 10) rfl (fun _ => rfl) ?_
  refine dp_s1 hF (i := .idiv) rfl (fun _ => rfl) ?_
  refine dp_s1w (v2 / (10 : Int32)) (fun (y2 : Int32) => (59, [some (.ref 68), some (.int v1), some (.int y2), some (.int v3)], [], M1)) hF (i := .istore_n 2) rfl (fun _ => rfl) (fun y2 => ?_)
  refine dp_s1w (v3 + (1 : Int32)) (fun (y3 : Int32) => (62, [some (.ref 68), some (.int v1), some (.int y2), some (.int y3)], [], M1)) hF (i := .iinc 3 1) rfl (fun _ => rfl) (fun y3 => ?_)
  refine dp_s1 hF (i := .goto (-31)) rfl (fun _ => rfl) ?_
  exact rfl
