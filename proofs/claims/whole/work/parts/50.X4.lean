noncomputable def D_X4_placeOf_0 (xs : Nat → Int32) (xl d : Nat) (v0 : Int32) (v1 : Int32) (M : dp_M) : Option dp_Res := dp_lim true xs xl (dp_den true xs xl d) dp_m_X4_placeOf (0, [some (.int v0), some (.int v1)], [], M)
theorem D_X4_placeOf_0_den (xs : Nat → Int32) (xl d : Nat) (a0 : Int32) (a1 : Int32) (M : dp_M) : dp_den true xs xl (d + 1) 104 [.int a0, .int a1] M = D_X4_placeOf_0 xs xl d a0 a1 M := rfl
set_option maxRecDepth 20000 in
theorem D_X4_placeOf_0_eq (xs : Nat → Int32) (xl d : Nat) (v0 : Int32) (v1 : Int32) (M : dp_M) : D_X4_placeOf_0 xs xl d v0 v1 M = some (.inl (some (.int ((v0 * (4 : Int32)) + v1))), M) := by
  have hF := dp_den_grow (md := true) (xs := xs) (xl := xl) d
  unfold D_X4_placeOf_0
  refine dp_s1 hF (i := .iload_n 0) rfl (fun _ => rfl) ?_
  refine dp_s1 hF (i := .iconst 4) rfl (fun _ => rfl) ?_
  refine dp_s1 hF (i := .imul) rfl (fun _ => rfl) ?_
  refine dp_s1 hF (i := .iload_n 1) rfl (fun _ => rfl) ?_
  refine dp_s1 hF (i := .iadd) rfl (fun _ => rfl) ?_
  exact dp_s0 hF (i := .ireturn) rfl (fun _ => rfl)
noncomputable def D_X4_set_0 (xs : Nat → Int32) (xl d : Nat) (v1 : Int32) (v2 : Int32) (v3 : Int32) (v4 : Int32) (M : dp_M) : Option dp_Res := dp_lim true xs xl (dp_den true xs xl d) dp_m_X4_set (0, [some (.ref 14), some (.int v1), some (.int v2), some (.int v3), some (.int v4)], [], M)
theorem D_X4_set_0_den (xs : Nat → Int32) (xl d : Nat) (a0 : Int32) (a1 : Int32) (a2 : Int32) (a3 : Int32) (M : dp_M) : dp_den true xs xl (d + 1) 105 [.ref 14, .int a0, .int a1, .int a2, .int a3] M = D_X4_set_0 xs xl d a0 a1 a2 a3 M := rfl
set_option maxRecDepth 20000 in
theorem D_X4_set_0_eq (xs : Nat → Int32) (xl d : Nat) (v1 : Int32) (v2 : Int32) (v3 : Int32) (v4 : Int32) (M : dp_M) : D_X4_set_0 xs xl d v1 v2 v3 v4 M = if v1 < 0 ∨ 4 ≤ Int32.toNatClampNeg v1 then none else dp_w (dp_setI M 20 (Int32.toNatClampNeg v1) v2) (fun M1 => if v1 < 0 ∨ 4 ≤ Int32.toNatClampNeg v1 then none else dp_w (dp_setI M1 21 (Int32.toNatClampNeg v1) (v3 &&& 1)) (fun M2 => if v1 < 0 ∨ 4 ≤ Int32.toNatClampNeg v1 then none else dp_w (dp_setI M2 22 (Int32.toNatClampNeg v1) v4) (fun M3 => some (.inl none, M3)))) := by
  have hF := dp_den_grow (md := true) (xs := xs) (xl := xl) d
  unfold D_X4_set_0
  refine dp_s1 hF (i := .aload_n 0) rfl (fun _ => rfl) ?_
  refine dp_s1 hF (i := .getfield 30) rfl (fun _ => rfl) ?_
  refine dp_s1 hF (i := .iload_n 1) rfl (fun _ => rfl) ?_
  refine dp_s1 hF (i := .iload_n 2) rfl (fun _ => rfl) ?_
  refine dp_s3w (dp_setI M 20 (Int32.toNatClampNeg v1) v2) (fun (M1 : dp_M) => (7, [some (.ref 14), some (.int v1), some (.int v2), some (.int v3), some (.int v4)], [], M1)) hF (i := .iastore) rfl (fun _ => rfl) (fun M1 => ?_)
  refine dp_s1 hF (i := .aload_n 0) rfl (fun _ => rfl) ?_
  refine dp_s1 hF (i := .getfield 33) rfl (fun _ => rfl) ?_
  refine dp_s1 hF (i := .iload_n 1) rfl (fun _ => rfl) ?_
  refine dp_s1 hF (i := .iload_n 3) rfl (fun _ => rfl) ?_
  refine dp_s3w (dp_setI M1 21 (Int32.toNatClampNeg v1) (v3 &&& 1)) (fun (M2 : dp_M) => (14, [some (.ref 14), some (.int v1), some (.int v2), some (.int v3), some (.int v4)], [], M2)) hF (i := .bastore) rfl (fun _ => rfl) (fun M2 => ?_)
  refine dp_s1 hF (i := .aload_n 0) rfl (fun _ => rfl) ?_
  refine dp_s1 hF (i := .getfield 37) rfl (fun _ => rfl) ?_
  refine dp_s1 hF (i := .iload_n 1) rfl (fun _ => rfl) ?_
  refine dp_s1 hF (i := .iload 4) rfl (fun _ => rfl) ?_
  refine dp_s3w (dp_setI M2 22 (Int32.toNatClampNeg v1) v4) (fun (M3 : dp_M) => (22, [some (.ref 14), some (.int v1), some (.int v2), some (.int v3), some (.int v4)], [], M3)) hF (i := .iastore) rfl (fun _ => rfl) (fun M3 => ?_)
  exact dp_s0 hF (i := .return_) rfl (fun _ => rfl)
noncomputable def D_X4_search_0 (xs : Nat → Int32) (xl d : Nat) (v1 : Int32) (v2 : Int32) (M : dp_M) : Option dp_Res := dp_lim true xs xl (dp_den true xs xl d) dp_m_X4_search (0, [some (.ref 14), some (.int v1), some (.int v2), none, none], [], M)
noncomputable def D_X4_search_25 (xs : Nat → Int32) (xl d : Nat) (v1 : Int32) (v2 : Int32) (v3 : Int32) (v4 : Int32) (M : dp_M) : Option dp_Res := dp_lim true xs xl (dp_den true xs xl d) dp_m_X4_search (25, [some (.ref 14), some (.int v1), some (.int v2), some (.int v3), some (.int v4)], [], M)
noncomputable def D_X4_search_101 (xs : Nat → Int32) (xl d : Nat) (v1 : Int32) (v2 : Int32) (v3 : Int32) (v4 : Int32) (M : dp_M) : Option dp_Res := dp_lim true xs xl (dp_den true xs xl d) dp_m_X4_search (101, [some (.ref 14), some (.int v1), some (.int v2), some (.int v3), some (.int v4)], [], M)
theorem D_X4_search_0_den (xs : Nat → Int32) (xl d : Nat) (a0 : Int32) (a1 : Int32) (M : dp_M) : dp_den true xs xl (d + 1) 106 [.ref 14, .int a0, .int a1] M = D_X4_search_0 xs xl d a0 a1 M := rfl
set_option maxRecDepth 20000 in
theorem D_X4_search_0_eq (xs : Nat → Int32) (xl d : Nat) (v1 : Int32) (v2 : Int32) (M : dp_M) : D_X4_search_0 xs xl d v1 v2 M = dp_w (dp_setI M 14 12 v1) (fun M1 => dp_w (dp_setI M1 14 13 v2) (fun M2 => dp_w (dp_setI M2 14 10 ((dp_I M2 14 10) + (1 : Int32))) (fun M3 => dp_w (0 : Int32) (fun y4 => dp_w (0 : Int32) (fun y5 => D_X4_search_25 xs xl d v1 v2 y4 y5 M3))))) := by
  have hF := dp_den_grow (md := true) (xs := xs) (xl := xl) d
  unfold D_X4_search_0
  refine dp_s1 hF (i := .aload_n 0) rfl (fun _ => rfl) ?_
  refine dp_s1 hF (i := .iload_n 1) rfl (fun _ => rfl) ?_
  refine dp_s1w (dp_setI M 14 12 v1) (fun (M1 : dp_M) => (5, [some (.ref 14), some (.int v1), some (.int v2), none, none], [], M1)) hF (i := .putfield 46) rfl (fun _ => rfl) (fun M1 => ?_)
  refine dp_s1 hF (i := .aload_n 0) rfl (fun _ => rfl) ?_
  refine dp_s1 hF (i := .iload_n 2) rfl (fun _ => rfl) ?_
  refine dp_s1w (dp_setI M1 14 13 v2) (fun (M2 : dp_M) => (10, [some (.ref 14), some (.int v1), some (.int v2), none, none], [], M2)) hF (i := .putfield 50) rfl (fun _ => rfl) (fun M2 => ?_)
  refine dp_s1 hF (i := .aload_n 0) rfl (fun _ => rfl) ?_
  refine dp_s1 hF (i := .dup) rfl (fun _ => rfl) ?_
  refine dp_s1 hF (i := .getfield 53) rfl (fun _ => rfl) ?_
  refine dp_s1 hF (i := .iconst 1) rfl (fun _ => rfl) ?_
  refine dp_s1 hF (i := .iadd) rfl (fun _ => rfl) ?_
  refine dp_s1w (dp_setI M2 14 10 ((dp_I M2 14 10) + (1 : Int32))) (fun (M3 : dp_M) => (20, [some (.ref 14), some (.int v1), some (.int v2), none, none], [], M3)) hF (i := .putfield 53) rfl (fun _ => rfl) (fun M3 => ?_)
  refine dp_s1 hF (i := .iconst 0) rfl (fun _ => rfl) ?_
  refine dp_s1w (0 : Int32) (fun (y4 : Int32) => (22, [some (.ref 14), some (.int v1), some (.int v2), some (.int y4), none], [], M3)) hF (i := .istore_n 3) rfl (fun _ => rfl) (fun y4 => ?_)
  refine dp_s1 hF (i := .iconst 0) rfl (fun _ => rfl) ?_
  refine dp_s1w (0 : Int32) (fun (y5 : Int32) => (25, [some (.ref 14), some (.int v1), some (.int v2), some (.int y4), some (.int y5)], [], M3)) hF (i := .istore 4) rfl (fun _ => rfl) (fun y5 => ?_)
  exact rfl
set_option maxRecDepth 20000 in
theorem D_X4_search_25_eq (xs : Nat → Int32) (xl d : Nat) (v1 : Int32) (v2 : Int32) (v3 : Int32) (v4 : Int32) (M : dp_M) : D_X4_search_25 xs xl d v1 v2 v3 v4 M = if v1 ≤ v4 then (if v3 < 0 ∨ 65536 ≤ Int32.toNatClampNeg v3 then none else dp_w (dp_setI M 16 (Int32.toNatClampNeg v3) (dp_I M 14 10)) (fun M1 => if (0 : Int32) < 0 ∨ 1300 ≤ Int32.toNatClampNeg (0 : Int32) then none else dp_w (dp_setI M1 17 (Int32.toNatClampNeg (0 : Int32)) v3) (fun M2 => if (0 : Int32) < 0 ∨ 1300 ≤ Int32.toNatClampNeg (0 : Int32) then none else dp_w (dp_setI M2 18 (Int32.toNatClampNeg (0 : Int32)) (-1 : Int32)) (fun M3 => dp_w (dp_setI M3 14 11 (1 : Int32)) (fun M4 => dp_bi (dp_den true xs xl d 108 [.ref 14, .int v3] M4) (fun r6 M5 => if r6 = 0 then (dp_w (dp_setI M5 14 15 (-1 : Int32)) (fun M7 => dp_w (0 : Int32) (fun y8 => D_X4_search_101 xs xl d v1 v2 v3 y8 M7))) else (dp_w (dp_setI M5 14 15 (0 : Int32)) (fun M9 => dp_w (0 : Int32) (fun y10 => D_X4_search_101 xs xl d v1 v2 v3 y10 M9))))))))) else (if v4 < 0 ∨ 4 ≤ Int32.toNatClampNeg v4 then none else (dp_w (v3 ||| ((dp_I M 20 (Int32.toNatClampNeg v4)) <<< (((4 : Int32) * v4) &&& 31))) (fun y11 => dp_w (v4 + (1 : Int32)) (fun y12 => D_X4_search_25 xs xl d v1 v2 y11 y12 M)))) := by
  have hF := dp_den_grow (md := true) (xs := xs) (xl := xl) d
  unfold D_X4_search_25
  refine dp_s1 hF (i := .iload 4) rfl (fun _ => rfl) ?_
  refine dp_s1 hF (i := .iload_n 1) rfl (fun _ => rfl) ?_
  refine dp_s2 hF (i := .if_icmp .ge 24) (a := (52, [some (.ref 14), some (.int v1), some (.int v2), some (.int v3), some (.int v4)], [], M)) (b := (31, [some (.ref 14), some (.int v1), some (.int v2), some (.int v3), some (.int v4)], [], M)) rfl (fun _ => rfl) ?_ ?_
  · refine dp_s1 hF (i := .aload_n 0) rfl (fun _ => rfl) ?_
    refine dp_s1 hF (i := .getfield 16) rfl (fun _ => rfl) ?_
    refine dp_s1 hF (i := .iload_n 3) rfl (fun _ => rfl) ?_
    refine dp_s1 hF (i := .aload_n 0) rfl (fun _ => rfl) ?_
    refine dp_s1 hF (i := .getfield 53) rfl (fun _ => rfl) ?_
    refine dp_s3w (dp_setI M 16 (Int32.toNatClampNeg v3) (dp_I M 14 10)) (fun (M1 : dp_M) => (62, [some (.ref 14), some (.int v1), some (.int v2), some (.int v3), some (.int v4)], [], M1)) hF (i := .iastore) rfl (fun _ => rfl) (fun M1 => ?_)
    refine dp_s1 hF (i := .aload_n 0) rfl (fun _ => rfl) ?_
    refine dp_s1 hF (i := .getfield 19) rfl (fun _ => rfl) ?_
    refine dp_s1 hF (i := .iconst 0) rfl (fun _ => rfl) ?_
    refine dp_s1 hF (i := .iload_n 3) rfl (fun _ => rfl) ?_
    refine dp_s3w (dp_setI M1 17 (Int32.toNatClampNeg (0 : Int32)) v3) (fun (M2 : dp_M) => (69, [some (.ref 14), some (.int v1), some (.int v2), some (.int v3), some (.int v4)], [], M2)) hF (i := .iastore) rfl (fun _ => rfl) (fun M2 => ?_)
    refine dp_s1 hF (i := .aload_n 0) rfl (fun _ => rfl) ?_
    refine dp_s1 hF (i := .getfield 22) rfl (fun _ => rfl) ?_
    refine dp_s1 hF (i := .iconst 0) rfl (fun _ => rfl) ?_
    refine dp_s1 hF (i := .iconst (-1)) rfl (fun _ => rfl) ?_
    refine dp_s3w (dp_setI M2 18 (Int32.toNatClampNeg (0 : Int32)) (-1 : Int32)) (fun (M3 : dp_M) => (76, [some (.ref 14), some (.int v1), some (.int v2), some (.int v3), some (.int v4)], [], M3)) hF (i := .iastore) rfl (fun _ => rfl) (fun M3 => ?_)
    refine dp_s1 hF (i := .aload_n 0) rfl (fun _ => rfl) ?_
    refine dp_s1 hF (i := .iconst 1) rfl (fun _ => rfl) ?_
    refine dp_s1w (dp_setI M3 14 11 (1 : Int32)) (fun (M4 : dp_M) => (81, [some (.ref 14), some (.int v1), some (.int v2), some (.int v3), some (.int v4)], [], M4)) hF (i := .putfield 56) rfl (fun _ => rfl) (fun M4 => ?_)
    refine dp_s1 hF (i := .aload_n 0) rfl (fun _ => rfl) ?_
    refine dp_s1 hF (i := .aload_n 0) rfl (fun _ => rfl) ?_
    refine dp_s1 hF (i := .iload_n 3) rfl (fun _ => rfl) ?_
    refine dp_si (mj := dp_m_X4_isEnd) (i := .invokevirtual 59) rfl rfl (Or.inr rfl) rfl (fun _ => rfl) (fun r6 M5 => ?_)
    refine dp_s2 hF (i := .ifCond .eq 7) (a := (94, [some (.ref 14), some (.int v1), some (.int v2), some (.int v3), some (.int v4)], [.ref 14], M5)) (b := (90, [some (.ref 14), some (.int v1), some (.int v2), some (.int v3), some (.int v4)], [.ref 14], M5)) rfl (fun _ => rfl) ?_ ?_
    · refine dp_s1 hF (i := .iconst (-1)) rfl (fun _ => rfl) ?_
      refine dp_s1w (dp_setI M5 14 15 (-1 : Int32)) (fun (M7 : dp_M) => (98, [some (.ref 14), some (.int v1), some (.int v2), some (.int v3), some (.int v4)], [], M7)) hF (i := .putfield 63) rfl (fun _ => rfl) (fun M7 => ?_)
      refine dp_s1 hF (i := .iconst 0) rfl (fun _ => rfl) ?_
      refine dp_s1w (0 : Int32) (fun (y8 : Int32) => (101, [some (.ref 14), some (.int v1), some (.int v2), some (.int v3), some (.int y8)], [], M7)) hF (i := .istore 4) rfl (fun _ => rfl) (fun y8 => ?_)
      exact rfl
    refine dp_s1 hF (i := .iconst 0) rfl (fun _ => rfl) ?_
    refine dp_s1 hF (i := .goto 4) rfl (fun _ => rfl) ?_
    refine dp_s1w (dp_setI M5 14 15 (0 : Int32)) (fun (M9 : dp_M) => (98, [some (.ref 14), some (.int v1), some (.int v2), some (.int v3), some (.int v4)], [], M9)) hF (i := .putfield 63) rfl (fun _ => rfl) (fun M9 => ?_)
    refine dp_s1 hF (i := .iconst 0) rfl (fun _ => rfl) ?_
    refine dp_s1w (0 : Int32) (fun (y10 : Int32) => (101, [some (.ref 14), some (.int v1), some (.int v2), some (.int v3), some (.int y10)], [], M9)) hF (i := .istore 4) rfl (fun _ => rfl) (fun y10 => ?_)
    exact rfl
  refine dp_s1 hF (i := .iload_n 3) rfl (fun _ => rfl) ?_
  refine dp_s1 hF (i := .aload_n 0) rfl (fun _ => rfl) ?_
  refine dp_s1 hF (i := .getfield 30) rfl (fun _ => rfl) ?_
  refine dp_s1 hF (i := .iload 4) rfl (fun _ => rfl) ?_
  refine dp_s3 hF (i := .iaload) rfl (fun _ => rfl) ?_
  refine dp_s1 hF (i := .iconst 4) rfl (fun _ => rfl) ?_
  refine dp_s1 hF (i := .iload 4) rfl (fun _ => rfl) ?_
  refine dp_s1 hF (i := .imul) rfl (fun _ => rfl) ?_
  refine dp_s1 hF (i := .ishl) rfl (fun _ => rfl) ?_
  refine dp_s1 hF (i := .ior) rfl (fun _ => rfl) ?_
  refine dp_s1w (v3 ||| ((dp_I M 20 (Int32.toNatClampNeg v4)) <<< (((4 : Int32) * v4) &&& 31))) (fun (y11 : Int32) => (46, [some (.ref 14), some (.int v1), some (.int v2), some (.int y11), some (.int v4)], [], M)) hF (i := .istore_n 3) rfl (fun _ => rfl) (fun y11 => ?_)
  refine dp_s1w (v4 + (1 : Int32)) (fun (y12 : Int32) => (49, [some (.ref 14), some (.int v1), some (.int v2), some (.int y11), some (.int y12)], [], M)) hF (i := .iinc 4 1) rfl (fun _ => rfl) (fun y12 => ?_)
  refine dp_s1 hF (i := .goto (-24)) rfl (fun _ => rfl) ?_
  exact rfl
set_option maxRecDepth 20000 in
theorem D_X4_search_101_eq (xs : Nat → Int32) (xl d : Nat) (v1 : Int32) (v2 : Int32) (v3 : Int32) (v4 : Int32) (M : dp_M) : D_X4_search_101 xs xl d v1 v2 v3 v4 M = if (1300 : Int32) ≤ v4 then (if (dp_I M 14 15) = (-1 : Int32) then (some (.inl (some (.int (-1 : Int32))), M)) else (dp_bi (dp_den true xs xl d 114 [.ref 14] M) (fun r2 M1 => some (.inl (some (.int r2)), M1)))) else (if (dp_I M 14 11) ≤ v4 then (if (dp_I M 14 15) = (-1 : Int32) then (some (.inl (some (.int (-1 : Int32))), M)) else (dp_bi (dp_den true xs xl d 114 [.ref 14] M) (fun r4 M3 => some (.inl (some (.int r4)), M3)))) else (if (dp_I M 14 15) = (-1 : Int32) then (dp_bv (dp_den true xs xl d 109 [.ref 14, .int v4] M) (fun M5 => dp_w (v4 + (1 : Int32)) (fun y6 => D_X4_search_101 xs xl d v1 v2 v3 y6 M5))) else (if (dp_I M 14 15) = (-1 : Int32) then (some (.inl (some (.int (-1 : Int32))), M)) else (dp_bi (dp_den true xs xl d 114 [.ref 14] M) (fun r8 M7 => some (.inl (some (.int r8)), M7)))))) := by
  have hF := dp_den_grow (md := true) (xs := xs) (xl := xl) d
  unfold D_X4_search_101
  refine dp_s1 hF (i := .iload 4) rfl (fun _ => rfl) ?_
  refine dp_s1 hF (i := .sipush 1300) rfl (fun _ => rfl) ?_
  refine dp_s2 hF (i := .if_icmp .ge 32) (a := (138, [some (.ref 14), some (.int v1), some (.int v2), some (.int v3), some (.int v4)], [], M)) (b := (109, [some (.ref 14), some (.int v1), some (.int v2), some (.int v3), some (.int v4)], [], M)) rfl (fun _ => rfl) ?_ ?_
  · refine dp_s1 hF (i := .aload_n 0) rfl (fun _ => rfl) ?_
    refine dp_s1 hF (i := .getfield 63) rfl (fun _ => rfl) ?_
    refine dp_s1 hF (i := .iconst (-1)) rfl (fun _ => rfl) ?_
    refine dp_s2 hF (i := .if_icmp .ne 7) (a := (146, [some (.ref 14), some (.int v1), some (.int v2), some (.int v3), some (.int v4)], [], M)) (b := (150, [some (.ref 14), some (.int v1), some (.int v2), some (.int v3), some (.int v4)], [], M)) rfl (fun _ => rfl) ?_ ?_
    · refine dp_s1 hF (i := .iconst (-1)) rfl (fun _ => rfl) ?_
      refine dp_s1 hF (i := .goto 7) rfl (fun _ => rfl) ?_
      exact dp_s0 hF (i := .ireturn) rfl (fun _ => rfl)
    refine dp_s1 hF (i := .aload_n 0) rfl (fun _ => rfl) ?_
    refine dp_si (mj := dp_m_X4_trace) (i := .invokevirtual 70) rfl rfl (Or.inl rfl) rfl (fun _ => rfl) (fun r2 M1 => ?_)
    exact dp_s0 hF (i := .ireturn) rfl (fun _ => rfl)
  refine dp_s1 hF (i := .iload 4) rfl (fun _ => rfl) ?_
  refine dp_s1 hF (i := .aload_n 0) rfl (fun _ => rfl) ?_
  refine dp_s1 hF (i := .getfield 56) rfl (fun _ => rfl) ?_
  refine dp_s2 hF (i := .if_icmp .ge 23) (a := (138, [some (.ref 14), some (.int v1), some (.int v2), some (.int v3), some (.int v4)], [], M)) (b := (118, [some (.ref 14), some (.int v1), some (.int v2), some (.int v3), some (.int v4)], [], M)) rfl (fun _ => rfl) ?_ ?_
  · refine dp_s1 hF (i := .aload_n 0) rfl (fun _ => rfl) ?_
    refine dp_s1 hF (i := .getfield 63) rfl (fun _ => rfl) ?_
    refine dp_s1 hF (i := .iconst (-1)) rfl (fun _ => rfl) ?_
    refine dp_s2 hF (i := .if_icmp .ne 7) (a := (146, [some (.ref 14), some (.int v1), some (.int v2), some (.int v3), some (.int v4)], [], M)) (b := (150, [some (.ref 14), some (.int v1), some (.int v2), some (.int v3), some (.int v4)], [], M)) rfl (fun _ => rfl) ?_ ?_
    · refine dp_s1 hF (i := .iconst (-1)) rfl (fun _ => rfl) ?_
      refine dp_s1 hF (i := .goto 7) rfl (fun _ => rfl) ?_
      exact dp_s0 hF (i := .ireturn) rfl (fun _ => rfl)
    refine dp_s1 hF (i := .aload_n 0) rfl (fun _ => rfl) ?_
    refine dp_si (mj := dp_m_X4_trace) (i := .invokevirtual 70) rfl rfl (Or.inl rfl) rfl (fun _ => rfl) (fun r4 M3 => ?_)
    exact dp_s0 hF (i := .ireturn) rfl (fun _ => rfl)
  refine dp_s1 hF (i := .aload_n 0) rfl (fun _ => rfl) ?_
  refine dp_s1 hF (i := .getfield 63) rfl (fun _ => rfl) ?_
  refine dp_s1 hF (i := .iconst (-1)) rfl (fun _ => rfl) ?_
  refine dp_s2 hF (i := .if_icmp .ne 15) (a := (126, [some (.ref 14), some (.int v1), some (.int v2), some (.int v3), some (.int v4)], [], M)) (b := (138, [some (.ref 14), some (.int v1), some (.int v2), some (.int v3), some (.int v4)], [], M)) rfl (fun _ => rfl) ?_ ?_
  · refine dp_s1 hF (i := .aload_n 0) rfl (fun _ => rfl) ?_
    refine dp_s1 hF (i := .iload 4) rfl (fun _ => rfl) ?_
    refine dp_sv (mj := dp_m_X4_goOnFrom) (i := .invokevirtual 66) rfl rfl rfl rfl (fun _ => rfl) (fun M5 => ?_)
    refine dp_s1w (v4 + (1 : Int32)) (fun (y6 : Int32) => (135, [some (.ref 14), some (.int v1), some (.int v2), some (.int v3), some (.int y6)], [], M5)) hF (i := .iinc 4 1) rfl (fun _ => rfl) (fun y6 => ?_)
    refine dp_s1 hF (i := .goto (-34)) rfl (fun _ => rfl) ?_
    exact rfl
  refine dp_s1 hF (i := .aload_n 0) rfl (fun _ => rfl) ?_
  refine dp_s1 hF (i := .getfield 63) rfl (fun _ => rfl) ?_
  refine dp_s1 hF (i := .iconst (-1)) rfl (fun _ => rfl) ?_
  refine dp_s2 hF (i := .if_icmp .ne 7) (a := (146, [some (.ref 14), some (.int v1), some (.int v2), some (.int v3), some (.int v4)], [], M)) (b := (150, [some (.ref 14), some (.int v1), some (.int v2), some (.int v3), some (.int v4)], [], M)) rfl (fun _ => rfl) ?_ ?_
  · refine dp_s1 hF (i := .iconst (-1)) rfl (fun _ => rfl) ?_
    refine dp_s1 hF (i := .goto 7) rfl (fun _ => rfl) ?_
    exact dp_s0 hF (i := .ireturn) rfl (fun _ => rfl)
  refine dp_s1 hF (i := .aload_n 0) rfl (fun _ => rfl) ?_
  refine dp_si (mj := dp_m_X4_trace) (i := .invokevirtual 70) rfl rfl (Or.inl rfl) rfl (fun _ => rfl) (fun r8 M7 => ?_)
  exact dp_s0 hF (i := .ireturn) rfl (fun _ => rfl)
noncomputable def D_X4_reach_0 (xs : Nat → Int32) (xl d : Nat) (v1 : Int32) (v2 : Int32) (v3 : Int32) (v4 : Int32) (v5 : Int32) (M : dp_M) : Option dp_Res := dp_lim true xs xl (dp_den true xs xl d) dp_m_X4_reach (0, [some (.ref 14), some (.int v1), some (.int v2), some (.int v3), some (.int v4), some (.int v5), none], [], M)
theorem D_X4_reach_0_den (xs : Nat → Int32) (xl d : Nat) (a0 : Int32) (a1 : Int32) (a2 : Int32) (a3 : Int32) (a4 : Int32) (M : dp_M) : dp_den true xs xl (d + 1) 107 [.ref 14, .int a0, .int a1, .int a2, .int a3, .int a4] M = D_X4_reach_0 xs xl d a0 a1 a2 a3 a4 M := rfl
set_option maxRecDepth 20000 in
theorem D_X4_reach_0_eq (xs : Nat → Int32) (xl d : Nat) (v1 : Int32) (v2 : Int32) (v3 : Int32) (v4 : Int32) (v5 : Int32) (M : dp_M) : D_X4_reach_0 xs xl d v1 v2 v3 v4 v5 M = if v1 < 0 ∨ 1300 ≤ Int32.toNatClampNeg v1 then none else (dp_w (((dp_I M 17 (Int32.toNatClampNeg v1)) &&& (((15 : Int32) <<< (((4 : Int32) * v2) &&& 31)) ^^^ (-1 : Int32))) ||| (v5 <<< (((4 : Int32) * v2) &&& 31))) (fun y1 => if (dp_I M 14 15) = (-1 : Int32) then (if y1 < 0 ∨ 65536 ≤ Int32.toNatClampNeg y1 then none else (if (dp_I M 16 (Int32.toNatClampNeg y1)) = (dp_I M 14 10) then (some (.inl none, M)) else (if (dp_I M 14 11) < (1300 : Int32) then (if y1 < 0 ∨ 65536 ≤ Int32.toNatClampNeg y1 then none else dp_w (dp_setI M 16 (Int32.toNatClampNeg y1) (dp_I M 14 10)) (fun M2 => if (dp_I M2 14 11) < 0 ∨ 1300 ≤ Int32.toNatClampNeg (dp_I M2 14 11) then none else dp_w (dp_setI M2 17 (Int32.toNatClampNeg (dp_I M2 14 11)) y1) (fun M3 => if (dp_I M3 14 11) < 0 ∨ 1300 ≤ Int32.toNatClampNeg (dp_I M3 14 11) then none else dp_w (dp_setI M3 18 (Int32.toNatClampNeg (dp_I M3 14 11)) v1) (fun M4 => if (dp_I M4 14 11) < 0 ∨ 1300 ≤ Int32.toNatClampNeg (dp_I M4 14 11) then none else dp_w (dp_setI M4 19 (Int32.toNatClampNeg (dp_I M4 14 11)) (((v2 * (64 : Int32)) + (v3 * (8 : Int32))) + v4)) (fun M5 => dp_bi (dp_den true xs xl d 108 [.ref 14, .int y1] M5) (fun r7 M6 => if r7 = 0 then (dp_w (dp_setI M6 14 11 ((dp_I M6 14 11) + (1 : Int32))) (fun M8 => some (.inl none, M8))) else (dp_w (dp_setI M6 14 15 (dp_I M6 14 11)) (fun M9 => dp_w (dp_setI M9 14 11 ((dp_I M9 14 11) + (1 : Int32))) (fun M10 => some (.inl none, M10)))))))))) else (some (.inl none, M))))) else (some (.inl none, M)))) := by
  have hF := dp_den_grow (md := true) (xs := xs) (xl := xl) d
  unfold D_X4_reach_0
  refine dp_s1 hF (i := .aload_n 0) rfl (fun _ => rfl) ?_
  refine dp_s1 hF (i := .getfield 19) rfl (fun _ => rfl) ?_
  refine dp_s1 hF (i := .iload_n 1) rfl (fun _ => rfl) ?_
  refine dp_s3 hF (i := .iaload) rfl (fun _ => rfl) ?_
  refine dp_s1 hF (i := .bipush 15) rfl (fun _ => rfl) ?_
  refine dp_s1 hF (i := .iconst 4) rfl (fun _ => rfl) ?_
  refine dp_s1 hF (i := .iload_n 2) rfl (fun _ => rfl) ?_
  refine dp_s1 hF (i := .imul) rfl (fun _ => rfl) ?_
  refine dp_s1 hF (i := .ishl) rfl (fun _ => rfl) ?_
  refine dp_s1 hF (i := .iconst (-1)) rfl (fun _ => rfl) ?_
  refine dp_s1 hF (i := .ixor) rfl (fun _ => rfl) ?_
  refine dp_s1 hF (i := .iand) rfl (fun _ => rfl) ?_
  refine dp_s1 hF (i := .iload 5) rfl (fun _ => rfl) ?_
  refine dp_s1 hF (i := .iconst 4) rfl (fun _ => rfl) ?_
  refine dp_s1 hF (i := .iload_n 2) rfl (fun _ => rfl) ?_
  refine dp_s1 hF (i := .imul) rfl (fun _ => rfl) ?_
  refine dp_s1 hF (i := .ishl) rfl (fun _ => rfl) ?_
  refine dp_s1 hF (i := .ior) rfl (fun _ => rfl) ?_
  refine dp_s1w (((dp_I M 17 (Int32.toNatClampNeg v1)) &&& (((15 : Int32) <<< (((4 : Int32) * v2) &&& 31)) ^^^ (-1 : Int32))) ||| (v5 <<< (((4 : Int32) * v2) &&& 31))) (fun (y1 : Int32) => (24, [some (.ref 14), some (.int v1), some (.int v2), some (.int v3), some (.int v4), some (.int v5), some (.int y1)], [], M)) hF (i := .istore 6) rfl (fun _ => rfl) (fun y1 => ?_)
  refine dp_s1 hF (i := .aload_n 0) rfl (fun _ => rfl) ?_
  refine dp_s1 hF (i := .getfield 63) rfl (fun _ => rfl) ?_
  refine dp_s1 hF (i := .iconst (-1)) rfl (fun _ => rfl) ?_
  refine dp_s2 hF (i := .if_icmp .ne 27) (a := (32, [some (.ref 14), some (.int v1), some (.int v2), some (.int v3), some (.int v4), some (.int v5), some (.int y1)], [], M)) (b := (56, [some (.ref 14), some (.int v1), some (.int v2), some (.int v3), some (.int v4), some (.int v5), some (.int y1)], [], M)) rfl (fun _ => rfl) ?_ ?_
  · refine dp_s1 hF (i := .aload_n 0) rfl (fun _ => rfl) ?_
    refine dp_s1 hF (i := .getfield 16) rfl (fun _ => rfl) ?_
    refine dp_s1 hF (i := .iload 6) rfl (fun _ => rfl) ?_
    refine dp_s3 hF (i := .iaload) rfl (fun _ => rfl) ?_
    refine dp_s1 hF (i := .aload_n 0) rfl (fun _ => rfl) ?_
    refine dp_s1 hF (i := .getfield 53) rfl (fun _ => rfl) ?_
    refine dp_s2 hF (i := .if_icmp .eq 13) (a := (56, [some (.ref 14), some (.int v1), some (.int v2), some (.int v3), some (.int v4), some (.int v5), some (.int y1)], [], M)) (b := (46, [some (.ref 14), some (.int v1), some (.int v2), some (.int v3), some (.int v4), some (.int v5), some (.int y1)], [], M)) rfl (fun _ => rfl) ?_ ?_
    · exact dp_s0 hF (i := .return_) rfl (fun _ => rfl)
    refine dp_s1 hF (i := .aload_n 0) rfl (fun _ => rfl) ?_
    refine dp_s1 hF (i := .getfield 56) rfl (fun _ => rfl) ?_
    refine dp_s1 hF (i := .sipush 1300) rfl (fun _ => rfl) ?_
    refine dp_s2 hF (i := .if_icmp .lt 4) (a := (57, [some (.ref 14), some (.int v1), some (.int v2), some (.int v3), some (.int v4), some (.int v5), some (.int y1)], [], M)) (b := (56, [some (.ref 14), some (.int v1), some (.int v2), some (.int v3), some (.int v4), some (.int v5), some (.int y1)], [], M)) rfl (fun _ => rfl) ?_ ?_
    · refine dp_s1 hF (i := .aload_n 0) rfl (fun _ => rfl) ?_
      refine dp_s1 hF (i := .getfield 16) rfl (fun _ => rfl) ?_
      refine dp_s1 hF (i := .iload 6) rfl (fun _ => rfl) ?_
      refine dp_s1 hF (i := .aload_n 0) rfl (fun _ => rfl) ?_
      refine dp_s1 hF (i := .getfield 53) rfl (fun _ => rfl) ?_
      refine dp_s3w (dp_setI M 16 (Int32.toNatClampNeg y1) (dp_I M 14 10)) (fun (M2 : dp_M) => (68, [some (.ref 14), some (.int v1), some (.int v2), some (.int v3), some (.int v4), some (.int v5), some (.int y1)], [], M2)) hF (i := .iastore) rfl (fun _ => rfl) (fun M2 => ?_)
      refine dp_s1 hF (i := .aload_n 0) rfl (fun _ => rfl) ?_
      refine dp_s1 hF (i := .getfield 19) rfl (fun _ => rfl) ?_
      refine dp_s1 hF (i := .aload_n 0) rfl (fun _ => rfl) ?_
      refine dp_s1 hF (i := .getfield 56) rfl (fun _ => rfl) ?_
      refine dp_s1 hF (i := .iload 6) rfl (fun _ => rfl) ?_
      refine dp_s3w (dp_setI M2 17 (Int32.toNatClampNeg (dp_I M2 14 11)) y1) (fun (M3 : dp_M) => (79, [some (.ref 14), some (.int v1), some (.int v2), some (.int v3), some (.int v4), some (.int v5), some (.int y1)], [], M3)) hF (i := .iastore) rfl (fun _ => rfl) (fun M3 => ?_)
      refine dp_s1 hF (i := .aload_n 0) rfl (fun _ => rfl) ?_
      refine dp_s1 hF (i := .getfield 22) rfl (fun _ => rfl) ?_
      refine dp_s1 hF (i := .aload_n 0) rfl (fun _ => rfl) ?_
      refine dp_s1 hF (i := .getfield 56) rfl (fun _ => rfl) ?_
      refine dp_s1 hF (i := .iload_n 1) rfl (fun _ => rfl) ?_
      refine dp_s3w (dp_setI M3 18 (Int32.toNatClampNeg (dp_I M3 14 11)) v1) (fun (M4 : dp_M) => (89, [some (.ref 14), some (.int v1), some (.int v2), some (.int v3), some (.int v4), some (.int v5), some (.int y1)], [], M4)) hF (i := .iastore) rfl (fun _ => rfl) (fun M4 => ?_)
      refine dp_s1 hF (i := .aload_n 0) rfl (fun _ => rfl) ?_
      refine dp_s1 hF (i := .getfield 25) rfl (fun _ => rfl) ?_
      refine dp_s1 hF (i := .aload_n 0) rfl (fun _ => rfl) ?_
      refine dp_s1 hF (i := .getfield 56) rfl (fun _ => rfl) ?_
      refine dp_s1 hF (i := .iload_n 2) rfl (fun _ => rfl) ?_
      refine dp_s1 hF (i := .bipush 64) rfl (fun _ => rfl) ?_
      refine dp_s1 hF (i := .imul) rfl (fun _ => rfl) ?_
      refine dp_s1 hF (i := .iload_n 3) rfl (fun _ => rfl) ?_
      refine dp_s1 hF (i := .bipush 8) rfl (fun _ => rfl) ?_
      refine dp_s1 hF (i := .imul) rfl (fun _ => rfl) ?_
      refine dp_s1 hF (i := .iadd) rfl (fun _ => rfl) ?_
      refine dp_s1 hF (i := .iload 4) rfl (fun _ => rfl) ?_
      refine dp_s1 hF (i := .iadd) rfl (fun _ => rfl) ?_
      refine dp_s3w (dp_setI M4 19 (Int32.toNatClampNeg (dp_I M4 14 11)) (((v2 * (64 : Int32)) + (v3 * (8 : Int32))) + v4)) (fun (M5 : dp_M) => (110, [some (.ref 14), some (.int v1), some (.int v2), some (.int v3), some (.int v4), some (.int v5), some (.int y1)], [], M5)) hF (i := .iastore) rfl (fun _ => rfl) (fun M5 => ?_)
      refine dp_s1 hF (i := .aload_n 0) rfl (fun _ => rfl) ?_
      refine dp_s1 hF (i := .iload 6) rfl (fun _ => rfl) ?_
      refine dp_si (mj := dp_m_X4_isEnd) (i := .invokevirtual 59) rfl rfl (Or.inr rfl) rfl (fun _ => rfl) (fun r7 M6 => ?_)
      refine dp_s2 hF (i := .ifCond .eq 11) (a := (127, [some (.ref 14), some (.int v1), some (.int v2), some (.int v3), some (.int v4), some (.int v5), some (.int y1)], [], M6)) (b := (119, [some (.ref 14), some (.int v1), some (.int v2), some (.int v3), some (.int v4), some (.int v5), some (.int y1)], [], M6)) rfl (fun _ => rfl) ?_ ?_
      · refine dp_s1 hF (i := .aload_n 0) rfl (fun _ => rfl) ?_
        refine dp_s1 hF (i := .dup) rfl (fun _ => rfl) ?_
        refine dp_s1 hF (i := .getfield 56) rfl (fun _ => rfl) ?_
        refine dp_s1 hF (i := .iconst 1) rfl (fun _ => rfl) ?_
        refine dp_s1 hF (i := .iadd) rfl (fun _ => rfl) ?_
        refine dp_s1w (dp_setI M6 14 11 ((dp_I M6 14 11) + (1 : Int32))) (fun (M8 : dp_M) => (137, [some (.ref 14), some (.int v1), some (.int v2), some (.int v3), some (.int v4), some (.int v5), some (.int y1)], [], M8)) hF (i := .putfield 56) rfl (fun _ => rfl) (fun M8 => ?_)
        exact dp_s0 hF (i := .return_) rfl (fun _ => rfl)
      refine dp_s1 hF (i := .aload_n 0) rfl (fun _ => rfl) ?_
      refine dp_s1 hF (i := .aload_n 0) rfl (fun _ => rfl) ?_
      refine dp_s1 hF (i := .getfield 56) rfl (fun _ => rfl) ?_
      refine dp_s1w (dp_setI M6 14 15 (dp_I M6 14 11)) (fun (M9 : dp_M) => (127, [some (.ref 14), some (.int v1), some (.int v2), some (.int v3), some (.int v4), some (.int v5), some (.int y1)], [], M9)) hF (i := .putfield 63) rfl (fun _ => rfl) (fun M9 => ?_)
      refine dp_s1 hF (i := .aload_n 0) rfl (fun _ => rfl) ?_
      refine dp_s1 hF (i := .dup) rfl (fun _ => rfl) ?_
      refine dp_s1 hF (i := .getfield 56) rfl (fun _ => rfl) ?_
      refine dp_s1 hF (i := .iconst 1) rfl (fun _ => rfl) ?_
      refine dp_s1 hF (i := .iadd) rfl (fun _ => rfl) ?_
      refine dp_s1w (dp_setI M9 14 11 ((dp_I M9 14 11) + (1 : Int32))) (fun (M10 : dp_M) => (137, [some (.ref 14), some (.int v1), some (.int v2), some (.int v3), some (.int v4), some (.int v5), some (.int y1)], [], M10)) hF (i := .putfield 56) rfl (fun _ => rfl) (fun M10 => ?_)
      exact dp_s0 hF (i := .return_) rfl (fun _ => rfl)
    exact dp_s0 hF (i := .return_) rfl (fun _ => rfl)
  exact dp_s0 hF (i := .return_) rfl (fun _ => rfl)
noncomputable def D_X4_isEnd_0 (xs : Nat → Int32) (xl d : Nat) (v1 : Int32) (M : dp_M) : Option dp_Res := dp_lim true xs xl (dp_den true xs xl d) dp_m_X4_isEnd (0, [some (.ref 14), some (.int v1), none, none], [], M)
noncomputable def D_X4_isEnd_2 (xs : Nat → Int32) (xl d : Nat) (v1 : Int32) (v2 : Int32) (M : dp_M) : Option dp_Res := dp_lim true xs xl (dp_den true xs xl d) dp_m_X4_isEnd (2, [some (.ref 14), some (.int v1), some (.int v2), none], [], M)
noncomputable def D_X4_isEnd_2_a (xs : Nat → Int32) (xl d : Nat) (v1 : Int32) (v2 : Int32) (v3 : Int32) (M : dp_M) : Option dp_Res := dp_lim true xs xl (dp_den true xs xl d) dp_m_X4_isEnd (2, [some (.ref 14), some (.int v1), some (.int v2), some (.int v3)], [], M)
theorem D_X4_isEnd_0_den (xs : Nat → Int32) (xl d : Nat) (a0 : Int32) (M : dp_M) : dp_den true xs xl (d + 1) 108 [.ref 14, .int a0] M = D_X4_isEnd_0 xs xl d a0 M := rfl
set_option maxRecDepth 20000 in
theorem D_X4_isEnd_0_eq (xs : Nat → Int32) (xl d : Nat) (v1 : Int32) (M : dp_M) : D_X4_isEnd_0 xs xl d v1 M = dp_w (0 : Int32) (fun y1 => D_X4_isEnd_2 xs xl d v1 y1 M) := by
  have hF := dp_den_grow (md := true) (xs := xs) (xl := xl) d
  unfold D_X4_isEnd_0
  refine dp_s1 hF (i := .iconst 0) rfl (fun _ => rfl) ?_
  refine dp_s1w (0 : Int32) (fun (y1 : Int32) => (2, [some (.ref 14), some (.int v1), some (.int y1), none], [], M)) hF (i := .istore_n 2) rfl (fun _ => rfl) (fun y1 => ?_)
  exact rfl
set_option maxRecDepth 20000 in
theorem D_X4_isEnd_2_eq (xs : Nat → Int32) (xl d : Nat) (v1 : Int32) (v2 : Int32) (M : dp_M) : D_X4_isEnd_2 xs xl d v1 v2 M = if (dp_I M 14 12) ≤ v2 then (some (.inl (some (.int (1 : Int32))), M)) else (dp_w ((v1 >>> (((4 : Int32) * v2) &&& 31)) &&& (15 : Int32)) (fun y1 => if y1 = (13 : Int32) then (some (.inl (some (.int (0 : Int32))), M)) else (if v2 < 0 ∨ 4 ≤ Int32.toNatClampNeg v2 then none else (if (dp_I M 21 (Int32.toNatClampNeg v2)) = 0 then (dp_w (v2 + (1 : Int32)) (fun y2 => D_X4_isEnd_2_a xs xl d v1 y2 y1 M)) else (if y1 = (12 : Int32) then (dp_w (v2 + (1 : Int32)) (fun y3 => D_X4_isEnd_2_a xs xl d v1 y3 y1 M)) else (some (.inl (some (.int (0 : Int32))), M))))))) := by
  have hF := dp_den_grow (md := true) (xs := xs) (xl := xl) d
  unfold D_X4_isEnd_2
  refine dp_s1 hF (i := .iload_n 2) rfl (fun _ => rfl) ?_
  refine dp_s1 hF (i := .aload_n 0) rfl (fun _ => rfl) ?_
  refine dp_s1 hF (i := .getfield 46) rfl (fun _ => rfl) ?_
  refine dp_s2 hF (i := .if_icmp .ge 41) (a := (48, [some (.ref 14), some (.int v1), some (.int v2), none], [], M)) (b := (10, [some (.ref 14), some (.int v1), some (.int v2), none], [], M)) rfl (fun _ => rfl) ?_ ?_
  · refine dp_s1 hF (i := .iconst 1) rfl (fun _ => rfl) ?_
    exact dp_s0 hF (i := .ireturn) rfl (fun _ => rfl)
  refine dp_s1 hF (i := .iload_n 1) rfl (fun _ => rfl) ?_
  refine dp_s1 hF (i := .iconst 4) rfl (fun _ => rfl) ?_
  refine dp_s1 hF (i := .iload_n 2) rfl (fun _ => rfl) ?_
  refine dp_s1 hF (i := .imul) rfl (fun _ => rfl) ?_
  refine dp_s1 hF (i := .ishr) rfl (fun _ => rfl) ?_
  refine dp_s1 hF (i := .bipush 15) rfl (fun _ => rfl) ?_
  refine dp_s1 hF (i := .iand) rfl (fun _ => rfl) ?_
  refine dp_s1w ((v1 >>> (((4 : Int32) * v2) &&& 31)) &&& (15 : Int32)) (fun (y1 : Int32) => (19, [some (.ref 14), some (.int v1), some (.int v2), some (.int y1)], [], M)) hF (i := .istore_n 3) rfl (fun _ => rfl) (fun y1 => ?_)
  refine dp_s1 hF (i := .iload_n 3) rfl (fun _ => rfl) ?_
  refine dp_s1 hF (i := .bipush 13) rfl (fun _ => rfl) ?_
  refine dp_s2 hF (i := .if_icmp .eq 18) (a := (40, [some (.ref 14), some (.int v1), some (.int v2), some (.int y1)], [], M)) (b := (25, [some (.ref 14), some (.int v1), some (.int v2), some (.int y1)], [], M)) rfl (fun _ => rfl) ?_ ?_
  · refine dp_s1 hF (i := .iconst 0) rfl (fun _ => rfl) ?_
    exact dp_s0 hF (i := .ireturn) rfl (fun _ => rfl)
  refine dp_s1 hF (i := .aload_n 0) rfl (fun _ => rfl) ?_
  refine dp_s1 hF (i := .getfield 33) rfl (fun _ => rfl) ?_
  refine dp_s1 hF (i := .iload_n 2) rfl (fun _ => rfl) ?_
  refine dp_s3 hF (i := .baload) rfl (fun _ => rfl) ?_
  refine dp_s2 hF (i := .ifCond .eq 11) (a := (42, [some (.ref 14), some (.int v1), some (.int v2), some (.int y1)], [], M)) (b := (34, [some (.ref 14), some (.int v1), some (.int v2), some (.int y1)], [], M)) rfl (fun _ => rfl) ?_ ?_
  · refine dp_s1w (v2 + (1 : Int32)) (fun (y2 : Int32) => (45, [some (.ref 14), some (.int v1), some (.int y2), some (.int y1)], [], M)) hF (i := .iinc 2 1) rfl (fun _ => rfl) (fun y2 => ?_)
    refine dp_s1 hF (i := .goto (-43)) rfl (fun _ => rfl) ?_
    exact rfl
  refine dp_s1 hF (i := .iload_n 3) rfl (fun _ => rfl) ?_
  refine dp_s1 hF (i := .bipush 12) rfl (fun _ => rfl) ?_
  refine dp_s2 hF (i := .if_icmp .eq 5) (a := (42, [some (.ref 14), some (.int v1), some (.int v2), some (.int y1)], [], M)) (b := (40, [some (.ref 14), some (.int v1), some (.int v2), some (.int y1)], [], M)) rfl (fun _ => rfl) ?_ ?_
  · refine dp_s1w (v2 + (1 : Int32)) (fun (y3 : Int32) => (45, [some (.ref 14), some (.int v1), some (.int y3), some (.int y1)], [], M)) hF (i := .iinc 2 1) rfl (fun _ => rfl) (fun y3 => ?_)
    refine dp_s1 hF (i := .goto (-43)) rfl (fun _ => rfl) ?_
    exact rfl
  refine dp_s1 hF (i := .iconst 0) rfl (fun _ => rfl) ?_
  exact dp_s0 hF (i := .ireturn) rfl (fun _ => rfl)
set_option maxRecDepth 20000 in
theorem D_X4_isEnd_2_a_eq (xs : Nat → Int32) (xl d : Nat) (v1 : Int32) (v2 : Int32) (v3 : Int32) (M : dp_M) : D_X4_isEnd_2_a xs xl d v1 v2 v3 M = if (dp_I M 14 12) ≤ v2 then (some (.inl (some (.int (1 : Int32))), M)) else (dp_w ((v1 >>> (((4 : Int32) * v2) &&& 31)) &&& (15 : Int32)) (fun y1 => if y1 = (13 : Int32) then (some (.inl (some (.int (0 : Int32))), M)) else (if v2 < 0 ∨ 4 ≤ Int32.toNatClampNeg v2 then none else (if (dp_I M 21 (Int32.toNatClampNeg v2)) = 0 then (dp_w (v2 + (1 : Int32)) (fun y2 => D_X4_isEnd_2_a xs xl d v1 y2 y1 M)) else (if y1 = (12 : Int32) then (dp_w (v2 + (1 : Int32)) (fun y3 => D_X4_isEnd_2_a xs xl d v1 y3 y1 M)) else (some (.inl (some (.int (0 : Int32))), M))))))) := by
  have hF := dp_den_grow (md := true) (xs := xs) (xl := xl) d
  unfold D_X4_isEnd_2_a
  refine dp_s1 hF (i := .iload_n 2) rfl (fun _ => rfl) ?_
  refine dp_s1 hF (i := .aload_n 0) rfl (fun _ => rfl) ?_
  refine dp_s1 hF (i := .getfield 46) rfl (fun _ => rfl) ?_
  refine dp_s2 hF (i := .if_icmp .ge 41) (a := (48, [some (.ref 14), some (.int v1), some (.int v2), some (.int v3)], [], M)) (b := (10, [some (.ref 14), some (.int v1), some (.int v2), some (.int v3)], [], M)) rfl (fun _ => rfl) ?_ ?_
  · refine dp_s1 hF (i := .iconst 1) rfl (fun _ => rfl) ?_
    exact dp_s0 hF (i := .ireturn) rfl (fun _ => rfl)
  refine dp_s1 hF (i := .iload_n 1) rfl (fun _ => rfl) ?_
  refine dp_s1 hF (i := .iconst 4) rfl (fun _ => rfl) ?_
  refine dp_s1 hF (i := .iload_n 2) rfl (fun _ => rfl) ?_
  refine dp_s1 hF (i := .imul) rfl (fun _ => rfl) ?_
  refine dp_s1 hF (i := .ishr) rfl (fun _ => rfl) ?_
  refine dp_s1 hF (i := .bipush 15) rfl (fun _ => rfl) ?_
  refine dp_s1 hF (i := .iand) rfl (fun _ => rfl) ?_
  refine dp_s1w ((v1 >>> (((4 : Int32) * v2) &&& 31)) &&& (15 : Int32)) (fun (y1 : Int32) => (19, [some (.ref 14), some (.int v1), some (.int v2), some (.int y1)], [], M)) hF (i := .istore_n 3) rfl (fun _ => rfl) (fun y1 => ?_)
  refine dp_s1 hF (i := .iload_n 3) rfl (fun _ => rfl) ?_
  refine dp_s1 hF (i := .bipush 13) rfl (fun _ => rfl) ?_
  refine dp_s2 hF (i := .if_icmp .eq 18) (a := (40, [some (.ref 14), some (.int v1), some (.int v2), some (.int y1)], [], M)) (b := (25, [some (.ref 14), some (.int v1), some (.int v2), some (.int y1)], [], M)) rfl (fun _ => rfl) ?_ ?_
  · refine dp_s1 hF (i := .iconst 0) rfl (fun _ => rfl) ?_
    exact dp_s0 hF (i := .ireturn) rfl (fun _ => rfl)
  refine dp_s1 hF (i := .aload_n 0) rfl (fun _ => rfl) ?_
  refine dp_s1 hF (i := .getfield 33) rfl (fun _ => rfl) ?_
  refine dp_s1 hF (i := .iload_n 2) rfl (fun _ => rfl) ?_
  refine dp_s3 hF (i := .baload) rfl (fun _ => rfl) ?_
  refine dp_s2 hF (i := .ifCond .eq 11) (a := (42, [some (.ref 14), some (.int v1), some (.int v2), some (.int y1)], [], M)) (b := (34, [some (.ref 14), some (.int v1), some (.int v2), some (.int y1)], [], M)) rfl (fun _ => rfl) ?_ ?_
  · refine dp_s1w (v2 + (1 : Int32)) (fun (y2 : Int32) => (45, [some (.ref 14), some (.int v1), some (.int y2), some (.int y1)], [], M)) hF (i := .iinc 2 1) rfl (fun _ => rfl) (fun y2 => ?_)
    refine dp_s1 hF (i := .goto (-43)) rfl (fun _ => rfl) ?_
    exact rfl
  refine dp_s1 hF (i := .iload_n 3) rfl (fun _ => rfl) ?_
  refine dp_s1 hF (i := .bipush 12) rfl (fun _ => rfl) ?_
  refine dp_s2 hF (i := .if_icmp .eq 5) (a := (42, [some (.ref 14), some (.int v1), some (.int v2), some (.int y1)], [], M)) (b := (40, [some (.ref 14), some (.int v1), some (.int v2), some (.int y1)], [], M)) rfl (fun _ => rfl) ?_ ?_
  · refine dp_s1w (v2 + (1 : Int32)) (fun (y3 : Int32) => (45, [some (.ref 14), some (.int v1), some (.int y3), some (.int y1)], [], M)) hF (i := .iinc 2 1) rfl (fun _ => rfl) (fun y3 => ?_)
    refine dp_s1 hF (i := .goto (-43)) rfl (fun _ => rfl) ?_
    exact rfl
  refine dp_s1 hF (i := .iconst 0) rfl (fun _ => rfl) ?_
  exact dp_s0 hF (i := .ireturn) rfl (fun _ => rfl)
noncomputable def D_X4_goOnFrom_0 (xs : Nat → Int32) (xl d : Nat) (v1 : Int32) (M : dp_M) : Option dp_Res := dp_lim true xs xl (dp_den true xs xl d) dp_m_X4_goOnFrom (0, [some (.ref 14), some (.int v1), none, none], [], M)
noncomputable def D_X4_goOnFrom_12 (xs : Nat → Int32) (xl d : Nat) (v1 : Int32) (v2 : Int32) (M : dp_M) : Option dp_Res := dp_lim true xs xl (dp_den true xs xl d) dp_m_X4_goOnFrom (12, [some (.ref 14), some (.int v1), some (.int v2), none], [], M)
noncomputable def D_X4_goOnFrom_42 (xs : Nat → Int32) (xl d : Nat) (v1 : Int32) (v2 : Int32) (v3 : Int32) (M : dp_M) : Option dp_Res := dp_lim true xs xl (dp_den true xs xl d) dp_m_X4_goOnFrom (42, [some (.ref 14), some (.int v1), some (.int v2), some (.int v3)], [], M)
theorem D_X4_goOnFrom_0_den (xs : Nat → Int32) (xl d : Nat) (a0 : Int32) (M : dp_M) : dp_den true xs xl (d + 1) 109 [.ref 14, .int a0] M = D_X4_goOnFrom_0 xs xl d a0 M := rfl
set_option maxRecDepth 20000 in
theorem D_X4_goOnFrom_0_eq (xs : Nat → Int32) (xl d : Nat) (v1 : Int32) (M : dp_M) : D_X4_goOnFrom_0 xs xl d v1 M = if v1 < 0 ∨ 1300 ≤ Int32.toNatClampNeg v1 then none else (dp_bv (dp_den true xs xl d 110 [.ref 14, .int (dp_I M 17 (Int32.toNatClampNeg v1))] M) (fun M1 => dp_w (0 : Int32) (fun y2 => D_X4_goOnFrom_12 xs xl d v1 y2 M1))) := by
  have hF := dp_den_grow (md := true) (xs := xs) (xl := xl) d
  unfold D_X4_goOnFrom_0
  refine dp_s1 hF (i := .aload_n 0) rfl (fun _ => rfl) ?_
  refine dp_s1 hF (i := .aload_n 0) rfl (fun _ => rfl) ?_
  refine dp_s1 hF (i := .getfield 19) rfl (fun _ => rfl) ?_
  refine dp_s1 hF (i := .iload_n 1) rfl (fun _ => rfl) ?_
  refine dp_s3 hF (i := .iaload) rfl (fun _ => rfl) ?_
  refine dp_sv (mj := dp_m_X4_readState) (i := .invokevirtual 74) rfl rfl rfl rfl (fun _ => rfl) (fun M1 => ?_)
  refine dp_s1 hF (i := .iconst 0) rfl (fun _ => rfl) ?_
  refine dp_s1w (0 : Int32) (fun (y2 : Int32) => (12, [some (.ref 14), some (.int v1), some (.int y2), none], [], M1)) hF (i := .istore_n 2) rfl (fun _ => rfl) (fun y2 => ?_)
  exact rfl
set_option maxRecDepth 20000 in
theorem D_X4_goOnFrom_12_eq (xs : Nat → Int32) (xl d : Nat) (v1 : Int32) (v2 : Int32) (M : dp_M) : D_X4_goOnFrom_12 xs xl d v1 v2 M = if (3 : Int32) ≤ v2 then (dp_w (3 : Int32) (fun y1 => dp_w (0 : Int32) (fun y2 => D_X4_goOnFrom_42 xs xl d v1 y1 y2 M))) else (if v2 < 0 ∨ 3 ≤ Int32.toNatClampNeg v2 then none else (if (dp_I M 23 (Int32.toNatClampNeg v2)) ≤ 0 then (dp_w (v2 + (1 : Int32)) (fun y3 => D_X4_goOnFrom_12 xs xl d v1 y3 M)) else (dp_bv (dp_den true xs xl d 112 [.ref 14, .int v1, .int v2] M) (fun M4 => dp_w (v2 + (1 : Int32)) (fun y5 => D_X4_goOnFrom_12 xs xl d v1 y5 M4))))) := by
  have hF := dp_den_grow (md := true) (xs := xs) (xl := xl) d
  unfold D_X4_goOnFrom_12
  refine dp_s1 hF (i := .iload_n 2) rfl (fun _ => rfl) ?_
  refine dp_s1 hF (i := .iconst 3) rfl (fun _ => rfl) ?_
  refine dp_s2 hF (i := .if_icmp .ge 24) (a := (38, [some (.ref 14), some (.int v1), some (.int v2), none], [], M)) (b := (17, [some (.ref 14), some (.int v1), some (.int v2), none], [], M)) rfl (fun _ => rfl) ?_ ?_
  · refine dp_s1 hF (i := .iconst 3) rfl (fun _ => rfl) ?_
    refine dp_s1w (3 : Int32) (fun (y1 : Int32) => (40, [some (.ref 14), some (.int v1), some (.int y1), none], [], M)) hF (i := .istore_n 2) rfl (fun _ => rfl) (fun y1 => ?_)
    refine dp_s1 hF (i := .iconst 0) rfl (fun _ => rfl) ?_
    refine dp_s1w (0 : Int32) (fun (y2 : Int32) => (42, [some (.ref 14), some (.int v1), some (.int y1), some (.int y2)], [], M)) hF (i := .istore_n 3) rfl (fun _ => rfl) (fun y2 => ?_)
    exact rfl
  refine dp_s1 hF (i := .aload_n 0) rfl (fun _ => rfl) ?_
  refine dp_s1 hF (i := .getfield 40) rfl (fun _ => rfl) ?_
  refine dp_s1 hF (i := .iload_n 2) rfl (fun _ => rfl) ?_
  refine dp_s3 hF (i := .iaload) rfl (fun _ => rfl) ?_
  refine dp_s2 hF (i := .ifCond .le 9) (a := (32, [some (.ref 14), some (.int v1), some (.int v2), none], [], M)) (b := (26, [some (.ref 14), some (.int v1), some (.int v2), none], [], M)) rfl (fun _ => rfl) ?_ ?_
  · refine dp_s1w (v2 + (1 : Int32)) (fun (y3 : Int32) => (35, [some (.ref 14), some (.int v1), some (.int y3), none], [], M)) hF (i := .iinc 2 1) rfl (fun _ => rfl) (fun y3 => ?_)
    refine dp_s1 hF (i := .goto (-23)) rfl (fun _ => rfl) ?_
    exact rfl
  refine dp_s1 hF (i := .aload_n 0) rfl (fun _ => rfl) ?_
  refine dp_s1 hF (i := .iload_n 1) rfl (fun _ => rfl) ?_
  refine dp_s1 hF (i := .iload_n 2) rfl (fun _ => rfl) ?_
  refine dp_sv (mj := dp_m_X4_goFromStack) (i := .invokevirtual 77) rfl rfl rfl rfl (fun _ => rfl) (fun M4 => ?_)
  refine dp_s1w (v2 + (1 : Int32)) (fun (y5 : Int32) => (35, [some (.ref 14), some (.int v1), some (.int y5), none], [], M4)) hF (i := .iinc 2 1) rfl (fun _ => rfl) (fun y5 => ?_)
  refine dp_s1 hF (i := .goto (-23)) rfl (fun _ => rfl) ?_
  exact rfl
set_option maxRecDepth 20000 in
theorem D_X4_goOnFrom_42_eq (xs : Nat → Int32) (xl d : Nat) (v1 : Int32) (v2 : Int32) (v3 : Int32) (M : dp_M) : D_X4_goOnFrom_42 xs xl d v1 v2 v3 M = if (dp_I M 14 12) ≤ v3 then (some (.inl none, M)) else (if v3 < 0 ∨ 4 ≤ Int32.toNatClampNeg v3 then none else (if (dp_I M 20 (Int32.toNatClampNeg v3)) = (13 : Int32) then (dp_bv (dp_den true xs xl d 113 [.ref 14, .int v1, .int v3, .int v2, .int (-1 : Int32)] M) (fun M1 => dp_w (v2 + (1 : Int32)) (fun y2 => dp_w (v3 + (1 : Int32)) (fun y3 => D_X4_goOnFrom_42 xs xl d v1 y2 y3 M1)))) else (dp_w (v3 + (1 : Int32)) (fun y4 => D_X4_goOnFrom_42 xs xl d v1 v2 y4 M)))) := by
  have hF := dp_den_grow (md := true) (xs := xs) (xl := xl) d
  unfold D_X4_goOnFrom_42
  refine dp_s1 hF (i := .iload_n 3) rfl (fun _ => rfl) ?_
  refine dp_s1 hF (i := .aload_n 0) rfl (fun _ => rfl) ?_
  refine dp_s1 hF (i := .getfield 46) rfl (fun _ => rfl) ?_
  refine dp_s2 hF (i := .if_icmp .ge 31) (a := (78, [some (.ref 14), some (.int v1), some (.int v2), some (.int v3)], [], M)) (b := (50, [some (.ref 14), some (.int v1), some (.int v2), some (.int v3)], [], M)) rfl (fun _ => rfl) ?_ ?_
  · exact dp_s0 hF (i := .return_) rfl (fun _ => rfl)
  refine dp_s1 hF (i := .aload_n 0) rfl (fun _ => rfl) ?_
  refine dp_s1 hF (i := .getfield 30) rfl (fun _ => rfl) ?_
  refine dp_s1 hF (i := .iload_n 3) rfl (fun _ => rfl) ?_
  refine dp_s3 hF (i := .iaload) rfl (fun _ => rfl) ?_
  refine dp_s1 hF (i := .bipush 13) rfl (fun _ => rfl) ?_
  refine dp_s2 hF (i := .if_icmp .ne 14) (a := (61, [some (.ref 14), some (.int v1), some (.int v2), some (.int v3)], [], M)) (b := (72, [some (.ref 14), some (.int v1), some (.int v2), some (.int v3)], [], M)) rfl (fun _ => rfl) ?_ ?_
  · refine dp_s1 hF (i := .aload_n 0) rfl (fun _ => rfl) ?_
    refine dp_s1 hF (i := .iload_n 1) rfl (fun _ => rfl) ?_
    refine dp_s1 hF (i := .iload_n 3) rfl (fun _ => rfl) ?_
    refine dp_s1 hF (i := .iload_n 2) rfl (fun _ => rfl) ?_
    refine dp_s1 hF (i := .iconst (-1)) rfl (fun _ => rfl) ?_
    refine dp_sv (mj := dp_m_X4_goToStacks) (i := .invokevirtual 81) rfl rfl rfl rfl (fun _ => rfl) (fun M1 => ?_)
    refine dp_s1w (v2 + (1 : Int32)) (fun (y2 : Int32) => (72, [some (.ref 14), some (.int v1), some (.int y2), some (.int v3)], [], M1)) hF (i := .iinc 2 1) rfl (fun _ => rfl) (fun y2 => ?_)
    refine dp_s1w (v3 + (1 : Int32)) (fun (y3 : Int32) => (75, [some (.ref 14), some (.int v1), some (.int y2), some (.int y3)], [], M1)) hF (i := .iinc 3 1) rfl (fun _ => rfl) (fun y3 => ?_)
    refine dp_s1 hF (i := .goto (-33)) rfl (fun _ => rfl) ?_
    exact rfl
  refine dp_s1w (v3 + (1 : Int32)) (fun (y4 : Int32) => (75, [some (.ref 14), some (.int v1), some (.int v2), some (.int y4)], [], M)) hF (i := .iinc 3 1) rfl (fun _ => rfl) (fun y4 => ?_)
  refine dp_s1 hF (i := .goto (-33)) rfl (fun _ => rfl) ?_
  exact rfl
noncomputable def D_X4_readState_0 (xs : Nat → Int32) (xl d : Nat) (v1 : Int32) (M : dp_M) : Option dp_Res := dp_lim true xs xl (dp_den true xs xl d) dp_m_X4_readState (0, [some (.ref 14), some (.int v1), none], [], M)
noncomputable def D_X4_readState_15 (xs : Nat → Int32) (xl d : Nat) (v1 : Int32) (v2 : Int32) (M : dp_M) : Option dp_Res := dp_lim true xs xl (dp_den true xs xl d) dp_m_X4_readState (15, [some (.ref 14), some (.int v1), some (.int v2)], [], M)
theorem D_X4_readState_0_den (xs : Nat → Int32) (xl d : Nat) (a0 : Int32) (M : dp_M) : dp_den true xs xl (d + 1) 110 [.ref 14, .int a0] M = D_X4_readState_0 xs xl d a0 M := rfl
set_option maxRecDepth 20000 in
theorem D_X4_readState_0_eq (xs : Nat → Int32) (xl d : Nat) (v1 : Int32) (M : dp_M) : D_X4_readState_0 xs xl d v1 M = dp_bv (dp_den true xs xl d 593 [.ref 23, .int (0 : Int32)] M) (fun M1 => dp_w (dp_setI M1 14 14 (0 : Int32)) (fun M2 => dp_w (0 : Int32) (fun y3 => D_X4_readState_15 xs xl d v1 y3 M2))) := by
  have hF := dp_den_grow (md := true) (xs := xs) (xl := xl) d
  unfold D_X4_readState_0
  refine dp_s1 hF (i := .aload_n 0) rfl (fun _ => rfl) ?_
  refine dp_s1 hF (i := .getfield 40) rfl (fun _ => rfl) ?_
  refine dp_s1 hF (i := .iconst 0) rfl (fun _ => rfl) ?_
  refine dp_sv (mj := dp_m_J7_fill_53178) (i := .invokestatic 85) rfl rfl rfl rfl (fun _ => rfl) (fun M1 => ?_)
  refine dp_s1 hF (i := .aload_n 0) rfl (fun _ => rfl) ?_
  refine dp_s1 hF (i := .iconst 0) rfl (fun _ => rfl) ?_
  refine dp_s1w (dp_setI M1 14 14 (0 : Int32)) (fun (M2 : dp_M) => (13, [some (.ref 14), some (.int v1), none], [], M2)) hF (i := .putfield 91) rfl (fun _ => rfl) (fun M2 => ?_)
  refine dp_s1 hF (i := .iconst 0) rfl (fun _ => rfl) ?_
  refine dp_s1w (0 : Int32) (fun (y3 : Int32) => (15, [some (.ref 14), some (.int v1), some (.int y3)], [], M2)) hF (i := .istore_n 2) rfl (fun _ => rfl) (fun y3 => ?_)
  exact rfl
set_option maxRecDepth 20000 in
theorem D_X4_readState_15_eq (xs : Nat → Int32) (xl d : Nat) (v1 : Int32) (v2 : Int32) (M : dp_M) : D_X4_readState_15 xs xl d v1 v2 M = if (dp_I M 14 12) ≤ v2 then (some (.inl none, M)) else (if v2 < 0 ∨ 4 ≤ Int32.toNatClampNeg v2 then none else dp_w (dp_setI M 20 (Int32.toNatClampNeg v2) ((v1 >>> (((4 : Int32) * v2) &&& 31)) &&& (15 : Int32))) (fun M1 => if v2 < 0 ∨ 4 ≤ Int32.toNatClampNeg v2 then none else (if (dp_I M1 20 (Int32.toNatClampNeg v2)) = (12 : Int32) then (dp_w (dp_setI M1 14 14 ((dp_I M1 14 14) ||| ((1 : Int32) <<< (v2 &&& 31)))) (fun M2 => dp_w (v2 + (1 : Int32)) (fun y3 => D_X4_readState_15 xs xl d v1 y3 M2))) else (if v2 < 0 ∨ 4 ≤ Int32.toNatClampNeg v2 then none else (if (12 : Int32) ≤ (dp_I M1 20 (Int32.toNatClampNeg v2)) then (dp_w (v2 + (1 : Int32)) (fun y4 => D_X4_readState_15 xs xl d v1 y4 M1)) else (if v2 < 0 ∨ 4 ≤ Int32.toNatClampNeg v2 then none else (if v2 < 0 ∨ 4 ≤ Int32.toNatClampNeg v2 then none else (dp_bv (dp_den true xs xl d 111 [.ref 14, .int v2, .int ((dp_I M1 20 (Int32.toNatClampNeg v2)) / (4 : Int32)), .int (((dp_I M1 20 (Int32.toNatClampNeg v2)) - (dp_I M1 20 (Int32.toNatClampNeg v2)) / (4 : Int32) * (4 : Int32)) + (1 : Int32))] M1) (fun M5 => dp_w (v2 + (1 : Int32)) (fun y6 => D_X4_readState_15 xs xl d v1 y6 M5)))))))))) := by
  have hF := dp_den_grow (md := true) (xs := xs) (xl := xl) d
  unfold D_X4_readState_15
  refine dp_s1 hF (i := .iload_n 2) rfl (fun _ => rfl) ?_
  refine dp_s1 hF (i := .aload_n 0) rfl (fun _ => rfl) ?_
  refine dp_s1 hF (i := .getfield 46) rfl (fun _ => rfl) ?_
  refine dp_s2 hF (i := .if_icmp .ge 83) (a := (103, [some (.ref 14), some (.int v1), some (.int v2)], [], M)) (b := (23, [some (.ref 14), some (.int v1), some (.int v2)], [], M)) rfl (fun _ => rfl) ?_ ?_
  · exact dp_s0 hF (i := .return_) rfl (fun _ => rfl)
  refine dp_s1 hF (i := .aload_n 0) rfl (fun _ => rfl) ?_
  refine dp_s1 hF (i := .getfield 30) rfl (fun _ => rfl) ?_
  refine dp_s1 hF (i := .iload_n 2) rfl (fun _ => rfl) ?_
  refine dp_s1 hF (i := .iload_n 1) rfl (fun _ => rfl) ?_
  refine dp_s1 hF (i := .iconst 4) rfl (fun _ => rfl) ?_
  refine dp_s1 hF (i := .iload_n 2) rfl (fun _ => rfl) ?_
  refine dp_s1 hF (i := .imul) rfl (fun _ => rfl) ?_
  refine dp_s1 hF (i := .ishr) rfl (fun _ => rfl) ?_
  refine dp_s1 hF (i := .bipush 15) rfl (fun _ => rfl) ?_
  refine dp_s1 hF (i := .iand) rfl (fun _ => rfl) ?_
  refine dp_s3w (dp_setI M 20 (Int32.toNatClampNeg v2) ((v1 >>> (((4 : Int32) * v2) &&& 31)) &&& (15 : Int32))) (fun (M1 : dp_M) => (37, [some (.ref 14), some (.int v1), some (.int v2)], [], M1)) hF (i := .iastore) rfl (fun _ => rfl) (fun M1 => ?_)
  refine dp_s1 hF (i := .aload_n 0) rfl (fun _ => rfl) ?_
  refine dp_s1 hF (i := .getfield 30) rfl (fun _ => rfl) ?_
  refine dp_s1 hF (i := .iload_n 2) rfl (fun _ => rfl) ?_
  refine dp_s3 hF (i := .iaload) rfl (fun _ => rfl) ?_
  refine dp_s1 hF (i := .bipush 12) rfl (fun _ => rfl) ?_
  refine dp_s2 hF (i := .if_icmp .ne 18) (a := (48, [some (.ref 14), some (.int v1), some (.int v2)], [], M1)) (b := (63, [some (.ref 14), some (.int v1), some (.int v2)], [], M1)) rfl (fun _ => rfl) ?_ ?_
  · refine dp_s1 hF (i := .aload_n 0) rfl (fun _ => rfl) ?_
    refine dp_s1 hF (i := .dup) rfl (fun _ => rfl) ?_
    refine dp_s1 hF (i := .getfield 91) rfl (fun _ => rfl) ?_
    refine dp_s1 hF (i := .iconst 1) rfl (fun _ => rfl) ?_
    refine dp_s1 hF (i := .iload_n 2) rfl (fun _ => rfl) ?_
    refine dp_s1 hF (i := .ishl) rfl (fun _ => rfl) ?_
    refine dp_s1 hF (i := .ior) rfl (fun _ => rfl) ?_
    refine dp_s1w (dp_setI M1 14 14 ((dp_I M1 14 14) ||| ((1 : Int32) <<< (v2 &&& 31)))) (fun (M2 : dp_M) => (60, [some (.ref 14), some (.int v1), some (.int v2)], [], M2)) hF (i := .putfield 91) rfl (fun _ => rfl) (fun M2 => ?_)
    refine dp_s1 hF (i := .goto 37) rfl (fun _ => rfl) ?_
    refine dp_s1w (v2 + (1 : Int32)) (fun (y3 : Int32) => (100, [some (.ref 14), some (.int v1), some (.int y3)], [], M2)) hF (i := .iinc 2 1) rfl (fun _ => rfl) (fun y3 => ?_)
    refine dp_s1 hF (i := .goto (-85)) rfl (fun _ => rfl) ?_
    exact rfl
  refine dp_s1 hF (i := .aload_n 0) rfl (fun _ => rfl) ?_
  refine dp_s1 hF (i := .getfield 30) rfl (fun _ => rfl) ?_
  refine dp_s1 hF (i := .iload_n 2) rfl (fun _ => rfl) ?_
  refine dp_s3 hF (i := .iaload) rfl (fun _ => rfl) ?_
  refine dp_s1 hF (i := .bipush 12) rfl (fun _ => rfl) ?_
  refine dp_s2 hF (i := .if_icmp .ge 26) (a := (97, [some (.ref 14), some (.int v1), some (.int v2)], [], M1)) (b := (74, [some (.ref 14), some (.int v1), some (.int v2)], [], M1)) rfl (fun _ => rfl) ?_ ?_
  · refine dp_s1w (v2 + (1 : Int32)) (fun (y4 : Int32) => (100, [some (.ref 14), some (.int v1), some (.int y4)], [], M1)) hF (i := .iinc 2 1) rfl (fun _ => rfl) (fun y4 => ?_)
    refine dp_s1 hF (i := .goto (-85)) rfl (fun _ => rfl) ?_
    exact rfl
  refine dp_s1 hF (i := .aload_n 0) rfl (fun _ => rfl) ?_
  refine dp_s1 hF (i := .iload_n 2) rfl (fun _ => rfl) ?_
  refine dp_s1 hF (i := .aload_n 0) rfl (fun _ => rfl) ?_
  refine dp_s1 hF (i := .getfield 30) rfl (fun _ => rfl) ?_
  refine dp_s1 hF (i := .iload_n 2) rfl (fun _ => rfl) ?_
  refine dp_s3 hF (i := .iaload) rfl (fun _ => rfl) ?_
  refine dp_s1 hF (i := .iconst 4) rfl (fun _ => rfl) ?_
  refine dp_s1 hF (i := .idiv) rfl (fun _ => rfl) ?_
  refine dp_s1 hF (i := .aload_n 0) rfl (fun _ => rfl) ?_
  refine dp_s1 hF (i := .getfield 30) rfl (fun _ => rfl) ?_
  refine dp_s1 hF (i := .iload_n 2) rfl (fun _ => rfl) ?_
  refine dp_s3 hF (i := .iaload) rfl (fun _ => rfl) ?_
  refine dp_s1 hF (i := .iconst 4) rfl (fun _ => rfl) ?_
  refine dp_s1 hF (i := .irem) rfl (fun _ => rfl) ?_
  refine dp_s1 hF (i := .iconst 1) rfl (fun _ => rfl) ?_
  refine dp_s1 hF (i := .iadd) rfl (fun _ => rfl) ?_
  refine dp_sv (mj := dp_m_X4_noteHeight) (i := .invokevirtual 94) rfl rfl rfl rfl (fun _ => rfl) (fun M5 => ?_)
  refine dp_s1w (v2 + (1 : Int32)) (fun (y6 : Int32) => (100, [some (.ref 14), some (.int v1), some (.int y6)], [], M5)) hF (i := .iinc 2 1) rfl (fun _ => rfl) (fun y6 => ?_)
  refine dp_s1 hF (i := .goto (-85)) rfl (fun _ => rfl) ?_
  exact rfl
noncomputable def D_X4_noteHeight_0 (xs : Nat → Int32) (xl d : Nat) (v1 : Int32) (v2 : Int32) (v3 : Int32) (M : dp_M) : Option dp_Res := dp_lim true xs xl (dp_den true xs xl d) dp_m_X4_noteHeight (0, [some (.ref 14), some (.int v1), some (.int v2), some (.int v3)], [], M)
theorem D_X4_noteHeight_0_den (xs : Nat → Int32) (xl d : Nat) (a0 : Int32) (a1 : Int32) (a2 : Int32) (M : dp_M) : dp_den true xs xl (d + 1) 111 [.ref 14, .int a0, .int a1, .int a2] M = D_X4_noteHeight_0 xs xl d a0 a1 a2 M := rfl
set_option maxRecDepth 20000 in
theorem D_X4_noteHeight_0_eq (xs : Nat → Int32) (xl d : Nat) (v1 : Int32) (v2 : Int32) (v3 : Int32) (M : dp_M) : D_X4_noteHeight_0 xs xl d v1 v2 v3 M = if v2 < 0 ∨ 3 ≤ Int32.toNatClampNeg v2 then none else (if v3 ≤ (dp_I M 23 (Int32.toNatClampNeg v2)) then (some (.inl none, M)) else (if v2 < 0 ∨ 3 ≤ Int32.toNatClampNeg v2 then none else dp_w (dp_setI M 23 (Int32.toNatClampNeg v2) v3) (fun M1 => if v2 < 0 ∨ 3 ≤ Int32.toNatClampNeg v2 then none else dp_w (dp_setI M1 24 (Int32.toNatClampNeg v2) v1) (fun M2 => some (.inl none, M2))))) := by
  have hF := dp_den_grow (md := true) (xs := xs) (xl := xl) d
  unfold D_X4_noteHeight_0
  refine dp_s1 hF (i := .iload_n 3) rfl (fun _ => rfl) ?_
  refine dp_s1 hF (i := .aload_n 0) rfl (fun _ => rfl) ?_
  refine dp_s1 hF (i := .getfield 40) rfl (fun _ => rfl) ?_
  refine dp_s1 hF (i := .iload_n 2) rfl (fun _ => rfl) ?_
  refine dp_s3 hF (i := .iaload) rfl (fun _ => rfl) ?_
  refine dp_s2 hF (i := .if_icmp .le 17) (a := (24, [some (.ref 14), some (.int v1), some (.int v2), some (.int v3)], [], M)) (b := (10, [some (.ref 14), some (.int v1), some (.int v2), some (.int v3)], [], M)) rfl (fun _ => rfl) ?_ ?_
  · exact dp_s0 hF (i := .return_) rfl (fun _ => rfl)
  refine dp_s1 hF (i := .aload_n 0) rfl (fun _ => rfl) ?_
  refine dp_s1 hF (i := .getfield 40) rfl (fun _ => rfl) ?_
  refine dp_s1 hF (i := .iload_n 2) rfl (fun _ => rfl) ?_
  refine dp_s1 hF (i := .iload_n 3) rfl (fun _ => rfl) ?_
  refine dp_s3w (dp_setI M 23 (Int32.toNatClampNeg v2) v3) (fun (M1 : dp_M) => (17, [some (.ref 14), some (.int v1), some (.int v2), some (.int v3)], [], M1)) hF (i := .iastore) rfl (fun _ => rfl) (fun M1 => ?_)
  refine dp_s1 hF (i := .aload_n 0) rfl (fun _ => rfl) ?_
  refine dp_s1 hF (i := .getfield 43) rfl (fun _ => rfl) ?_
  refine dp_s1 hF (i := .iload_n 2) rfl (fun _ => rfl) ?_
  refine dp_s1 hF (i := .iload_n 1) rfl (fun _ => rfl) ?_
  refine dp_s3w (dp_setI M1 24 (Int32.toNatClampNeg v2) v1) (fun (M2 : dp_M) => (24, [some (.ref 14), some (.int v1), some (.int v2), some (.int v3)], [], M2)) hF (i := .iastore) rfl (fun _ => rfl) (fun M2 => ?_)
  exact dp_s0 hF (i := .return_) rfl (fun _ => rfl)
noncomputable def D_X4_goFromStack_0 (xs : Nat → Int32) (xl d : Nat) (v1 : Int32) (v2 : Int32) (M : dp_M) : Option dp_Res := dp_lim true xs xl (dp_den true xs xl d) dp_m_X4_goFromStack (0, [some (.ref 14), some (.int v1), some (.int v2), none], [], M)
theorem D_X4_goFromStack_0_den (xs : Nat → Int32) (xl d : Nat) (a0 : Int32) (a1 : Int32) (M : dp_M) : dp_den true xs xl (d + 1) 112 [.ref 14, .int a0, .int a1] M = D_X4_goFromStack_0 xs xl d a0 a1 M := rfl
set_option maxRecDepth 20000 in
theorem D_X4_goFromStack_0_eq (xs : Nat → Int32) (xl d : Nat) (v1 : Int32) (v2 : Int32) (M : dp_M) : D_X4_goFromStack_0 xs xl d v1 v2 M = if v2 < 0 ∨ 3 ≤ Int32.toNatClampNeg v2 then none else (dp_w (dp_I M 24 (Int32.toNatClampNeg v2)) (fun y1 => dp_bv (dp_den true xs xl d 113 [.ref 14, .int v1, .int y1, .int v2, .int v2] M) (fun M2 => if y1 < 0 ∨ 4 ≤ Int32.toNatClampNeg y1 then none else (if (dp_I M2 21 (Int32.toNatClampNeg y1)) = 0 then (dp_bv (dp_den true xs xl d 107 [.ref 14, .int v1, .int y1, .int v2, .int (4 : Int32), .int (13 : Int32)] M2) (fun M3 => some (.inl none, M3))) else (if y1 < 0 ∨ 4 ≤ Int32.toNatClampNeg y1 then none else (if ((dp_I M2 22 (Int32.toNatClampNeg y1)) &&& ((dp_I M2 14 14) ^^^ (-1 : Int32))) = 0 then (dp_bv (dp_den true xs xl d 107 [.ref 14, .int v1, .int y1, .int v2, .int (3 : Int32), .int (12 : Int32)] M2) (fun M4 => dp_bv (dp_den true xs xl d 107 [.ref 14, .int v1, .int y1, .int v2, .int (4 : Int32), .int (13 : Int32)] M4) (fun M5 => some (.inl none, M5)))) else (dp_bv (dp_den true xs xl d 107 [.ref 14, .int v1, .int y1, .int v2, .int (4 : Int32), .int (13 : Int32)] M2) (fun M6 => some (.inl none, M6))))))))) := by
  have hF := dp_den_grow (md := true) (xs := xs) (xl := xl) d
  unfold D_X4_goFromStack_0
  refine dp_s1 hF (i := .aload_n 0) rfl (fun _ => rfl) ?_
  refine dp_s1 hF (i := .getfield 43) rfl (fun _ => rfl) ?_
  refine dp_s1 hF (i := .iload_n 2) rfl (fun _ => rfl) ?_
  refine dp_s3 hF (i := .iaload) rfl (fun _ => rfl) ?_
  refine dp_s1w (dp_I M 24 (Int32.toNatClampNeg v2)) (fun (y1 : Int32) => (7, [some (.ref 14), some (.int v1), some (.int v2), some (.int y1)], [], M)) hF (i := .istore_n 3) rfl (fun _ => rfl) (fun y1 => ?_)
  refine dp_s1 hF (i := .aload_n 0) rfl (fun _ => rfl) ?_
  refine dp_s1 hF (i := .iload_n 1) rfl (fun _ => rfl) ?_
  refine dp_s1 hF (i := .iload_n 3) rfl (fun _ => rfl) ?_
  refine dp_s1 hF (i := .iload_n 2) rfl (fun _ => rfl) ?_
  refine dp_s1 hF (i := .iload_n 2) rfl (fun _ => rfl) ?_
  refine dp_sv (mj := dp_m_X4_goToStacks) (i := .invokevirtual 81) rfl rfl rfl rfl (fun _ => rfl) (fun M2 => ?_)
  refine dp_s1 hF (i := .aload_n 0) rfl (fun _ => rfl) ?_
  refine dp_s1 hF (i := .getfield 33) rfl (fun _ => rfl) ?_
  refine dp_s1 hF (i := .iload_n 3) rfl (fun _ => rfl) ?_
  refine dp_s3 hF (i := .baload) rfl (fun _ => rfl) ?_
  refine dp_s2 hF (i := .ifCond .eq 29) (a := (50, [some (.ref 14), some (.int v1), some (.int v2), some (.int y1)], [], M2)) (b := (24, [some (.ref 14), some (.int v1), some (.int v2), some (.int y1)], [], M2)) rfl (fun _ => rfl) ?_ ?_
  · refine dp_s1 hF (i := .aload_n 0) rfl (fun _ => rfl) ?_
    refine dp_s1 hF (i := .iload_n 1) rfl (fun _ => rfl) ?_
    refine dp_s1 hF (i := .iload_n 3) rfl (fun _ => rfl) ?_
    refine dp_s1 hF (i := .iload_n 2) rfl (fun _ => rfl) ?_
    refine dp_s1 hF (i := .iconst 4) rfl (fun _ => rfl) ?_
    refine dp_s1 hF (i := .bipush 13) rfl (fun _ => rfl) ?_
    refine dp_sv (mj := dp_m_X4_reach) (i := .invokevirtual 98) rfl rfl rfl rfl (fun _ => rfl) (fun M3 => ?_)
    exact dp_s0 hF (i := .return_) rfl (fun _ => rfl)
  refine dp_s1 hF (i := .aload_n 0) rfl (fun _ => rfl) ?_
  refine dp_s1 hF (i := .getfield 37) rfl (fun _ => rfl) ?_
  refine dp_s1 hF (i := .iload_n 3) rfl (fun _ => rfl) ?_
  refine dp_s3 hF (i := .iaload) rfl (fun _ => rfl) ?_
  refine dp_s1 hF (i := .aload_n 0) rfl (fun _ => rfl) ?_
  refine dp_s1 hF (i := .getfield 91) rfl (fun _ => rfl) ?_
  refine dp_s1 hF (i := .iconst (-1)) rfl (fun _ => rfl) ?_
  refine dp_s1 hF (i := .ixor) rfl (fun _ => rfl) ?_
  refine dp_s1 hF (i := .iand) rfl (fun _ => rfl) ?_
  refine dp_s2 hF (i := .ifCond .ne 13) (a := (40, [some (.ref 14), some (.int v1), some (.int v2), some (.int y1)], [], M2)) (b := (50, [some (.ref 14), some (.int v1), some (.int v2), some (.int y1)], [], M2)) rfl (fun _ => rfl) ?_ ?_
  · refine dp_s1 hF (i := .aload_n 0) rfl (fun _ => rfl) ?_
    refine dp_s1 hF (i := .iload_n 1) rfl (fun _ => rfl) ?_
    refine dp_s1 hF (i := .iload_n 3) rfl (fun _ => rfl) ?_
    refine dp_s1 hF (i := .iload_n 2) rfl (fun _ => rfl) ?_
    refine dp_s1 hF (i := .iconst 3) rfl (fun _ => rfl) ?_
    refine dp_s1 hF (i := .bipush 12) rfl (fun _ => rfl) ?_
    refine dp_sv (mj := dp_m_X4_reach) (i := .invokevirtual 98) rfl rfl rfl rfl (fun _ => rfl) (fun M4 => ?_)
    refine dp_s1 hF (i := .aload_n 0) rfl (fun _ => rfl) ?_
    refine dp_s1 hF (i := .iload_n 1) rfl (fun _ => rfl) ?_
    refine dp_s1 hF (i := .iload_n 3) rfl (fun _ => rfl) ?_
    refine dp_s1 hF (i := .iload_n 2) rfl (fun _ => rfl) ?_
    refine dp_s1 hF (i := .iconst 4) rfl (fun _ => rfl) ?_
    refine dp_s1 hF (i := .bipush 13) rfl (fun _ => rfl) ?_
    refine dp_sv (mj := dp_m_X4_reach) (i := .invokevirtual 98) rfl rfl rfl rfl (fun _ => rfl) (fun M5 => ?_)
    exact dp_s0 hF (i := .return_) rfl (fun _ => rfl)
  refine dp_s1 hF (i := .aload_n 0) rfl (fun _ => rfl) ?_
  refine dp_s1 hF (i := .iload_n 1) rfl (fun _ => rfl) ?_
  refine dp_s1 hF (i := .iload_n 3) rfl (fun _ => rfl) ?_
  refine dp_s1 hF (i := .iload_n 2) rfl (fun _ => rfl) ?_
  refine dp_s1 hF (i := .iconst 4) rfl (fun _ => rfl) ?_
  refine dp_s1 hF (i := .bipush 13) rfl (fun _ => rfl) ?_
  refine dp_sv (mj := dp_m_X4_reach) (i := .invokevirtual 98) rfl rfl rfl rfl (fun _ => rfl) (fun M6 => ?_)
  exact dp_s0 hF (i := .return_) rfl (fun _ => rfl)
noncomputable def D_X4_goToStacks_0 (xs : Nat → Int32) (xl d : Nat) (v1 : Int32) (v2 : Int32) (v3 : Int32) (v4 : Int32) (M : dp_M) : Option dp_Res := dp_lim true xs xl (dp_den true xs xl d) dp_m_X4_goToStacks (0, [some (.ref 14), some (.int v1), some (.int v2), some (.int v3), some (.int v4), none], [], M)
noncomputable def D_X4_goToStacks_3 (xs : Nat → Int32) (xl d : Nat) (v1 : Int32) (v2 : Int32) (v3 : Int32) (v4 : Int32) (v5 : Int32) (M : dp_M) : Option dp_Res := dp_lim true xs xl (dp_den true xs xl d) dp_m_X4_goToStacks (3, [some (.ref 14), some (.int v1), some (.int v2), some (.int v3), some (.int v4), some (.int v5)], [], M)
theorem D_X4_goToStacks_0_den (xs : Nat → Int32) (xl d : Nat) (a0 : Int32) (a1 : Int32) (a2 : Int32) (a3 : Int32) (M : dp_M) : dp_den true xs xl (d + 1) 113 [.ref 14, .int a0, .int a1, .int a2, .int a3] M = D_X4_goToStacks_0 xs xl d a0 a1 a2 a3 M := rfl
set_option maxRecDepth 20000 in
theorem D_X4_goToStacks_0_eq (xs : Nat → Int32) (xl d : Nat) (v1 : Int32) (v2 : Int32) (v3 : Int32) (v4 : Int32) (M : dp_M) : D_X4_goToStacks_0 xs xl d v1 v2 v3 v4 M = dp_w (0 : Int32) (fun y1 => D_X4_goToStacks_3 xs xl d v1 v2 v3 v4 y1 M) := by
  have hF := dp_den_grow (md := true) (xs := xs) (xl := xl) d
  unfold D_X4_goToStacks_0
  refine dp_s1 hF (i := .iconst 0) rfl (fun _ => rfl) ?_
  refine dp_s1w (0 : Int32) (fun (y1 : Int32) => (3, [some (.ref 14), some (.int v1), some (.int v2), some (.int v3), some (.int v4), some (.int y1)], [], M)) hF (i := .istore 5) rfl (fun _ => rfl) (fun y1 => ?_)
  exact rfl
set_option maxRecDepth 20000 in
theorem D_X4_goToStacks_3_eq (xs : Nat → Int32) (xl d : Nat) (v1 : Int32) (v2 : Int32) (v3 : Int32) (v4 : Int32) (v5 : Int32) (M : dp_M) : D_X4_goToStacks_3 xs xl d v1 v2 v3 v4 v5 M = if (3 : Int32) ≤ v5 then (some (.inl none, M)) else (if v5 = v4 then (dp_w (v5 + (1 : Int32)) (fun y1 => D_X4_goToStacks_3 xs xl d v1 v2 v3 v4 y1 M)) else (if v5 < 0 ∨ 3 ≤ Int32.toNatClampNeg v5 then none else (if (dp_I M 14 13) ≤ (dp_I M 23 (Int32.toNatClampNeg v5)) then (dp_w (v5 + (1 : Int32)) (fun y2 => D_X4_goToStacks_3 xs xl d v1 v2 v3 v4 y2 M)) else (if v5 < 0 ∨ 3 ≤ Int32.toNatClampNeg v5 then none else (dp_bi (dp_den true xs xl d 104 [.int v5, .int (dp_I M 23 (Int32.toNatClampNeg v5))] M) (fun r4 M3 => dp_bv (dp_den true xs xl d 107 [.ref 14, .int v1, .int v2, .int v3, .int v5, .int r4] M3) (fun M5 => dp_w (v5 + (1 : Int32)) (fun y6 => D_X4_goToStacks_3 xs xl d v1 v2 v3 v4 y6 M5)))))))) := by
  have hF := dp_den_grow (md := true) (xs := xs) (xl := xl) d
  unfold D_X4_goToStacks_3
  refine dp_s1 hF (i := .iload 5) rfl (fun _ => rfl) ?_
  refine dp_s1 hF (i := .iconst 3) rfl (fun _ => rfl) ?_
  refine dp_s2 hF (i := .if_icmp .ge 51) (a := (57, [some (.ref 14), some (.int v1), some (.int v2), some (.int v3), some (.int v4), some (.int v5)], [], M)) (b := (9, [some (.ref 14), some (.int v1), some (.int v2), some (.int v3), some (.int v4), some (.int v5)], [], M)) rfl (fun _ => rfl) ?_ ?_
  · exact dp_s0 hF (i := .return_) rfl (fun _ => rfl)
  refine dp_s1 hF (i := .iload 5) rfl (fun _ => rfl) ?_
  refine dp_s1 hF (i := .iload 4) rfl (fun _ => rfl) ?_
  refine dp_s2 hF (i := .if_icmp .eq 38) (a := (51, [some (.ref 14), some (.int v1), some (.int v2), some (.int v3), some (.int v4), some (.int v5)], [], M)) (b := (16, [some (.ref 14), some (.int v1), some (.int v2), some (.int v3), some (.int v4), some (.int v5)], [], M)) rfl (fun _ => rfl) ?_ ?_
  · refine dp_s1w (v5 + (1 : Int32)) (fun (y1 : Int32) => (54, [some (.ref 14), some (.int v1), some (.int v2), some (.int v3), some (.int v4), some (.int y1)], [], M)) hF (i := .iinc 5 1) rfl (fun _ => rfl) (fun y1 => ?_)
    refine dp_s1 hF (i := .goto (-51)) rfl (fun _ => rfl) ?_
    exact rfl
  refine dp_s1 hF (i := .aload_n 0) rfl (fun _ => rfl) ?_
  refine dp_s1 hF (i := .getfield 40) rfl (fun _ => rfl) ?_
  refine dp_s1 hF (i := .iload 5) rfl (fun _ => rfl) ?_
  refine dp_s3 hF (i := .iaload) rfl (fun _ => rfl) ?_
  refine dp_s1 hF (i := .aload_n 0) rfl (fun _ => rfl) ?_
  refine dp_s1 hF (i := .getfield 50) rfl (fun _ => rfl) ?_
  refine dp_s2 hF (i := .if_icmp .ge 24) (a := (51, [some (.ref 14), some (.int v1), some (.int v2), some (.int v3), some (.int v4), some (.int v5)], [], M)) (b := (30, [some (.ref 14), some (.int v1), some (.int v2), some (.int v3), some (.int v4), some (.int v5)], [], M)) rfl (fun _ => rfl) ?_ ?_
  · refine dp_s1w (v5 + (1 : Int32)) (fun (y2 : Int32) => (54, [some (.ref 14), some (.int v1), some (.int v2), some (.int v3), some (.int v4), some (.int y2)], [], M)) hF (i := .iinc 5 1) rfl (fun _ => rfl) (fun y2 => ?_)
    refine dp_s1 hF (i := .goto (-51)) rfl (fun _ => rfl) ?_
    exact rfl
  refine dp_s1 hF (i := .aload_n 0) rfl (fun _ => rfl) ?_
  refine dp_s1 hF (i := .iload_n 1) rfl (fun _ => rfl) ?_
  refine dp_s1 hF (i := .iload_n 2) rfl (fun _ => rfl) ?_
  refine dp_s1 hF (i := .iload_n 3) rfl (fun _ => rfl) ?_
  refine dp_s1 hF (i := .iload 5) rfl (fun _ => rfl) ?_
  refine dp_s1 hF (i := .iload 5) rfl (fun _ => rfl) ?_
  refine dp_s1 hF (i := .aload_n 0) rfl (fun _ => rfl) ?_
  refine dp_s1 hF (i := .getfield 40) rfl (fun _ => rfl) ?_
  refine dp_s1 hF (i := .iload 5) rfl (fun _ => rfl) ?_
  refine dp_s3 hF (i := .iaload) rfl (fun _ => rfl) ?_
  refine dp_si (mj := dp_m_X4_placeOf) (i := .invokestatic 102) rfl rfl (Or.inl rfl) rfl (fun _ => rfl) (fun r4 M3 => ?_)
  refine dp_sv (mj := dp_m_X4_reach) (i := .invokevirtual 98) rfl rfl rfl rfl (fun _ => rfl) (fun M5 => ?_)
  refine dp_s1w (v5 + (1 : Int32)) (fun (y6 : Int32) => (54, [some (.ref 14), some (.int v1), some (.int v2), some (.int v3), some (.int v4), some (.int y6)], [], M5)) hF (i := .iinc 5 1) rfl (fun _ => rfl) (fun y6 => ?_)
  refine dp_s1 hF (i := .goto (-51)) rfl (fun _ => rfl) ?_
  exact rfl
noncomputable def D_X4_trace_0 (xs : Nat → Int32) (xl d : Nat)  (M : dp_M) : Option dp_Res := dp_lim true xs xl (dp_den true xs xl d) dp_m_X4_trace (0, [some (.ref 14), none, none, none], [], M)
noncomputable def D_X4_trace_7 (xs : Nat → Int32) (xl d : Nat) (v1 : Int32) (v2 : Int32) (M : dp_M) : Option dp_Res := dp_lim true xs xl (dp_den true xs xl d) dp_m_X4_trace (7, [some (.ref 14), some (.int v1), some (.int v2), none], [], M)
noncomputable def D_X4_trace_48 (xs : Nat → Int32) (xl d : Nat) (v1 : Int32) (v2 : Int32) (v3 : Int32) (M : dp_M) : Option dp_Res := dp_lim true xs xl (dp_den true xs xl d) dp_m_X4_trace (48, [some (.ref 14), some (.int v1), some (.int v2), some (.int v3)], [], M)
theorem D_X4_trace_0_den (xs : Nat → Int32) (xl d : Nat)  (M : dp_M) : dp_den true xs xl (d + 1) 114 [.ref 14] M = D_X4_trace_0 xs xl d  M := rfl
set_option maxRecDepth 20000 in
theorem D_X4_trace_0_eq (xs : Nat → Int32) (xl d : Nat)  (M : dp_M) : D_X4_trace_0 xs xl d  M = dp_w (0 : Int32) (fun y1 => dp_w (dp_I M 14 15) (fun y2 => D_X4_trace_7 xs xl d y1 y2 M)) := by
  have hF := dp_den_grow (md := true) (xs := xs) (xl := xl) d
  unfold D_X4_trace_0
  refine dp_s1 hF (i := .iconst 0) rfl (fun _ => rfl) ?_
  refine dp_s1w (0 : Int32) (fun (y1 : Int32) => (2, [some (.ref 14), some (.int y1), none, none], [], M)) hF (i := .istore_n 1) rfl (fun _ => rfl) (fun y1 => ?_)
  refine dp_s1 hF (i := .aload_n 0) rfl (fun _ => rfl) ?_
  refine dp_s1 hF (i := .getfield 63) rfl (fun _ => rfl) ?_
  refine dp_s1w (dp_I M 14 15) (fun (y2 : Int32) => (7, [some (.ref 14), some (.int y1), some (.int y2), none], [], M)) hF (i := .istore_n 2) rfl (fun _ => rfl) (fun y2 => ?_)
  exact rfl
set_option maxRecDepth 20000 in
theorem D_X4_trace_7_eq (xs : Nat → Int32) (xl d : Nat) (v1 : Int32) (v2 : Int32) (M : dp_M) : D_X4_trace_7 xs xl d v1 v2 M = if v2 ≤ 0 then (if v1 ≤ (16 : Int32) then (dp_w (dp_I M 14 15) (fun y1 => dp_w (v1 - (1 : Int32)) (fun y2 => D_X4_trace_48 xs xl d v1 y1 y2 M))) else (some (.inl (some (.int (-1 : Int32))), M))) else (if (1300 : Int32) ≤ v1 then (if v1 ≤ (16 : Int32) then (dp_w (dp_I M 14 15) (fun y3 => dp_w (v1 - (1 : Int32)) (fun y4 => D_X4_trace_48 xs xl d v1 y3 y4 M))) else (some (.inl (some (.int (-1 : Int32))), M))) else (dp_w (v1 + (1 : Int32)) (fun y5 => if v2 < 0 ∨ 1300 ≤ Int32.toNatClampNeg v2 then none else (dp_w (dp_I M 18 (Int32.toNatClampNeg v2)) (fun y6 => D_X4_trace_7 xs xl d y5 y6 M))))) := by
  have hF := dp_den_grow (md := true) (xs := xs) (xl := xl) d
  unfold D_X4_trace_7
  refine dp_s1 hF (i := .iload_n 2) rfl (fun _ => rfl) ?_
  refine dp_s2 hF (i := .ifCond .le 23) (a := (31, [some (.ref 14), some (.int v1), some (.int v2), none], [], M)) (b := (11, [some (.ref 14), some (.int v1), some (.int v2), none], [], M)) rfl (fun _ => rfl) ?_ ?_
  · refine dp_s1 hF (i := .iload_n 1) rfl (fun _ => rfl) ?_
    refine dp_s1 hF (i := .bipush 16) rfl (fun _ => rfl) ?_
    refine dp_s2 hF (i := .if_icmp .le 5) (a := (39, [some (.ref 14), some (.int v1), some (.int v2), none], [], M)) (b := (37, [some (.ref 14), some (.int v1), some (.int v2), none], [], M)) rfl (fun _ => rfl) ?_ ?_
    · refine dp_s1 hF (i := .aload_n 0) rfl (fun _ => rfl) ?_
      refine dp_s1 hF (i := .getfield 63) rfl (fun _ => rfl) ?_
      refine dp_s1w (dp_I M 14 15) (fun (y1 : Int32) => (44, [some (.ref 14), some (.int v1), some (.int y1), none], [], M)) hF (i := .istore_n 2) rfl (fun _ => rfl) (fun y1 => ?_)
      refine dp_s1 hF (i := .iload_n 1) rfl (fun _ => rfl) ?_
      refine dp_s1 hF (i := .iconst 1) rfl (fun _ => rfl) ?_
      refine dp_s1 hF (i := .isub) rfl (fun _ => rfl) ?_
      refine dp_s1w (v1 - (1 : Int32)) (fun (y2 : Int32) => (48, [some (.ref 14), some (.int v1), some (.int y1), some (.int y2)], [], M)) hF (i := .istore_n 3) rfl (fun _ => rfl) (fun y2 => ?_)
      exact rfl
    refine dp_s1 hF (i := .iconst (-1)) rfl (fun _ => rfl) ?_
    exact dp_s0 hF (i := .ireturn) rfl (fun _ => rfl)
  refine dp_s1 hF (i := .iload_n 1) rfl (fun _ => rfl) ?_
  refine dp_s1 hF (i := .sipush 1300) rfl (fun _ => rfl) ?_
  refine dp_s2 hF (i := .if_icmp .ge 16) (a := (31, [some (.ref 14), some (.int v1), some (.int v2), none], [], M)) (b := (18, [some (.ref 14), some (.int v1), some (.int v2), none], [], M)) rfl (fun _ => rfl) ?_ ?_
  · refine dp_s1 hF (i := .iload_n 1) rfl (fun _ => rfl) ?_
    refine dp_s1 hF (i := .bipush 16) rfl (fun _ => rfl) ?_
    refine dp_s2 hF (i := .if_icmp .le 5) (a := (39, [some (.ref 14), some (.int v1), some (.int v2), none], [], M)) (b := (37, [some (.ref 14), some (.int v1), some (.int v2), none], [], M)) rfl (fun _ => rfl) ?_ ?_
    · refine dp_s1 hF (i := .aload_n 0) rfl (fun _ => rfl) ?_
      refine dp_s1 hF (i := .getfield 63) rfl (fun _ => rfl) ?_
      refine dp_s1w (dp_I M 14 15) (fun (y3 : Int32) => (44, [some (.ref 14), some (.int v1), some (.int y3), none], [], M)) hF (i := .istore_n 2) rfl (fun _ => rfl) (fun y3 => ?_)
      refine dp_s1 hF (i := .iload_n 1) rfl (fun _ => rfl) ?_
      refine dp_s1 hF (i := .iconst 1) rfl (fun _ => rfl) ?_
      refine dp_s1 hF (i := .isub) rfl (fun _ => rfl) ?_
      refine dp_s1w (v1 - (1 : Int32)) (fun (y4 : Int32) => (48, [some (.ref 14), some (.int v1), some (.int y3), some (.int y4)], [], M)) hF (i := .istore_n 3) rfl (fun _ => rfl) (fun y4 => ?_)
      exact rfl
    refine dp_s1 hF (i := .iconst (-1)) rfl (fun _ => rfl) ?_
    exact dp_s0 hF (i := .ireturn) rfl (fun _ => rfl)
  refine dp_s1w (v1 + (1 : Int32)) (fun (y5 : Int32) => (21, [some (.ref 14), some (.int y5), some (.int v2), none], [], M)) hF (i := .iinc 1 1) rfl (fun _ => rfl) (fun y5 => ?_)
  refine dp_s1 hF (i := .aload_n 0) rfl (fun _ => rfl) ?_
  refine dp_s1 hF (i := .getfield 22) rfl (fun _ => rfl) ?_
  refine dp_s1 hF (i := .iload_n 2) rfl (fun _ => rfl) ?_
  refine dp_s3 hF (i := .iaload) rfl (fun _ => rfl) ?_
  refine dp_s1w (dp_I M 18 (Int32.toNatClampNeg v2)) (fun (y6 : Int32) => (28, [some (.ref 14), some (.int y5), some (.int y6), none], [], M)) hF (i := .istore_n 2) rfl (fun _ => rfl) (fun y6 => ?_)
  refine dp_s1 hF (i := .goto (-21)) rfl (fun _ => rfl) ?_
  exact rfl
set_option maxRecDepth 20000 in
theorem D_X4_trace_48_eq (xs : Nat → Int32) (xl d : Nat) (v1 : Int32) (v2 : Int32) (v3 : Int32) (M : dp_M) : D_X4_trace_48 xs xl d v1 v2 v3 M = if v3 < 0 then (some (.inl (some (.int v1)), M)) else (if v2 < 0 ∨ 1300 ≤ Int32.toNatClampNeg v2 then none else (if v3 < 0 ∨ 16 ≤ Int32.toNatClampNeg v3 then none else dp_w (dp_setI M 15 (Int32.toNatClampNeg v3) (dp_I M 19 (Int32.toNatClampNeg v2))) (fun M1 => if v2 < 0 ∨ 1300 ≤ Int32.toNatClampNeg v2 then none else (dp_w (dp_I M1 18 (Int32.toNatClampNeg v2)) (fun y2 => dp_w (v3 + (-1 : Int32)) (fun y3 => D_X4_trace_48 xs xl d v1 y2 y3 M1)))))) := by
  have hF := dp_den_grow (md := true) (xs := xs) (xl := xl) d
  unfold D_X4_trace_48
  refine dp_s1 hF (i := .iload_n 3) rfl (fun _ => rfl) ?_
  refine dp_s2 hF (i := .ifCond .lt 28) (a := (77, [some (.ref 14), some (.int v1), some (.int v2), some (.int v3)], [], M)) (b := (52, [some (.ref 14), some (.int v1), some (.int v2), some (.int v3)], [], M)) rfl (fun _ => rfl) ?_ ?_
  · refine dp_s1 hF (i := .iload_n 1) rfl (fun _ => rfl) ?_
    exact dp_s0 hF (i := .ireturn) rfl (fun _ => rfl)
  refine dp_s1 hF (i := .aload_n 0) rfl (fun _ => rfl) ?_
  refine dp_s1 hF (i := .getfield 11) rfl (fun _ => rfl) ?_
  refine dp_s1 hF (i := .iload_n 3) rfl (fun _ => rfl) ?_
  refine dp_s1 hF (i := .aload_n 0) rfl (fun _ => rfl) ?_
  refine dp_s1 hF (i := .getfield 25) rfl (fun _ => rfl) ?_
  refine dp_s1 hF (i := .iload_n 2) rfl (fun _ => rfl) ?_
  refine dp_s3 hF (i := .iaload) rfl (fun _ => rfl) ?_
  refine dp_s3w (dp_setI M 15 (Int32.toNatClampNeg v3) (dp_I M 19 (Int32.toNatClampNeg v2))) (fun (M1 : dp_M) => (64, [some (.ref 14), some (.int v1), some (.int v2), some (.int v3)], [], M1)) hF (i := .iastore) rfl (fun _ => rfl) (fun M1 => ?_)
  refine dp_s1 hF (i := .aload_n 0) rfl (fun _ => rfl) ?_
  refine dp_s1 hF (i := .getfield 22) rfl (fun _ => rfl) ?_
  refine dp_s1 hF (i := .iload_n 2) rfl (fun _ => rfl) ?_
  refine dp_s3 hF (i := .iaload) rfl (fun _ => rfl) ?_
  refine dp_s1w (dp_I M1 18 (Int32.toNatClampNeg v2)) (fun (y2 : Int32) => (71, [some (.ref 14), some (.int v1), some (.int y2), some (.int v3)], [], M1)) hF (i := .istore_n 2) rfl (fun _ => rfl) (fun y2 => ?_)
  refine dp_s1w (v3 + (-1 : Int32)) (fun (y3 : Int32) => (74, [some (.ref 14), some (.int v1), some (.int y2), some (.int y3)], [], M1)) hF (i := .iinc 3 (-1)) rfl (fun _ => rfl) (fun y3 => ?_)
  refine dp_s1 hF (i := .goto (-26)) rfl (fun _ => rfl) ?_
  exact rfl
