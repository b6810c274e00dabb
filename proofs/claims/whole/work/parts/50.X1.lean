noncomputable def D_X1_kilograms_0 (xs : Nat → Int32) (xl d : Nat) (v1 : Int32) (M : dp_M) : Option dp_Res := dp_lim true xs xl (dp_den true xs xl d) dp_m_X1_kilograms (0, [some (.ref 37), some (.int v1)], [], M)
theorem D_X1_kilograms_0_den (xs : Nat → Int32) (xl d : Nat) (a0 : Int32) (M : dp_M) : dp_den true xs xl (d + 1) 26 [.ref 37, .int a0] M = D_X1_kilograms_0 xs xl d a0 M := rfl
set_option maxRecDepth 20000 in
theorem D_X1_kilograms_0_eq (xs : Nat → Int32) (xl d : Nat) (v1 : Int32) (M : dp_M) : D_X1_kilograms_0 xs xl d v1 M = if v1 < 0 ∨ 100 ≤ Int32.toNatClampNeg v1 then none else (some (.inl (some (.int ((1000 : Int32) * (dp_I M 5 (Int32.toNatClampNeg v1))))), M)) := by
  have hF := dp_den_grow (md := true) (xs := xs) (xl := xl) d
  unfold D_X1_kilograms_0
  refine dp_s1 hF (i := .sipush 1000) rfl (fun _ => rfl) ?_
  refine dp_s1 hF (i := .aload_n 0) rfl (fun _ => rfl) ?_
  refine dp_s1 hF (i := .getfield 54) rfl (fun _ => rfl) ?_
  refine dp_s1 hF (i := .getfield 62) rfl (fun _ => rfl) ?_
  refine dp_s1 hF (i := .iload_n 1) rfl (fun _ => rfl) ?_
  refine dp_s3 hF (i := .iaload) rfl (fun _ => rfl) ?_
  refine dp_s1 hF (i := .imul) rfl (fun _ => rfl) ?_
  exact dp_s0 hF (i := .ireturn) rfl (fun _ => rfl)
noncomputable def D_X1_roomIn_0 (xs : Nat → Int32) (xl d : Nat) (v1 : Int32) (M : dp_M) : Option dp_Res := dp_lim true xs xl (dp_den true xs xl d) dp_m_X1_roomIn (0, [some (.ref 37), some (.int v1)], [], M)
theorem D_X1_roomIn_0_den (xs : Nat → Int32) (xl d : Nat) (a0 : Int32) (M : dp_M) : dp_den true xs xl (d + 1) 27 [.ref 37, .int a0] M = D_X1_roomIn_0 xs xl d a0 M := rfl
set_option maxRecDepth 20000 in
theorem D_X1_roomIn_0_eq (xs : Nat → Int32) (xl d : Nat) (v1 : Int32) (M : dp_M) : D_X1_roomIn_0 xs xl d v1 M = dp_bi (dp_den true xs xl d 26 [.ref 37, .int v1] M) (fun r2 M1 => if v1 < 0 ∨ 100 ≤ Int32.toNatClampNeg v1 then none else (some (.inl (some (.int (r2 - (dp_I M1 44 (Int32.toNatClampNeg v1))))), M1))) := by
  have hF := dp_den_grow (md := true) (xs := xs) (xl := xl) d
  unfold D_X1_roomIn_0
  refine dp_s1 hF (i := .aload_n 0) rfl (fun _ => rfl) ?_
  refine dp_s1 hF (i := .iload_n 1) rfl (fun _ => rfl) ?_
  refine dp_si (mj := dp_m_X1_kilograms) (i := .invokevirtual 65) rfl rfl (Or.inl rfl) rfl (fun _ => rfl) (fun r2 M1 => ?_)
  refine dp_s1 hF (i := .aload_n 0) rfl (fun _ => rfl) ?_
  refine dp_s1 hF (i := .getfield 32) rfl (fun _ => rfl) ?_
  refine dp_s1 hF (i := .iload_n 1) rfl (fun _ => rfl) ?_
  refine dp_s3 hF (i := .iaload) rfl (fun _ => rfl) ?_
  refine dp_s1 hF (i := .isub) rfl (fun _ => rfl) ?_
  exact dp_s0 hF (i := .ireturn) rfl (fun _ => rfl)
noncomputable def D_X1_addGoods_0 (xs : Nat → Int32) (xl d : Nat) (v1 : Int32) (v2 : Int32) (M : dp_M) : Option dp_Res := dp_lim true xs xl (dp_den true xs xl d) dp_m_X1_addGoods (0, [some (.ref 37), some (.int v1), some (.int v2)], [], M)
theorem D_X1_addGoods_0_den (xs : Nat → Int32) (xl d : Nat) (a0 : Int32) (a1 : Int32) (M : dp_M) : dp_den true xs xl (d + 1) 28 [.ref 37, .int a0, .int a1] M = D_X1_addGoods_0 xs xl d a0 a1 M := rfl
set_option maxRecDepth 20000 in
theorem D_X1_addGoods_0_eq (xs : Nat → Int32) (xl d : Nat) (v1 : Int32) (v2 : Int32) (M : dp_M) : D_X1_addGoods_0 xs xl d v1 v2 M = if (dp_I M 37 2) < 0 ∨ 300 ≤ Int32.toNatClampNeg (dp_I M 37 2) then none else dp_w (dp_setI M 46 (Int32.toNatClampNeg (dp_I M 37 2)) v1) (fun M1 => if v1 < 0 ∨ 100 ≤ Int32.toNatClampNeg v1 then none else (if v1 < 0 ∨ 100 ≤ Int32.toNatClampNeg v1 then none else dp_w (dp_setI M1 42 (Int32.toNatClampNeg v1) ((dp_I M1 42 (Int32.toNatClampNeg v1)) + (1 : Int32))) (fun M2 => if v1 < 0 ∨ 100 ≤ Int32.toNatClampNeg v1 then none else (if v1 < 0 ∨ 100 ≤ Int32.toNatClampNeg v1 then none else dp_w (dp_setI M2 44 (Int32.toNatClampNeg v1) ((dp_I M2 44 (Int32.toNatClampNeg v1)) + v2)) (fun M3 => dp_w (dp_setI M3 37 2 ((dp_I M3 37 2) + (1 : Int32))) (fun M4 => some (.inl (some (.int ((dp_I M4 37 2) - (1 : Int32)))), M4))))))) := by
  have hF := dp_den_grow (md := true) (xs := xs) (xl := xl) d
  unfold D_X1_addGoods_0
  refine dp_s1 hF (i := .aload_n 0) rfl (fun _ => rfl) ?_
  refine dp_s1 hF (i := .getfield 38) rfl (fun _ => rfl) ?_
  refine dp_s1 hF (i := .aload_n 0) rfl (fun _ => rfl) ?_
  refine dp_s1 hF (i := .getfield 69) rfl (fun _ => rfl) ?_
  refine dp_s1 hF (i := .iload_n 1) rfl (fun _ => rfl) ?_
  refine dp_s3w (dp_setI M 46 (Int32.toNatClampNeg (dp_I M 37 2)) v1) (fun (M1 : dp_M) => (10, [some (.ref 37), some (.int v1), some (.int v2)], [], M1)) hF (i := .iastore) rfl (fun _ => rfl) (fun M1 => ?_)
  refine dp_s1 hF (i := .aload_n 0) rfl (fun _ => rfl) ?_
  refine dp_s1 hF (i := .getfield 26) rfl (fun _ => rfl) ?_
  refine dp_s1 hF (i := .iload_n 1) rfl (fun _ => rfl) ?_
  refine dp_s1 hF (i := .dup2) rfl (fun _ => rfl) ?_
  refine dp_s3 hF (i := .iaload) rfl (fun _ => rfl) ?_
  refine dp_s1 hF (i := .iconst 1) rfl (fun _ => rfl) ?_
  refine dp_s1 hF (i := .iadd) rfl (fun _ => rfl) ?_
  refine dp_s3w (dp_setI M1 42 (Int32.toNatClampNeg v1) ((dp_I M1 42 (Int32.toNatClampNeg v1)) + (1 : Int32))) (fun (M2 : dp_M) => (20, [some (.ref 37), some (.int v1), some (.int v2)], [], M2)) hF (i := .iastore) rfl (fun _ => rfl) (fun M2 => ?_)
  refine dp_s1 hF (i := .aload_n 0) rfl (fun _ => rfl) ?_
  refine dp_s1 hF (i := .getfield 32) rfl (fun _ => rfl) ?_
  refine dp_s1 hF (i := .iload_n 1) rfl (fun _ => rfl) ?_
  refine dp_s1 hF (i := .dup2) rfl (fun _ => rfl) ?_
  refine dp_s3 hF (i := .iaload) rfl (fun _ => rfl) ?_
  refine dp_s1 hF (i := .iload_n 2) rfl (fun _ => rfl) ?_
  refine dp_s1 hF (i := .iadd) rfl (fun _ => rfl) ?_
  refine dp_s3w (dp_setI M2 44 (Int32.toNatClampNeg v1) ((dp_I M2 44 (Int32.toNatClampNeg v1)) + v2)) (fun (M3 : dp_M) => (30, [some (.ref 37), some (.int v1), some (.int v2)], [], M3)) hF (i := .iastore) rfl (fun _ => rfl) (fun M3 => ?_)
  refine dp_s1 hF (i := .aload_n 0) rfl (fun _ => rfl) ?_
  refine dp_s1 hF (i := .dup) rfl (fun _ => rfl) ?_
  refine dp_s1 hF (i := .getfield 69) rfl (fun _ => rfl) ?_
  refine dp_s1 hF (i := .iconst 1) rfl (fun _ => rfl) ?_
  refine dp_s1 hF (i := .iadd) rfl (fun _ => rfl) ?_
  refine dp_s1w (dp_setI M3 37 2 ((dp_I M3 37 2) + (1 : Int32))) (fun (M4 : dp_M) => (40, [some (.ref 37), some (.int v1), some (.int v2)], [], M4)) hF (i := .putfield 69) rfl (fun _ => rfl) (fun M4 => ?_)
  refine dp_s1 hF (i := .aload_n 0) rfl (fun _ => rfl) ?_
  refine dp_s1 hF (i := .getfield 69) rfl (fun _ => rfl) ?_
  refine dp_s1 hF (i := .iconst 1) rfl (fun _ => rfl) ?_
  refine dp_s1 hF (i := .isub) rfl (fun _ => rfl) ?_
  exact dp_s0 hF (i := .ireturn) rfl (fun _ => rfl)
noncomputable def D_X1_setFree_0 (xs : Nat → Int32) (xl d : Nat) (v1 : Int32) (v2 : Int32) (M : dp_M) : Option dp_Res := dp_lim true xs xl (dp_den true xs xl d) dp_m_X1_setFree (0, [some (.ref 37), some (.int v1), some (.int v2)], [], M)
theorem D_X1_setFree_0_den (xs : Nat → Int32) (xl d : Nat) (a0 : Int32) (a1 : Int32) (M : dp_M) : dp_den true xs xl (d + 1) 29 [.ref 37, .int a0, .int a1] M = D_X1_setFree_0 xs xl d a0 a1 M := rfl
set_option maxRecDepth 20000 in
theorem D_X1_setFree_0_eq (xs : Nat → Int32) (xl d : Nat) (v1 : Int32) (v2 : Int32) (M : dp_M) : D_X1_setFree_0 xs xl d v1 v2 M = if v1 < 0 ∨ 300 ≤ Int32.toNatClampNeg v1 then none else (if (dp_I M 47 (Int32.toNatClampNeg v1)) = v2 then (some (.inl none, M)) else (if v1 < 0 ∨ 300 ≤ Int32.toNatClampNeg v1 then none else dp_w (dp_setI M 47 (Int32.toNatClampNeg v1) (v2 &&& 1)) (fun M1 => if v1 < 0 ∨ 300 ≤ Int32.toNatClampNeg v1 then none else (if (dp_I M1 46 (Int32.toNatClampNeg v1)) < 0 ∨ 100 ≤ Int32.toNatClampNeg (dp_I M1 46 (Int32.toNatClampNeg v1)) then none else (if v2 = 0 then (if (dp_I M1 46 (Int32.toNatClampNeg v1)) < 0 ∨ 100 ≤ Int32.toNatClampNeg (dp_I M1 46 (Int32.toNatClampNeg v1)) then none else dp_w (dp_setI M1 45 (Int32.toNatClampNeg (dp_I M1 46 (Int32.toNatClampNeg v1))) ((dp_I M1 45 (Int32.toNatClampNeg (dp_I M1 46 (Int32.toNatClampNeg v1)))) + (-1 : Int32))) (fun M2 => some (.inl none, M2))) else (if (dp_I M1 46 (Int32.toNatClampNeg v1)) < 0 ∨ 100 ≤ Int32.toNatClampNeg (dp_I M1 46 (Int32.toNatClampNeg v1)) then none else dp_w (dp_setI M1 45 (Int32.toNatClampNeg (dp_I M1 46 (Int32.toNatClampNeg v1))) ((dp_I M1 45 (Int32.toNatClampNeg (dp_I M1 46 (Int32.toNatClampNeg v1)))) + (1 : Int32))) (fun M3 => some (.inl none, M3)))))))) := by
  have hF := dp_den_grow (md := true) (xs := xs) (xl := xl) d
  unfold D_X1_setFree_0
  refine dp_s1 hF (i := .aload_n 0) rfl (fun _ => rfl) ?_
  refine dp_s1 hF (i := .getfield 41) rfl (fun _ => rfl) ?_
  refine dp_s1 hF (i := .iload_n 1) rfl (fun _ => rfl) ?_
  refine dp_s3 hF (i := .baload) rfl (fun _ => rfl) ?_
  refine dp_s1 hF (i := .iload_n 2) rfl (fun _ => rfl) ?_
  refine dp_s2 hF (i := .if_icmp .eq 33) (a := (40, [some (.ref 37), some (.int v1), some (.int v2)], [], M)) (b := (10, [some (.ref 37), some (.int v1), some (.int v2)], [], M)) rfl (fun _ => rfl) ?_ ?_
  · exact dp_s0 hF (i := .return_) rfl (fun _ => rfl)
  refine dp_s1 hF (i := .aload_n 0) rfl (fun _ => rfl) ?_
  refine dp_s1 hF (i := .getfield 41) rfl (fun _ => rfl) ?_
  refine dp_s1 hF (i := .iload_n 1) rfl (fun _ => rfl) ?_
  refine dp_s1 hF (i := .iload_n 2) rfl (fun _ => rfl) ?_
  refine dp_s3w (dp_setI M 47 (Int32.toNatClampNeg v1) (v2 &&& 1)) (fun (M1 : dp_M) => (17, [some (.ref 37), some (.int v1), some (.int v2)], [], M1)) hF (i := .bastore) rfl (fun _ => rfl) (fun M1 => ?_)
  refine dp_s1 hF (i := .aload_n 0) rfl (fun _ => rfl) ?_
  refine dp_s1 hF (i := .getfield 35) rfl (fun _ => rfl) ?_
  refine dp_s1 hF (i := .aload_n 0) rfl (fun _ => rfl) ?_
  refine dp_s1 hF (i := .getfield 38) rfl (fun _ => rfl) ?_
  refine dp_s1 hF (i := .iload_n 1) rfl (fun _ => rfl) ?_
  refine dp_s3 hF (i := .iaload) rfl (fun _ => rfl) ?_
  refine dp_s1 hF (i := .dup2) rfl (fun _ => rfl) ?_
  refine dp_s3 hF (i := .iaload) rfl (fun _ => rfl) ?_
  refine dp_s1 hF (i := .iload_n 2) rfl (fun _ => rfl) ?_
  refine dp_s2 hF (i := .ifCond .eq 7) (a := (37, [some (.ref 37), some (.int v1), some (.int v2)], [.int (dp_I M1 45 (Int32.toNatClampNeg (dp_I M1 46 (Int32.toNatClampNeg v1)))), .int (dp_I M1 46 (Int32.toNatClampNeg v1)), .ref 45], M1)) (b := (33, [some (.ref 37), some (.int v1), some (.int v2)], [.int (dp_I M1 45 (Int32.toNatClampNeg (dp_I M1 46 (Int32.toNatClampNeg v1)))), .int (dp_I M1 46 (Int32.toNatClampNeg v1)), .ref 45], M1)) rfl (fun _ => rfl) ?_ ?_
  · refine dp_s1 hF (i := .iconst (-1)) rfl (fun _ => rfl) ?_
    refine dp_s1 hF (i := .iadd) rfl (fun _ => rfl) ?_
    refine dp_s3w (dp_setI M1 45 (Int32.toNatClampNeg (dp_I M1 46 (Int32.toNatClampNeg v1))) ((dp_I M1 45 (Int32.toNatClampNeg (dp_I M1 46 (Int32.toNatClampNeg v1)))) + (-1 : Int32))) (fun (M2 : dp_M) => (40, [some (.ref 37), some (.int v1), some (.int v2)], [], M2)) hF (i := .iastore) rfl (fun _ => rfl) (fun M2 => ?_)
    exact dp_s0 hF (i := .return_) rfl (fun _ => rfl)
  refine dp_s1 hF (i := .iconst 1) rfl (fun _ => rfl) ?_
  refine dp_s1 hF (i := .goto 4) rfl (fun _ => rfl) ?_
  refine dp_s1 hF (i := .iadd) rfl (fun _ => rfl) ?_
  refine dp_s3w (dp_setI M1 45 (Int32.toNatClampNeg (dp_I M1 46 (Int32.toNatClampNeg v1))) ((dp_I M1 45 (Int32.toNatClampNeg (dp_I M1 46 (Int32.toNatClampNeg v1)))) + (1 : Int32))) (fun (M3 : dp_M) => (40, [some (.ref 37), some (.int v1), some (.int v2)], [], M3)) hF (i := .iastore) rfl (fun _ => rfl) (fun M3 => ?_)
  exact dp_s0 hF (i := .return_) rfl (fun _ => rfl)
noncomputable def D_X1_isBehind_0 (xs : Nat → Int32) (xl d : Nat) (v1 : Int32) (M : dp_M) : Option dp_Res := dp_lim true xs xl (dp_den true xs xl d) dp_m_X1_isBehind (0, [some (.ref 37), some (.int v1)], [], M)
theorem D_X1_isBehind_0_den (xs : Nat → Int32) (xl d : Nat) (a0 : Int32) (M : dp_M) : dp_den true xs xl (d + 1) 30 [.ref 37, .int a0] M = D_X1_isBehind_0 xs xl d a0 M := rfl
set_option maxRecDepth 20000 in
theorem D_X1_isBehind_0_eq (xs : Nat → Int32) (xl d : Nat) (v1 : Int32) (M : dp_M) : D_X1_isBehind_0 xs xl d v1 M = if v1 < 0 ∨ 300 ≤ Int32.toNatClampNeg v1 then none else (if (dp_I M 46 (Int32.toNatClampNeg v1)) < 0 ∨ 100 ≤ Int32.toNatClampNeg (dp_I M 46 (Int32.toNatClampNeg v1)) then none else (if (dp_I M 11 (Int32.toNatClampNeg (dp_I M 46 (Int32.toNatClampNeg v1)))) = (1 : Int32) then (some (.inl (some (.int (1 : Int32))), M)) else (some (.inl (some (.int (0 : Int32))), M)))) := by
  have hF := dp_den_grow (md := true) (xs := xs) (xl := xl) d
  unfold D_X1_isBehind_0
  refine dp_s1 hF (i := .aload_n 0) rfl (fun _ => rfl) ?_
  refine dp_s1 hF (i := .getfield 54) rfl (fun _ => rfl) ?_
  refine dp_s1 hF (i := .getfield 73) rfl (fun _ => rfl) ?_
  refine dp_s1 hF (i := .aload_n 0) rfl (fun _ => rfl) ?_
  refine dp_s1 hF (i := .getfield 38) rfl (fun _ => rfl) ?_
  refine dp_s1 hF (i := .iload_n 1) rfl (fun _ => rfl) ?_
  refine dp_s3 hF (i := .iaload) rfl (fun _ => rfl) ?_
  refine dp_s3 hF (i := .iaload) rfl (fun _ => rfl) ?_
  refine dp_s1 hF (i := .iconst 1) rfl (fun _ => rfl) ?_
  refine dp_s2 hF (i := .if_icmp .ne 7) (a := (18, [some (.ref 37), some (.int v1)], [], M)) (b := (22, [some (.ref 37), some (.int v1)], [], M)) rfl (fun _ => rfl) ?_ ?_
  · refine dp_s1 hF (i := .iconst 1) rfl (fun _ => rfl) ?_
    refine dp_s1 hF (i := .goto 4) rfl (fun _ => rfl) ?_
    exact dp_s0 hF (i := .ireturn) rfl (fun _ => rfl)
  refine dp_s1 hF (i := .iconst 0) rfl (fun _ => rfl) ?_
  exact dp_s0 hF (i := .ireturn) rfl (fun _ => rfl)
noncomputable def D_X1_cell_0 (xs : Nat → Int32) (xl d : Nat) (v0 : Int32) (v1 : Int32) (v2 : Int32) (M : dp_M) : Option dp_Res := dp_lim true xs xl (dp_den true xs xl d) dp_m_X1_cell (0, [some (.int v0), some (.int v1), some (.int v2)], [], M)
theorem D_X1_cell_0_den (xs : Nat → Int32) (xl d : Nat) (a0 : Int32) (a1 : Int32) (a2 : Int32) (M : dp_M) : dp_den true xs xl (d + 1) 31 [.int a0, .int a1, .int a2] M = D_X1_cell_0 xs xl d a0 a1 a2 M := rfl
set_option maxRecDepth 20000 in
theorem D_X1_cell_0_eq (xs : Nat → Int32) (xl d : Nat) (v0 : Int32) (v1 : Int32) (v2 : Int32) (M : dp_M) : D_X1_cell_0 xs xl d v0 v1 v2 M = some (.inl (some (.int ((((v0 * (4 : Int32)) + v1) * (10 : Int32)) + v2))), M) := by
  have hF := dp_den_grow (md := true) (xs := xs) (xl := xl) d
  unfold D_X1_cell_0
  refine dp_s1 hF (i := .iload_n 0) rfl (fun _ => rfl) ?_
  refine dp_s1 hF (i := .iconst 4) rfl (fun _ => rfl) ?_
  refine dp_s1 hF (i := .imul) rfl (fun _ => rfl) ?_
  refine dp_s1 hF (i := .iload_n 1) rfl (fun _ => rfl) ?_
  refine dp_s1 hF (i := .iadd) rfl (fun _ => rfl) ?_
  refine dp_s1 hF (i := .bipush 10) rfl (fun _ => rfl) ?_
  refine dp_s1 hF (i := .imul) rfl (fun _ => rfl) ?_
  refine dp_s1 hF (i := .iload_n 2) rfl (fun _ => rfl) ?_
  refine dp_s1 hF (i := .iadd) rfl (fun _ => rfl) ?_
  exact dp_s0 hF (i := .ireturn) rfl (fun _ => rfl)
noncomputable def D_X1_addBar_0 (xs : Nat → Int32) (xl d : Nat) (v1 : Int32) (v2 : Int32) (v3 : Int32) (v4 : Int32) (M : dp_M) : Option dp_Res := dp_lim true xs xl (dp_den true xs xl d) dp_m_X1_addBar (0, [some (.ref 37), some (.int v1), some (.int v2), some (.int v3), some (.int v4), none], [], M)
noncomputable def D_X1_addBar_24 (xs : Nat → Int32) (xl d : Nat) (v1 : Int32) (v2 : Int32) (v3 : Int32) (v4 : Int32) (v5 : Int32) (M : dp_M) : Option dp_Res := dp_lim true xs xl (dp_den true xs xl d) dp_m_X1_addBar (24, [some (.ref 37), some (.int v1), some (.int v2), some (.int v3), some (.int v4), some (.int v5)], [], M)
theorem D_X1_addBar_0_den (xs : Nat → Int32) (xl d : Nat) (a0 : Int32) (a1 : Int32) (a2 : Int32) (a3 : Int32) (M : dp_M) : dp_den true xs xl (d + 1) 32 [.ref 37, .int a0, .int a1, .int a2, .int a3] M = D_X1_addBar_0 xs xl d a0 a1 a2 a3 M := rfl
set_option maxRecDepth 20000 in
theorem D_X1_addBar_0_eq (xs : Nat → Int32) (xl d : Nat) (v1 : Int32) (v2 : Int32) (v3 : Int32) (v4 : Int32) (M : dp_M) : D_X1_addBar_0 xs xl d v1 v2 v3 v4 M = dp_bi (dp_den true xs xl d 31 [.int v1, .int v2, .int v3] M) (fun r2 M1 => if r2 < 0 ∨ 4000 ≤ Int32.toNatClampNeg r2 then none else (if (dp_I M1 48 (Int32.toNatClampNeg r2)) = 0 then (dp_bv (dp_den true xs xl d 50 [.ref 37, .int v1, .int (0 : Int32)] M1) (fun M3 => D_X1_addBar_24 xs xl d v1 v2 v3 v4 r2 M3)) else (D_X1_addBar_24 xs xl d v1 v2 v3 v4 r2 M1))) := by
  have hF := dp_den_grow (md := true) (xs := xs) (xl := xl) d
  unfold D_X1_addBar_0
  refine dp_s1 hF (i := .iload_n 1) rfl (fun _ => rfl) ?_
  refine dp_s1 hF (i := .iload_n 2) rfl (fun _ => rfl) ?_
  refine dp_s1 hF (i := .iload_n 3) rfl (fun _ => rfl) ?_
  refine dp_si (mj := dp_m_X1_cell) (i := .invokestatic 76) rfl rfl (Or.inl rfl) rfl (fun _ => rfl) (fun r2 M1 => ?_)
  refine dp_s1 hF (i := .istore 5) rfl (fun _ => rfl) ?_
  refine dp_s1 hF (i := .aload_n 0) rfl (fun _ => rfl) ?_
  refine dp_s1 hF (i := .getfield 45) rfl (fun _ => rfl) ?_
  refine dp_s1 hF (i := .iload 5) rfl (fun _ => rfl) ?_
  refine dp_s3 hF (i := .iaload) rfl (fun _ => rfl) ?_
  refine dp_s2 hF (i := .ifCond .ne 9) (a := (18, [some (.ref 37), some (.int v1), some (.int v2), some (.int v3), some (.int v4), some (.int r2)], [], M1)) (b := (24, [some (.ref 37), some (.int v1), some (.int v2), some (.int v3), some (.int v4), some (.int r2)], [], M1)) rfl (fun _ => rfl) ?_ ?_
  · refine dp_s1 hF (i := .aload_n 0) rfl (fun _ => rfl) ?_
    refine dp_s1 hF (i := .iload_n 1) rfl (fun _ => rfl) ?_
    refine dp_s1 hF (i := .iconst 0) rfl (fun _ => rfl) ?_
    refine dp_sv (mj := dp_m_X1_tell) (i := .invokevirtual 80) rfl rfl rfl rfl (fun _ => rfl) (fun M3 => ?_)
    exact rfl
  exact rfl
set_option maxRecDepth 20000 in
theorem D_X1_addBar_24_eq (xs : Nat → Int32) (xl d : Nat) (v1 : Int32) (v2 : Int32) (v3 : Int32) (v4 : Int32) (v5 : Int32) (M : dp_M) : D_X1_addBar_24 xs xl d v1 v2 v3 v4 v5 M = if v5 < 0 ∨ 4000 ≤ Int32.toNatClampNeg v5 then none else (if v5 < 0 ∨ 4000 ≤ Int32.toNatClampNeg v5 then none else dp_w (dp_setI M 48 (Int32.toNatClampNeg v5) ((dp_I M 48 (Int32.toNatClampNeg v5)) + (1 : Int32))) (fun M1 => if v5 < 0 ∨ 4000 ≤ Int32.toNatClampNeg v5 then none else dp_w (dp_setI M1 49 (Int32.toNatClampNeg v5) v4) (fun M2 => if v5 < 0 ∨ 4000 ≤ Int32.toNatClampNeg v5 then none else (some (.inl (some (.int (dp_I M2 48 (Int32.toNatClampNeg v5)))), M2))))) := by
  have hF := dp_den_grow (md := true) (xs := xs) (xl := xl) d
  unfold D_X1_addBar_24
  refine dp_s1 hF (i := .aload_n 0) rfl (fun _ => rfl) ?_
  refine dp_s1 hF (i := .getfield 45) rfl (fun _ => rfl) ?_
  refine dp_s1 hF (i := .iload 5) rfl (fun _ => rfl) ?_
  refine dp_s1 hF (i := .dup2) rfl (fun _ => rfl) ?_
  refine dp_s3 hF (i := .iaload) rfl (fun _ => rfl) ?_
  refine dp_s1 hF (i := .iconst 1) rfl (fun _ => rfl) ?_
  refine dp_s1 hF (i := .iadd) rfl (fun _ => rfl) ?_
  refine dp_s3w (dp_setI M 48 (Int32.toNatClampNeg v5) ((dp_I M 48 (Int32.toNatClampNeg v5)) + (1 : Int32))) (fun (M1 : dp_M) => (35, [some (.ref 37), some (.int v1), some (.int v2), some (.int v3), some (.int v4), some (.int v5)], [], M1)) hF (i := .iastore) rfl (fun _ => rfl) (fun M1 => ?_)
  refine dp_s1 hF (i := .aload_n 0) rfl (fun _ => rfl) ?_
  refine dp_s1 hF (i := .getfield 48) rfl (fun _ => rfl) ?_
  refine dp_s1 hF (i := .iload 5) rfl (fun _ => rfl) ?_
  refine dp_s1 hF (i := .iload 4) rfl (fun _ => rfl) ?_
  refine dp_s3w (dp_setI M1 49 (Int32.toNatClampNeg v5) v4) (fun (M2 : dp_M) => (44, [some (.ref 37), some (.int v1), some (.int v2), some (.int v3), some (.int v4), some (.int v5)], [], M2)) hF (i := .iastore) rfl (fun _ => rfl) (fun M2 => ?_)
  refine dp_s1 hF (i := .aload_n 0) rfl (fun _ => rfl) ?_
  refine dp_s1 hF (i := .getfield 45) rfl (fun _ => rfl) ?_
  refine dp_s1 hF (i := .iload 5) rfl (fun _ => rfl) ?_
  refine dp_s3 hF (i := .iaload) rfl (fun _ => rfl) ?_
  exact dp_s0 hF (i := .ireturn) rfl (fun _ => rfl)
noncomputable def D_X1_takeBar_0 (xs : Nat → Int32) (xl d : Nat) (v1 : Int32) (v2 : Int32) (v3 : Int32) (v4 : Int32) (M : dp_M) : Option dp_Res := dp_lim true xs xl (dp_den true xs xl d) dp_m_X1_takeBar (0, [some (.ref 37), some (.int v1), some (.int v2), some (.int v3), some (.int v4), none], [], M)
theorem D_X1_takeBar_0_den (xs : Nat → Int32) (xl d : Nat) (a0 : Int32) (a1 : Int32) (a2 : Int32) (a3 : Int32) (M : dp_M) : dp_den true xs xl (d + 1) 33 [.ref 37, .int a0, .int a1, .int a2, .int a3] M = D_X1_takeBar_0 xs xl d a0 a1 a2 a3 M := rfl
set_option maxRecDepth 20000 in
theorem D_X1_takeBar_0_eq (xs : Nat → Int32) (xl d : Nat) (v1 : Int32) (v2 : Int32) (v3 : Int32) (v4 : Int32) (M : dp_M) : D_X1_takeBar_0 xs xl d v1 v2 v3 v4 M = dp_bi (dp_den true xs xl d 31 [.int v1, .int v2, .int v3] M) (fun r2 M1 => if r2 < 0 ∨ 4000 ≤ Int32.toNatClampNeg r2 then none else (if (dp_I M1 48 (Int32.toNatClampNeg r2)) ≤ 0 then (some (.inl (some (.int (-1 : Int32))), M1)) else (if r2 < 0 ∨ 4000 ≤ Int32.toNatClampNeg r2 then none else (if ((v4 >>> ((dp_I M1 49 (Int32.toNatClampNeg r2)) &&& 31)) &&& (1 : Int32)) = 0 then (some (.inl (some (.int (-1 : Int32))), M1)) else (if r2 < 0 ∨ 4000 ≤ Int32.toNatClampNeg r2 then none else (if r2 < 0 ∨ 4000 ≤ Int32.toNatClampNeg r2 then none else dp_w (dp_setI M1 48 (Int32.toNatClampNeg r2) ((dp_I M1 48 (Int32.toNatClampNeg r2)) - (1 : Int32))) (fun M3 => if r2 < 0 ∨ 4000 ≤ Int32.toNatClampNeg r2 then none else (if (dp_I M3 48 (Int32.toNatClampNeg r2)) = 0 then (dp_bv (dp_den true xs xl d 50 [.ref 37, .int v1, .int (1 : Int32)] M3) (fun M4 => if r2 < 0 ∨ 4000 ≤ Int32.toNatClampNeg r2 then none else (some (.inl (some (.int (dp_I M4 48 (Int32.toNatClampNeg r2)))), M4)))) else (if r2 < 0 ∨ 4000 ≤ Int32.toNatClampNeg r2 then none else (some (.inl (some (.int (dp_I M3 48 (Int32.toNatClampNeg r2)))), M3))))))))))) := by
  have hF := dp_den_grow (md := true) (xs := xs) (xl := xl) d
  unfold D_X1_takeBar_0
  refine dp_s1 hF (i := .iload_n 1) rfl (fun _ => rfl) ?_
  refine dp_s1 hF (i := .iload_n 2) rfl (fun _ => rfl) ?_
  refine dp_s1 hF (i := .iload_n 3) rfl (fun _ => rfl) ?_
  refine dp_si (mj := dp_m_X1_cell) (i := .invokestatic 76) rfl rfl (Or.inl rfl) rfl (fun _ => rfl) (fun r2 M1 => ?_)
  refine dp_s1 hF (i := .istore 5) rfl (fun _ => rfl) ?_
  refine dp_s1 hF (i := .aload_n 0) rfl (fun _ => rfl) ?_
  refine dp_s1 hF (i := .getfield 45) rfl (fun _ => rfl) ?_
  refine dp_s1 hF (i := .iload 5) rfl (fun _ => rfl) ?_
  refine dp_s3 hF (i := .iaload) rfl (fun _ => rfl) ?_
  refine dp_s2 hF (i := .ifCond .le 18) (a := (33, [some (.ref 37), some (.int v1), some (.int v2), some (.int v3), some (.int v4), some (.int r2)], [], M1)) (b := (18, [some (.ref 37), some (.int v1), some (.int v2), some (.int v3), some (.int v4), some (.int r2)], [], M1)) rfl (fun _ => rfl) ?_ ?_
  · refine dp_s1 hF (i := .iconst (-1)) rfl (fun _ => rfl) ?_
    exact dp_s0 hF (i := .ireturn) rfl (fun _ => rfl)
  refine dp_s1 hF (i := .iload 4) rfl (fun _ => rfl) ?_
  refine dp_s1 hF (i := .aload_n 0) rfl (fun _ => rfl) ?_
  refine dp_s1 hF (i := .getfield 48) rfl (fun _ => rfl) ?_
  refine dp_s1 hF (i := .iload 5) rfl (fun _ => rfl) ?_
  refine dp_s3 hF (i := .iaload) rfl (fun _ => rfl) ?_
  refine dp_s1 hF (i := .ishr) rfl (fun _ => rfl) ?_
  refine dp_s1 hF (i := .iconst 1) rfl (fun _ => rfl) ?_
  refine dp_s1 hF (i := .iand) rfl (fun _ => rfl) ?_
  refine dp_s2 hF (i := .ifCond .ne 5) (a := (33, [some (.ref 37), some (.int v1), some (.int v2), some (.int v3), some (.int v4), some (.int r2)], [], M1)) (b := (35, [some (.ref 37), some (.int v1), some (.int v2), some (.int v3), some (.int v4), some (.int r2)], [], M1)) rfl (fun _ => rfl) ?_ ?_
  · refine dp_s1 hF (i := .iconst (-1)) rfl (fun _ => rfl) ?_
    exact dp_s0 hF (i := .ireturn) rfl (fun _ => rfl)
  refine dp_s1 hF (i := .aload_n 0) rfl (fun _ => rfl) ?_
  refine dp_s1 hF (i := .getfield 45) rfl (fun _ => rfl) ?_
  refine dp_s1 hF (i := .iload 5) rfl (fun _ => rfl) ?_
  refine dp_s1 hF (i := .dup2) rfl (fun _ => rfl) ?_
  refine dp_s3 hF (i := .iaload) rfl (fun _ => rfl) ?_
  refine dp_s1 hF (i := .iconst 1) rfl (fun _ => rfl) ?_
  refine dp_s1 hF (i := .isub) rfl (fun _ => rfl) ?_
  refine dp_s3w (dp_setI M1 48 (Int32.toNatClampNeg r2) ((dp_I M1 48 (Int32.toNatClampNeg r2)) - (1 : Int32))) (fun (M3 : dp_M) => (46, [some (.ref 37), some (.int v1), some (.int v2), some (.int v3), some (.int v4), some (.int r2)], [], M3)) hF (i := .iastore) rfl (fun _ => rfl) (fun M3 => ?_)
  refine dp_s1 hF (i := .aload_n 0) rfl (fun _ => rfl) ?_
  refine dp_s1 hF (i := .getfield 45) rfl (fun _ => rfl) ?_
  refine dp_s1 hF (i := .iload 5) rfl (fun _ => rfl) ?_
  refine dp_s3 hF (i := .iaload) rfl (fun _ => rfl) ?_
  refine dp_s2 hF (i := .ifCond .ne 9) (a := (56, [some (.ref 37), some (.int v1), some (.int v2), some (.int v3), some (.int v4), some (.int r2)], [], M3)) (b := (62, [some (.ref 37), some (.int v1), some (.int v2), some (.int v3), some (.int v4), some (.int r2)], [], M3)) rfl (fun _ => rfl) ?_ ?_
  · refine dp_s1 hF (i := .aload_n 0) rfl (fun _ => rfl) ?_
    refine dp_s1 hF (i := .iload_n 1) rfl (fun _ => rfl) ?_
    refine dp_s1 hF (i := .iconst 1) rfl (fun _ => rfl) ?_
    refine dp_sv (mj := dp_m_X1_tell) (i := .invokevirtual 80) rfl rfl rfl rfl (fun _ => rfl) (fun M4 => ?_)
    refine dp_s1 hF (i := .aload_n 0) rfl (fun _ => rfl) ?_
    refine dp_s1 hF (i := .getfield 45) rfl (fun _ => rfl) ?_
    refine dp_s1 hF (i := .iload 5) rfl (fun _ => rfl) ?_
    refine dp_s3 hF (i := .iaload) rfl (fun _ => rfl) ?_
    exact dp_s0 hF (i := .ireturn) rfl (fun _ => rfl)
  refine dp_s1 hF (i := .aload_n 0) rfl (fun _ => rfl) ?_
  refine dp_s1 hF (i := .getfield 45) rfl (fun _ => rfl) ?_
  refine dp_s1 hF (i := .iload 5) rfl (fun _ => rfl) ?_
  refine dp_s3 hF (i := .iaload) rfl (fun _ => rfl) ?_
  exact dp_s0 hF (i := .ireturn) rfl (fun _ => rfl)
noncomputable def D_X1_ownBars_0 (xs : Nat → Int32) (xl d : Nat) (v1 : Int32) (M : dp_M) : Option dp_Res := dp_lim true xs xl (dp_den true xs xl d) dp_m_X1_ownBars (0, [some (.ref 37), some (.int v1), none, none], [], M)
noncomputable def D_X1_ownBars_4 (xs : Nat → Int32) (xl d : Nat) (v1 : Int32) (v2 : Int32) (v3 : Int32) (M : dp_M) : Option dp_Res := dp_lim true xs xl (dp_den true xs xl d) dp_m_X1_ownBars (4, [some (.ref 37), some (.int v1), some (.int v2), some (.int v3)], [], M)
theorem D_X1_ownBars_0_den (xs : Nat → Int32) (xl d : Nat) (a0 : Int32) (M : dp_M) : dp_den true xs xl (d + 1) 34 [.ref 37, .int a0] M = D_X1_ownBars_0 xs xl d a0 M := rfl
set_option maxRecDepth 20000 in
theorem D_X1_ownBars_0_eq (xs : Nat → Int32) (xl d : Nat) (v1 : Int32) (M : dp_M) : D_X1_ownBars_0 xs xl d v1 M = dp_w (0 : Int32) (fun y1 => dp_w (0 : Int32) (fun y2 => D_X1_ownBars_4 xs xl d v1 y1 y2 M)) := by
  have hF := dp_den_grow (md := true) (xs := xs) (xl := xl) d
  unfold D_X1_ownBars_0
  refine dp_s1 hF (i := .iconst 0) rfl (fun _ => rfl) ?_
  refine dp_s1w (0 : Int32) (fun (y1 : Int32) => (2, [some (.ref 37), some (.int v1), some (.int y1), none], [], M)) hF (i := .istore_n 2) rfl (fun _ => rfl) (fun y1 => ?_)
  refine dp_s1 hF (i := .iconst 0) rfl (fun _ => rfl) ?_
  refine dp_s1w (0 : Int32) (fun (y2 : Int32) => (4, [some (.ref 37), some (.int v1), some (.int y1), some (.int y2)], [], M)) hF (i := .istore_n 3) rfl (fun _ => rfl) (fun y2 => ?_)
  exact rfl
set_option maxRecDepth 20000 in
theorem D_X1_ownBars_4_eq (xs : Nat → Int32) (xl d : Nat) (v1 : Int32) (v2 : Int32) (v3 : Int32) (M : dp_M) : D_X1_ownBars_4 xs xl d v1 v2 v3 M = if (40 : Int32) ≤ v3 then (some (.inl (some (.int v2)), M)) else (if (((v1 * (4 : Int32)) * (10 : Int32)) + v3) < 0 ∨ 4000 ≤ Int32.toNatClampNeg (((v1 * (4 : Int32)) * (10 : Int32)) + v3) then none else (if (dp_I M 48 (Int32.toNatClampNeg (((v1 * (4 : Int32)) * (10 : Int32)) + v3))) ≤ 0 then (dp_w (v2 + (0 : Int32)) (fun y1 => dp_w (v3 + (1 : Int32)) (fun y2 => D_X1_ownBars_4 xs xl d v1 y1 y2 M))) else (dp_w (v2 + (1 : Int32)) (fun y3 => dp_w (v3 + (1 : Int32)) (fun y4 => D_X1_ownBars_4 xs xl d v1 y3 y4 M))))) := by
  have hF := dp_den_grow (md := true) (xs := xs) (xl := xl) d
  unfold D_X1_ownBars_4
  refine dp_s1 hF (i := .iload_n 3) rfl (fun _ => rfl) ?_
  refine dp_s1 hF (i := .bipush 40) rfl (fun _ => rfl) ?_
  refine dp_s2 hF (i := .if_icmp .ge 33) (a := (40, [some (.ref 37), some (.int v1), some (.int v2), some (.int v3)], [], M)) (b := (10, [some (.ref 37), some (.int v1), some (.int v2), some (.int v3)], [], M)) rfl (fun _ => rfl) ?_ ?_
  · refine dp_s1 hF (i := .iload_n 2) rfl (fun _ => rfl) ?_
    exact dp_s0 hF (i := .ireturn) rfl (fun _ => rfl)
  refine dp_s1 hF (i := .iload_n 2) rfl (fun _ => rfl) ?_
  refine dp_s1 hF (i := .aload_n 0) rfl (fun _ => rfl) ?_
  refine dp_s1 hF (i := .getfield 45) rfl (fun _ => rfl) ?_
  refine dp_s1 hF (i := .iload_n 1) rfl (fun _ => rfl) ?_
  refine dp_s1 hF (i := .iconst 4) rfl (fun _ => rfl) ?_
  refine dp_s1 hF (i := .imul) rfl (fun _ => rfl) ?_
  refine dp_s1 hF (i := .bipush 10) rfl (fun _ => rfl) ?_
  refine dp_s1 hF (i := .imul) rfl (fun _ => rfl) ?_
  refine dp_s1 hF (i := .iload_n 3) rfl (fun _ => rfl) ?_
  refine dp_s1 hF (i := .iadd) rfl (fun _ => rfl) ?_
  refine dp_s3 hF (i := .iaload) rfl (fun _ => rfl) ?_
  refine dp_s2 hF (i := .ifCond .le 7) (a := (31, [some (.ref 37), some (.int v1), some (.int v2), some (.int v3)], [.int v2], M)) (b := (27, [some (.ref 37), some (.int v1), some (.int v2), some (.int v3)], [.int v2], M)) rfl (fun _ => rfl) ?_ ?_
  · refine dp_s1 hF (i := .iconst 0) rfl (fun _ => rfl) ?_
    refine dp_s1 hF (i := .iadd) rfl (fun _ => rfl) ?_
    refine dp_s1w (v2 + (0 : Int32)) (fun (y1 : Int32) => (34, [some (.ref 37), some (.int v1), some (.int y1), some (.int v3)], [], M)) hF (i := .istore_n 2) rfl (fun _ => rfl) (fun y1 => ?_)
    refine dp_s1w (v3 + (1 : Int32)) (fun (y2 : Int32) => (37, [some (.ref 37), some (.int v1), some (.int y1), some (.int y2)], [], M)) hF (i := .iinc 3 1) rfl (fun _ => rfl) (fun y2 => ?_)
    refine dp_s1 hF (i := .goto (-33)) rfl (fun _ => rfl) ?_
    exact rfl
  refine dp_s1 hF (i := .iconst 1) rfl (fun _ => rfl) ?_
  refine dp_s1 hF (i := .goto 4) rfl (fun _ => rfl) ?_
  refine dp_s1 hF (i := .iadd) rfl (fun _ => rfl) ?_
  refine dp_s1w (v2 + (1 : Int32)) (fun (y3 : Int32) => (34, [some (.ref 37), some (.int v1), some (.int y3), some (.int v3)], [], M)) hF (i := .istore_n 2) rfl (fun _ => rfl) (fun y3 => ?_)
  refine dp_s1w (v3 + (1 : Int32)) (fun (y4 : Int32) => (37, [some (.ref 37), some (.int v1), some (.int y3), some (.int y4)], [], M)) hF (i := .iinc 3 1) rfl (fun _ => rfl) (fun y4 => ?_)
  refine dp_s1 hF (i := .goto (-33)) rfl (fun _ => rfl) ?_
  exact rfl
noncomputable def D_X1_unite_0 (xs : Nat → Int32) (xl d : Nat) (v1 : Int32) (v2 : Int32) (M : dp_M) : Option dp_Res := dp_lim true xs xl (dp_den true xs xl d) dp_m_X1_unite (0, [some (.ref 37), some (.int v1), some (.int v2), none, none, none], [], M)
noncomputable def D_X1_unite_44 (xs : Nat → Int32) (xl d : Nat) (v1 : Int32) (v2 : Int32) (v3 : Int32) (v4 : Int32) (v5 : Int32) (M : dp_M) : Option dp_Res := dp_lim true xs xl (dp_den true xs xl d) dp_m_X1_unite (44, [some (.ref 37), some (.int v1), some (.int v2), some (.int v3), some (.int v4), some (.int v5)], [], M)
theorem D_X1_unite_0_den (xs : Nat → Int32) (xl d : Nat) (a0 : Int32) (a1 : Int32) (M : dp_M) : dp_den true xs xl (d + 1) 35 [.ref 37, .int a0, .int a1] M = D_X1_unite_0 xs xl d a0 a1 M := rfl
set_option maxRecDepth 20000 in
theorem D_X1_unite_0_eq (xs : Nat → Int32) (xl d : Nat) (v1 : Int32) (v2 : Int32) (M : dp_M) : D_X1_unite_0 xs xl d v1 v2 M = if v1 < 0 ∨ 100 ≤ Int32.toNatClampNeg v1 then none else (if v2 < 0 ∨ 100 ≤ Int32.toNatClampNeg v2 then none else (dp_w (if (dp_I M 43 (Int32.toNatClampNeg v2)) < (dp_I M 43 (Int32.toNatClampNeg v1)) then (dp_I M 43 (Int32.toNatClampNeg v2)) else (dp_I M 43 (Int32.toNatClampNeg v1))) (fun y1 => if v1 < 0 ∨ 100 ≤ Int32.toNatClampNeg v1 then none else (if v2 < 0 ∨ 100 ≤ Int32.toNatClampNeg v2 then none else (dp_w (if (dp_I M 43 (Int32.toNatClampNeg v1)) < (dp_I M 43 (Int32.toNatClampNeg v2)) then (dp_I M 43 (Int32.toNatClampNeg v2)) else (dp_I M 43 (Int32.toNatClampNeg v1))) (fun y2 => if y1 = y2 then (some (.inl (some (.int (0 : Int32))), M)) else (dp_w (0 : Int32) (fun y3 => D_X1_unite_44 xs xl d v1 v2 y1 y2 y3 M)))))))) := by
  have hF := dp_den_grow (md := true) (xs := xs) (xl := xl) d
  unfold D_X1_unite_0
  refine dp_s1 hF (i := .aload_n 0) rfl (fun _ => rfl) ?_
  refine dp_s1 hF (i := .getfield 29) rfl (fun _ => rfl) ?_
  refine dp_s1 hF (i := .iload_n 1) rfl (fun _ => rfl) ?_
  refine dp_s3 hF (i := .iaload) rfl (fun _ => rfl) ?_
  refine dp_s1 hF (i := .aload_n 0) rfl (fun _ => rfl) ?_
  refine dp_s1 hF (i := .getfield 29) rfl (fun _ => rfl) ?_
  refine dp_s1 hF (i := .iload_n 2) rfl (fun _ => rfl) ?_
  refine dp_s3 hF (i := .iaload) rfl (fun _ => rfl) ?_
  refine dp_s1 hF (i := .invokestatic 84) rfl (fun _ => rfl) ?_
  refine dp_s1w (if (dp_I M 43 (Int32.toNatClampNeg v2)) < (dp_I M 43 (Int32.toNatClampNeg v1)) then (dp_I M 43 (Int32.toNatClampNeg v2)) else (dp_I M 43 (Int32.toNatClampNeg v1))) (fun (y1 : Int32) => (16, [some (.ref 37), some (.int v1), some (.int v2), some (.int y1), none, none], [], M)) hF (i := .istore_n 3) rfl (fun _ => rfl) (fun y1 => ?_)
  refine dp_s1 hF (i := .aload_n 0) rfl (fun _ => rfl) ?_
  refine dp_s1 hF (i := .getfield 29) rfl (fun _ => rfl) ?_
  refine dp_s1 hF (i := .iload_n 1) rfl (fun _ => rfl) ?_
  refine dp_s3 hF (i := .iaload) rfl (fun _ => rfl) ?_
  refine dp_s1 hF (i := .aload_n 0) rfl (fun _ => rfl) ?_
  refine dp_s1 hF (i := .getfield 29) rfl (fun _ => rfl) ?_
  refine dp_s1 hF (i := .iload_n 2) rfl (fun _ => rfl) ?_
  refine dp_s3 hF (i := .iaload) rfl (fun _ => rfl) ?_
  refine dp_s1 hF (i := .invokestatic 90) rfl (fun _ => rfl) ?_
  refine dp_s1w (if (dp_I M 43 (Int32.toNatClampNeg v1)) < (dp_I M 43 (Int32.toNatClampNeg v2)) then (dp_I M 43 (Int32.toNatClampNeg v2)) else (dp_I M 43 (Int32.toNatClampNeg v1))) (fun (y2 : Int32) => (33, [some (.ref 37), some (.int v1), some (.int v2), some (.int y1), some (.int y2), none], [], M)) hF (i := .istore 4) rfl (fun _ => rfl) (fun y2 => ?_)
  refine dp_s1 hF (i := .iload_n 3) rfl (fun _ => rfl) ?_
  refine dp_s1 hF (i := .iload 4) rfl (fun _ => rfl) ?_
  refine dp_s2 hF (i := .if_icmp .ne 5) (a := (39, [some (.ref 37), some (.int v1), some (.int v2), some (.int y1), some (.int y2), none], [], M)) (b := (41, [some (.ref 37), some (.int v1), some (.int v2), some (.int y1), some (.int y2), none], [], M)) rfl (fun _ => rfl) ?_ ?_
  · refine dp_s1 hF (i := .iconst 0) rfl (fun _ => rfl) ?_
    exact dp_s0 hF (i := .ireturn) rfl (fun _ => rfl)
  refine dp_s1 hF (i := .iconst 0) rfl (fun _ => rfl) ?_
  refine dp_s1w (0 : Int32) (fun (y3 : Int32) => (44, [some (.ref 37), some (.int v1), some (.int v2), some (.int y1), some (.int y2), some (.int y3)], [], M)) hF (i := .istore 5) rfl (fun _ => rfl) (fun y3 => ?_)
  exact rfl
set_option maxRecDepth 20000 in
theorem D_X1_unite_44_eq (xs : Nat → Int32) (xl d : Nat) (v1 : Int32) (v2 : Int32) (v3 : Int32) (v4 : Int32) (v5 : Int32) (M : dp_M) : D_X1_unite_44 xs xl d v1 v2 v3 v4 v5 M = if (dp_I M 1 2) ≤ v5 then (some (.inl (some (.int (1 : Int32))), M)) else (if v5 < 0 ∨ 100 ≤ Int32.toNatClampNeg v5 then none else (if (dp_I M 43 (Int32.toNatClampNeg v5)) = v4 then (if v5 < 0 ∨ 100 ≤ Int32.toNatClampNeg v5 then none else dp_w (dp_setI M 43 (Int32.toNatClampNeg v5) v3) (fun M1 => dp_w (v5 + (1 : Int32)) (fun y2 => D_X1_unite_44 xs xl d v1 v2 v3 v4 y2 M1))) else (if v5 < 0 ∨ 100 ≤ Int32.toNatClampNeg v5 then none else (if v5 < 0 ∨ 100 ≤ Int32.toNatClampNeg v5 then none else dp_w (dp_setI M 43 (Int32.toNatClampNeg v5) (dp_I M 43 (Int32.toNatClampNeg v5))) (fun M3 => dp_w (v5 + (1 : Int32)) (fun y4 => D_X1_unite_44 xs xl d v1 v2 v3 v4 y4 M3)))))) := by
  have hF := dp_den_grow (md := true) (xs := xs) (xl := xl) d
  unfold D_X1_unite_44
  refine dp_s1 hF (i := .iload 5) rfl (fun _ => rfl) ?_
  refine dp_s1 hF (i := .aload_n 0) rfl (fun _ => rfl) ?_
  refine dp_s1 hF (i := .getfield 54) rfl (fun _ => rfl) ?_
  refine dp_s1 hF (i := .getfield 93) rfl (fun _ => rfl) ?_
  refine dp_s2 hF (i := .if_icmp .ge 39) (a := (92, [some (.ref 37), some (.int v1), some (.int v2), some (.int v3), some (.int v4), some (.int v5)], [], M)) (b := (56, [some (.ref 37), some (.int v1), some (.int v2), some (.int v3), some (.int v4), some (.int v5)], [], M)) rfl (fun _ => rfl) ?_ ?_
  · refine dp_s1 hF (i := .iconst 1) rfl (fun _ => rfl) ?_
    exact dp_s0 hF (i := .ireturn) rfl (fun _ => rfl)
  refine dp_s1 hF (i := .aload_n 0) rfl (fun _ => rfl) ?_
  refine dp_s1 hF (i := .getfield 29) rfl (fun _ => rfl) ?_
  refine dp_s1 hF (i := .iload 5) rfl (fun _ => rfl) ?_
  refine dp_s1 hF (i := .aload_n 0) rfl (fun _ => rfl) ?_
  refine dp_s1 hF (i := .getfield 29) rfl (fun _ => rfl) ?_
  refine dp_s1 hF (i := .iload 5) rfl (fun _ => rfl) ?_
  refine dp_s3 hF (i := .iaload) rfl (fun _ => rfl) ?_
  refine dp_s1 hF (i := .iload 4) rfl (fun _ => rfl) ?_
  refine dp_s2 hF (i := .if_icmp .ne 7) (a := (74, [some (.ref 37), some (.int v1), some (.int v2), some (.int v3), some (.int v4), some (.int v5)], [.int v5, .ref 43], M)) (b := (78, [some (.ref 37), some (.int v1), some (.int v2), some (.int v3), some (.int v4), some (.int v5)], [.int v5, .ref 43], M)) rfl (fun _ => rfl) ?_ ?_
  · refine dp_s1 hF (i := .iload_n 3) rfl (fun _ => rfl) ?_
    refine dp_s1 hF (i := .goto 10) rfl (fun _ => rfl) ?_
    refine dp_s3w (dp_setI M 43 (Int32.toNatClampNeg v5) v3) (fun (M1 : dp_M) => (86, [some (.ref 37), some (.int v1), some (.int v2), some (.int v3), some (.int v4), some (.int v5)], [], M1)) hF (i := .iastore) rfl (fun _ => rfl) (fun M1 => ?_)
    refine dp_s1w (v5 + (1 : Int32)) (fun (y2 : Int32) => (89, [some (.ref 37), some (.int v1), some (.int v2), some (.int v3), some (.int v4), some (.int y2)], [], M1)) hF (i := .iinc 5 1) rfl (fun _ => rfl) (fun y2 => ?_)
    refine dp_s1 hF (i := .goto (-45)) rfl (fun _ => rfl) ?_
    exact rfl
  refine dp_s1 hF (i := .aload_n 0) rfl (fun _ => rfl) ?_
  refine dp_s1 hF (i := .getfield 29) rfl (fun _ => rfl) ?_
  refine dp_s1 hF (i := .iload 5) rfl (fun _ => rfl) ?_
  refine dp_s3 hF (i := .iaload) rfl (fun _ => rfl) ?_
  refine dp_s3w (dp_setI M 43 (Int32.toNatClampNeg v5) (dp_I M 43 (Int32.toNatClampNeg v5))) (fun (M3 : dp_M) => (86, [some (.ref 37), some (.int v1), some (.int v2), some (.int v3), some (.int v4), some (.int v5)], [], M3)) hF (i := .iastore) rfl (fun _ => rfl) (fun M3 => ?_)
  refine dp_s1w (v5 + (1 : Int32)) (fun (y4 : Int32) => (89, [some (.ref 37), some (.int v1), some (.int v2), some (.int v3), some (.int v4), some (.int y4)], [], M3)) hF (i := .iinc 5 1) rfl (fun _ => rfl) (fun y4 => ?_)
  refine dp_s1 hF (i := .goto (-45)) rfl (fun _ => rfl) ?_
  exact rfl
noncomputable def D_X1_groupSize_0 (xs : Nat → Int32) (xl d : Nat) (v1 : Int32) (M : dp_M) : Option dp_Res := dp_lim true xs xl (dp_den true xs xl d) dp_m_X1_groupSize (0, [some (.ref 37), some (.int v1), none, none], [], M)
noncomputable def D_X1_groupSize_4 (xs : Nat → Int32) (xl d : Nat) (v1 : Int32) (v2 : Int32) (v3 : Int32) (M : dp_M) : Option dp_Res := dp_lim true xs xl (dp_den true xs xl d) dp_m_X1_groupSize (4, [some (.ref 37), some (.int v1), some (.int v2), some (.int v3)], [], M)
theorem D_X1_groupSize_0_den (xs : Nat → Int32) (xl d : Nat) (a0 : Int32) (M : dp_M) : dp_den true xs xl (d + 1) 36 [.ref 37, .int a0] M = D_X1_groupSize_0 xs xl d a0 M := rfl
set_option maxRecDepth 20000 in
theorem D_X1_groupSize_0_eq (xs : Nat → Int32) (xl d : Nat) (v1 : Int32) (M : dp_M) : D_X1_groupSize_0 xs xl d v1 M = dp_w (0 : Int32) (fun y1 => dp_w (0 : Int32) (fun y2 => D_X1_groupSize_4 xs xl d v1 y1 y2 M)) := by
  have hF := dp_den_grow (md := true) (xs := xs) (xl := xl) d
  unfold D_X1_groupSize_0
  refine dp_s1 hF (i := .iconst 0) rfl (fun _ => rfl) ?_
  refine dp_s1w (0 : Int32) (fun (y1 : Int32) => (2, [some (.ref 37), some (.int v1), some (.int y1), none], [], M)) hF (i := .istore_n 2) rfl (fun _ => rfl) (fun y1 => ?_)
  refine dp_s1 hF (i := .iconst 0) rfl (fun _ => rfl) ?_
  refine dp_s1w (0 : Int32) (fun (y2 : Int32) => (4, [some (.ref 37), some (.int v1), some (.int y1), some (.int y2)], [], M)) hF (i := .istore_n 3) rfl (fun _ => rfl) (fun y2 => ?_)
  exact rfl
set_option maxRecDepth 20000 in
theorem D_X1_groupSize_4_eq (xs : Nat → Int32) (xl d : Nat) (v1 : Int32) (v2 : Int32) (v3 : Int32) (M : dp_M) : D_X1_groupSize_4 xs xl d v1 v2 v3 M = if (dp_I M 1 2) ≤ v3 then (some (.inl (some (.int v2)), M)) else (if v3 < 0 ∨ 100 ≤ Int32.toNatClampNeg v3 then none else (if v1 < 0 ∨ 100 ≤ Int32.toNatClampNeg v1 then none else (if (dp_I M 43 (Int32.toNatClampNeg v3)) = (dp_I M 43 (Int32.toNatClampNeg v1)) then (dp_w (v2 + (1 : Int32)) (fun y1 => dp_w (v3 + (1 : Int32)) (fun y2 => D_X1_groupSize_4 xs xl d v1 y1 y2 M))) else (dp_w (v2 + (0 : Int32)) (fun y3 => dp_w (v3 + (1 : Int32)) (fun y4 => D_X1_groupSize_4 xs xl d v1 y3 y4 M)))))) := by
  have hF := dp_den_grow (md := true) (xs := xs) (xl := xl) d
  unfold D_X1_groupSize_4
  refine dp_s1 hF (i := .iload_n 3) rfl (fun _ => rfl) ?_
  refine dp_s1 hF (i := .aload_n 0) rfl (fun _ => rfl) ?_
  refine dp_s1 hF (i := .getfield 54) rfl (fun _ => rfl) ?_
  refine dp_s1 hF (i := .getfield 93) rfl (fun _ => rfl) ?_
  refine dp_s2 hF (i := .if_icmp .ge 32) (a := (44, [some (.ref 37), some (.int v1), some (.int v2), some (.int v3)], [], M)) (b := (15, [some (.ref 37), some (.int v1), some (.int v2), some (.int v3)], [], M)) rfl (fun _ => rfl) ?_ ?_
  · refine dp_s1 hF (i := .iload_n 2) rfl (fun _ => rfl) ?_
    exact dp_s0 hF (i := .ireturn) rfl (fun _ => rfl)
  refine dp_s1 hF (i := .iload_n 2) rfl (fun _ => rfl) ?_
  refine dp_s1 hF (i := .aload_n 0) rfl (fun _ => rfl) ?_
  refine dp_s1 hF (i := .getfield 29) rfl (fun _ => rfl) ?_
  refine dp_s1 hF (i := .iload_n 3) rfl (fun _ => rfl) ?_
  refine dp_s3 hF (i := .iaload) rfl (fun _ => rfl) ?_
  refine dp_s1 hF (i := .aload_n 0) rfl (fun _ => rfl) ?_
  refine dp_s1 hF (i := .getfield 29) rfl (fun _ => rfl) ?_
  refine dp_s1 hF (i := .iload_n 1) rfl (fun _ => rfl) ?_
  refine dp_s3 hF (i := .iaload) rfl (fun _ => rfl) ?_
  refine dp_s2 hF (i := .if_icmp .ne 7) (a := (31, [some (.ref 37), some (.int v1), some (.int v2), some (.int v3)], [.int v2], M)) (b := (35, [some (.ref 37), some (.int v1), some (.int v2), some (.int v3)], [.int v2], M)) rfl (fun _ => rfl) ?_ ?_
  · refine dp_s1 hF (i := .iconst 1) rfl (fun _ => rfl) ?_
    refine dp_s1 hF (i := .goto 4) rfl (fun _ => rfl) ?_
    refine dp_s1 hF (i := .iadd) rfl (fun _ => rfl) ?_
    refine dp_s1w (v2 + (1 : Int32)) (fun (y1 : Int32) => (38, [some (.ref 37), some (.int v1), some (.int y1), some (.int v3)], [], M)) hF (i := .istore_n 2) rfl (fun _ => rfl) (fun y1 => ?_)
    refine dp_s1w (v3 + (1 : Int32)) (fun (y2 : Int32) => (41, [some (.ref 37), some (.int v1), some (.int y1), some (.int y2)], [], M)) hF (i := .iinc 3 1) rfl (fun _ => rfl) (fun y2 => ?_)
    refine dp_s1 hF (i := .goto (-37)) rfl (fun _ => rfl) ?_
    exact rfl
  refine dp_s1 hF (i := .iconst 0) rfl (fun _ => rfl) ?_
  refine dp_s1 hF (i := .iadd) rfl (fun _ => rfl) ?_
  refine dp_s1w (v2 + (0 : Int32)) (fun (y3 : Int32) => (38, [some (.ref 37), some (.int v1), some (.int y3), some (.int v3)], [], M)) hF (i := .istore_n 2) rfl (fun _ => rfl) (fun y3 => ?_)
  refine dp_s1w (v3 + (1 : Int32)) (fun (y4 : Int32) => (41, [some (.ref 37), some (.int v1), some (.int y3), some (.int y4)], [], M)) hF (i := .iinc 3 1) rfl (fun _ => rfl) (fun y4 => ?_)
  refine dp_s1 hF (i := .goto (-37)) rfl (fun _ => rfl) ?_
  exact rfl
noncomputable def D_X1_ownBar_0 (xs : Nat → Int32) (xl d : Nat) (v1 : Int32) (M : dp_M) : Option dp_Res := dp_lim true xs xl (dp_den true xs xl d) dp_m_X1_ownBar (0, [some (.ref 37), some (.int v1)], [], M)
theorem D_X1_ownBar_0_den (xs : Nat → Int32) (xl d : Nat) (a0 : Int32) (M : dp_M) : dp_den true xs xl (d + 1) 37 [.ref 37, .int a0] M = D_X1_ownBar_0 xs xl d a0 M := rfl
set_option maxRecDepth 20000 in
theorem D_X1_ownBar_0_eq (xs : Nat → Int32) (xl d : Nat) (v1 : Int32) (M : dp_M) : D_X1_ownBar_0 xs xl d v1 M = if v1 < 0 ∨ 100 ≤ Int32.toNatClampNeg v1 then none else (if (dp_I M 42 (Int32.toNatClampNeg v1)) = 0 then (some (.inl (some (.int (10 : Int32))), M)) else (if v1 < 0 ∨ 100 ≤ Int32.toNatClampNeg v1 then none else (if v1 < 0 ∨ 100 ≤ Int32.toNatClampNeg v1 then none else (if (dp_I M 42 (Int32.toNatClampNeg v1)) ≤ (dp_I M 45 (Int32.toNatClampNeg v1)) then (some (.inl (some (.int (0 : Int32))), M)) else (some (.inl (some (.int (11 : Int32))), M)))))) := by
  have hF := dp_den_grow (md := true) (xs := xs) (xl := xl) d
  unfold D_X1_ownBar_0
  refine dp_s1 hF (i := .aload_n 0) rfl (fun _ => rfl) ?_
  refine dp_s1 hF (i := .getfield 26) rfl (fun _ => rfl) ?_
  refine dp_s1 hF (i := .iload_n 1) rfl (fun _ => rfl) ?_
  refine dp_s3 hF (i := .iaload) rfl (fun _ => rfl) ?_
  refine dp_s2 hF (i := .ifCond .ne 6) (a := (9, [some (.ref 37), some (.int v1)], [], M)) (b := (12, [some (.ref 37), some (.int v1)], [], M)) rfl (fun _ => rfl) ?_ ?_
  · refine dp_s1 hF (i := .bipush 10) rfl (fun _ => rfl) ?_
    exact dp_s0 hF (i := .ireturn) rfl (fun _ => rfl)
  refine dp_s1 hF (i := .aload_n 0) rfl (fun _ => rfl) ?_
  refine dp_s1 hF (i := .getfield 35) rfl (fun _ => rfl) ?_
  refine dp_s1 hF (i := .iload_n 1) rfl (fun _ => rfl) ?_
  refine dp_s3 hF (i := .iaload) rfl (fun _ => rfl) ?_
  refine dp_s1 hF (i := .aload_n 0) rfl (fun _ => rfl) ?_
  refine dp_s1 hF (i := .getfield 26) rfl (fun _ => rfl) ?_
  refine dp_s1 hF (i := .iload_n 1) rfl (fun _ => rfl) ?_
  refine dp_s3 hF (i := .iaload) rfl (fun _ => rfl) ?_
  refine dp_s2 hF (i := .if_icmp .ge 8) (a := (32, [some (.ref 37), some (.int v1)], [], M)) (b := (27, [some (.ref 37), some (.int v1)], [], M)) rfl (fun _ => rfl) ?_ ?_
  · refine dp_s1 hF (i := .iconst 0) rfl (fun _ => rfl) ?_
    exact dp_s0 hF (i := .ireturn) rfl (fun _ => rfl)
  refine dp_s1 hF (i := .bipush 11) rfl (fun _ => rfl) ?_
  refine dp_s1 hF (i := .goto 4) rfl (fun _ => rfl) ?_
  exact dp_s0 hF (i := .ireturn) rfl (fun _ => rfl)
noncomputable def D_X1_verdict_0 (xs : Nat → Int32) (xl d : Nat) (v1 : Int32) (v2 : Int32) (M : dp_M) : Option dp_Res := dp_lim true xs xl (dp_den true xs xl d) dp_m_X1_verdict (0, [some (.ref 37), some (.int v1), some (.int v2)], [], M)
theorem D_X1_verdict_0_den (xs : Nat → Int32) (xl d : Nat) (a0 : Int32) (a1 : Int32) (M : dp_M) : dp_den true xs xl (d + 1) 38 [.ref 37, .int a0, .int a1] M = D_X1_verdict_0 xs xl d a0 a1 M := rfl
set_option maxRecDepth 20000 in
theorem D_X1_verdict_0_eq (xs : Nat → Int32) (xl d : Nat) (v1 : Int32) (v2 : Int32) (M : dp_M) : D_X1_verdict_0 xs xl d v1 v2 M = if v1 < 0 ∨ 4 ≤ Int32.toNatClampNeg v1 then none else (if (dp_I M 38 (Int32.toNatClampNeg v1)) = (1 : Int32) then (dp_bi (dp_den true xs xl d 26 [.ref 37, .int v2] M) (fun r2 M1 => if v1 < 0 ∨ 4 ≤ Int32.toNatClampNeg v1 then none else (if r2 ≤ (dp_I M1 39 (Int32.toNatClampNeg v1)) then (some (.inl (some (.int (0 : Int32))), M1)) else (some (.inl (some (.int (13 : Int32))), M1))))) else if (dp_I M 38 (Int32.toNatClampNeg v1)) = (2 : Int32) then (if (v2 - v2 / (2 : Int32) * (2 : Int32)) = (1 : Int32) then (some (.inl (some (.int (13 : Int32))), M)) else (some (.inl (some (.int (0 : Int32))), M))) else if (dp_I M 38 (Int32.toNatClampNeg v1)) = (3 : Int32) then (if v2 < 0 ∨ 100 ≤ Int32.toNatClampNeg v2 then none else (if (dp_I M 42 (Int32.toNatClampNeg v2)) ≤ 0 then (some (.inl (some (.int (0 : Int32))), M)) else (some (.inl (some (.int (14 : Int32))), M)))) else if (dp_I M 38 (Int32.toNatClampNeg v1)) = (4 : Int32) then (some (.inl (some (.int (14 : Int32))), M)) else (some (.inl (some (.int (0 : Int32))), M))) := by
  have hF := dp_den_grow (md := true) (xs := xs) (xl := xl) d
  unfold D_X1_verdict_0
  refine dp_s1 hF (i := .aload_n 0) rfl (fun _ => rfl) ?_
  refine dp_s1 hF (i := .getfield 11) rfl (fun _ => rfl) ?_
  refine dp_s1 hF (i := .iload_n 1) rfl (fun _ => rfl) ?_
  refine dp_s3 hF (i := .iaload) rfl (fun _ => rfl) ?_
  refine (dp_s (E := fun k => if (dp_I M 38 (Int32.toNatClampNeg v1)) = (1 : Int32) then k (36, [some (.ref 37), some (.int v1), some (.int v2)], [], M) else if (dp_I M 38 (Int32.toNatClampNeg v1)) = (2 : Int32) then k (57, [some (.ref 37), some (.int v1), some (.int v2)], [], M) else if (dp_I M 38 (Int32.toNatClampNeg v1)) = (3 : Int32) then k (71, [some (.ref 37), some (.int v1), some (.int v2)], [], M) else if (dp_I M 38 (Int32.toNatClampNeg v1)) = (4 : Int32) then k (87, [some (.ref 37), some (.int v1), some (.int v2)], [], M) else k (90, [some (.ref 37), some (.int v1), some (.int v2)], [], M)) hF (i := .tableswitch 84 1 4 #[30, 51, 65, 81]) rfl (fun _ => rfl)).trans ?_
  refine dp_ifc ?_ ?_
  · refine dp_s1 hF (i := .aload_n 0) rfl (fun _ => rfl) ?_
    refine dp_s1 hF (i := .iload_n 2) rfl (fun _ => rfl) ?_
    refine dp_si (mj := dp_m_X1_kilograms) (i := .invokevirtual 65) rfl rfl (Or.inl rfl) rfl (fun _ => rfl) (fun r2 M1 => ?_)
    refine dp_s1 hF (i := .aload_n 0) rfl (fun _ => rfl) ?_
    refine dp_s1 hF (i := .getfield 15) rfl (fun _ => rfl) ?_
    refine dp_s1 hF (i := .iload_n 1) rfl (fun _ => rfl) ?_
    refine dp_s3 hF (i := .iaload) rfl (fun _ => rfl) ?_
    refine dp_s2 hF (i := .if_icmp .le 8) (a := (55, [some (.ref 37), some (.int v1), some (.int v2)], [], M1)) (b := (50, [some (.ref 37), some (.int v1), some (.int v2)], [], M1)) rfl (fun _ => rfl) ?_ ?_
    · refine dp_s1 hF (i := .iconst 0) rfl (fun _ => rfl) ?_
      exact dp_s0 hF (i := .ireturn) rfl (fun _ => rfl)
    refine dp_s1 hF (i := .bipush 13) rfl (fun _ => rfl) ?_
    refine dp_s1 hF (i := .goto 4) rfl (fun _ => rfl) ?_
    exact dp_s0 hF (i := .ireturn) rfl (fun _ => rfl)
  refine dp_ifc ?_ ?_
  · refine dp_s1 hF (i := .iload_n 2) rfl (fun _ => rfl) ?_
    refine dp_s1 hF (i := .iconst 2) rfl (fun _ => rfl) ?_
    refine dp_s1 hF (i := .irem) rfl (fun _ => rfl) ?_
    refine dp_s1 hF (i := .iconst 1) rfl (fun _ => rfl) ?_
    refine dp_s2 hF (i := .if_icmp .ne 8) (a := (64, [some (.ref 37), some (.int v1), some (.int v2)], [], M)) (b := (69, [some (.ref 37), some (.int v1), some (.int v2)], [], M)) rfl (fun _ => rfl) ?_ ?_
    · refine dp_s1 hF (i := .bipush 13) rfl (fun _ => rfl) ?_
      refine dp_s1 hF (i := .goto 4) rfl (fun _ => rfl) ?_
      exact dp_s0 hF (i := .ireturn) rfl (fun _ => rfl)
    refine dp_s1 hF (i := .iconst 0) rfl (fun _ => rfl) ?_
    exact dp_s0 hF (i := .ireturn) rfl (fun _ => rfl)
  refine dp_ifc ?_ ?_
  · refine dp_s1 hF (i := .aload_n 0) rfl (fun _ => rfl) ?_
    refine dp_s1 hF (i := .getfield 26) rfl (fun _ => rfl) ?_
    refine dp_s1 hF (i := .iload_n 2) rfl (fun _ => rfl) ?_
    refine dp_s3 hF (i := .iaload) rfl (fun _ => rfl) ?_
    refine dp_s2 hF (i := .ifCond .le 8) (a := (85, [some (.ref 37), some (.int v1), some (.int v2)], [], M)) (b := (80, [some (.ref 37), some (.int v1), some (.int v2)], [], M)) rfl (fun _ => rfl) ?_ ?_
    · refine dp_s1 hF (i := .iconst 0) rfl (fun _ => rfl) ?_
      exact dp_s0 hF (i := .ireturn) rfl (fun _ => rfl)
    refine dp_s1 hF (i := .bipush 14) rfl (fun _ => rfl) ?_
    refine dp_s1 hF (i := .goto 4) rfl (fun _ => rfl) ?_
    exact dp_s0 hF (i := .ireturn) rfl (fun _ => rfl)
  refine dp_ifc ?_ ?_
  · refine dp_s1 hF (i := .bipush 14) rfl (fun _ => rfl) ?_
    exact dp_s0 hF (i := .ireturn) rfl (fun _ => rfl)
  refine dp_s1 hF (i := .iconst 0) rfl (fun _ => rfl) ?_
  exact dp_s0 hF (i := .ireturn) rfl (fun _ => rfl)
noncomputable def D_X1_askRelease_0 (xs : Nat → Int32) (xl d : Nat) (v1 : Int32) (M : dp_M) : Option dp_Res := dp_lim true xs xl (dp_den true xs xl d) dp_m_X1_askRelease (0, [some (.ref 37), some (.int v1), none, none, none], [], M)
noncomputable def D_X1_askRelease_4 (xs : Nat → Int32) (xl d : Nat) (v1 : Int32) (v2 : Int32) (v3 : Int32) (M : dp_M) : Option dp_Res := dp_lim true xs xl (dp_den true xs xl d) dp_m_X1_askRelease (4, [some (.ref 37), some (.int v1), some (.int v2), some (.int v3), none], [], M)
noncomputable def D_X1_askRelease_4_a (xs : Nat → Int32) (xl d : Nat) (v1 : Int32) (v2 : Int32) (v3 : Int32) (v4 : Int32) (M : dp_M) : Option dp_Res := dp_lim true xs xl (dp_den true xs xl d) dp_m_X1_askRelease (4, [some (.ref 37), some (.int v1), some (.int v2), some (.int v3), some (.int v4)], [], M)
theorem D_X1_askRelease_0_den (xs : Nat → Int32) (xl d : Nat) (a0 : Int32) (M : dp_M) : dp_den true xs xl (d + 1) 39 [.ref 37, .int a0] M = D_X1_askRelease_0 xs xl d a0 M := rfl
set_option maxRecDepth 20000 in
theorem D_X1_askRelease_0_eq (xs : Nat → Int32) (xl d : Nat) (v1 : Int32) (M : dp_M) : D_X1_askRelease_0 xs xl d v1 M = dp_w (1 : Int32) (fun y1 => dp_w (0 : Int32) (fun y2 => D_X1_askRelease_4 xs xl d v1 y1 y2 M)) := by
  have hF := dp_den_grow (md := true) (xs := xs) (xl := xl) d
  unfold D_X1_askRelease_0
  refine dp_s1 hF (i := .iconst 1) rfl (fun _ => rfl) ?_
  refine dp_s1w (1 : Int32) (fun (y1 : Int32) => (2, [some (.ref 37), some (.int v1), some (.int y1), none, none], [], M)) hF (i := .istore_n 2) rfl (fun _ => rfl) (fun y1 => ?_)
  refine dp_s1 hF (i := .iconst 0) rfl (fun _ => rfl) ?_
  refine dp_s1w (0 : Int32) (fun (y2 : Int32) => (4, [some (.ref 37), some (.int v1), some (.int y1), some (.int y2), none], [], M)) hF (i := .istore_n 3) rfl (fun _ => rfl) (fun y2 => ?_)
  exact rfl
set_option maxRecDepth 20000 in
theorem D_X1_askRelease_4_eq (xs : Nat → Int32) (xl d : Nat) (v1 : Int32) (v2 : Int32) (v3 : Int32) (M : dp_M) : D_X1_askRelease_4 xs xl d v1 v2 v3 M = if (dp_I M 1 2) ≤ v3 then (if v2 = 0 ∨ v2 = 1 then some (.inl (some (.int v2)), M) else none) else (if v3 < 0 ∨ 100 ≤ Int32.toNatClampNeg v3 then none else (if v1 < 0 ∨ 100 ≤ Int32.toNatClampNeg v1 then none else (if (dp_I M 43 (Int32.toNatClampNeg v3)) = (dp_I M 43 (Int32.toNatClampNeg v1)) then (dp_bi (dp_den true xs xl d 40 [.ref 37, .int v3] M) (fun r2 M1 => if v2 = 0 then (dp_w (0 : Int32) (fun y3 => dp_w (v3 + (1 : Int32)) (fun y4 => D_X1_askRelease_4_a xs xl d v1 y3 y4 r2 M1))) else (if r2 = 0 then (dp_w (0 : Int32) (fun y5 => dp_w (v3 + (1 : Int32)) (fun y6 => D_X1_askRelease_4_a xs xl d v1 y5 y6 r2 M1))) else (dp_bi (dp_den true xs xl d 37 [.ref 37, .int v3] M1) (fun r8 M7 => if r8 = 0 then (dp_bi (dp_den true xs xl d 34 [.ref 37, .int v3] M7) (fun r10 M9 => if r10 = 0 then (dp_w (1 : Int32) (fun y11 => dp_w (v3 + (1 : Int32)) (fun y12 => D_X1_askRelease_4_a xs xl d v1 y11 y12 r2 M9))) else (dp_w (0 : Int32) (fun y13 => dp_w (v3 + (1 : Int32)) (fun y14 => D_X1_askRelease_4_a xs xl d v1 y13 y14 r2 M9))))) else (dp_w (0 : Int32) (fun y15 => dp_w (v3 + (1 : Int32)) (fun y16 => D_X1_askRelease_4_a xs xl d v1 y15 y16 r2 M7)))))))) else (dp_w (v3 + (1 : Int32)) (fun y17 => D_X1_askRelease_4 xs xl d v1 v2 y17 M))))) := by
  have hF := dp_den_grow (md := true) (xs := xs) (xl := xl) d
  unfold D_X1_askRelease_4
  refine dp_s1 hF (i := .iload_n 3) rfl (fun _ => rfl) ?_
  refine dp_s1 hF (i := .aload_n 0) rfl (fun _ => rfl) ?_
  refine dp_s1 hF (i := .getfield 54) rfl (fun _ => rfl) ?_
  refine dp_s1 hF (i := .getfield 93) rfl (fun _ => rfl) ?_
  refine dp_s2 hF (i := .if_icmp .ge 62) (a := (74, [some (.ref 37), some (.int v1), some (.int v2), some (.int v3), none], [], M)) (b := (15, [some (.ref 37), some (.int v1), some (.int v2), some (.int v3), none], [], M)) rfl (fun _ => rfl) ?_ ?_
  · refine dp_s1 hF (i := .iload_n 2) rfl (fun _ => rfl) ?_
    exact dp_s0 hF (i := .ireturn) rfl (fun _ => rfl)
  refine dp_s1 hF (i := .aload_n 0) rfl (fun _ => rfl) ?_
  refine dp_s1 hF (i := .getfield 29) rfl (fun _ => rfl) ?_
  refine dp_s1 hF (i := .iload_n 3) rfl (fun _ => rfl) ?_
  refine dp_s3 hF (i := .iaload) rfl (fun _ => rfl) ?_
  refine dp_s1 hF (i := .aload_n 0) rfl (fun _ => rfl) ?_
  refine dp_s1 hF (i := .getfield 29) rfl (fun _ => rfl) ?_
  refine dp_s1 hF (i := .iload_n 1) rfl (fun _ => rfl) ?_
  refine dp_s3 hF (i := .iaload) rfl (fun _ => rfl) ?_
  refine dp_s2 hF (i := .if_icmp .ne 41) (a := (30, [some (.ref 37), some (.int v1), some (.int v2), some (.int v3), none], [], M)) (b := (68, [some (.ref 37), some (.int v1), some (.int v2), some (.int v3), none], [], M)) rfl (fun _ => rfl) ?_ ?_
  · refine dp_s1 hF (i := .aload_n 0) rfl (fun _ => rfl) ?_
    refine dp_s1 hF (i := .iload_n 3) rfl (fun _ => rfl) ?_
    refine dp_si (mj := dp_m_X1_askRules) (i := .invokevirtual 96) rfl rfl (Or.inr rfl) rfl (fun _ => rfl) (fun r2 M1 => ?_)
    refine dp_s1 hF (i := .istore 4) rfl (fun _ => rfl) ?_
    refine dp_s1 hF (i := .iload_n 2) rfl (fun _ => rfl) ?_
    refine dp_s2 hF (i := .ifCond .eq 28) (a := (66, [some (.ref 37), some (.int v1), some (.int v2), some (.int v3), some (.int r2)], [], M1)) (b := (41, [some (.ref 37), some (.int v1), some (.int v2), some (.int v3), some (.int r2)], [], M1)) rfl (fun _ => rfl) ?_ ?_
    · refine dp_s1 hF (i := .iconst 0) rfl (fun _ => rfl) ?_
      refine dp_s1w (0 : Int32) (fun (y3 : Int32) => (68, [some (.ref 37), some (.int v1), some (.int y3), some (.int v3), some (.int r2)], [], M1)) hF (i := .istore_n 2) rfl (fun _ => rfl) (fun y3 => ?_)
      refine dp_s1w (v3 + (1 : Int32)) (fun (y4 : Int32) => (71, [some (.ref 37), some (.int v1), some (.int y3), some (.int y4), some (.int r2)], [], M1)) hF (i := .iinc 3 1) rfl (fun _ => rfl) (fun y4 => ?_)
      refine dp_s1 hF (i := .goto (-67)) rfl (fun _ => rfl) ?_
      exact rfl
    refine dp_s1 hF (i := .iload 4) rfl (fun _ => rfl) ?_
    refine dp_s2 hF (i := .ifCond .eq 23) (a := (66, [some (.ref 37), some (.int v1), some (.int v2), some (.int v3), some (.int r2)], [], M1)) (b := (46, [some (.ref 37), some (.int v1), some (.int v2), some (.int v3), some (.int r2)], [], M1)) rfl (fun _ => rfl) ?_ ?_
    · refine dp_s1 hF (i := .iconst 0) rfl (fun _ => rfl) ?_
      refine dp_s1w (0 : Int32) (fun (y5 : Int32) => (68, [some (.ref 37), some (.int v1), some (.int y5), some (.int v3), some (.int r2)], [], M1)) hF (i := .istore_n 2) rfl (fun _ => rfl) (fun y5 => ?_)
      refine dp_s1w (v3 + (1 : Int32)) (fun (y6 : Int32) => (71, [some (.ref 37), some (.int v1), some (.int y5), some (.int y6), some (.int r2)], [], M1)) hF (i := .iinc 3 1) rfl (fun _ => rfl) (fun y6 => ?_)
      refine dp_s1 hF (i := .goto (-67)) rfl (fun _ => rfl) ?_
      exact rfl
    refine dp_s1 hF (i := .aload_n 0) rfl (fun _ => rfl) ?_
    refine dp_s1 hF (i := .iload_n 3) rfl (fun _ => rfl) ?_
    refine dp_si (mj := dp_m_X1_ownBar) (i := .invokevirtual 100) rfl rfl (Or.inl rfl) rfl (fun _ => rfl) (fun r8 M7 => ?_)
    refine dp_s2 hF (i := .ifCond .ne 15) (a := (54, [some (.ref 37), some (.int v1), some (.int v2), some (.int v3), some (.int r2)], [], M7)) (b := (66, [some (.ref 37), some (.int v1), some (.int v2), some (.int v3), some (.int r2)], [], M7)) rfl (fun _ => rfl) ?_ ?_
    · refine dp_s1 hF (i := .aload_n 0) rfl (fun _ => rfl) ?_
      refine dp_s1 hF (i := .iload_n 3) rfl (fun _ => rfl) ?_
      refine dp_si (mj := dp_m_X1_ownBars) (i := .invokevirtual 103) rfl rfl (Or.inl rfl) rfl (fun _ => rfl) (fun r10 M9 => ?_)
      refine dp_s2 hF (i := .ifCond .ne 7) (a := (62, [some (.ref 37), some (.int v1), some (.int v2), some (.int v3), some (.int r2)], [], M9)) (b := (66, [some (.ref 37), some (.int v1), some (.int v2), some (.int v3), some (.int r2)], [], M9)) rfl (fun _ => rfl) ?_ ?_
      · refine dp_s1 hF (i := .iconst 1) rfl (fun _ => rfl) ?_
        refine dp_s1 hF (i := .goto 4) rfl (fun _ => rfl) ?_
        refine dp_s1w (1 : Int32) (fun (y11 : Int32) => (68, [some (.ref 37), some (.int v1), some (.int y11), some (.int v3), some (.int r2)], [], M9)) hF (i := .istore_n 2) rfl (fun _ => rfl) (fun y11 => ?_)
        refine dp_s1w (v3 + (1 : Int32)) (fun (y12 : Int32) => (71, [some (.ref 37), some (.int v1), some (.int y11), some (.int y12), some (.int r2)], [], M9)) hF (i := .iinc 3 1) rfl (fun _ => rfl) (fun y12 => ?_)
        refine dp_s1 hF (i := .goto (-67)) rfl (fun _ => rfl) ?_
        exact rfl
      refine dp_s1 hF (i := .iconst 0) rfl (fun _ => rfl) ?_
      refine dp_s1w (0 : Int32) (fun (y13 : Int32) => (68, [some (.ref 37), some (.int v1), some (.int y13), some (.int v3), some (.int r2)], [], M9)) hF (i := .istore_n 2) rfl (fun _ => rfl) (fun y13 => ?_)
      refine dp_s1w (v3 + (1 : Int32)) (fun (y14 : Int32) => (71, [some (.ref 37), some (.int v1), some (.int y13), some (.int y14), some (.int r2)], [], M9)) hF (i := .iinc 3 1) rfl (fun _ => rfl) (fun y14 => ?_)
      refine dp_s1 hF (i := .goto (-67)) rfl (fun _ => rfl) ?_
      exact rfl
    refine dp_s1 hF (i := .iconst 0) rfl (fun _ => rfl) ?_
    refine dp_s1w (0 : Int32) (fun (y15 : Int32) => (68, [some (.ref 37), some (.int v1), some (.int y15), some (.int v3), some (.int r2)], [], M7)) hF (i := .istore_n 2) rfl (fun _ => rfl) (fun y15 => ?_)
    refine dp_s1w (v3 + (1 : Int32)) (fun (y16 : Int32) => (71, [some (.ref 37), some (.int v1), some (.int y15), some (.int y16), some (.int r2)], [], M7)) hF (i := .iinc 3 1) rfl (fun _ => rfl) (fun y16 => ?_)
    refine dp_s1 hF (i := .goto (-67)) rfl (fun _ => rfl) ?_
    exact rfl
  refine dp_s1w (v3 + (1 : Int32)) (fun (y17 : Int32) => (71, [some (.ref 37), some (.int v1), some (.int v2), some (.int y17), none], [], M)) hF (i := .iinc 3 1) rfl (fun _ => rfl) (fun y17 => ?_)
  refine dp_s1 hF (i := .goto (-67)) rfl (fun _ => rfl) ?_
  exact rfl
set_option maxRecDepth 20000 in
theorem D_X1_askRelease_4_a_eq (xs : Nat → Int32) (xl d : Nat) (v1 : Int32) (v2 : Int32) (v3 : Int32) (v4 : Int32) (M : dp_M) : D_X1_askRelease_4_a xs xl d v1 v2 v3 v4 M = if (dp_I M 1 2) ≤ v3 then (if v2 = 0 ∨ v2 = 1 then some (.inl (some (.int v2)), M) else none) else (if v3 < 0 ∨ 100 ≤ Int32.toNatClampNeg v3 then none else (if v1 < 0 ∨ 100 ≤ Int32.toNatClampNeg v1 then none else (if (dp_I M 43 (Int32.toNatClampNeg v3)) = (dp_I M 43 (Int32.toNatClampNeg v1)) then (dp_bi (dp_den true xs xl d 40 [.ref 37, .int v3] M) (fun r2 M1 => if v2 = 0 then (dp_w (0 : Int32) (fun y3 => dp_w (v3 + (1 : Int32)) (fun y4 => D_X1_askRelease_4_a xs xl d v1 y3 y4 r2 M1))) else (if r2 = 0 then (dp_w (0 : Int32) (fun y5 => dp_w (v3 + (1 : Int32)) (fun y6 => D_X1_askRelease_4_a xs xl d v1 y5 y6 r2 M1))) else (dp_bi (dp_den true xs xl d 37 [.ref 37, .int v3] M1) (fun r8 M7 => if r8 = 0 then (dp_bi (dp_den true xs xl d 34 [.ref 37, .int v3] M7) (fun r10 M9 => if r10 = 0 then (dp_w (1 : Int32) (fun y11 => dp_w (v3 + (1 : Int32)) (fun y12 => D_X1_askRelease_4_a xs xl d v1 y11 y12 r2 M9))) else (dp_w (0 : Int32) (fun y13 => dp_w (v3 + (1 : Int32)) (fun y14 => D_X1_askRelease_4_a xs xl d v1 y13 y14 r2 M9))))) else (dp_w (0 : Int32) (fun y15 => dp_w (v3 + (1 : Int32)) (fun y16 => D_X1_askRelease_4_a xs xl d v1 y15 y16 r2 M7)))))))) else (dp_w (v3 + (1 : Int32)) (fun y17 => D_X1_askRelease_4_a xs xl d v1 v2 y17 v4 M))))) := by
  have hF := dp_den_grow (md := true) (xs := xs) (xl := xl) d
  unfold D_X1_askRelease_4_a
  refine dp_s1 hF (i := .iload_n 3) rfl (fun _ => rfl) ?_
  refine dp_s1 hF (i := .aload_n 0) rfl (fun _ => rfl) ?_
  refine dp_s1 hF (i := .getfield 54) rfl (fun _ => rfl) ?_
  refine dp_s1 hF (i := .getfield 93) rfl (fun _ => rfl) ?_
  refine dp_s2 hF (i := .if_icmp .ge 62) (a := (74, [some (.ref 37), some (.int v1), some (.int v2), some (.int v3), some (.int v4)], [], M)) (b := (15, [some (.ref 37), some (.int v1), some (.int v2), some (.int v3), some (.int v4)], [], M)) rfl (fun _ => rfl) ?_ ?_
  · refine dp_s1 hF (i := .iload_n 2) rfl (fun _ => rfl) ?_
    exact dp_s0 hF (i := .ireturn) rfl (fun _ => rfl)
  refine dp_s1 hF (i := .aload_n 0) rfl (fun _ => rfl) ?_
  refine dp_s1 hF (i := .getfield 29) rfl (fun _ => rfl) ?_
  refine dp_s1 hF (i := .iload_n 3) rfl (fun _ => rfl) ?_
  refine dp_s3 hF (i := .iaload) rfl (fun _ => rfl) ?_
  refine dp_s1 hF (i := .aload_n 0) rfl (fun _ => rfl) ?_
  refine dp_s1 hF (i := .getfield 29) rfl (fun _ => rfl) ?_
  refine dp_s1 hF (i := .iload_n 1) rfl (fun _ => rfl) ?_
  refine dp_s3 hF (i := .iaload) rfl (fun _ => rfl) ?_
  refine dp_s2 hF (i := .if_icmp .ne 41) (a := (30, [some (.ref 37), some (.int v1), some (.int v2), some (.int v3), some (.int v4)], [], M)) (b := (68, [some (.ref 37), some (.int v1), some (.int v2), some (.int v3), some (.int v4)], [], M)) rfl (fun _ => rfl) ?_ ?_
  · refine dp_s1 hF (i := .aload_n 0) rfl (fun _ => rfl) ?_
    refine dp_s1 hF (i := .iload_n 3) rfl (fun _ => rfl) ?_
    refine dp_si (mj := dp_m_X1_askRules) (i := .invokevirtual 96) rfl rfl (Or.inr rfl) rfl (fun _ => rfl) (fun r2 M1 => ?_)
    refine dp_s1 hF (i := .istore 4) rfl (fun _ => rfl) ?_
    refine dp_s1 hF (i := .iload_n 2) rfl (fun _ => rfl) ?_
    refine dp_s2 hF (i := .ifCond .eq 28) (a := (66, [some (.ref 37), some (.int v1), some (.int v2), some (.int v3), some (.int r2)], [], M1)) (b := (41, [some (.ref 37), some (.int v1), some (.int v2), some (.int v3), some (.int r2)], [], M1)) rfl (fun _ => rfl) ?_ ?_
    · refine dp_s1 hF (i := .iconst 0) rfl (fun _ => rfl) ?_
      refine dp_s1w (0 : Int32) (fun (y3 : Int32) => (68, [some (.ref 37), some (.int v1), some (.int y3), some (.int v3), some (.int r2)], [], M1)) hF (i := .istore_n 2) rfl (fun _ => rfl) (fun y3 => ?_)
      refine dp_s1w (v3 + (1 : Int32)) (fun (y4 : Int32) => (71, [some (.ref 37), some (.int v1), some (.int y3), some (.int y4), some (.int r2)], [], M1)) hF (i := .iinc 3 1) rfl (fun _ => rfl) (fun y4 => ?_)
      refine dp_s1 hF (i := .goto (-67)) rfl (fun _ => rfl) ?_
      exact rfl
    refine dp_s1 hF (i := .iload 4) rfl (fun _ => rfl) ?_
    refine dp_s2 hF (i := .ifCond .eq 23) (a := (66, [some (.ref 37), some (.int v1), some (.int v2), some (.int v3), some (.int r2)], [], M1)) (b := (46, [some (.ref 37), some (.int v1), some (.int v2), some (.int v3), some (.int r2)], [], M1)) rfl (fun _ => rfl) ?_ ?_
    · refine dp_s1 hF (i := .iconst 0) rfl (fun _ => rfl) ?_
      refine dp_s1w (0 : Int32) (fun (y5 : Int32) => (68, [some (.ref 37), some (.int v1), some (.int y5), some (.int v3), some (.int r2)], [], M1)) hF (i := .istore_n 2) rfl (fun _ => rfl) (fun y5 => ?_)
      refine dp_s1w (v3 + (1 : Int32)) (fun (y6 : Int32) => (71, [some (.ref 37), some (.int v1), some (.int y5), some (.int y6), some (.int r2)], [], M1)) hF (i := .iinc 3 1) rfl (fun _ => rfl) (fun y6 => ?_)
      refine dp_s1 hF (i := .goto (-67)) rfl (fun _ => rfl) ?_
      exact rfl
    refine dp_s1 hF (i := .aload_n 0) rfl (fun _ => rfl) ?_
    refine dp_s1 hF (i := .iload_n 3) rfl (fun _ => rfl) ?_
    refine dp_si (mj := dp_m_X1_ownBar) (i := .invokevirtual 100) rfl rfl (Or.inl rfl) rfl (fun _ => rfl) (fun r8 M7 => ?_)
    refine dp_s2 hF (i := .ifCond .ne 15) (a := (54, [some (.ref 37), some (.int v1), some (.int v2), some (.int v3), some (.int r2)], [], M7)) (b := (66, [some (.ref 37), some (.int v1), some (.int v2), some (.int v3), some (.int r2)], [], M7)) rfl (fun _ => rfl) ?_ ?_
    · refine dp_s1 hF (i := .aload_n 0) rfl (fun _ => rfl) ?_
      refine dp_s1 hF (i := .iload_n 3) rfl (fun _ => rfl) ?_
      refine dp_si (mj := dp_m_X1_ownBars) (i := .invokevirtual 103) rfl rfl (Or.inl rfl) rfl (fun _ => rfl) (fun r10 M9 => ?_)
      refine dp_s2 hF (i := .ifCond .ne 7) (a := (62, [some (.ref 37), some (.int v1), some (.int v2), some (.int v3), some (.int r2)], [], M9)) (b := (66, [some (.ref 37), some (.int v1), some (.int v2), some (.int v3), some (.int r2)], [], M9)) rfl (fun _ => rfl) ?_ ?_
      · refine dp_s1 hF (i := .iconst 1) rfl (fun _ => rfl) ?_
        refine dp_s1 hF (i := .goto 4) rfl (fun _ => rfl) ?_
        refine dp_s1w (1 : Int32) (fun (y11 : Int32) => (68, [some (.ref 37), some (.int v1), some (.int y11), some (.int v3), some (.int r2)], [], M9)) hF (i := .istore_n 2) rfl (fun _ => rfl) (fun y11 => ?_)
        refine dp_s1w (v3 + (1 : Int32)) (fun (y12 : Int32) => (71, [some (.ref 37), some (.int v1), some (.int y11), some (.int y12), some (.int r2)], [], M9)) hF (i := .iinc 3 1) rfl (fun _ => rfl) (fun y12 => ?_)
        refine dp_s1 hF (i := .goto (-67)) rfl (fun _ => rfl) ?_
        exact rfl
      refine dp_s1 hF (i := .iconst 0) rfl (fun _ => rfl) ?_
      refine dp_s1w (0 : Int32) (fun (y13 : Int32) => (68, [some (.ref 37), some (.int v1), some (.int y13), some (.int v3), some (.int r2)], [], M9)) hF (i := .istore_n 2) rfl (fun _ => rfl) (fun y13 => ?_)
      refine dp_s1w (v3 + (1 : Int32)) (fun (y14 : Int32) => (71, [some (.ref 37), some (.int v1), some (.int y13), some (.int y14), some (.int r2)], [], M9)) hF (i := .iinc 3 1) rfl (fun _ => rfl) (fun y14 => ?_)
      refine dp_s1 hF (i := .goto (-67)) rfl (fun _ => rfl) ?_
      exact rfl
    refine dp_s1 hF (i := .iconst 0) rfl (fun _ => rfl) ?_
    refine dp_s1w (0 : Int32) (fun (y15 : Int32) => (68, [some (.ref 37), some (.int v1), some (.int y15), some (.int v3), some (.int r2)], [], M7)) hF (i := .istore_n 2) rfl (fun _ => rfl) (fun y15 => ?_)
    refine dp_s1w (v3 + (1 : Int32)) (fun (y16 : Int32) => (71, [some (.ref 37), some (.int v1), some (.int y15), some (.int y16), some (.int r2)], [], M7)) hF (i := .iinc 3 1) rfl (fun _ => rfl) (fun y16 => ?_)
    refine dp_s1 hF (i := .goto (-67)) rfl (fun _ => rfl) ?_
    exact rfl
  refine dp_s1w (v3 + (1 : Int32)) (fun (y17 : Int32) => (71, [some (.ref 37), some (.int v1), some (.int v2), some (.int y17), some (.int v4)], [], M)) hF (i := .iinc 3 1) rfl (fun _ => rfl) (fun y17 => ?_)
  refine dp_s1 hF (i := .goto (-67)) rfl (fun _ => rfl) ?_
  exact rfl
noncomputable def D_X1_askRules_0 (xs : Nat → Int32) (xl d : Nat) (v1 : Int32) (M : dp_M) : Option dp_Res := dp_lim true xs xl (dp_den true xs xl d) dp_m_X1_askRules (0, [some (.ref 37), some (.int v1), none, none, none], [], M)
noncomputable def D_X1_askRules_4 (xs : Nat → Int32) (xl d : Nat) (v1 : Int32) (v2 : Int32) (v3 : Int32) (M : dp_M) : Option dp_Res := dp_lim true xs xl (dp_den true xs xl d) dp_m_X1_askRules (4, [some (.ref 37), some (.int v1), some (.int v2), some (.int v3), none], [], M)
noncomputable def D_X1_askRules_36 (xs : Nat → Int32) (xl d : Nat) (v1 : Int32) (v2 : Int32) (v3 : Int32) (v4 : Int32) (vs0 : Int32) (vs1 : Int32) (vs2 : Int32) (M : dp_M) : Option dp_Res := dp_lim true xs xl (dp_den true xs xl d) dp_m_X1_askRules (36, [some (.ref 37), some (.int v1), some (.int v2), some (.int v3), some (.int v4)], [.int vs0, .int vs1, .int vs2, .ref 40], M)
noncomputable def D_X1_askRules_4_a (xs : Nat → Int32) (xl d : Nat) (v1 : Int32) (v2 : Int32) (v3 : Int32) (v4 : Int32) (M : dp_M) : Option dp_Res := dp_lim true xs xl (dp_den true xs xl d) dp_m_X1_askRules (4, [some (.ref 37), some (.int v1), some (.int v2), some (.int v3), some (.int v4)], [], M)
theorem D_X1_askRules_0_den (xs : Nat → Int32) (xl d : Nat) (a0 : Int32) (M : dp_M) : dp_den true xs xl (d + 1) 40 [.ref 37, .int a0] M = D_X1_askRules_0 xs xl d a0 M := rfl
set_option maxRecDepth 20000 in
theorem D_X1_askRules_0_eq (xs : Nat → Int32) (xl d : Nat) (v1 : Int32) (M : dp_M) : D_X1_askRules_0 xs xl d v1 M = dp_w (1 : Int32) (fun y1 => dp_w (0 : Int32) (fun y2 => D_X1_askRules_4 xs xl d v1 y1 y2 M)) := by
  have hF := dp_den_grow (md := true) (xs := xs) (xl := xl) d
  unfold D_X1_askRules_0
  refine dp_s1 hF (i := .iconst 1) rfl (fun _ => rfl) ?_
  refine dp_s1w (1 : Int32) (fun (y1 : Int32) => (2, [some (.ref 37), some (.int v1), some (.int y1), none, none], [], M)) hF (i := .istore_n 2) rfl (fun _ => rfl) (fun y1 => ?_)
  refine dp_s1 hF (i := .iconst 0) rfl (fun _ => rfl) ?_
  refine dp_s1w (0 : Int32) (fun (y2 : Int32) => (4, [some (.ref 37), some (.int v1), some (.int y1), some (.int y2), none], [], M)) hF (i := .istore_n 3) rfl (fun _ => rfl) (fun y2 => ?_)
  exact rfl
set_option maxRecDepth 20000 in
theorem D_X1_askRules_4_eq (xs : Nat → Int32) (xl d : Nat) (v1 : Int32) (v2 : Int32) (v3 : Int32) (M : dp_M) : D_X1_askRules_4 xs xl d v1 v2 v3 M = if (4 : Int32) ≤ v3 then (if v2 = 0 ∨ v2 = 1 then some (.inl (some (.int v2)), M) else none) else (dp_bi (dp_den true xs xl d 38 [.ref 37, .int v3, .int v1] M) (fun r2 M1 => if v3 < 0 ∨ 4 ≤ Int32.toNatClampNeg v3 then none else (if r2 = (14 : Int32) then (D_X1_askRules_36 xs xl d v1 v2 v3 r2 (1 : Int32) (dp_I M1 40 (Int32.toNatClampNeg v3)) v3 M1) else (D_X1_askRules_36 xs xl d v1 v2 v3 r2 (0 : Int32) (dp_I M1 40 (Int32.toNatClampNeg v3)) v3 M1)))) := by
  have hF := dp_den_grow (md := true) (xs := xs) (xl := xl) d
  unfold D_X1_askRules_4
  refine dp_s1 hF (i := .iload_n 3) rfl (fun _ => rfl) ?_
  refine dp_s1 hF (i := .iconst 4) rfl (fun _ => rfl) ?_
  refine dp_s2 hF (i := .if_icmp .ge 53) (a := (59, [some (.ref 37), some (.int v1), some (.int v2), some (.int v3), none], [], M)) (b := (9, [some (.ref 37), some (.int v1), some (.int v2), some (.int v3), none], [], M)) rfl (fun _ => rfl) ?_ ?_
  · refine dp_s1 hF (i := .iload_n 2) rfl (fun _ => rfl) ?_
    exact dp_s0 hF (i := .ireturn) rfl (fun _ => rfl)
  refine dp_s1 hF (i := .aload_n 0) rfl (fun _ => rfl) ?_
  refine dp_s1 hF (i := .iload_n 3) rfl (fun _ => rfl) ?_
  refine dp_s1 hF (i := .iload_n 1) rfl (fun _ => rfl) ?_
  refine dp_si (mj := dp_m_X1_verdict) (i := .invokevirtual 106) rfl rfl (Or.inl rfl) rfl (fun _ => rfl) (fun r2 M1 => ?_)
  refine dp_s1 hF (i := .istore 4) rfl (fun _ => rfl) ?_
  refine dp_s1 hF (i := .aload_n 0) rfl (fun _ => rfl) ?_
  refine dp_s1 hF (i := .getfield 18) rfl (fun _ => rfl) ?_
  refine dp_s1 hF (i := .iload_n 3) rfl (fun _ => rfl) ?_
  refine dp_s1 hF (i := .dup2) rfl (fun _ => rfl) ?_
  refine dp_s3 hF (i := .iaload) rfl (fun _ => rfl) ?_
  refine dp_s1 hF (i := .iload 4) rfl (fun _ => rfl) ?_
  refine dp_s1 hF (i := .bipush 14) rfl (fun _ => rfl) ?_
  refine dp_s2 hF (i := .if_icmp .ne 7) (a := (31, [some (.ref 37), some (.int v1), some (.int v2), some (.int v3), some (.int r2)], [.int (dp_I M1 40 (Int32.toNatClampNeg v3)), .int v3, .ref 40], M1)) (b := (35, [some (.ref 37), some (.int v1), some (.int v2), some (.int v3), some (.int r2)], [.int (dp_I M1 40 (Int32.toNatClampNeg v3)), .int v3, .ref 40], M1)) rfl (fun _ => rfl) ?_ ?_
  · refine dp_s1 hF (i := .iconst 1) rfl (fun _ => rfl) ?_
    refine dp_s1 hF (i := .goto 4) rfl (fun _ => rfl) ?_
    exact rfl
  refine dp_s1 hF (i := .iconst 0) rfl (fun _ => rfl) ?_
  exact rfl
set_option maxRecDepth 20000 in
theorem D_X1_askRules_36_eq (xs : Nat → Int32) (xl d : Nat) (v1 : Int32) (v2 : Int32) (v3 : Int32) (v4 : Int32) (vs0 : Int32) (vs1 : Int32) (vs2 : Int32) (M : dp_M) : D_X1_askRules_36 xs xl d v1 v2 v3 v4 vs0 vs1 vs2 M = if vs2 < 0 ∨ 4 ≤ Int32.toNatClampNeg vs2 then none else dp_w (dp_setI M 40 (Int32.toNatClampNeg vs2) (vs1 + vs0)) (fun M1 => if v2 = 0 then (dp_w (0 : Int32) (fun y2 => dp_w (v3 + (1 : Int32)) (fun y3 => D_X1_askRules_4_a xs xl d v1 y2 y3 v4 M1))) else (if v4 = 0 then (dp_w (1 : Int32) (fun y4 => dp_w (v3 + (1 : Int32)) (fun y5 => D_X1_askRules_4_a xs xl d v1 y4 y5 v4 M1))) else (dp_w (0 : Int32) (fun y6 => dp_w (v3 + (1 : Int32)) (fun y7 => D_X1_askRules_4_a xs xl d v1 y6 y7 v4 M1))))) := by
  have hF := dp_den_grow (md := true) (xs := xs) (xl := xl) d
  unfold D_X1_askRules_36
  refine dp_s1 hF (i := .iadd) rfl (fun _ => rfl) ?_
  refine dp_s3w (dp_setI M 40 (Int32.toNatClampNeg vs2) (vs1 + vs0)) (fun (M1 : dp_M) => (38, [some (.ref 37), some (.int v1), some (.int v2), some (.int v3), some (.int v4)], [], M1)) hF (i := .iastore) rfl (fun _ => rfl) (fun M1 => ?_)
  refine dp_s1 hF (i := .iload_n 2) rfl (fun _ => rfl) ?_
  refine dp_s2 hF (i := .ifCond .eq 12) (a := (51, [some (.ref 37), some (.int v1), some (.int v2), some (.int v3), some (.int v4)], [], M1)) (b := (42, [some (.ref 37), some (.int v1), some (.int v2), some (.int v3), some (.int v4)], [], M1)) rfl (fun _ => rfl) ?_ ?_
  · refine dp_s1 hF (i := .iconst 0) rfl (fun _ => rfl) ?_
    refine dp_s1w (0 : Int32) (fun (y2 : Int32) => (53, [some (.ref 37), some (.int v1), some (.int y2), some (.int v3), some (.int v4)], [], M1)) hF (i := .istore_n 2) rfl (fun _ => rfl) (fun y2 => ?_)
    refine dp_s1w (v3 + (1 : Int32)) (fun (y3 : Int32) => (56, [some (.ref 37), some (.int v1), some (.int y2), some (.int y3), some (.int v4)], [], M1)) hF (i := .iinc 3 1) rfl (fun _ => rfl) (fun y3 => ?_)
    refine dp_s1 hF (i := .goto (-52)) rfl (fun _ => rfl) ?_
    exact rfl
  refine dp_s1 hF (i := .iload 4) rfl (fun _ => rfl) ?_
  refine dp_s2 hF (i := .ifCond .ne 7) (a := (47, [some (.ref 37), some (.int v1), some (.int v2), some (.int v3), some (.int v4)], [], M1)) (b := (51, [some (.ref 37), some (.int v1), some (.int v2), some (.int v3), some (.int v4)], [], M1)) rfl (fun _ => rfl) ?_ ?_
  · refine dp_s1 hF (i := .iconst 1) rfl (fun _ => rfl) ?_
    refine dp_s1 hF (i := .goto 4) rfl (fun _ => rfl) ?_
    refine dp_s1w (1 : Int32) (fun (y4 : Int32) => (53, [some (.ref 37), some (.int v1), some (.int y4), some (.int v3), some (.int v4)], [], M1)) hF (i := .istore_n 2) rfl (fun _ => rfl) (fun y4 => ?_)
    refine dp_s1w (v3 + (1 : Int32)) (fun (y5 : Int32) => (56, [some (.ref 37), some (.int v1), some (.int y4), some (.int y5), some (.int v4)], [], M1)) hF (i := .iinc 3 1) rfl (fun _ => rfl) (fun y5 => ?_)
    refine dp_s1 hF (i := .goto (-52)) rfl (fun _ => rfl) ?_
    exact rfl
  refine dp_s1 hF (i := .iconst 0) rfl (fun _ => rfl) ?_
  refine dp_s1w (0 : Int32) (fun (y6 : Int32) => (53, [some (.ref 37), some (.int v1), some (.int y6), some (.int v3), some (.int v4)], [], M1)) hF (i := .istore_n 2) rfl (fun _ => rfl) (fun y6 => ?_)
  refine dp_s1w (v3 + (1 : Int32)) (fun (y7 : Int32) => (56, [some (.ref 37), some (.int v1), some (.int y6), some (.int y7), some (.int v4)], [], M1)) hF (i := .iinc 3 1) rfl (fun _ => rfl) (fun y7 => ?_)
  refine dp_s1 hF (i := .goto (-52)) rfl (fun _ => rfl) ?_
  exact rfl
set_option maxRecDepth 20000 in
theorem D_X1_askRules_4_a_eq (xs : Nat → Int32) (xl d : Nat) (v1 : Int32) (v2 : Int32) (v3 : Int32) (v4 : Int32) (M : dp_M) : D_X1_askRules_4_a xs xl d v1 v2 v3 v4 M = if (4 : Int32) ≤ v3 then (if v2 = 0 ∨ v2 = 1 then some (.inl (some (.int v2)), M) else none) else (dp_bi (dp_den true xs xl d 38 [.ref 37, .int v3, .int v1] M) (fun r2 M1 => if v3 < 0 ∨ 4 ≤ Int32.toNatClampNeg v3 then none else (if r2 = (14 : Int32) then (D_X1_askRules_36 xs xl d v1 v2 v3 r2 (1 : Int32) (dp_I M1 40 (Int32.toNatClampNeg v3)) v3 M1) else (D_X1_askRules_36 xs xl d v1 v2 v3 r2 (0 : Int32) (dp_I M1 40 (Int32.toNatClampNeg v3)) v3 M1)))) := by
  have hF := dp_den_grow (md := true) (xs := xs) (xl := xl) d
  unfold D_X1_askRules_4_a
  refine dp_s1 hF (i := .iload_n 3) rfl (fun _ => rfl) ?_
  refine dp_s1 hF (i := .iconst 4) rfl (fun _ => rfl) ?_
  refine dp_s2 hF (i := .if_icmp .ge 53) (a := (59, [some (.ref 37), some (.int v1), some (.int v2), some (.int v3), some (.int v4)], [], M)) (b := (9, [some (.ref 37), some (.int v1), some (.int v2), some (.int v3), some (.int v4)], [], M)) rfl (fun _ => rfl) ?_ ?_
  · refine dp_s1 hF (i := .iload_n 2) rfl (fun _ => rfl) ?_
    exact dp_s0 hF (i := .ireturn) rfl (fun _ => rfl)
  refine dp_s1 hF (i := .aload_n 0) rfl (fun _ => rfl) ?_
  refine dp_s1 hF (i := .iload_n 3) rfl (fun _ => rfl) ?_
  refine dp_s1 hF (i := .iload_n 1) rfl (fun _ => rfl) ?_
  refine dp_si (mj := dp_m_X1_verdict) (i := .invokevirtual 106) rfl rfl (Or.inl rfl) rfl (fun _ => rfl) (fun r2 M1 => ?_)
  refine dp_s1 hF (i := .istore 4) rfl (fun _ => rfl) ?_
  refine dp_s1 hF (i := .aload_n 0) rfl (fun _ => rfl) ?_
  refine dp_s1 hF (i := .getfield 18) rfl (fun _ => rfl) ?_
  refine dp_s1 hF (i := .iload_n 3) rfl (fun _ => rfl) ?_
  refine dp_s1 hF (i := .dup2) rfl (fun _ => rfl) ?_
  refine dp_s3 hF (i := .iaload) rfl (fun _ => rfl) ?_
  refine dp_s1 hF (i := .iload 4) rfl (fun _ => rfl) ?_
  refine dp_s1 hF (i := .bipush 14) rfl (fun _ => rfl) ?_
  refine dp_s2 hF (i := .if_icmp .ne 7) (a := (31, [some (.ref 37), some (.int v1), some (.int v2), some (.int v3), some (.int r2)], [.int (dp_I M1 40 (Int32.toNatClampNeg v3)), .int v3, .ref 40], M1)) (b := (35, [some (.ref 37), some (.int v1), some (.int v2), some (.int v3), some (.int r2)], [.int (dp_I M1 40 (Int32.toNatClampNeg v3)), .int v3, .ref 40], M1)) rfl (fun _ => rfl) ?_ ?_
  · refine dp_s1 hF (i := .iconst 1) rfl (fun _ => rfl) ?_
    refine dp_s1 hF (i := .goto 4) rfl (fun _ => rfl) ?_
    exact rfl
  refine dp_s1 hF (i := .iconst 0) rfl (fun _ => rfl) ?_
  exact rfl
noncomputable def D_X1_barOfGroup_0 (xs : Nat → Int32) (xl d : Nat) (v1 : Int32) (v2 : Int32) (M : dp_M) : Option dp_Res := dp_lim true xs xl (dp_den true xs xl d) dp_m_X1_barOfGroup (0, [some (.ref 37), some (.int v1), some (.int v2), none, none, none], [], M)
noncomputable def D_X1_barOfGroup_5 (xs : Nat → Int32) (xl d : Nat) (v1 : Int32) (v2 : Int32) (v3 : Int32) (v4 : Int32) (M : dp_M) : Option dp_Res := dp_lim true xs xl (dp_den true xs xl d) dp_m_X1_barOfGroup (5, [some (.ref 37), some (.int v1), some (.int v2), some (.int v3), some (.int v4), none], [], M)
noncomputable def D_X1_barOfGroup_5_a (xs : Nat → Int32) (xl d : Nat) (v1 : Int32) (v2 : Int32) (v3 : Int32) (v4 : Int32) (v5 : Int32) (M : dp_M) : Option dp_Res := dp_lim true xs xl (dp_den true xs xl d) dp_m_X1_barOfGroup (5, [some (.ref 37), some (.int v1), some (.int v2), some (.int v3), some (.int v4), some (.int v5)], [], M)
theorem D_X1_barOfGroup_0_den (xs : Nat → Int32) (xl d : Nat) (a0 : Int32) (a1 : Int32) (M : dp_M) : dp_den true xs xl (d + 1) 41 [.ref 37, .int a0, .int a1] M = D_X1_barOfGroup_0 xs xl d a0 a1 M := rfl
set_option maxRecDepth 20000 in
theorem D_X1_barOfGroup_0_eq (xs : Nat → Int32) (xl d : Nat) (v1 : Int32) (v2 : Int32) (M : dp_M) : D_X1_barOfGroup_0 xs xl d v1 v2 M = dp_w (0 : Int32) (fun y1 => D_X1_barOfGroup_5 xs xl d v1 v2 v2 y1 M) := by
  have hF := dp_den_grow (md := true) (xs := xs) (xl := xl) d
  unfold D_X1_barOfGroup_0
  refine dp_s1 hF (i := .iload_n 2) rfl (fun _ => rfl) ?_
  refine dp_s1 hF (i := .istore_n 3) rfl (fun _ => rfl) ?_
  refine dp_s1 hF (i := .iconst 0) rfl (fun _ => rfl) ?_
  refine dp_s1w (0 : Int32) (fun (y1 : Int32) => (5, [some (.ref 37), some (.int v1), some (.int v2), some (.int v2), some (.int y1), none], [], M)) hF (i := .istore 4) rfl (fun _ => rfl) (fun y1 => ?_)
  exact rfl
set_option maxRecDepth 20000 in
theorem D_X1_barOfGroup_5_eq (xs : Nat → Int32) (xl d : Nat) (v1 : Int32) (v2 : Int32) (v3 : Int32) (v4 : Int32) (M : dp_M) : D_X1_barOfGroup_5 xs xl d v1 v2 v3 v4 M = if (dp_I M 1 2) ≤ v4 then (some (.inl (some (.int (-1 : Int32))), M)) else (if v3 < 0 then (some (.inl (some (.int (-1 : Int32))), M)) else (if v4 < 0 ∨ 100 ≤ Int32.toNatClampNeg v4 then none else (if v1 < 0 ∨ 100 ≤ Int32.toNatClampNeg v1 then none else (if (dp_I M 43 (Int32.toNatClampNeg v4)) = (dp_I M 43 (Int32.toNatClampNeg v1)) then (dp_bi (dp_den true xs xl d 42 [.ref 37, .int v4] M) (fun r2 M1 => if r2 ≤ v3 then (dp_w (v3 - r2) (fun y3 => dp_w (v4 + (1 : Int32)) (fun y4 => D_X1_barOfGroup_5_a xs xl d v1 v2 y3 y4 r2 M1))) else (dp_bi (dp_den true xs xl d 43 [.ref 37, .int v4, .int v3] M1) (fun r6 M5 => some (.inl (some (.int r6)), M5))))) else (dp_w (v4 + (1 : Int32)) (fun y7 => D_X1_barOfGroup_5 xs xl d v1 v2 v3 y7 M)))))) := by
  have hF := dp_den_grow (md := true) (xs := xs) (xl := xl) d
  unfold D_X1_barOfGroup_5
  refine dp_s1 hF (i := .iload 4) rfl (fun _ => rfl) ?_
  refine dp_s1 hF (i := .aload_n 0) rfl (fun _ => rfl) ?_
  refine dp_s1 hF (i := .getfield 54) rfl (fun _ => rfl) ?_
  refine dp_s1 hF (i := .getfield 93) rfl (fun _ => rfl) ?_
  refine dp_s2 hF (i := .if_icmp .ge 56) (a := (70, [some (.ref 37), some (.int v1), some (.int v2), some (.int v3), some (.int v4), none], [], M)) (b := (17, [some (.ref 37), some (.int v1), some (.int v2), some (.int v3), some (.int v4), none], [], M)) rfl (fun _ => rfl) ?_ ?_
  · refine dp_s1 hF (i := .iconst (-1)) rfl (fun _ => rfl) ?_
    exact dp_s0 hF (i := .ireturn) rfl (fun _ => rfl)
  refine dp_s1 hF (i := .iload_n 3) rfl (fun _ => rfl) ?_
  refine dp_s2 hF (i := .ifCond .lt 52) (a := (70, [some (.ref 37), some (.int v1), some (.int v2), some (.int v3), some (.int v4), none], [], M)) (b := (21, [some (.ref 37), some (.int v1), some (.int v2), some (.int v3), some (.int v4), none], [], M)) rfl (fun _ => rfl) ?_ ?_
  · refine dp_s1 hF (i := .iconst (-1)) rfl (fun _ => rfl) ?_
    exact dp_s0 hF (i := .ireturn) rfl (fun _ => rfl)
  refine dp_s1 hF (i := .aload_n 0) rfl (fun _ => rfl) ?_
  refine dp_s1 hF (i := .getfield 29) rfl (fun _ => rfl) ?_
  refine dp_s1 hF (i := .iload 4) rfl (fun _ => rfl) ?_
  refine dp_s3 hF (i := .iaload) rfl (fun _ => rfl) ?_
  refine dp_s1 hF (i := .aload_n 0) rfl (fun _ => rfl) ?_
  refine dp_s1 hF (i := .getfield 29) rfl (fun _ => rfl) ?_
  refine dp_s1 hF (i := .iload_n 1) rfl (fun _ => rfl) ?_
  refine dp_s3 hF (i := .iaload) rfl (fun _ => rfl) ?_
  refine dp_s2 hF (i := .if_icmp .ne 30) (a := (37, [some (.ref 37), some (.int v1), some (.int v2), some (.int v3), some (.int v4), none], [], M)) (b := (64, [some (.ref 37), some (.int v1), some (.int v2), some (.int v3), some (.int v4), none], [], M)) rfl (fun _ => rfl) ?_ ?_
  · refine dp_s1 hF (i := .aload_n 0) rfl (fun _ => rfl) ?_
    refine dp_s1 hF (i := .iload 4) rfl (fun _ => rfl) ?_
    refine dp_si (mj := dp_m_X1_barsOf) (i := .invokevirtual 109) rfl rfl (Or.inl rfl) rfl (fun _ => rfl) (fun r2 M1 => ?_)
    refine dp_s1 hF (i := .istore 5) rfl (fun _ => rfl) ?_
    refine dp_s1 hF (i := .iload_n 3) rfl (fun _ => rfl) ?_
    refine dp_s1 hF (i := .iload 5) rfl (fun _ => rfl) ?_
    refine dp_s2 hF (i := .if_icmp .ge 11) (a := (59, [some (.ref 37), some (.int v1), some (.int v2), some (.int v3), some (.int v4), some (.int r2)], [], M1)) (b := (51, [some (.ref 37), some (.int v1), some (.int v2), some (.int v3), some (.int v4), some (.int r2)], [], M1)) rfl (fun _ => rfl) ?_ ?_
    · refine dp_s1 hF (i := .iload_n 3) rfl (fun _ => rfl) ?_
      refine dp_s1 hF (i := .iload 5) rfl (fun _ => rfl) ?_
      refine dp_s1 hF (i := .isub) rfl (fun _ => rfl) ?_
      refine dp_s1w (v3 - r2) (fun (y3 : Int32) => (64, [some (.ref 37), some (.int v1), some (.int v2), some (.int y3), some (.int v4), some (.int r2)], [], M1)) hF (i := .istore_n 3) rfl (fun _ => rfl) (fun y3 => ?_)
      refine dp_s1w (v4 + (1 : Int32)) (fun (y4 : Int32) => (67, [some (.ref 37), some (.int v1), some (.int v2), some (.int y3), some (.int y4), some (.int r2)], [], M1)) hF (i := .iinc 4 1) rfl (fun _ => rfl) (fun y4 => ?_)
      refine dp_s1 hF (i := .goto (-62)) rfl (fun _ => rfl) ?_
      exact rfl
    refine dp_s1 hF (i := .aload_n 0) rfl (fun _ => rfl) ?_
    refine dp_s1 hF (i := .iload 4) rfl (fun _ => rfl) ?_
    refine dp_s1 hF (i := .iload_n 3) rfl (fun _ => rfl) ?_
    refine dp_si (mj := dp_m_X1_barOf) (i := .invokevirtual 112) rfl rfl (Or.inl rfl) rfl (fun _ => rfl) (fun r6 M5 => ?_)
    exact dp_s0 hF (i := .ireturn) rfl (fun _ => rfl)
  refine dp_s1w (v4 + (1 : Int32)) (fun (y7 : Int32) => (67, [some (.ref 37), some (.int v1), some (.int v2), some (.int v3), some (.int y7), none], [], M)) hF (i := .iinc 4 1) rfl (fun _ => rfl) (fun y7 => ?_)
  refine dp_s1 hF (i := .goto (-62)) rfl (fun _ => rfl) ?_
  exact rfl
set_option maxRecDepth 20000 in
theorem D_X1_barOfGroup_5_a_eq (xs : Nat → Int32) (xl d : Nat) (v1 : Int32) (v2 : Int32) (v3 : Int32) (v4 : Int32) (v5 : Int32) (M : dp_M) : D_X1_barOfGroup_5_a xs xl d v1 v2 v3 v4 v5 M = if (dp_I M 1 2) ≤ v4 then (some (.inl (some (.int (-1 : Int32))), M)) else (if v3 < 0 then (some (.inl (some (.int (-1 : Int32))), M)) else (if v4 < 0 ∨ 100 ≤ Int32.toNatClampNeg v4 then none else (if v1 < 0 ∨ 100 ≤ Int32.toNatClampNeg v1 then none else (if (dp_I M 43 (Int32.toNatClampNeg v4)) = (dp_I M 43 (Int32.toNatClampNeg v1)) then (dp_bi (dp_den true xs xl d 42 [.ref 37, .int v4] M) (fun r2 M1 => if r2 ≤ v3 then (dp_w (v3 - r2) (fun y3 => dp_w (v4 + (1 : Int32)) (fun y4 => D_X1_barOfGroup_5_a xs xl d v1 v2 y3 y4 r2 M1))) else (dp_bi (dp_den true xs xl d 43 [.ref 37, .int v4, .int v3] M1) (fun r6 M5 => some (.inl (some (.int r6)), M5))))) else (dp_w (v4 + (1 : Int32)) (fun y7 => D_X1_barOfGroup_5_a xs xl d v1 v2 v3 y7 v5 M)))))) := by
  have hF := dp_den_grow (md := true) (xs := xs) (xl := xl) d
  unfold D_X1_barOfGroup_5_a
  refine dp_s1 hF (i := .iload 4) rfl (fun _ => rfl) ?_
  refine dp_s1 hF (i := .aload_n 0) rfl (fun _ => rfl) ?_
  refine dp_s1 hF (i := .getfield 54) rfl (fun _ => rfl) ?_
  refine dp_s1 hF (i := .getfield 93) rfl (fun _ => rfl) ?_
  refine dp_s2 hF (i := .if_icmp .ge 56) (a := (70, [some (.ref 37), some (.int v1), some (.int v2), some (.int v3), some (.int v4), some (.int v5)], [], M)) (b := (17, [some (.ref 37), some (.int v1), some (.int v2), some (.int v3), some (.int v4), some (.int v5)], [], M)) rfl (fun _ => rfl) ?_ ?_
  · refine dp_s1 hF (i := .iconst (-1)) rfl (fun _ => rfl) ?_
    exact dp_s0 hF (i := .ireturn) rfl (fun _ => rfl)
  refine dp_s1 hF (i := .iload_n 3) rfl (fun _ => rfl) ?_
  refine dp_s2 hF (i := .ifCond .lt 52) (a := (70, [some (.ref 37), some (.int v1), some (.int v2), some (.int v3), some (.int v4), some (.int v5)], [], M)) (b := (21, [some (.ref 37), some (.int v1), some (.int v2), some (.int v3), some (.int v4), some (.int v5)], [], M)) rfl (fun _ => rfl) ?_ ?_
  · refine dp_s1 hF (i := .iconst (-1)) rfl (fun _ => rfl) ?_
    exact dp_s0 hF (i := .ireturn) rfl (fun _ => rfl)
  refine dp_s1 hF (i := .aload_n 0) rfl (fun _ => rfl) ?_
  refine dp_s1 hF (i := .getfield 29) rfl (fun _ => rfl) ?_
  refine dp_s1 hF (i := .iload 4) rfl (fun _ => rfl) ?_
  refine dp_s3 hF (i := .iaload) rfl (fun _ => rfl) ?_
  refine dp_s1 hF (i := .aload_n 0) rfl (fun _ => rfl) ?_
  refine dp_s1 hF (i := .getfield 29) rfl (fun _ => rfl) ?_
  refine dp_s1 hF (i := .iload_n 1) rfl (fun _ => rfl) ?_
  refine dp_s3 hF (i := .iaload) rfl (fun _ => rfl) ?_
  refine dp_s2 hF (i := .if_icmp .ne 30) (a := (37, [some (.ref 37), some (.int v1), some (.int v2), some (.int v3), some (.int v4), some (.int v5)], [], M)) (b := (64, [some (.ref 37), some (.int v1), some (.int v2), some (.int v3), some (.int v4), some (.int v5)], [], M)) rfl (fun _ => rfl) ?_ ?_
  · refine dp_s1 hF (i := .aload_n 0) rfl (fun _ => rfl) ?_
    refine dp_s1 hF (i := .iload 4) rfl (fun _ => rfl) ?_
    refine dp_si (mj := dp_m_X1_barsOf) (i := .invokevirtual 109) rfl rfl (Or.inl rfl) rfl (fun _ => rfl) (fun r2 M1 => ?_)
    refine dp_s1 hF (i := .istore 5) rfl (fun _ => rfl) ?_
    refine dp_s1 hF (i := .iload_n 3) rfl (fun _ => rfl) ?_
    refine dp_s1 hF (i := .iload 5) rfl (fun _ => rfl) ?_
    refine dp_s2 hF (i := .if_icmp .ge 11) (a := (59, [some (.ref 37), some (.int v1), some (.int v2), some (.int v3), some (.int v4), some (.int r2)], [], M1)) (b := (51, [some (.ref 37), some (.int v1), some (.int v2), some (.int v3), some (.int v4), some (.int r2)], [], M1)) rfl (fun _ => rfl) ?_ ?_
    · refine dp_s1 hF (i := .iload_n 3) rfl (fun _ => rfl) ?_
      refine dp_s1 hF (i := .iload 5) rfl (fun _ => rfl) ?_
      refine dp_s1 hF (i := .isub) rfl (fun _ => rfl) ?_
      refine dp_s1w (v3 - r2) (fun (y3 : Int32) => (64, [some (.ref 37), some (.int v1), some (.int v2), some (.int y3), some (.int v4), some (.int r2)], [], M1)) hF (i := .istore_n 3) rfl (fun _ => rfl) (fun y3 => ?_)
      refine dp_s1w (v4 + (1 : Int32)) (fun (y4 : Int32) => (67, [some (.ref 37), some (.int v1), some (.int v2), some (.int y3), some (.int y4), some (.int r2)], [], M1)) hF (i := .iinc 4 1) rfl (fun _ => rfl) (fun y4 => ?_)
      refine dp_s1 hF (i := .goto (-62)) rfl (fun _ => rfl) ?_
      exact rfl
    refine dp_s1 hF (i := .aload_n 0) rfl (fun _ => rfl) ?_
    refine dp_s1 hF (i := .iload 4) rfl (fun _ => rfl) ?_
    refine dp_s1 hF (i := .iload_n 3) rfl (fun _ => rfl) ?_
    refine dp_si (mj := dp_m_X1_barOf) (i := .invokevirtual 112) rfl rfl (Or.inl rfl) rfl (fun _ => rfl) (fun r6 M5 => ?_)
    exact dp_s0 hF (i := .ireturn) rfl (fun _ => rfl)
  refine dp_s1w (v4 + (1 : Int32)) (fun (y7 : Int32) => (67, [some (.ref 37), some (.int v1), some (.int v2), some (.int v3), some (.int y7), some (.int v5)], [], M)) hF (i := .iinc 4 1) rfl (fun _ => rfl) (fun y7 => ?_)
  refine dp_s1 hF (i := .goto (-62)) rfl (fun _ => rfl) ?_
  exact rfl
noncomputable def D_X1_barsOf_0 (xs : Nat → Int32) (xl d : Nat) (v1 : Int32) (M : dp_M) : Option dp_Res := dp_lim true xs xl (dp_den true xs xl d) dp_m_X1_barsOf (0, [some (.ref 37), some (.int v1), none, none], [], M)
noncomputable def D_X1_barsOf_22 (xs : Nat → Int32) (xl d : Nat) (v1 : Int32) (v2 : Int32) (v3 : Int32) (M : dp_M) : Option dp_Res := dp_lim true xs xl (dp_den true xs xl d) dp_m_X1_barsOf (22, [some (.ref 37), some (.int v1), some (.int v2), some (.int v3)], [], M)
theorem D_X1_barsOf_0_den (xs : Nat → Int32) (xl d : Nat) (a0 : Int32) (M : dp_M) : dp_den true xs xl (d + 1) 42 [.ref 37, .int a0] M = D_X1_barsOf_0 xs xl d a0 M := rfl
set_option maxRecDepth 20000 in
theorem D_X1_barsOf_0_eq (xs : Nat → Int32) (xl d : Nat) (v1 : Int32) (M : dp_M) : D_X1_barsOf_0 xs xl d v1 M = dp_bi (dp_den true xs xl d 34 [.ref 37, .int v1] M) (fun r2 M1 => dp_bi (dp_den true xs xl d 37 [.ref 37, .int v1] M1) (fun r4 M3 => if r4 = 0 then (dp_w (r2 + (0 : Int32)) (fun y5 => dp_w (0 : Int32) (fun y6 => D_X1_barsOf_22 xs xl d v1 y5 y6 M3))) else (dp_w (r2 + (1 : Int32)) (fun y7 => dp_w (0 : Int32) (fun y8 => D_X1_barsOf_22 xs xl d v1 y7 y8 M3))))) := by
  have hF := dp_den_grow (md := true) (xs := xs) (xl := xl) d
  unfold D_X1_barsOf_0
  refine dp_s1 hF (i := .aload_n 0) rfl (fun _ => rfl) ?_
  refine dp_s1 hF (i := .iload_n 1) rfl (fun _ => rfl) ?_
  refine dp_si (mj := dp_m_X1_ownBars) (i := .invokevirtual 103) rfl rfl (Or.inl rfl) rfl (fun _ => rfl) (fun r2 M1 => ?_)
  refine dp_s1 hF (i := .aload_n 0) rfl (fun _ => rfl) ?_
  refine dp_s1 hF (i := .iload_n 1) rfl (fun _ => rfl) ?_
  refine dp_si (mj := dp_m_X1_ownBar) (i := .invokevirtual 100) rfl rfl (Or.inl rfl) rfl (fun _ => rfl) (fun r4 M3 => ?_)
  refine dp_s2 hF (i := .ifCond .eq 7) (a := (17, [some (.ref 37), some (.int v1), none, none], [.int r2], M3)) (b := (13, [some (.ref 37), some (.int v1), none, none], [.int r2], M3)) rfl (fun _ => rfl) ?_ ?_
  · refine dp_s1 hF (i := .iconst 0) rfl (fun _ => rfl) ?_
    refine dp_s1 hF (i := .iadd) rfl (fun _ => rfl) ?_
    refine dp_s1w (r2 + (0 : Int32)) (fun (y5 : Int32) => (20, [some (.ref 37), some (.int v1), some (.int y5), none], [], M3)) hF (i := .istore_n 2) rfl (fun _ => rfl) (fun y5 => ?_)
    refine dp_s1 hF (i := .iconst 0) rfl (fun _ => rfl) ?_
    refine dp_s1w (0 : Int32) (fun (y6 : Int32) => (22, [some (.ref 37), some (.int v1), some (.int y5), some (.int y6)], [], M3)) hF (i := .istore_n 3) rfl (fun _ => rfl) (fun y6 => ?_)
    exact rfl
  refine dp_s1 hF (i := .iconst 1) rfl (fun _ => rfl) ?_
  refine dp_s1 hF (i := .goto 4) rfl (fun _ => rfl) ?_
  refine dp_s1 hF (i := .iadd) rfl (fun _ => rfl) ?_
  refine dp_s1w (r2 + (1 : Int32)) (fun (y7 : Int32) => (20, [some (.ref 37), some (.int v1), some (.int y7), none], [], M3)) hF (i := .istore_n 2) rfl (fun _ => rfl) (fun y7 => ?_)
  refine dp_s1 hF (i := .iconst 0) rfl (fun _ => rfl) ?_
  refine dp_s1w (0 : Int32) (fun (y8 : Int32) => (22, [some (.ref 37), some (.int v1), some (.int y7), some (.int y8)], [], M3)) hF (i := .istore_n 3) rfl (fun _ => rfl) (fun y8 => ?_)
  exact rfl
set_option maxRecDepth 20000 in
theorem D_X1_barsOf_22_eq (xs : Nat → Int32) (xl d : Nat) (v1 : Int32) (v2 : Int32) (v3 : Int32) (M : dp_M) : D_X1_barsOf_22 xs xl d v1 v2 v3 M = if (4 : Int32) ≤ v3 then (some (.inl (some (.int v2)), M)) else (dp_bi (dp_den true xs xl d 38 [.ref 37, .int v3, .int v1] M) (fun r2 M1 => if r2 = 0 then (dp_w (v2 + (0 : Int32)) (fun y3 => dp_w (v3 + (1 : Int32)) (fun y4 => D_X1_barsOf_22 xs xl d v1 y3 y4 M1))) else (dp_w (v2 + (1 : Int32)) (fun y5 => dp_w (v3 + (1 : Int32)) (fun y6 => D_X1_barsOf_22 xs xl d v1 y5 y6 M1))))) := by
  have hF := dp_den_grow (md := true) (xs := xs) (xl := xl) d
  unfold D_X1_barsOf_22
  refine dp_s1 hF (i := .iload_n 3) rfl (fun _ => rfl) ?_
  refine dp_s1 hF (i := .iconst 4) rfl (fun _ => rfl) ?_
  refine dp_s2 hF (i := .if_icmp .ge 26) (a := (50, [some (.ref 37), some (.int v1), some (.int v2), some (.int v3)], [], M)) (b := (27, [some (.ref 37), some (.int v1), some (.int v2), some (.int v3)], [], M)) rfl (fun _ => rfl) ?_ ?_
  · refine dp_s1 hF (i := .iload_n 2) rfl (fun _ => rfl) ?_
    exact dp_s0 hF (i := .ireturn) rfl (fun _ => rfl)
  refine dp_s1 hF (i := .iload_n 2) rfl (fun _ => rfl) ?_
  refine dp_s1 hF (i := .aload_n 0) rfl (fun _ => rfl) ?_
  refine dp_s1 hF (i := .iload_n 3) rfl (fun _ => rfl) ?_
  refine dp_s1 hF (i := .iload_n 1) rfl (fun _ => rfl) ?_
  refine dp_si (mj := dp_m_X1_verdict) (i := .invokevirtual 106) rfl rfl (Or.inl rfl) rfl (fun _ => rfl) (fun r2 M1 => ?_)
  refine dp_s2 hF (i := .ifCond .eq 7) (a := (41, [some (.ref 37), some (.int v1), some (.int v2), some (.int v3)], [.int v2], M1)) (b := (37, [some (.ref 37), some (.int v1), some (.int v2), some (.int v3)], [.int v2], M1)) rfl (fun _ => rfl) ?_ ?_
  · refine dp_s1 hF (i := .iconst 0) rfl (fun _ => rfl) ?_
    refine dp_s1 hF (i := .iadd) rfl (fun _ => rfl) ?_
    refine dp_s1w (v2 + (0 : Int32)) (fun (y3 : Int32) => (44, [some (.ref 37), some (.int v1), some (.int y3), some (.int v3)], [], M1)) hF (i := .istore_n 2) rfl (fun _ => rfl) (fun y3 => ?_)
    refine dp_s1w (v3 + (1 : Int32)) (fun (y4 : Int32) => (47, [some (.ref 37), some (.int v1), some (.int y3), some (.int y4)], [], M1)) hF (i := .iinc 3 1) rfl (fun _ => rfl) (fun y4 => ?_)
    refine dp_s1 hF (i := .goto (-25)) rfl (fun _ => rfl) ?_
    exact rfl
  refine dp_s1 hF (i := .iconst 1) rfl (fun _ => rfl) ?_
  refine dp_s1 hF (i := .goto 4) rfl (fun _ => rfl) ?_
  refine dp_s1 hF (i := .iadd) rfl (fun _ => rfl) ?_
  refine dp_s1w (v2 + (1 : Int32)) (fun (y5 : Int32) => (44, [some (.ref 37), some (.int v1), some (.int y5), some (.int v3)], [], M1)) hF (i := .istore_n 2) rfl (fun _ => rfl) (fun y5 => ?_)
  refine dp_s1w (v3 + (1 : Int32)) (fun (y6 : Int32) => (47, [some (.ref 37), some (.int v1), some (.int y5), some (.int y6)], [], M1)) hF (i := .iinc 3 1) rfl (fun _ => rfl) (fun y6 => ?_)
  refine dp_s1 hF (i := .goto (-25)) rfl (fun _ => rfl) ?_
  exact rfl
noncomputable def D_X1_barOf_0 (xs : Nat → Int32) (xl d : Nat) (v1 : Int32) (v2 : Int32) (M : dp_M) : Option dp_Res := dp_lim true xs xl (dp_den true xs xl d) dp_m_X1_barOf (0, [some (.ref 37), some (.int v1), some (.int v2), none, none, none, none], [], M)
noncomputable def D_X1_barOf_26 (xs : Nat → Int32) (xl d : Nat) (v1 : Int32) (v2 : Int32) (v3 : Int32) (v4 : Int32) (M : dp_M) : Option dp_Res := dp_lim true xs xl (dp_den true xs xl d) dp_m_X1_barOf (26, [some (.ref 37), some (.int v1), some (.int v2), some (.int v3), some (.int v4), none, none], [], M)
noncomputable def D_X1_barOf_35 (xs : Nat → Int32) (xl d : Nat) (v1 : Int32) (v2 : Int32) (v3 : Int32) (v4 : Int32) (v5 : Int32) (M : dp_M) : Option dp_Res := dp_lim true xs xl (dp_den true xs xl d) dp_m_X1_barOf (35, [some (.ref 37), some (.int v1), some (.int v2), some (.int v3), some (.int v4), some (.int v5), none], [], M)
noncomputable def D_X1_barOf_26_a (xs : Nat → Int32) (xl d : Nat) (v1 : Int32) (v2 : Int32) (v3 : Int32) (v4 : Int32) (v5 : Int32) (M : dp_M) : Option dp_Res := dp_lim true xs xl (dp_den true xs xl d) dp_m_X1_barOf (26, [some (.ref 37), some (.int v1), some (.int v2), some (.int v3), some (.int v4), some (.int v5), none], [], M)
noncomputable def D_X1_barOf_66 (xs : Nat → Int32) (xl d : Nat) (v1 : Int32) (v2 : Int32) (v3 : Int32) (v4 : Int32) (v5 : Int32) (v6 : Int32) (M : dp_M) : Option dp_Res := dp_lim true xs xl (dp_den true xs xl d) dp_m_X1_barOf (66, [some (.ref 37), some (.int v1), some (.int v2), some (.int v3), some (.int v4), some (.int v5), some (.int v6)], [], M)
noncomputable def D_X1_barOf_35_a (xs : Nat → Int32) (xl d : Nat) (v1 : Int32) (v2 : Int32) (v3 : Int32) (v4 : Int32) (v5 : Int32) (v6 : Int32) (M : dp_M) : Option dp_Res := dp_lim true xs xl (dp_den true xs xl d) dp_m_X1_barOf (35, [some (.ref 37), some (.int v1), some (.int v2), some (.int v3), some (.int v4), some (.int v5), some (.int v6)], [], M)
noncomputable def D_X1_barOf_26_b (xs : Nat → Int32) (xl d : Nat) (v1 : Int32) (v2 : Int32) (v3 : Int32) (v4 : Int32) (v5 : Int32) (v6 : Int32) (M : dp_M) : Option dp_Res := dp_lim true xs xl (dp_den true xs xl d) dp_m_X1_barOf (26, [some (.ref 37), some (.int v1), some (.int v2), some (.int v3), some (.int v4), some (.int v5), some (.int v6)], [], M)
theorem D_X1_barOf_0_den (xs : Nat → Int32) (xl d : Nat) (a0 : Int32) (a1 : Int32) (M : dp_M) : dp_den true xs xl (d + 1) 43 [.ref 37, .int a0, .int a1] M = D_X1_barOf_0 xs xl d a0 a1 M := rfl
set_option maxRecDepth 20000 in
theorem D_X1_barOf_0_eq (xs : Nat → Int32) (xl d : Nat) (v1 : Int32) (v2 : Int32) (M : dp_M) : D_X1_barOf_0 xs xl d v1 v2 M = dp_bi (dp_den true xs xl d 37 [.ref 37, .int v1] M) (fun r2 M1 => if r2 = 0 then (dp_w (0 : Int32) (fun y3 => D_X1_barOf_26 xs xl d v1 v2 v2 y3 M1)) else (if v2 = 0 then (dp_bi (dp_den true xs xl d 37 [.ref 37, .int v1] M1) (fun r5 M4 => some (.inl (some (.int r5)), M4))) else (dp_w (v2 + (-1 : Int32)) (fun y6 => dp_w (0 : Int32) (fun y7 => D_X1_barOf_26 xs xl d v1 v2 y6 y7 M1))))) := by
  have hF := dp_den_grow (md := true) (xs := xs) (xl := xl) d
  unfold D_X1_barOf_0
  refine dp_s1 hF (i := .iload_n 2) rfl (fun _ => rfl) ?_
  refine dp_s1 hF (i := .istore_n 3) rfl (fun _ => rfl) ?_
  refine dp_s1 hF (i := .aload_n 0) rfl (fun _ => rfl) ?_
  refine dp_s1 hF (i := .iload_n 1) rfl (fun _ => rfl) ?_
  refine dp_si (mj := dp_m_X1_ownBar) (i := .invokevirtual 100) rfl rfl (Or.inl rfl) rfl (fun _ => rfl) (fun r2 M1 => ?_)
  refine dp_s2 hF (i := .ifCond .eq 16) (a := (23, [some (.ref 37), some (.int v1), some (.int v2), some (.int v2), none, none, none], [], M1)) (b := (10, [some (.ref 37), some (.int v1), some (.int v2), some (.int v2), none, none, none], [], M1)) rfl (fun _ => rfl) ?_ ?_
  · refine dp_s1 hF (i := .iconst 0) rfl (fun _ => rfl) ?_
    refine dp_s1w (0 : Int32) (fun (y3 : Int32) => (26, [some (.ref 37), some (.int v1), some (.int v2), some (.int v2), some (.int y3), none, none], [], M1)) hF (i := .istore 4) rfl (fun _ => rfl) (fun y3 => ?_)
    exact rfl
  refine dp_s1 hF (i := .iload_n 3) rfl (fun _ => rfl) ?_
  refine dp_s2 hF (i := .ifCond .ne 9) (a := (14, [some (.ref 37), some (.int v1), some (.int v2), some (.int v2), none, none, none], [], M1)) (b := (20, [some (.ref 37), some (.int v1), some (.int v2), some (.int v2), none, none, none], [], M1)) rfl (fun _ => rfl) ?_ ?_
  · refine dp_s1 hF (i := .aload_n 0) rfl (fun _ => rfl) ?_
    refine dp_s1 hF (i := .iload_n 1) rfl (fun _ => rfl) ?_
    refine dp_si (mj := dp_m_X1_ownBar) (i := .invokevirtual 100) rfl rfl (Or.inl rfl) rfl (fun _ => rfl) (fun r5 M4 => ?_)
    exact dp_s0 hF (i := .ireturn) rfl (fun _ => rfl)
  refine dp_s1w (v2 + (-1 : Int32)) (fun (y6 : Int32) => (23, [some (.ref 37), some (.int v1), some (.int v2), some (.int y6), none, none, none], [], M1)) hF (i := .iinc 3 (-1)) rfl (fun _ => rfl) (fun y6 => ?_)
  refine dp_s1 hF (i := .iconst 0) rfl (fun _ => rfl) ?_
  refine dp_s1w (0 : Int32) (fun (y7 : Int32) => (26, [some (.ref 37), some (.int v1), some (.int v2), some (.int y6), some (.int y7), none, none], [], M1)) hF (i := .istore 4) rfl (fun _ => rfl) (fun y7 => ?_)
  exact rfl
set_option maxRecDepth 20000 in
theorem D_X1_barOf_26_eq (xs : Nat → Int32) (xl d : Nat) (v1 : Int32) (v2 : Int32) (v3 : Int32) (v4 : Int32) (M : dp_M) : D_X1_barOf_26 xs xl d v1 v2 v3 v4 M = if (4 : Int32) ≤ v4 then (some (.inl (some (.int (-1 : Int32))), M)) else (dp_w (0 : Int32) (fun y1 => D_X1_barOf_35 xs xl d v1 v2 v3 v4 y1 M)) := by
  have hF := dp_den_grow (md := true) (xs := xs) (xl := xl) d
  unfold D_X1_barOf_26
  refine dp_s1 hF (i := .iload 4) rfl (fun _ => rfl) ?_
  refine dp_s1 hF (i := .iconst 4) rfl (fun _ => rfl) ?_
  refine dp_s2 hF (i := .if_icmp .ge 63) (a := (92, [some (.ref 37), some (.int v1), some (.int v2), some (.int v3), some (.int v4), none, none], [], M)) (b := (32, [some (.ref 37), some (.int v1), some (.int v2), some (.int v3), some (.int v4), none, none], [], M)) rfl (fun _ => rfl) ?_ ?_
  · refine dp_s1 hF (i := .iconst (-1)) rfl (fun _ => rfl) ?_
    exact dp_s0 hF (i := .ireturn) rfl (fun _ => rfl)
  refine dp_s1 hF (i := .iconst 0) rfl (fun _ => rfl) ?_
  refine dp_s1w (0 : Int32) (fun (y1 : Int32) => (35, [some (.ref 37), some (.int v1), some (.int v2), some (.int v3), some (.int v4), some (.int y1), none], [], M)) hF (i := .istore 5) rfl (fun _ => rfl) (fun y1 => ?_)
  exact rfl
set_option maxRecDepth 20000 in
theorem D_X1_barOf_35_eq (xs : Nat → Int32) (xl d : Nat) (v1 : Int32) (v2 : Int32) (v3 : Int32) (v4 : Int32) (v5 : Int32) (M : dp_M) : D_X1_barOf_35 xs xl d v1 v2 v3 v4 v5 M = if (10 : Int32) < v5 then (dp_w (v4 + (1 : Int32)) (fun y1 => D_X1_barOf_26_a xs xl d v1 v2 v3 y1 v5 M)) else (dp_bi (dp_den true xs xl d 44 [.ref 37, .int v1, .int v4, .int v5] M) (fun r3 M2 => if r3 = (-1 : Int32) then (D_X1_barOf_66 xs xl d v1 v2 v3 v4 v5 r3 M2) else (if v3 = 0 then (some (.inl (some (.int r3)), M2)) else (D_X1_barOf_66 xs xl d v1 v2 v3 v4 v5 r3 M2)))) := by
  have hF := dp_den_grow (md := true) (xs := xs) (xl := xl) d
  unfold D_X1_barOf_35
  refine dp_s1 hF (i := .iload 5) rfl (fun _ => rfl) ?_
  refine dp_s1 hF (i := .bipush 10) rfl (fun _ => rfl) ?_
  refine dp_s2 hF (i := .if_icmp .gt 47) (a := (86, [some (.ref 37), some (.int v1), some (.int v2), some (.int v3), some (.int v4), some (.int v5), none], [], M)) (b := (42, [some (.ref 37), some (.int v1), some (.int v2), some (.int v3), some (.int v4), some (.int v5), none], [], M)) rfl (fun _ => rfl) ?_ ?_
  · refine dp_s1w (v4 + (1 : Int32)) (fun (y1 : Int32) => (89, [some (.ref 37), some (.int v1), some (.int v2), some (.int v3), some (.int y1), some (.int v5), none], [], M)) hF (i := .iinc 4 1) rfl (fun _ => rfl) (fun y1 => ?_)
    refine dp_s1 hF (i := .goto (-63)) rfl (fun _ => rfl) ?_
    exact rfl
  refine dp_s1 hF (i := .aload_n 0) rfl (fun _ => rfl) ?_
  refine dp_s1 hF (i := .iload_n 1) rfl (fun _ => rfl) ?_
  refine dp_s1 hF (i := .iload 4) rfl (fun _ => rfl) ?_
  refine dp_s1 hF (i := .iload 5) rfl (fun _ => rfl) ?_
  refine dp_si (mj := dp_m_X1_barIn) (i := .invokevirtual 115) rfl rfl (Or.inl rfl) rfl (fun _ => rfl) (fun r3 M2 => ?_)
  refine dp_s1 hF (i := .istore 6) rfl (fun _ => rfl) ?_
  refine dp_s1 hF (i := .iload 6) rfl (fun _ => rfl) ?_
  refine dp_s1 hF (i := .iconst (-1)) rfl (fun _ => rfl) ?_
  refine dp_s2 hF (i := .if_icmp .eq 10) (a := (66, [some (.ref 37), some (.int v1), some (.int v2), some (.int v3), some (.int v4), some (.int v5), some (.int r3)], [], M2)) (b := (59, [some (.ref 37), some (.int v1), some (.int v2), some (.int v3), some (.int v4), some (.int v5), some (.int r3)], [], M2)) rfl (fun _ => rfl) ?_ ?_
  · exact rfl
  refine dp_s1 hF (i := .iload_n 3) rfl (fun _ => rfl) ?_
  refine dp_s2 hF (i := .ifCond .ne 6) (a := (63, [some (.ref 37), some (.int v1), some (.int v2), some (.int v3), some (.int v4), some (.int v5), some (.int r3)], [], M2)) (b := (66, [some (.ref 37), some (.int v1), some (.int v2), some (.int v3), some (.int v4), some (.int v5), some (.int r3)], [], M2)) rfl (fun _ => rfl) ?_ ?_
  · refine dp_s1 hF (i := .iload 6) rfl (fun _ => rfl) ?_
    exact dp_s0 hF (i := .ireturn) rfl (fun _ => rfl)
  exact rfl
set_option maxRecDepth 20000 in
theorem D_X1_barOf_26_a_eq (xs : Nat → Int32) (xl d : Nat) (v1 : Int32) (v2 : Int32) (v3 : Int32) (v4 : Int32) (v5 : Int32) (M : dp_M) : D_X1_barOf_26_a xs xl d v1 v2 v3 v4 v5 M = if (4 : Int32) ≤ v4 then (some (.inl (some (.int (-1 : Int32))), M)) else (dp_w (0 : Int32) (fun y1 => D_X1_barOf_35 xs xl d v1 v2 v3 v4 y1 M)) := by
  have hF := dp_den_grow (md := true) (xs := xs) (xl := xl) d
  unfold D_X1_barOf_26_a
  refine dp_s1 hF (i := .iload 4) rfl (fun _ => rfl) ?_
  refine dp_s1 hF (i := .iconst 4) rfl (fun _ => rfl) ?_
  refine dp_s2 hF (i := .if_icmp .ge 63) (a := (92, [some (.ref 37), some (.int v1), some (.int v2), some (.int v3), some (.int v4), some (.int v5), none], [], M)) (b := (32, [some (.ref 37), some (.int v1), some (.int v2), some (.int v3), some (.int v4), some (.int v5), none], [], M)) rfl (fun _ => rfl) ?_ ?_
  · refine dp_s1 hF (i := .iconst (-1)) rfl (fun _ => rfl) ?_
    exact dp_s0 hF (i := .ireturn) rfl (fun _ => rfl)
  refine dp_s1 hF (i := .iconst 0) rfl (fun _ => rfl) ?_
  refine dp_s1w (0 : Int32) (fun (y1 : Int32) => (35, [some (.ref 37), some (.int v1), some (.int v2), some (.int v3), some (.int v4), some (.int y1), none], [], M)) hF (i := .istore 5) rfl (fun _ => rfl) (fun y1 => ?_)
  exact rfl
set_option maxRecDepth 20000 in
theorem D_X1_barOf_66_eq (xs : Nat → Int32) (xl d : Nat) (v1 : Int32) (v2 : Int32) (v3 : Int32) (v4 : Int32) (v5 : Int32) (v6 : Int32) (M : dp_M) : D_X1_barOf_66 xs xl d v1 v2 v3 v4 v5 v6 M = if v6 = (-1 : Int32) then (dp_w (v3 - (0 : Int32)) (fun y1 => dp_w (v5 + (1 : Int32)) (fun y2 => D_X1_barOf_35_a xs xl d v1 v2 y1 v4 y2 v6 M))) else (dp_w (v3 - (1 : Int32)) (fun y3 => dp_w (v5 + (1 : Int32)) (fun y4 => D_X1_barOf_35_a xs xl d v1 v2 y3 v4 y4 v6 M))) := by
  have hF := dp_den_grow (md := true) (xs := xs) (xl := xl) d
  unfold D_X1_barOf_66
  refine dp_s1 hF (i := .iload_n 3) rfl (fun _ => rfl) ?_
  refine dp_s1 hF (i := .iload 6) rfl (fun _ => rfl) ?_
  refine dp_s1 hF (i := .iconst (-1)) rfl (fun _ => rfl) ?_
  refine dp_s2 hF (i := .if_icmp .eq 7) (a := (77, [some (.ref 37), some (.int v1), some (.int v2), some (.int v3), some (.int v4), some (.int v5), some (.int v6)], [.int v3], M)) (b := (73, [some (.ref 37), some (.int v1), some (.int v2), some (.int v3), some (.int v4), some (.int v5), some (.int v6)], [.int v3], M)) rfl (fun _ => rfl) ?_ ?_
  · refine dp_s1 hF (i := .iconst 0) rfl (fun _ => rfl) ?_
    refine dp_s1 hF (i := .isub) rfl (fun _ => rfl) ?_
    refine dp_s1w (v3 - (0 : Int32)) (fun (y1 : Int32) => (80, [some (.ref 37), some (.int v1), some (.int v2), some (.int y1), some (.int v4), some (.int v5), some (.int v6)], [], M)) hF (i := .istore_n 3) rfl (fun _ => rfl) (fun y1 => ?_)
    refine dp_s1w (v5 + (1 : Int32)) (fun (y2 : Int32) => (83, [some (.ref 37), some (.int v1), some (.int v2), some (.int y1), some (.int v4), some (.int y2), some (.int v6)], [], M)) hF (i := .iinc 5 1) rfl (fun _ => rfl) (fun y2 => ?_)
    refine dp_s1 hF (i := .goto (-48)) rfl (fun _ => rfl) ?_
    exact rfl
  refine dp_s1 hF (i := .iconst 1) rfl (fun _ => rfl) ?_
  refine dp_s1 hF (i := .goto 4) rfl (fun _ => rfl) ?_
  refine dp_s1 hF (i := .isub) rfl (fun _ => rfl) ?_
  refine dp_s1w (v3 - (1 : Int32)) (fun (y3 : Int32) => (80, [some (.ref 37), some (.int v1), some (.int v2), some (.int y3), some (.int v4), some (.int v5), some (.int v6)], [], M)) hF (i := .istore_n 3) rfl (fun _ => rfl) (fun y3 => ?_)
  refine dp_s1w (v5 + (1 : Int32)) (fun (y4 : Int32) => (83, [some (.ref 37), some (.int v1), some (.int v2), some (.int y3), some (.int v4), some (.int y4), some (.int v6)], [], M)) hF (i := .iinc 5 1) rfl (fun _ => rfl) (fun y4 => ?_)
  refine dp_s1 hF (i := .goto (-48)) rfl (fun _ => rfl) ?_
  exact rfl
set_option maxRecDepth 20000 in
theorem D_X1_barOf_35_a_eq (xs : Nat → Int32) (xl d : Nat) (v1 : Int32) (v2 : Int32) (v3 : Int32) (v4 : Int32) (v5 : Int32) (v6 : Int32) (M : dp_M) : D_X1_barOf_35_a xs xl d v1 v2 v3 v4 v5 v6 M = if (10 : Int32) < v5 then (dp_w (v4 + (1 : Int32)) (fun y1 => D_X1_barOf_26_b xs xl d v1 v2 v3 y1 v5 v6 M)) else (dp_bi (dp_den true xs xl d 44 [.ref 37, .int v1, .int v4, .int v5] M) (fun r3 M2 => if r3 = (-1 : Int32) then (D_X1_barOf_66 xs xl d v1 v2 v3 v4 v5 r3 M2) else (if v3 = 0 then (some (.inl (some (.int r3)), M2)) else (D_X1_barOf_66 xs xl d v1 v2 v3 v4 v5 r3 M2)))) := by
  have hF := dp_den_grow (md := true) (xs := xs) (xl := xl) d
  unfold D_X1_barOf_35_a
  refine dp_s1 hF (i := .iload 5) rfl (fun _ => rfl) ?_
  refine dp_s1 hF (i := .bipush 10) rfl (fun _ => rfl) ?_
  refine dp_s2 hF (i := .if_icmp .gt 47) (a := (86, [some (.ref 37), some (.int v1), some (.int v2), some (.int v3), some (.int v4), some (.int v5), some (.int v6)], [], M)) (b := (42, [some (.ref 37), some (.int v1), some (.int v2), some (.int v3), some (.int v4), some (.int v5), some (.int v6)], [], M)) rfl (fun _ => rfl) ?_ ?_
  · refine dp_s1w (v4 + (1 : Int32)) (fun (y1 : Int32) => (89, [some (.ref 37), some (.int v1), some (.int v2), some (.int v3), some (.int y1), some (.int v5), some (.int v6)], [], M)) hF (i := .iinc 4 1) rfl (fun _ => rfl) (fun y1 => ?_)
    refine dp_s1 hF (i := .goto (-63)) rfl (fun _ => rfl) ?_
    exact rfl
  refine dp_s1 hF (i := .aload_n 0) rfl (fun _ => rfl) ?_
  refine dp_s1 hF (i := .iload_n 1) rfl (fun _ => rfl) ?_
  refine dp_s1 hF (i := .iload 4) rfl (fun _ => rfl) ?_
  refine dp_s1 hF (i := .iload 5) rfl (fun _ => rfl) ?_
  refine dp_si (mj := dp_m_X1_barIn) (i := .invokevirtual 115) rfl rfl (Or.inl rfl) rfl (fun _ => rfl) (fun r3 M2 => ?_)
  refine dp_s1 hF (i := .istore 6) rfl (fun _ => rfl) ?_
  refine dp_s1 hF (i := .iload 6) rfl (fun _ => rfl) ?_
  refine dp_s1 hF (i := .iconst (-1)) rfl (fun _ => rfl) ?_
  refine dp_s2 hF (i := .if_icmp .eq 10) (a := (66, [some (.ref 37), some (.int v1), some (.int v2), some (.int v3), some (.int v4), some (.int v5), some (.int r3)], [], M2)) (b := (59, [some (.ref 37), some (.int v1), some (.int v2), some (.int v3), some (.int v4), some (.int v5), some (.int r3)], [], M2)) rfl (fun _ => rfl) ?_ ?_
  · exact rfl
  refine dp_s1 hF (i := .iload_n 3) rfl (fun _ => rfl) ?_
  refine dp_s2 hF (i := .ifCond .ne 6) (a := (63, [some (.ref 37), some (.int v1), some (.int v2), some (.int v3), some (.int v4), some (.int v5), some (.int r3)], [], M2)) (b := (66, [some (.ref 37), some (.int v1), some (.int v2), some (.int v3), some (.int v4), some (.int v5), some (.int r3)], [], M2)) rfl (fun _ => rfl) ?_ ?_
  · refine dp_s1 hF (i := .iload 6) rfl (fun _ => rfl) ?_
    exact dp_s0 hF (i := .ireturn) rfl (fun _ => rfl)
  exact rfl
set_option maxRecDepth 20000 in
theorem D_X1_barOf_26_b_eq (xs : Nat → Int32) (xl d : Nat) (v1 : Int32) (v2 : Int32) (v3 : Int32) (v4 : Int32) (v5 : Int32) (v6 : Int32) (M : dp_M) : D_X1_barOf_26_b xs xl d v1 v2 v3 v4 v5 v6 M = if (4 : Int32) ≤ v4 then (some (.inl (some (.int (-1 : Int32))), M)) else (dp_w (0 : Int32) (fun y1 => D_X1_barOf_35_a xs xl d v1 v2 v3 v4 y1 v6 M)) := by
  have hF := dp_den_grow (md := true) (xs := xs) (xl := xl) d
  unfold D_X1_barOf_26_b
  refine dp_s1 hF (i := .iload 4) rfl (fun _ => rfl) ?_
  refine dp_s1 hF (i := .iconst 4) rfl (fun _ => rfl) ?_
  refine dp_s2 hF (i := .if_icmp .ge 63) (a := (92, [some (.ref 37), some (.int v1), some (.int v2), some (.int v3), some (.int v4), some (.int v5), some (.int v6)], [], M)) (b := (32, [some (.ref 37), some (.int v1), some (.int v2), some (.int v3), some (.int v4), some (.int v5), some (.int v6)], [], M)) rfl (fun _ => rfl) ?_ ?_
  · refine dp_s1 hF (i := .iconst (-1)) rfl (fun _ => rfl) ?_
    exact dp_s0 hF (i := .ireturn) rfl (fun _ => rfl)
  refine dp_s1 hF (i := .iconst 0) rfl (fun _ => rfl) ?_
  refine dp_s1w (0 : Int32) (fun (y1 : Int32) => (35, [some (.ref 37), some (.int v1), some (.int v2), some (.int v3), some (.int v4), some (.int y1), some (.int v6)], [], M)) hF (i := .istore 5) rfl (fun _ => rfl) (fun y1 => ?_)
  exact rfl
noncomputable def D_X1_barIn_0 (xs : Nat → Int32) (xl d : Nat) (v1 : Int32) (v2 : Int32) (v3 : Int32) (M : dp_M) : Option dp_Res := dp_lim true xs xl (dp_den true xs xl d) dp_m_X1_barIn (0, [some (.ref 37), some (.int v1), some (.int v2), some (.int v3), none, none, none], [], M)
noncomputable def D_X1_barIn_28 (xs : Nat → Int32) (xl d : Nat) (v1 : Int32) (v2 : Int32) (v3 : Int32) (v4 : Int32) (vs0 : Int32) (M : dp_M) : Option dp_Res := dp_lim true xs xl (dp_den true xs xl d) dp_m_X1_barIn (28, [some (.ref 37), some (.int v1), some (.int v2), some (.int v3), some (.int v4), none, none], [.int vs0], M)
theorem D_X1_barIn_0_den (xs : Nat → Int32) (xl d : Nat) (a0 : Int32) (a1 : Int32) (a2 : Int32) (M : dp_M) : dp_den true xs xl (d + 1) 44 [.ref 37, .int a0, .int a1, .int a2] M = D_X1_barIn_0 xs xl d a0 a1 a2 M := rfl
set_option maxRecDepth 20000 in
theorem D_X1_barIn_0_eq (xs : Nat → Int32) (xl d : Nat) (v1 : Int32) (v2 : Int32) (v3 : Int32) (M : dp_M) : D_X1_barIn_0 xs xl d v1 v2 v3 M = if (10 : Int32) ≤ v3 then (dp_w (0 : Int32) (fun y1 => if y1 = 0 then (dp_bi (dp_den true xs xl d 38 [.ref 37, .int v2, .int v1] M) (fun r3 M2 => D_X1_barIn_28 xs xl d v1 v2 v3 y1 r3 M2)) else (D_X1_barIn_28 xs xl d v1 v2 v3 y1 v3 M))) else (dp_w (1 : Int32) (fun y4 => if y4 = 0 then (dp_bi (dp_den true xs xl d 38 [.ref 37, .int v2, .int v1] M) (fun r6 M5 => D_X1_barIn_28 xs xl d v1 v2 v3 y4 r6 M5)) else (D_X1_barIn_28 xs xl d v1 v2 v3 y4 v3 M))) := by
  have hF := dp_den_grow (md := true) (xs := xs) (xl := xl) d
  unfold D_X1_barIn_0
  refine dp_s1 hF (i := .iload_n 3) rfl (fun _ => rfl) ?_
  refine dp_s1 hF (i := .bipush 10) rfl (fun _ => rfl) ?_
  refine dp_s2 hF (i := .if_icmp .ge 7) (a := (10, [some (.ref 37), some (.int v1), some (.int v2), some (.int v3), none, none, none], [], M)) (b := (6, [some (.ref 37), some (.int v1), some (.int v2), some (.int v3), none, none, none], [], M)) rfl (fun _ => rfl) ?_ ?_
  · refine dp_s1 hF (i := .iconst 0) rfl (fun _ => rfl) ?_
    refine dp_s1w (0 : Int32) (fun (y1 : Int32) => (13, [some (.ref 37), some (.int v1), some (.int v2), some (.int v3), some (.int y1), none, none], [], M)) hF (i := .istore 4) rfl (fun _ => rfl) (fun y1 => ?_)
    refine dp_s1 hF (i := .iload 4) rfl (fun _ => rfl) ?_
    refine dp_s2 hF (i := .ifCond .eq 7) (a := (22, [some (.ref 37), some (.int v1), some (.int v2), some (.int v3), some (.int y1), none, none], [], M)) (b := (18, [some (.ref 37), some (.int v1), some (.int v2), some (.int v3), some (.int y1), none, none], [], M)) rfl (fun _ => rfl) ?_ ?_
    · refine dp_s1 hF (i := .aload_n 0) rfl (fun _ => rfl) ?_
      refine dp_s1 hF (i := .iload_n 2) rfl (fun _ => rfl) ?_
      refine dp_s1 hF (i := .iload_n 1) rfl (fun _ => rfl) ?_
      refine dp_si (mj := dp_m_X1_verdict) (i := .invokevirtual 106) rfl rfl (Or.inl rfl) rfl (fun _ => rfl) (fun r3 M2 => ?_)
      exact rfl
    refine dp_s1 hF (i := .iload_n 3) rfl (fun _ => rfl) ?_
    refine dp_s1 hF (i := .goto 9) rfl (fun _ => rfl) ?_
    exact rfl
  refine dp_s1 hF (i := .iconst 1) rfl (fun _ => rfl) ?_
  refine dp_s1 hF (i := .goto 4) rfl (fun _ => rfl) ?_
  refine dp_s1w (1 : Int32) (fun (y4 : Int32) => (13, [some (.ref 37), some (.int v1), some (.int v2), some (.int v3), some (.int y4), none, none], [], M)) hF (i := .istore 4) rfl (fun _ => rfl) (fun y4 => ?_)
  refine dp_s1 hF (i := .iload 4) rfl (fun _ => rfl) ?_
  refine dp_s2 hF (i := .ifCond .eq 7) (a := (22, [some (.ref 37), some (.int v1), some (.int v2), some (.int v3), some (.int y4), none, none], [], M)) (b := (18, [some (.ref 37), some (.int v1), some (.int v2), some (.int v3), some (.int y4), none, none], [], M)) rfl (fun _ => rfl) ?_ ?_
  · refine dp_s1 hF (i := .aload_n 0) rfl (fun _ => rfl) ?_
    refine dp_s1 hF (i := .iload_n 2) rfl (fun _ => rfl) ?_
    refine dp_s1 hF (i := .iload_n 1) rfl (fun _ => rfl) ?_
    refine dp_si (mj := dp_m_X1_verdict) (i := .invokevirtual 106) rfl rfl (Or.inl rfl) rfl (fun _ => rfl) (fun r6 M5 => ?_)
    exact rfl
  refine dp_s1 hF (i := .iload_n 3) rfl (fun _ => rfl) ?_
  refine dp_s1 hF (i := .goto 9) rfl (fun _ => rfl) ?_
  exact rfl
set_option maxRecDepth 20000 in
theorem D_X1_barIn_28_eq (xs : Nat → Int32) (xl d : Nat) (v1 : Int32) (v2 : Int32) (v3 : Int32) (v4 : Int32) (vs0 : Int32) (M : dp_M) : D_X1_barIn_28 xs xl d v1 v2 v3 v4 vs0 M = if v4 = 0 then (if vs0 = 0 then (dp_w (0 : Int32) (fun y1 => if y1 = 0 then (some (.inl (some (.int (-1 : Int32))), M)) else (some (.inl (some (.int (((100 : Int32) + ((100 : Int32) * v2)) + vs0))), M)))) else (dp_w (1 : Int32) (fun y2 => if y2 = 0 then (some (.inl (some (.int (-1 : Int32))), M)) else (some (.inl (some (.int (((100 : Int32) + ((100 : Int32) * v2)) + vs0))), M))))) else (dp_bi (dp_den true xs xl d 31 [.int v1, .int v2, .int v3] M) (fun r4 M3 => if r4 < 0 ∨ 4000 ≤ Int32.toNatClampNeg r4 then none else (if (dp_I M3 48 (Int32.toNatClampNeg r4)) ≤ 0 then (dp_w (0 : Int32) (fun y5 => if y5 = 0 then (some (.inl (some (.int (-1 : Int32))), M3)) else (some (.inl (some (.int (((100 : Int32) + ((100 : Int32) * v2)) + vs0))), M3)))) else (dp_w (1 : Int32) (fun y6 => if y6 = 0 then (some (.inl (some (.int (-1 : Int32))), M3)) else (some (.inl (some (.int (((100 : Int32) + ((100 : Int32) * v2)) + vs0))), M3))))))) := by
  have hF := dp_den_grow (md := true) (xs := xs) (xl := xl) d
  unfold D_X1_barIn_28
  refine dp_s1 hF (i := .istore 5) rfl (fun _ => rfl) ?_
  refine dp_s1 hF (i := .iload 4) rfl (fun _ => rfl) ?_
  refine dp_s2 hF (i := .ifCond .eq 25) (a := (57, [some (.ref 37), some (.int v1), some (.int v2), some (.int v3), some (.int v4), some (.int vs0), none], [], M)) (b := (35, [some (.ref 37), some (.int v1), some (.int v2), some (.int v3), some (.int v4), some (.int vs0), none], [], M)) rfl (fun _ => rfl) ?_ ?_
  · refine dp_s1 hF (i := .iload 5) rfl (fun _ => rfl) ?_
    refine dp_s2 hF (i := .ifCond .eq 7) (a := (66, [some (.ref 37), some (.int v1), some (.int v2), some (.int v3), some (.int v4), some (.int vs0), none], [], M)) (b := (62, [some (.ref 37), some (.int v1), some (.int v2), some (.int v3), some (.int v4), some (.int vs0), none], [], M)) rfl (fun _ => rfl) ?_ ?_
    · refine dp_s1 hF (i := .iconst 0) rfl (fun _ => rfl) ?_
      refine dp_s1w (0 : Int32) (fun (y1 : Int32) => (69, [some (.ref 37), some (.int v1), some (.int v2), some (.int v3), some (.int v4), some (.int vs0), some (.int y1)], [], M)) hF (i := .istore 6) rfl (fun _ => rfl) (fun y1 => ?_)
      refine dp_s1 hF (i := .iload 6) rfl (fun _ => rfl) ?_
      refine dp_s2 hF (i := .ifCond .eq 16) (a := (87, [some (.ref 37), some (.int v1), some (.int v2), some (.int v3), some (.int v4), some (.int vs0), some (.int y1)], [], M)) (b := (74, [some (.ref 37), some (.int v1), some (.int v2), some (.int v3), some (.int v4), some (.int vs0), some (.int y1)], [], M)) rfl (fun _ => rfl) ?_ ?_
      · refine dp_s1 hF (i := .iconst (-1)) rfl (fun _ => rfl) ?_
        exact dp_s0 hF (i := .ireturn) rfl (fun _ => rfl)
      refine dp_s1 hF (i := .bipush 100) rfl (fun _ => rfl) ?_
      refine dp_s1 hF (i := .bipush 100) rfl (fun _ => rfl) ?_
      refine dp_s1 hF (i := .iload_n 2) rfl (fun _ => rfl) ?_
      refine dp_s1 hF (i := .imul) rfl (fun _ => rfl) ?_
      refine dp_s1 hF (i := .iadd) rfl (fun _ => rfl) ?_
      refine dp_s1 hF (i := .iload 5) rfl (fun _ => rfl) ?_
      refine dp_s1 hF (i := .iadd) rfl (fun _ => rfl) ?_
      refine dp_s1 hF (i := .goto 4) rfl (fun _ => rfl) ?_
      exact dp_s0 hF (i := .ireturn) rfl (fun _ => rfl)
    refine dp_s1 hF (i := .iconst 1) rfl (fun _ => rfl) ?_
    refine dp_s1 hF (i := .goto 4) rfl (fun _ => rfl) ?_
    refine dp_s1w (1 : Int32) (fun (y2 : Int32) => (69, [some (.ref 37), some (.int v1), some (.int v2), some (.int v3), some (.int v4), some (.int vs0), some (.int y2)], [], M)) hF (i := .istore 6) rfl (fun _ => rfl) (fun y2 => ?_)
    refine dp_s1 hF (i := .iload 6) rfl (fun _ => rfl) ?_
    refine dp_s2 hF (i := .ifCond .eq 16) (a := (87, [some (.ref 37), some (.int v1), some (.int v2), some (.int v3), some (.int v4), some (.int vs0), some (.int y2)], [], M)) (b := (74, [some (.ref 37), some (.int v1), some (.int v2), some (.int v3), some (.int v4), some (.int vs0), some (.int y2)], [], M)) rfl (fun _ => rfl) ?_ ?_
    · refine dp_s1 hF (i := .iconst (-1)) rfl (fun _ => rfl) ?_
      exact dp_s0 hF (i := .ireturn) rfl (fun _ => rfl)
    refine dp_s1 hF (i := .bipush 100) rfl (fun _ => rfl) ?_
    refine dp_s1 hF (i := .bipush 100) rfl (fun _ => rfl) ?_
    refine dp_s1 hF (i := .iload_n 2) rfl (fun _ => rfl) ?_
    refine dp_s1 hF (i := .imul) rfl (fun _ => rfl) ?_
    refine dp_s1 hF (i := .iadd) rfl (fun _ => rfl) ?_
    refine dp_s1 hF (i := .iload 5) rfl (fun _ => rfl) ?_
    refine dp_s1 hF (i := .iadd) rfl (fun _ => rfl) ?_
    refine dp_s1 hF (i := .goto 4) rfl (fun _ => rfl) ?_
    exact dp_s0 hF (i := .ireturn) rfl (fun _ => rfl)
  refine dp_s1 hF (i := .aload_n 0) rfl (fun _ => rfl) ?_
  refine dp_s1 hF (i := .getfield 45) rfl (fun _ => rfl) ?_
  refine dp_s1 hF (i := .iload_n 1) rfl (fun _ => rfl) ?_
  refine dp_s1 hF (i := .iload_n 2) rfl (fun _ => rfl) ?_
  refine dp_s1 hF (i := .iload_n 3) rfl (fun _ => rfl) ?_
  refine dp_si (mj := dp_m_X1_cell) (i := .invokestatic 76) rfl rfl (Or.inl rfl) rfl (fun _ => rfl) (fun r4 M3 => ?_)
  refine dp_s3 hF (i := .iaload) rfl (fun _ => rfl) ?_
  refine dp_s2 hF (i := .ifCond .le 7) (a := (53, [some (.ref 37), some (.int v1), some (.int v2), some (.int v3), some (.int v4), some (.int vs0), none], [], M3)) (b := (49, [some (.ref 37), some (.int v1), some (.int v2), some (.int v3), some (.int v4), some (.int vs0), none], [], M3)) rfl (fun _ => rfl) ?_ ?_
  · refine dp_s1 hF (i := .iconst 0) rfl (fun _ => rfl) ?_
    refine dp_s1 hF (i := .goto 13) rfl (fun _ => rfl) ?_
    refine dp_s1w (0 : Int32) (fun (y5 : Int32) => (69, [some (.ref 37), some (.int v1), some (.int v2), some (.int v3), some (.int v4), some (.int vs0), some (.int y5)], [], M3)) hF (i := .istore 6) rfl (fun _ => rfl) (fun y5 => ?_)
    refine dp_s1 hF (i := .iload 6) rfl (fun _ => rfl) ?_
    refine dp_s2 hF (i := .ifCond .eq 16) (a := (87, [some (.ref 37), some (.int v1), some (.int v2), some (.int v3), some (.int v4), some (.int vs0), some (.int y5)], [], M3)) (b := (74, [some (.ref 37), some (.int v1), some (.int v2), some (.int v3), some (.int v4), some (.int vs0), some (.int y5)], [], M3)) rfl (fun _ => rfl) ?_ ?_
    · refine dp_s1 hF (i := .iconst (-1)) rfl (fun _ => rfl) ?_
      exact dp_s0 hF (i := .ireturn) rfl (fun _ => rfl)
    refine dp_s1 hF (i := .bipush 100) rfl (fun _ => rfl) ?_
    refine dp_s1 hF (i := .bipush 100) rfl (fun _ => rfl) ?_
    refine dp_s1 hF (i := .iload_n 2) rfl (fun _ => rfl) ?_
    refine dp_s1 hF (i := .imul) rfl (fun _ => rfl) ?_
    refine dp_s1 hF (i := .iadd) rfl (fun _ => rfl) ?_
    refine dp_s1 hF (i := .iload 5) rfl (fun _ => rfl) ?_
    refine dp_s1 hF (i := .iadd) rfl (fun _ => rfl) ?_
    refine dp_s1 hF (i := .goto 4) rfl (fun _ => rfl) ?_
    exact dp_s0 hF (i := .ireturn) rfl (fun _ => rfl)
  refine dp_s1 hF (i := .iconst 1) rfl (fun _ => rfl) ?_
  refine dp_s1 hF (i := .goto 17) rfl (fun _ => rfl) ?_
  refine dp_s1w (1 : Int32) (fun (y6 : Int32) => (69, [some (.ref 37), some (.int v1), some (.int v2), some (.int v3), some (.int v4), some (.int vs0), some (.int y6)], [], M3)) hF (i := .istore 6) rfl (fun _ => rfl) (fun y6 => ?_)
  refine dp_s1 hF (i := .iload 6) rfl (fun _ => rfl) ?_
  refine dp_s2 hF (i := .ifCond .eq 16) (a := (87, [some (.ref 37), some (.int v1), some (.int v2), some (.int v3), some (.int v4), some (.int vs0), some (.int y6)], [], M3)) (b := (74, [some (.ref 37), some (.int v1), some (.int v2), some (.int v3), some (.int v4), some (.int vs0), some (.int y6)], [], M3)) rfl (fun _ => rfl) ?_ ?_
  · refine dp_s1 hF (i := .iconst (-1)) rfl (fun _ => rfl) ?_
    exact dp_s0 hF (i := .ireturn) rfl (fun _ => rfl)
  refine dp_s1 hF (i := .bipush 100) rfl (fun _ => rfl) ?_
  refine dp_s1 hF (i := .bipush 100) rfl (fun _ => rfl) ?_
  refine dp_s1 hF (i := .iload_n 2) rfl (fun _ => rfl) ?_
  refine dp_s1 hF (i := .imul) rfl (fun _ => rfl) ?_
  refine dp_s1 hF (i := .iadd) rfl (fun _ => rfl) ?_
  refine dp_s1 hF (i := .iload 5) rfl (fun _ => rfl) ?_
  refine dp_s1 hF (i := .iadd) rfl (fun _ => rfl) ?_
  refine dp_s1 hF (i := .goto 4) rfl (fun _ => rfl) ?_
  exact dp_s0 hF (i := .ireturn) rfl (fun _ => rfl)
noncomputable def D_X1_releasePart_0 (xs : Nat → Int32) (xl d : Nat) (v1 : Int32) (v2 : Int32) (M : dp_M) : Option dp_Res := dp_lim true xs xl (dp_den true xs xl d) dp_m_X1_releasePart (0, [some (.ref 37), some (.int v1), some (.int v2), none], [], M)
theorem D_X1_releasePart_0_den (xs : Nat → Int32) (xl d : Nat) (a0 : Int32) (a1 : Int32) (M : dp_M) : dp_den true xs xl (d + 1) 45 [.ref 37, .int a0, .int a1] M = D_X1_releasePart_0 xs xl d a0 a1 M := rfl
set_option maxRecDepth 20000 in
theorem D_X1_releasePart_0_eq (xs : Nat → Int32) (xl d : Nat) (v1 : Int32) (v2 : Int32) (M : dp_M) : D_X1_releasePart_0 xs xl d v1 v2 M = dp_bi (dp_den true xs xl d 39 [.ref 37, .int v1] M) (fun r2 M1 => if r2 = 0 then (some (.inl (some (.int (-1 : Int32))), M1)) else (if v1 < 0 ∨ 100 ≤ Int32.toNatClampNeg v1 then none else (if (dp_I M1 11 (Int32.toNatClampNeg v1)) = 0 then (dp_bi (dp_den true xs xl d 26 [.ref 37, .int v1] M1) (fun r4 M3 => if v1 < 0 ∨ 100 ≤ Int32.toNatClampNeg v1 then none else (if v2 ≤ (r4 - (dp_I M3 41 (Int32.toNatClampNeg v1))) then (if v1 < 0 ∨ 100 ≤ Int32.toNatClampNeg v1 then none else (if v1 < 0 ∨ 100 ≤ Int32.toNatClampNeg v1 then none else dp_w (dp_setI M3 41 (Int32.toNatClampNeg v1) ((dp_I M3 41 (Int32.toNatClampNeg v1)) + v2)) (fun M5 => dp_bv (dp_den true xs xl d 50 [.ref 37, .int v1, .int (2 : Int32)] M5) (fun M6 => if v1 < 0 ∨ 100 ≤ Int32.toNatClampNeg v1 then none else (some (.inl (some (.int (dp_I M6 41 (Int32.toNatClampNeg v1)))), M6)))))) else (some (.inl (some (.int (-1 : Int32))), M3))))) else (some (.inl (some (.int (-1 : Int32))), M1))))) := by
  have hF := dp_den_grow (md := true) (xs := xs) (xl := xl) d
  unfold D_X1_releasePart_0
  refine dp_s1 hF (i := .aload_n 0) rfl (fun _ => rfl) ?_
  refine dp_s1 hF (i := .iload_n 1) rfl (fun _ => rfl) ?_
  refine dp_si (mj := dp_m_X1_askRelease) (i := .invokevirtual 118) rfl rfl (Or.inr rfl) rfl (fun _ => rfl) (fun r2 M1 => ?_)
  refine dp_s1 hF (i := .istore_n 3) rfl (fun _ => rfl) ?_
  refine dp_s1 hF (i := .iload_n 3) rfl (fun _ => rfl) ?_
  refine dp_s2 hF (i := .ifCond .eq 31) (a := (38, [some (.ref 37), some (.int v1), some (.int v2), some (.int r2)], [], M1)) (b := (10, [some (.ref 37), some (.int v1), some (.int v2), some (.int r2)], [], M1)) rfl (fun _ => rfl) ?_ ?_
  · refine dp_s1 hF (i := .iconst (-1)) rfl (fun _ => rfl) ?_
    exact dp_s0 hF (i := .ireturn) rfl (fun _ => rfl)
  refine dp_s1 hF (i := .aload_n 0) rfl (fun _ => rfl) ?_
  refine dp_s1 hF (i := .getfield 54) rfl (fun _ => rfl) ?_
  refine dp_s1 hF (i := .getfield 73) rfl (fun _ => rfl) ?_
  refine dp_s1 hF (i := .iload_n 1) rfl (fun _ => rfl) ?_
  refine dp_s3 hF (i := .iaload) rfl (fun _ => rfl) ?_
  refine dp_s2 hF (i := .ifCond .ne 19) (a := (22, [some (.ref 37), some (.int v1), some (.int v2), some (.int r2)], [], M1)) (b := (38, [some (.ref 37), some (.int v1), some (.int v2), some (.int r2)], [], M1)) rfl (fun _ => rfl) ?_ ?_
  · refine dp_s1 hF (i := .iload_n 2) rfl (fun _ => rfl) ?_
    refine dp_s1 hF (i := .aload_n 0) rfl (fun _ => rfl) ?_
    refine dp_s1 hF (i := .iload_n 1) rfl (fun _ => rfl) ?_
    refine dp_si (mj := dp_m_X1_kilograms) (i := .invokevirtual 65) rfl rfl (Or.inl rfl) rfl (fun _ => rfl) (fun r4 M3 => ?_)
    refine dp_s1 hF (i := .aload_n 0) rfl (fun _ => rfl) ?_
    refine dp_s1 hF (i := .getfield 23) rfl (fun _ => rfl) ?_
    refine dp_s1 hF (i := .iload_n 1) rfl (fun _ => rfl) ?_
    refine dp_s3 hF (i := .iaload) rfl (fun _ => rfl) ?_
    refine dp_s1 hF (i := .isub) rfl (fun _ => rfl) ?_
    refine dp_s2 hF (i := .if_icmp .le 5) (a := (40, [some (.ref 37), some (.int v1), some (.int v2), some (.int r2)], [], M3)) (b := (38, [some (.ref 37), some (.int v1), some (.int v2), some (.int r2)], [], M3)) rfl (fun _ => rfl) ?_ ?_
    · refine dp_s1 hF (i := .aload_n 0) rfl (fun _ => rfl) ?_
      refine dp_s1 hF (i := .getfield 23) rfl (fun _ => rfl) ?_
      refine dp_s1 hF (i := .iload_n 1) rfl (fun _ => rfl) ?_
      refine dp_s1 hF (i := .dup2) rfl (fun _ => rfl) ?_
      refine dp_s3 hF (i := .iaload) rfl (fun _ => rfl) ?_
      refine dp_s1 hF (i := .iload_n 2) rfl (fun _ => rfl) ?_
      refine dp_s1 hF (i := .iadd) rfl (fun _ => rfl) ?_
      refine dp_s3w (dp_setI M3 41 (Int32.toNatClampNeg v1) ((dp_I M3 41 (Int32.toNatClampNeg v1)) + v2)) (fun (M5 : dp_M) => (50, [some (.ref 37), some (.int v1), some (.int v2), some (.int r2)], [], M5)) hF (i := .iastore) rfl (fun _ => rfl) (fun M5 => ?_)
      refine dp_s1 hF (i := .aload_n 0) rfl (fun _ => rfl) ?_
      refine dp_s1 hF (i := .iload_n 1) rfl (fun _ => rfl) ?_
      refine dp_s1 hF (i := .iconst 2) rfl (fun _ => rfl) ?_
      refine dp_sv (mj := dp_m_X1_tell) (i := .invokevirtual 80) rfl rfl rfl rfl (fun _ => rfl) (fun M6 => ?_)
      refine dp_s1 hF (i := .aload_n 0) rfl (fun _ => rfl) ?_
      refine dp_s1 hF (i := .getfield 23) rfl (fun _ => rfl) ?_
      refine dp_s1 hF (i := .iload_n 1) rfl (fun _ => rfl) ?_
      refine dp_s3 hF (i := .iaload) rfl (fun _ => rfl) ?_
      exact dp_s0 hF (i := .ireturn) rfl (fun _ => rfl)
    refine dp_s1 hF (i := .iconst (-1)) rfl (fun _ => rfl) ?_
    exact dp_s0 hF (i := .ireturn) rfl (fun _ => rfl)
  refine dp_s1 hF (i := .iconst (-1)) rfl (fun _ => rfl) ?_
  exact dp_s0 hF (i := .ireturn) rfl (fun _ => rfl)
noncomputable def D_X1_takeBackRelease_0 (xs : Nat → Int32) (xl d : Nat) (v1 : Int32) (M : dp_M) : Option dp_Res := dp_lim true xs xl (dp_den true xs xl d) dp_m_X1_takeBackRelease (0, [some (.ref 37), some (.int v1)], [], M)
theorem D_X1_takeBackRelease_0_den (xs : Nat → Int32) (xl d : Nat) (a0 : Int32) (M : dp_M) : dp_den true xs xl (d + 1) 46 [.ref 37, .int a0] M = D_X1_takeBackRelease_0 xs xl d a0 M := rfl
set_option maxRecDepth 20000 in
theorem D_X1_takeBackRelease_0_eq (xs : Nat → Int32) (xl d : Nat) (v1 : Int32) (M : dp_M) : D_X1_takeBackRelease_0 xs xl d v1 M = if v1 < 0 ∨ 100 ≤ Int32.toNatClampNeg v1 then none else (if (dp_I M 41 (Int32.toNatClampNeg v1)) = 0 then (some (.inl (some (.int (2 : Int32))), M)) else (if v1 < 0 ∨ 100 ≤ Int32.toNatClampNeg v1 then none else (if (dp_I M 11 (Int32.toNatClampNeg v1)) = (1 : Int32) then (dp_bv (dp_den true xs xl d 50 [.ref 37, .int v1, .int (5 : Int32)] M) (fun M1 => some (.inl (some (.int (0 : Int32))), M1))) else (if v1 < 0 ∨ 100 ≤ Int32.toNatClampNeg v1 then none else dp_w (dp_setI M 41 (Int32.toNatClampNeg v1) (0 : Int32)) (fun M2 => dp_bv (dp_den true xs xl d 50 [.ref 37, .int v1, .int (4 : Int32)] M2) (fun M3 => some (.inl (some (.int (1 : Int32))), M3))))))) := by
  have hF := dp_den_grow (md := true) (xs := xs) (xl := xl) d
  unfold D_X1_takeBackRelease_0
  refine dp_s1 hF (i := .aload_n 0) rfl (fun _ => rfl) ?_
  refine dp_s1 hF (i := .getfield 23) rfl (fun _ => rfl) ?_
  refine dp_s1 hF (i := .iload_n 1) rfl (fun _ => rfl) ?_
  refine dp_s3 hF (i := .iaload) rfl (fun _ => rfl) ?_
  refine dp_s2 hF (i := .ifCond .ne 5) (a := (9, [some (.ref 37), some (.int v1)], [], M)) (b := (11, [some (.ref 37), some (.int v1)], [], M)) rfl (fun _ => rfl) ?_ ?_
  · refine dp_s1 hF (i := .iconst 2) rfl (fun _ => rfl) ?_
    exact dp_s0 hF (i := .ireturn) rfl (fun _ => rfl)
  refine dp_s1 hF (i := .aload_n 0) rfl (fun _ => rfl) ?_
  refine dp_s1 hF (i := .getfield 54) rfl (fun _ => rfl) ?_
  refine dp_s1 hF (i := .getfield 73) rfl (fun _ => rfl) ?_
  refine dp_s1 hF (i := .iload_n 1) rfl (fun _ => rfl) ?_
  refine dp_s3 hF (i := .iaload) rfl (fun _ => rfl) ?_
  refine dp_s1 hF (i := .iconst 1) rfl (fun _ => rfl) ?_
  refine dp_s2 hF (i := .if_icmp .ne 11) (a := (24, [some (.ref 37), some (.int v1)], [], M)) (b := (32, [some (.ref 37), some (.int v1)], [], M)) rfl (fun _ => rfl) ?_ ?_
  · refine dp_s1 hF (i := .aload_n 0) rfl (fun _ => rfl) ?_
    refine dp_s1 hF (i := .iload_n 1) rfl (fun _ => rfl) ?_
    refine dp_s1 hF (i := .iconst 5) rfl (fun _ => rfl) ?_
    refine dp_sv (mj := dp_m_X1_tell) (i := .invokevirtual 80) rfl rfl rfl rfl (fun _ => rfl) (fun M1 => ?_)
    refine dp_s1 hF (i := .iconst 0) rfl (fun _ => rfl) ?_
    exact dp_s0 hF (i := .ireturn) rfl (fun _ => rfl)
  refine dp_s1 hF (i := .aload_n 0) rfl (fun _ => rfl) ?_
  refine dp_s1 hF (i := .getfield 23) rfl (fun _ => rfl) ?_
  refine dp_s1 hF (i := .iload_n 1) rfl (fun _ => rfl) ?_
  refine dp_s1 hF (i := .iconst 0) rfl (fun _ => rfl) ?_
  refine dp_s3w (dp_setI M 41 (Int32.toNatClampNeg v1) (0 : Int32)) (fun (M2 : dp_M) => (39, [some (.ref 37), some (.int v1)], [], M2)) hF (i := .iastore) rfl (fun _ => rfl) (fun M2 => ?_)
  refine dp_s1 hF (i := .aload_n 0) rfl (fun _ => rfl) ?_
  refine dp_s1 hF (i := .iload_n 1) rfl (fun _ => rfl) ?_
  refine dp_s1 hF (i := .iconst 4) rfl (fun _ => rfl) ?_
  refine dp_sv (mj := dp_m_X1_tell) (i := .invokevirtual 80) rfl rfl rfl rfl (fun _ => rfl) (fun M3 => ?_)
  refine dp_s1 hF (i := .iconst 1) rfl (fun _ => rfl) ?_
  exact dp_s0 hF (i := .ireturn) rfl (fun _ => rfl)
noncomputable def D_X1_mayLeave_0 (xs : Nat → Int32) (xl d : Nat) (v1 : Int32) (M : dp_M) : Option dp_Res := dp_lim true xs xl (dp_den true xs xl d) dp_m_X1_mayLeave (0, [some (.ref 37), some (.int v1)], [], M)
theorem D_X1_mayLeave_0_den (xs : Nat → Int32) (xl d : Nat) (a0 : Int32) (M : dp_M) : dp_den true xs xl (d + 1) 47 [.ref 37, .int a0] M = D_X1_mayLeave_0 xs xl d a0 M := rfl
set_option maxRecDepth 20000 in
theorem D_X1_mayLeave_0_eq (xs : Nat → Int32) (xl d : Nat) (v1 : Int32) (M : dp_M) : D_X1_mayLeave_0 xs xl d v1 M = dp_bi (dp_den true xs xl d 53 [.ref 1, .int v1] M) (fun r2 M1 => if r2 = 0 then (some (.inl (some (.int (0 : Int32))), M1)) else (if v1 < 0 ∨ 100 ≤ Int32.toNatClampNeg v1 then none else (if (dp_I M1 29 (Int32.toNatClampNeg v1)) = (-1 : Int32) then (some (.inl (some (.int (1 : Int32))), M1)) else (some (.inl (some (.int (0 : Int32))), M1))))) := by
  have hF := dp_den_grow (md := true) (xs := xs) (xl := xl) d
  unfold D_X1_mayLeave_0
  refine dp_s1 hF (i := .aload_n 0) rfl (fun _ => rfl) ?_
  refine dp_s1 hF (i := .getfield 54) rfl (fun _ => rfl) ?_
  refine dp_s1 hF (i := .iload_n 1) rfl (fun _ => rfl) ?_
  refine dp_si (mj := dp_m_X2_isHere) (i := .invokevirtual 121) rfl rfl (Or.inr rfl) rfl (fun _ => rfl) (fun r2 M1 => ?_)
  refine dp_s2 hF (i := .ifCond .eq 20) (a := (28, [some (.ref 37), some (.int v1)], [], M1)) (b := (11, [some (.ref 37), some (.int v1)], [], M1)) rfl (fun _ => rfl) ?_ ?_
  · refine dp_s1 hF (i := .iconst 0) rfl (fun _ => rfl) ?_
    exact dp_s0 hF (i := .ireturn) rfl (fun _ => rfl)
  refine dp_s1 hF (i := .aload_n 0) rfl (fun _ => rfl) ?_
  refine dp_s1 hF (i := .getfield 58) rfl (fun _ => rfl) ?_
  refine dp_s1 hF (i := .getfield 124) rfl (fun _ => rfl) ?_
  refine dp_s1 hF (i := .iload_n 1) rfl (fun _ => rfl) ?_
  refine dp_s3 hF (i := .iaload) rfl (fun _ => rfl) ?_
  refine dp_s1 hF (i := .iconst (-1)) rfl (fun _ => rfl) ?_
  refine dp_s2 hF (i := .if_icmp .ne 7) (a := (24, [some (.ref 37), some (.int v1)], [], M1)) (b := (28, [some (.ref 37), some (.int v1)], [], M1)) rfl (fun _ => rfl) ?_ ?_
  · refine dp_s1 hF (i := .iconst 1) rfl (fun _ => rfl) ?_
    refine dp_s1 hF (i := .goto 4) rfl (fun _ => rfl) ?_
    exact dp_s0 hF (i := .ireturn) rfl (fun _ => rfl)
  refine dp_s1 hF (i := .iconst 0) rfl (fun _ => rfl) ?_
  exact dp_s0 hF (i := .ireturn) rfl (fun _ => rfl)
noncomputable def D_X1_letOut_0 (xs : Nat → Int32) (xl d : Nat) (v1 : Int32) (M : dp_M) : Option dp_Res := dp_lim true xs xl (dp_den true xs xl d) dp_m_X1_letOut (0, [some (.ref 37), some (.int v1)], [], M)
theorem D_X1_letOut_0_den (xs : Nat → Int32) (xl d : Nat) (a0 : Int32) (M : dp_M) : dp_den true xs xl (d + 1) 48 [.ref 37, .int a0] M = D_X1_letOut_0 xs xl d a0 M := rfl
set_option maxRecDepth 20000 in
theorem D_X1_letOut_0_eq (xs : Nat → Int32) (xl d : Nat) (v1 : Int32) (M : dp_M) : D_X1_letOut_0 xs xl d v1 M = dp_bi (dp_den true xs xl d 47 [.ref 37, .int v1] M) (fun r2 M1 => if r2 = 0 then (some (.inl (some (.int (0 : Int32))), M1)) else (dp_bi (dp_den true xs xl d 39 [.ref 37, .int v1] M1) (fun r4 M3 => if r4 = 0 then (some (.inl (some (.int (0 : Int32))), M3)) else (if v1 < 0 ∨ 100 ≤ Int32.toNatClampNeg v1 then none else (dp_bi (dp_den true xs xl d 26 [.ref 37, .int v1] M3) (fun r6 M5 => if (dp_I M3 41 (Int32.toNatClampNeg v1)) = r6 then (if v1 < 0 ∨ 100 ≤ Int32.toNatClampNeg v1 then none else dp_w (dp_setI M5 11 (Int32.toNatClampNeg v1) (1 : Int32)) (fun M7 => dp_bv (dp_den true xs xl d 50 [.ref 37, .int v1, .int (3 : Int32)] M7) (fun M8 => some (.inl (some (.int (1 : Int32))), M8)))) else (some (.inl (some (.int (0 : Int32))), M5)))))))) := by
  have hF := dp_den_grow (md := true) (xs := xs) (xl := xl) d
  unfold D_X1_letOut_0
  refine dp_s1 hF (i := .aload_n 0) rfl (fun _ => rfl) ?_
  refine dp_s1 hF (i := .iload_n 1) rfl (fun _ => rfl) ?_
  refine dp_si (mj := dp_m_X1_mayLeave) (i := .invokevirtual 129) rfl rfl (Or.inr rfl) rfl (fun _ => rfl) (fun r2 M1 => ?_)
  refine dp_s2 hF (i := .ifCond .eq 25) (a := (30, [some (.ref 37), some (.int v1)], [], M1)) (b := (8, [some (.ref 37), some (.int v1)], [], M1)) rfl (fun _ => rfl) ?_ ?_
  · refine dp_s1 hF (i := .iconst 0) rfl (fun _ => rfl) ?_
    exact dp_s0 hF (i := .ireturn) rfl (fun _ => rfl)
  refine dp_s1 hF (i := .aload_n 0) rfl (fun _ => rfl) ?_
  refine dp_s1 hF (i := .iload_n 1) rfl (fun _ => rfl) ?_
  refine dp_si (mj := dp_m_X1_askRelease) (i := .invokevirtual 118) rfl rfl (Or.inr rfl) rfl (fun _ => rfl) (fun r4 M3 => ?_)
  refine dp_s2 hF (i := .ifCond .eq 17) (a := (30, [some (.ref 37), some (.int v1)], [], M3)) (b := (16, [some (.ref 37), some (.int v1)], [], M3)) rfl (fun _ => rfl) ?_ ?_
  · refine dp_s1 hF (i := .iconst 0) rfl (fun _ => rfl) ?_
    exact dp_s0 hF (i := .ireturn) rfl (fun _ => rfl)
  refine dp_s1 hF (i := .aload_n 0) rfl (fun _ => rfl) ?_
  refine dp_s1 hF (i := .getfield 23) rfl (fun _ => rfl) ?_
  refine dp_s1 hF (i := .iload_n 1) rfl (fun _ => rfl) ?_
  refine dp_s3 hF (i := .iaload) rfl (fun _ => rfl) ?_
  refine dp_s1 hF (i := .aload_n 0) rfl (fun _ => rfl) ?_
  refine dp_s1 hF (i := .iload_n 1) rfl (fun _ => rfl) ?_
  refine dp_si (mj := dp_m_X1_kilograms) (i := .invokevirtual 65) rfl rfl (Or.inl rfl) rfl (fun _ => rfl) (fun r6 M5 => ?_)
  refine dp_s2 hF (i := .if_icmp .eq 5) (a := (32, [some (.ref 37), some (.int v1)], [], M5)) (b := (30, [some (.ref 37), some (.int v1)], [], M5)) rfl (fun _ => rfl) ?_ ?_
  · refine dp_s1 hF (i := .aload_n 0) rfl (fun _ => rfl) ?_
    refine dp_s1 hF (i := .getfield 54) rfl (fun _ => rfl) ?_
    refine dp_s1 hF (i := .getfield 73) rfl (fun _ => rfl) ?_
    refine dp_s1 hF (i := .iload_n 1) rfl (fun _ => rfl) ?_
    refine dp_s1 hF (i := .iconst 1) rfl (fun _ => rfl) ?_
    refine dp_s3w (dp_setI M5 11 (Int32.toNatClampNeg v1) (1 : Int32)) (fun (M7 : dp_M) => (42, [some (.ref 37), some (.int v1)], [], M7)) hF (i := .iastore) rfl (fun _ => rfl) (fun M7 => ?_)
    refine dp_s1 hF (i := .aload_n 0) rfl (fun _ => rfl) ?_
    refine dp_s1 hF (i := .iload_n 1) rfl (fun _ => rfl) ?_
    refine dp_s1 hF (i := .iconst 3) rfl (fun _ => rfl) ?_
    refine dp_sv (mj := dp_m_X1_tell) (i := .invokevirtual 80) rfl rfl rfl rfl (fun _ => rfl) (fun M8 => ?_)
    refine dp_s1 hF (i := .iconst 1) rfl (fun _ => rfl) ?_
    exact dp_s0 hF (i := .ireturn) rfl (fun _ => rfl)
  refine dp_s1 hF (i := .iconst 0) rfl (fun _ => rfl) ?_
  exact dp_s0 hF (i := .ireturn) rfl (fun _ => rfl)
noncomputable def D_X1_bond_0 (xs : Nat → Int32) (xl d : Nat) (v1 : Int32) (v2 : Int32) (M : dp_M) : Option dp_Res := dp_lim true xs xl (dp_den true xs xl d) dp_m_X1_bond (0, [some (.ref 37), some (.int v1), some (.int v2)], [], M)
noncomputable def D_X1_bond_30 (xs : Nat → Int32) (xl d : Nat) (v1 : Int32) (v2 : Int32) (M : dp_M) : Option dp_Res := dp_lim true xs xl (dp_den true xs xl d) dp_m_X1_bond (30, [some (.ref 37), some (.int v1), some (.int v2)], [], M)
theorem D_X1_bond_0_den (xs : Nat → Int32) (xl d : Nat) (a0 : Int32) (a1 : Int32) (M : dp_M) : dp_den true xs xl (d + 1) 49 [.ref 37, .int a0, .int a1] M = D_X1_bond_0 xs xl d a0 a1 M := rfl
set_option maxRecDepth 20000 in
theorem D_X1_bond_0_eq (xs : Nat → Int32) (xl d : Nat) (v1 : Int32) (v2 : Int32) (M : dp_M) : D_X1_bond_0 xs xl d v1 v2 M = if v2 = 0 then (if v1 < 0 ∨ 100 ≤ Int32.toNatClampNeg v1 then none else (if (dp_I M 11 (Int32.toNatClampNeg v1)) = (2 : Int32) then (D_X1_bond_30 xs xl d v1 v2 M) else (some (.inl (some (.int (0 : Int32))), M)))) else (dp_bi (dp_den true xs xl d 47 [.ref 37, .int v1] M) (fun r2 M1 => if r2 = 0 then (some (.inl (some (.int (0 : Int32))), M1)) else (D_X1_bond_30 xs xl d v1 v2 M1))) := by
  have hF := dp_den_grow (md := true) (xs := xs) (xl := xl) d
  unfold D_X1_bond_0
  refine dp_s1 hF (i := .iload_n 2) rfl (fun _ => rfl) ?_
  refine dp_s2 hF (i := .ifCond .eq 14) (a := (15, [some (.ref 37), some (.int v1), some (.int v2)], [], M)) (b := (4, [some (.ref 37), some (.int v1), some (.int v2)], [], M)) rfl (fun _ => rfl) ?_ ?_
  · refine dp_s1 hF (i := .aload_n 0) rfl (fun _ => rfl) ?_
    refine dp_s1 hF (i := .getfield 54) rfl (fun _ => rfl) ?_
    refine dp_s1 hF (i := .getfield 73) rfl (fun _ => rfl) ?_
    refine dp_s1 hF (i := .iload_n 1) rfl (fun _ => rfl) ?_
    refine dp_s3 hF (i := .iaload) rfl (fun _ => rfl) ?_
    refine dp_s1 hF (i := .iconst 2) rfl (fun _ => rfl) ?_
    refine dp_s2 hF (i := .if_icmp .eq 5) (a := (30, [some (.ref 37), some (.int v1), some (.int v2)], [], M)) (b := (28, [some (.ref 37), some (.int v1), some (.int v2)], [], M)) rfl (fun _ => rfl) ?_ ?_
    · exact rfl
    refine dp_s1 hF (i := .iconst 0) rfl (fun _ => rfl) ?_
    exact dp_s0 hF (i := .ireturn) rfl (fun _ => rfl)
  refine dp_s1 hF (i := .aload_n 0) rfl (fun _ => rfl) ?_
  refine dp_s1 hF (i := .iload_n 1) rfl (fun _ => rfl) ?_
  refine dp_si (mj := dp_m_X1_mayLeave) (i := .invokevirtual 129) rfl rfl (Or.inr rfl) rfl (fun _ => rfl) (fun r2 M1 => ?_)
  refine dp_s2 hF (i := .ifCond .ne 21) (a := (12, [some (.ref 37), some (.int v1), some (.int v2)], [], M1)) (b := (30, [some (.ref 37), some (.int v1), some (.int v2)], [], M1)) rfl (fun _ => rfl) ?_ ?_
  · refine dp_s1 hF (i := .goto 16) rfl (fun _ => rfl) ?_
    refine dp_s1 hF (i := .iconst 0) rfl (fun _ => rfl) ?_
    exact dp_s0 hF (i := .ireturn) rfl (fun _ => rfl)
  exact rfl
set_option maxRecDepth 20000 in
theorem D_X1_bond_30_eq (xs : Nat → Int32) (xl d : Nat) (v1 : Int32) (v2 : Int32) (M : dp_M) : D_X1_bond_30 xs xl d v1 v2 M = if v2 = 0 then (if v1 < 0 ∨ 100 ≤ Int32.toNatClampNeg v1 then none else dp_w (dp_setI M 11 (Int32.toNatClampNeg v1) (0 : Int32)) (fun M1 => some (.inl (some (.int (1 : Int32))), M1))) else (if v1 < 0 ∨ 100 ≤ Int32.toNatClampNeg v1 then none else dp_w (dp_setI M 11 (Int32.toNatClampNeg v1) (2 : Int32)) (fun M2 => some (.inl (some (.int (1 : Int32))), M2))) := by
  have hF := dp_den_grow (md := true) (xs := xs) (xl := xl) d
  unfold D_X1_bond_30
  refine dp_s1 hF (i := .aload_n 0) rfl (fun _ => rfl) ?_
  refine dp_s1 hF (i := .getfield 54) rfl (fun _ => rfl) ?_
  refine dp_s1 hF (i := .getfield 73) rfl (fun _ => rfl) ?_
  refine dp_s1 hF (i := .iload_n 1) rfl (fun _ => rfl) ?_
  refine dp_s1 hF (i := .iload_n 2) rfl (fun _ => rfl) ?_
  refine dp_s2 hF (i := .ifCond .eq 7) (a := (46, [some (.ref 37), some (.int v1), some (.int v2)], [.int v1, .ref 11], M)) (b := (42, [some (.ref 37), some (.int v1), some (.int v2)], [.int v1, .ref 11], M)) rfl (fun _ => rfl) ?_ ?_
  · refine dp_s1 hF (i := .iconst 0) rfl (fun _ => rfl) ?_
    refine dp_s3w (dp_setI M 11 (Int32.toNatClampNeg v1) (0 : Int32)) (fun (M1 : dp_M) => (48, [some (.ref 37), some (.int v1), some (.int v2)], [], M1)) hF (i := .iastore) rfl (fun _ => rfl) (fun M1 => ?_)
    refine dp_s1 hF (i := .iconst 1) rfl (fun _ => rfl) ?_
    exact dp_s0 hF (i := .ireturn) rfl (fun _ => rfl)
  refine dp_s1 hF (i := .iconst 2) rfl (fun _ => rfl) ?_
  refine dp_s1 hF (i := .goto 4) rfl (fun _ => rfl) ?_
  refine dp_s3w (dp_setI M 11 (Int32.toNatClampNeg v1) (2 : Int32)) (fun (M2 : dp_M) => (48, [some (.ref 37), some (.int v1), some (.int v2)], [], M2)) hF (i := .iastore) rfl (fun _ => rfl) (fun M2 => ?_)
  refine dp_s1 hF (i := .iconst 1) rfl (fun _ => rfl) ?_
  exact dp_s0 hF (i := .ireturn) rfl (fun _ => rfl)
noncomputable def D_X1_tell_0 (xs : Nat → Int32) (xl d : Nat) (v1 : Int32) (v2 : Int32) (M : dp_M) : Option dp_Res := dp_lim true xs xl (dp_den true xs xl d) dp_m_X1_tell (0, [some (.ref 37), some (.int v1), some (.int v2)], [], M)
theorem D_X1_tell_0_den (xs : Nat → Int32) (xl d : Nat) (a0 : Int32) (a1 : Int32) (M : dp_M) : dp_den true xs xl (d + 1) 50 [.ref 37, .int a0, .int a1] M = D_X1_tell_0 xs xl d a0 a1 M := rfl
set_option maxRecDepth 20000 in
theorem D_X1_tell_0_eq (xs : Nat → Int32) (xl d : Nat) (v1 : Int32) (v2 : Int32) (M : dp_M) : D_X1_tell_0 xs xl d v1 v2 M = if (64 : Int32) = 0 then none else (if (dp_fm (dp_I M 37 3) (64 : Int32)) < 0 ∨ 64 ≤ Int32.toNatClampNeg (dp_fm (dp_I M 37 3) (64 : Int32)) then none else dp_w (dp_setI M 50 (Int32.toNatClampNeg (dp_fm (dp_I M 37 3) (64 : Int32))) (((10 : Int32) * v1) + v2)) (fun M1 => dp_w (dp_setI M1 37 3 ((dp_I M1 37 3) + (1 : Int32))) (fun M2 => some (.inl none, M2)))) := by
  have hF := dp_den_grow (md := true) (xs := xs) (xl := xl) d
  unfold D_X1_tell_0
  refine dp_s1 hF (i := .aload_n 0) rfl (fun _ => rfl) ?_
  refine dp_s1 hF (i := .getfield 51) rfl (fun _ => rfl) ?_
  refine dp_s1 hF (i := .aload_n 0) rfl (fun _ => rfl) ?_
  refine dp_s1 hF (i := .getfield 132) rfl (fun _ => rfl) ?_
  refine dp_s1 hF (i := .bipush 64) rfl (fun _ => rfl) ?_
  refine dp_s3 hF (i := .invokestatic 135) rfl (fun _ => rfl) ?_
  refine dp_s1 hF (i := .bipush 10) rfl (fun _ => rfl) ?_
  refine dp_s1 hF (i := .iload_n 1) rfl (fun _ => rfl) ?_
  refine dp_s1 hF (i := .imul) rfl (fun _ => rfl) ?_
  refine dp_s1 hF (i := .iload_n 2) rfl (fun _ => rfl) ?_
  refine dp_s1 hF (i := .iadd) rfl (fun _ => rfl) ?_
  refine dp_s3w (dp_setI M 50 (Int32.toNatClampNeg (dp_fm (dp_I M 37 3) (64 : Int32))) (((10 : Int32) * v1) + v2)) (fun (M1 : dp_M) => (20, [some (.ref 37), some (.int v1), some (.int v2)], [], M1)) hF (i := .iastore) rfl (fun _ => rfl) (fun M1 => ?_)
  refine dp_s1 hF (i := .aload_n 0) rfl (fun _ => rfl) ?_
  refine dp_s1 hF (i := .dup) rfl (fun _ => rfl) ?_
  refine dp_s1 hF (i := .getfield 132) rfl (fun _ => rfl) ?_
  refine dp_s1 hF (i := .iconst 1) rfl (fun _ => rfl) ?_
  refine dp_s1 hF (i := .iadd) rfl (fun _ => rfl) ?_
  refine dp_s1w (dp_setI M1 37 3 ((dp_I M1 37 3) + (1 : Int32))) (fun (M2 : dp_M) => (30, [some (.ref 37), some (.int v1), some (.int v2)], [], M2)) hF (i := .putfield 132) rfl (fun _ => rfl) (fun M2 => ?_)
  exact dp_s0 hF (i := .return_) rfl (fun _ => rfl)
noncomputable def D_X1_keptNotice_0 (xs : Nat → Int32) (xl d : Nat) (v1 : Int32) (M : dp_M) : Option dp_Res := dp_lim true xs xl (dp_den true xs xl d) dp_m_X1_keptNotice (0, [some (.ref 37), some (.int v1), none], [], M)
theorem D_X1_keptNotice_0_den (xs : Nat → Int32) (xl d : Nat) (a0 : Int32) (M : dp_M) : dp_den true xs xl (d + 1) 51 [.ref 37, .int a0] M = D_X1_keptNotice_0 xs xl d a0 M := rfl
set_option maxRecDepth 20000 in
theorem D_X1_keptNotice_0_eq (xs : Nat → Int32) (xl d : Nat) (v1 : Int32) (M : dp_M) : D_X1_keptNotice_0 xs xl d v1 M = dp_w (if (64 : Int32) < (dp_I M 37 3) then (64 : Int32) else (dp_I M 37 3)) (fun y1 => if v1 < 0 then (some (.inl (some (.int (-1 : Int32))), M)) else (if y1 ≤ v1 then (some (.inl (some (.int (-1 : Int32))), M)) else (if (64 : Int32) = 0 then none else (if (dp_fm (((dp_I M 37 3) - y1) + v1) (64 : Int32)) < 0 ∨ 64 ≤ Int32.toNatClampNeg (dp_fm (((dp_I M 37 3) - y1) + v1) (64 : Int32)) then none else (some (.inl (some (.int (dp_I M 50 (Int32.toNatClampNeg (dp_fm (((dp_I M 37 3) - y1) + v1) (64 : Int32)))))), M)))))) := by
  have hF := dp_den_grow (md := true) (xs := xs) (xl := xl) d
  unfold D_X1_keptNotice_0
  refine dp_s1 hF (i := .aload_n 0) rfl (fun _ => rfl) ?_
  refine dp_s1 hF (i := .getfield 132) rfl (fun _ => rfl) ?_
  refine dp_s1 hF (i := .bipush 64) rfl (fun _ => rfl) ?_
  refine dp_s1 hF (i := .invokestatic 84) rfl (fun _ => rfl) ?_
  refine dp_s1w (if (64 : Int32) < (dp_I M 37 3) then (64 : Int32) else (dp_I M 37 3)) (fun (y1 : Int32) => (10, [some (.ref 37), some (.int v1), some (.int y1)], [], M)) hF (i := .istore_n 2) rfl (fun _ => rfl) (fun y1 => ?_)
  refine dp_s1 hF (i := .iload_n 1) rfl (fun _ => rfl) ?_
  refine dp_s2 hF (i := .ifCond .lt 29) (a := (40, [some (.ref 37), some (.int v1), some (.int y1)], [], M)) (b := (14, [some (.ref 37), some (.int v1), some (.int y1)], [], M)) rfl (fun _ => rfl) ?_ ?_
  · refine dp_s1 hF (i := .iconst (-1)) rfl (fun _ => rfl) ?_
    exact dp_s0 hF (i := .ireturn) rfl (fun _ => rfl)
  refine dp_s1 hF (i := .iload_n 1) rfl (fun _ => rfl) ?_
  refine dp_s1 hF (i := .iload_n 2) rfl (fun _ => rfl) ?_
  refine dp_s2 hF (i := .if_icmp .ge 24) (a := (40, [some (.ref 37), some (.int v1), some (.int y1)], [], M)) (b := (19, [some (.ref 37), some (.int v1), some (.int y1)], [], M)) rfl (fun _ => rfl) ?_ ?_
  · refine dp_s1 hF (i := .iconst (-1)) rfl (fun _ => rfl) ?_
    exact dp_s0 hF (i := .ireturn) rfl (fun _ => rfl)
  refine dp_s1 hF (i := .aload_n 0) rfl (fun _ => rfl) ?_
  refine dp_s1 hF (i := .getfield 51) rfl (fun _ => rfl) ?_
  refine dp_s1 hF (i := .aload_n 0) rfl (fun _ => rfl) ?_
  refine dp_s1 hF (i := .getfield 132) rfl (fun _ => rfl) ?_
  refine dp_s1 hF (i := .iload_n 2) rfl (fun _ => rfl) ?_
  refine dp_s1 hF (i := .isub) rfl (fun _ => rfl) ?_
  refine dp_s1 hF (i := .iload_n 1) rfl (fun _ => rfl) ?_
  refine dp_s1 hF (i := .iadd) rfl (fun _ => rfl) ?_
  refine dp_s1 hF (i := .bipush 64) rfl (fun _ => rfl) ?_
  refine dp_s3 hF (i := .invokestatic 135) rfl (fun _ => rfl) ?_
  refine dp_s3 hF (i := .iaload) rfl (fun _ => rfl) ?_
  refine dp_s1 hF (i := .goto 4) rfl (fun _ => rfl) ?_
  exact dp_s0 hF (i := .ireturn) rfl (fun _ => rfl)
