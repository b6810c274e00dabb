noncomputable def D_X10_boxAt_0 (xs : Nat → Int32) (xl d : Nat) (v1 : Int32) (v2 : Int32) (M : dp_M) : Option dp_Res := dp_lim true xs xl (dp_den true xs xl d) dp_m_X10_boxAt (0, [some (.ref 28), some (.int v1), some (.int v2)], [], M)
theorem D_X10_boxAt_0_den (xs : Nat → Int32) (xl d : Nat) (a0 : Int32) (a1 : Int32) (M : dp_M) : dp_den true xs xl (d + 1) 226 [.ref 28, .int a0, .int a1] M = D_X10_boxAt_0 xs xl d a0 a1 M := rfl
set_option maxRecDepth 20000 in
theorem D_X10_boxAt_0_eq (xs : Nat → Int32) (xl d : Nat) (v1 : Int32) (v2 : Int32) (M : dp_M) : D_X10_boxAt_0 xs xl d v1 v2 M = if v2 < 0 then (some (.inl (some (.int (-1 : Int32))), M)) else (if v1 < 0 ∨ dp_len M 33 ≤ Int32.toNatClampNeg v1 then none else (if (dp_I M 33 (Int32.toNatClampNeg v1)) ≤ v2 then (some (.inl (some (.int (-1 : Int32))), M)) else (if ((v1 * (dp_I M 28 2)) + v2) < 0 ∨ dp_len M 36 ≤ Int32.toNatClampNeg ((v1 * (dp_I M 28 2)) + v2) then none else (some (.inl (some (.int (dp_I M 36 (Int32.toNatClampNeg ((v1 * (dp_I M 28 2)) + v2))))), M))))) := by
  have hF := dp_den_grow (md := true) (xs := xs) (xl := xl) d
  unfold D_X10_boxAt_0
  refine dp_s1 hF (i := .iload_n 2) rfl (fun _ => rfl) ?_
  refine dp_s2 hF (i := .ifCond .lt 29) (a := (30, [some (.ref 28), some (.int v1), some (.int v2)], [], M)) (b := (4, [some (.ref 28), some (.int v1), some (.int v2)], [], M)) rfl (fun _ => rfl) ?_ ?_
  · refine dp_s1 hF (i := .iconst (-1)) rfl (fun _ => rfl) ?_
    exact dp_s0 hF (i := .ireturn) rfl (fun _ => rfl)
  refine dp_s1 hF (i := .iload_n 2) rfl (fun _ => rfl) ?_
  refine dp_s1 hF (i := .aload_n 0) rfl (fun _ => rfl) ?_
  refine dp_s1 hF (i := .getfield 40) rfl (fun _ => rfl) ?_
  refine dp_s1 hF (i := .iload_n 1) rfl (fun _ => rfl) ?_
  refine dp_s3 hF (i := .iaload) rfl (fun _ => rfl) ?_
  refine dp_s2 hF (i := .if_icmp .ge 19) (a := (30, [some (.ref 28), some (.int v1), some (.int v2)], [], M)) (b := (14, [some (.ref 28), some (.int v1), some (.int v2)], [], M)) rfl (fun _ => rfl) ?_ ?_
  · refine dp_s1 hF (i := .iconst (-1)) rfl (fun _ => rfl) ?_
    exact dp_s0 hF (i := .ireturn) rfl (fun _ => rfl)
  refine dp_s1 hF (i := .aload_n 0) rfl (fun _ => rfl) ?_
  refine dp_s1 hF (i := .getfield 49) rfl (fun _ => rfl) ?_
  refine dp_s1 hF (i := .iload_n 1) rfl (fun _ => rfl) ?_
  refine dp_s1 hF (i := .aload_n 0) rfl (fun _ => rfl) ?_
  refine dp_s1 hF (i := .getfield 34) rfl (fun _ => rfl) ?_
  refine dp_s1 hF (i := .imul) rfl (fun _ => rfl) ?_
  refine dp_s1 hF (i := .iload_n 2) rfl (fun _ => rfl) ?_
  refine dp_s1 hF (i := .iadd) rfl (fun _ => rfl) ?_
  refine dp_s3 hF (i := .iaload) rfl (fun _ => rfl) ?_
  refine dp_s1 hF (i := .goto 4) rfl (fun _ => rfl) ?_
  exact dp_s0 hF (i := .ireturn) rfl (fun _ => rfl)
noncomputable def D_X10_topOf_0 (xs : Nat → Int32) (xl d : Nat) (v1 : Int32) (M : dp_M) : Option dp_Res := dp_lim true xs xl (dp_den true xs xl d) dp_m_X10_topOf (0, [some (.ref 28), some (.int v1)], [], M)
theorem D_X10_topOf_0_den (xs : Nat → Int32) (xl d : Nat) (a0 : Int32) (M : dp_M) : dp_den true xs xl (d + 1) 227 [.ref 28, .int a0] M = D_X10_topOf_0 xs xl d a0 M := rfl
set_option maxRecDepth 20000 in
theorem D_X10_topOf_0_eq (xs : Nat → Int32) (xl d : Nat) (v1 : Int32) (M : dp_M) : D_X10_topOf_0 xs xl d v1 M = if v1 < 0 ∨ dp_len M 33 ≤ Int32.toNatClampNeg v1 then none else (dp_bi (dp_den true xs xl d 226 [.ref 28, .int v1, .int ((dp_I M 33 (Int32.toNatClampNeg v1)) - (1 : Int32))] M) (fun r2 M1 => some (.inl (some (.int r2)), M1))) := by
  have hF := dp_den_grow (md := true) (xs := xs) (xl := xl) d
  unfold D_X10_topOf_0
  refine dp_s1 hF (i := .aload_n 0) rfl (fun _ => rfl) ?_
  refine dp_s1 hF (i := .iload_n 1) rfl (fun _ => rfl) ?_
  refine dp_s1 hF (i := .aload_n 0) rfl (fun _ => rfl) ?_
  refine dp_s1 hF (i := .getfield 40) rfl (fun _ => rfl) ?_
  refine dp_s1 hF (i := .iload_n 1) rfl (fun _ => rfl) ?_
  refine dp_s3 hF (i := .iaload) rfl (fun _ => rfl) ?_
  refine dp_s1 hF (i := .iconst 1) rfl (fun _ => rfl) ?_
  refine dp_s1 hF (i := .isub) rfl (fun _ => rfl) ?_
  refine dp_si (mj := dp_m_X10_boxAt) (i := .invokevirtual 58) rfl rfl (Or.inl rfl) rfl (fun _ => rfl) (fun r2 M1 => ?_)
  exact dp_s0 hF (i := .ireturn) rfl (fun _ => rfl)
noncomputable def D_X10_isOnTop_0 (xs : Nat → Int32) (xl d : Nat) (v1 : Int32) (M : dp_M) : Option dp_Res := dp_lim true xs xl (dp_den true xs xl d) dp_m_X10_isOnTop (0, [some (.ref 28), some (.int v1)], [], M)
theorem D_X10_isOnTop_0_den (xs : Nat → Int32) (xl d : Nat) (a0 : Int32) (M : dp_M) : dp_den true xs xl (d + 1) 228 [.ref 28, .int a0] M = D_X10_isOnTop_0 xs xl d a0 M := rfl
set_option maxRecDepth 20000 in
theorem D_X10_isOnTop_0_eq (xs : Nat → Int32) (xl d : Nat) (v1 : Int32) (M : dp_M) : D_X10_isOnTop_0 xs xl d v1 M = if v1 < 0 ∨ 100 ≤ Int32.toNatClampNeg v1 then none else (if (dp_I M 29 (Int32.toNatClampNeg v1)) = (-1 : Int32) then (some (.inl (some (.int (0 : Int32))), M)) else (if v1 < 0 ∨ 100 ≤ Int32.toNatClampNeg v1 then none else (dp_bi (dp_den true xs xl d 227 [.ref 28, .int (dp_I M 29 (Int32.toNatClampNeg v1))] M) (fun r2 M1 => if r2 = v1 then (some (.inl (some (.int (1 : Int32))), M1)) else (some (.inl (some (.int (0 : Int32))), M1)))))) := by
  have hF := dp_den_grow (md := true) (xs := xs) (xl := xl) d
  unfold D_X10_isOnTop_0
  refine dp_s1 hF (i := .aload_n 0) rfl (fun _ => rfl) ?_
  refine dp_s1 hF (i := .getfield 11) rfl (fun _ => rfl) ?_
  refine dp_s1 hF (i := .iload_n 1) rfl (fun _ => rfl) ?_
  refine dp_s3 hF (i := .iaload) rfl (fun _ => rfl) ?_
  refine dp_s1 hF (i := .iconst (-1)) rfl (fun _ => rfl) ?_
  refine dp_s2 hF (i := .if_icmp .eq 21) (a := (28, [some (.ref 28), some (.int v1)], [], M)) (b := (10, [some (.ref 28), some (.int v1)], [], M)) rfl (fun _ => rfl) ?_ ?_
  · refine dp_s1 hF (i := .iconst 0) rfl (fun _ => rfl) ?_
    exact dp_s0 hF (i := .ireturn) rfl (fun _ => rfl)
  refine dp_s1 hF (i := .aload_n 0) rfl (fun _ => rfl) ?_
  refine dp_s1 hF (i := .aload_n 0) rfl (fun _ => rfl) ?_
  refine dp_s1 hF (i := .getfield 11) rfl (fun _ => rfl) ?_
  refine dp_s1 hF (i := .iload_n 1) rfl (fun _ => rfl) ?_
  refine dp_s3 hF (i := .iaload) rfl (fun _ => rfl) ?_
  refine dp_si (mj := dp_m_X10_topOf) (i := .invokevirtual 62) rfl rfl (Or.inl rfl) rfl (fun _ => rfl) (fun r2 M1 => ?_)
  refine dp_s1 hF (i := .iload_n 1) rfl (fun _ => rfl) ?_
  refine dp_s2 hF (i := .if_icmp .ne 7) (a := (24, [some (.ref 28), some (.int v1)], [], M1)) (b := (28, [some (.ref 28), some (.int v1)], [], M1)) rfl (fun _ => rfl) ?_ ?_
  · refine dp_s1 hF (i := .iconst 1) rfl (fun _ => rfl) ?_
    refine dp_s1 hF (i := .goto 4) rfl (fun _ => rfl) ?_
    exact dp_s0 hF (i := .ireturn) rfl (fun _ => rfl)
  refine dp_s1 hF (i := .iconst 0) rfl (fun _ => rfl) ?_
  exact dp_s0 hF (i := .ireturn) rfl (fun _ => rfl)
noncomputable def D_X10_above_0 (xs : Nat → Int32) (xl d : Nat) (v1 : Int32) (M : dp_M) : Option dp_Res := dp_lim true xs xl (dp_den true xs xl d) dp_m_X10_above (0, [some (.ref 28), some (.int v1)], [], M)
theorem D_X10_above_0_den (xs : Nat → Int32) (xl d : Nat) (a0 : Int32) (M : dp_M) : dp_den true xs xl (d + 1) 229 [.ref 28, .int a0] M = D_X10_above_0 xs xl d a0 M := rfl
set_option maxRecDepth 20000 in
theorem D_X10_above_0_eq (xs : Nat → Int32) (xl d : Nat) (v1 : Int32) (M : dp_M) : D_X10_above_0 xs xl d v1 M = if v1 < 0 ∨ 100 ≤ Int32.toNatClampNeg v1 then none else (if (dp_I M 29 (Int32.toNatClampNeg v1)) = (-1 : Int32) then (some (.inl (some (.int (0 : Int32))), M)) else (if v1 < 0 ∨ 100 ≤ Int32.toNatClampNeg v1 then none else (if (dp_I M 29 (Int32.toNatClampNeg v1)) < 0 ∨ dp_len M 33 ≤ Int32.toNatClampNeg (dp_I M 29 (Int32.toNatClampNeg v1)) then none else (if v1 < 0 ∨ 100 ≤ Int32.toNatClampNeg v1 then none else (some (.inl (some (.int (((dp_I M 33 (Int32.toNatClampNeg (dp_I M 29 (Int32.toNatClampNeg v1)))) - (1 : Int32)) - (dp_I M 30 (Int32.toNatClampNeg v1))))), M)))))) := by
  have hF := dp_den_grow (md := true) (xs := xs) (xl := xl) d
  unfold D_X10_above_0
  refine dp_s1 hF (i := .aload_n 0) rfl (fun _ => rfl) ?_
  refine dp_s1 hF (i := .getfield 11) rfl (fun _ => rfl) ?_
  refine dp_s1 hF (i := .iload_n 1) rfl (fun _ => rfl) ?_
  refine dp_s3 hF (i := .iaload) rfl (fun _ => rfl) ?_
  refine dp_s1 hF (i := .iconst (-1)) rfl (fun _ => rfl) ?_
  refine dp_s2 hF (i := .if_icmp .ne 7) (a := (10, [some (.ref 28), some (.int v1)], [], M)) (b := (14, [some (.ref 28), some (.int v1)], [], M)) rfl (fun _ => rfl) ?_ ?_
  · refine dp_s1 hF (i := .iconst 0) rfl (fun _ => rfl) ?_
    refine dp_s1 hF (i := .goto 23) rfl (fun _ => rfl) ?_
    exact dp_s0 hF (i := .ireturn) rfl (fun _ => rfl)
  refine dp_s1 hF (i := .aload_n 0) rfl (fun _ => rfl) ?_
  refine dp_s1 hF (i := .getfield 40) rfl (fun _ => rfl) ?_
  refine dp_s1 hF (i := .aload_n 0) rfl (fun _ => rfl) ?_
  refine dp_s1 hF (i := .getfield 11) rfl (fun _ => rfl) ?_
  refine dp_s1 hF (i := .iload_n 1) rfl (fun _ => rfl) ?_
  refine dp_s3 hF (i := .iaload) rfl (fun _ => rfl) ?_
  refine dp_s3 hF (i := .iaload) rfl (fun _ => rfl) ?_
  refine dp_s1 hF (i := .iconst 1) rfl (fun _ => rfl) ?_
  refine dp_s1 hF (i := .isub) rfl (fun _ => rfl) ?_
  refine dp_s1 hF (i := .aload_n 0) rfl (fun _ => rfl) ?_
  refine dp_s1 hF (i := .getfield 17) rfl (fun _ => rfl) ?_
  refine dp_s1 hF (i := .iload_n 1) rfl (fun _ => rfl) ?_
  refine dp_s3 hF (i := .iaload) rfl (fun _ => rfl) ?_
  refine dp_s1 hF (i := .isub) rfl (fun _ => rfl) ?_
  exact dp_s0 hF (i := .ireturn) rfl (fun _ => rfl)
noncomputable def D_X10_weightOf_0 (xs : Nat → Int32) (xl d : Nat) (v1 : Int32) (M : dp_M) : Option dp_Res := dp_lim true xs xl (dp_den true xs xl d) dp_m_X10_weightOf (0, [some (.ref 28), some (.int v1), none, none], [], M)
noncomputable def D_X10_weightOf_4 (xs : Nat → Int32) (xl d : Nat) (v1 : Int32) (v2 : Int32) (v3 : Int32) (M : dp_M) : Option dp_Res := dp_lim true xs xl (dp_den true xs xl d) dp_m_X10_weightOf (4, [some (.ref 28), some (.int v1), some (.int v2), some (.int v3)], [], M)
theorem D_X10_weightOf_0_den (xs : Nat → Int32) (xl d : Nat) (a0 : Int32) (M : dp_M) : dp_den true xs xl (d + 1) 230 [.ref 28, .int a0] M = D_X10_weightOf_0 xs xl d a0 M := rfl
set_option maxRecDepth 20000 in
theorem D_X10_weightOf_0_eq (xs : Nat → Int32) (xl d : Nat) (v1 : Int32) (M : dp_M) : D_X10_weightOf_0 xs xl d v1 M = dp_w (0 : Int32) (fun y1 => dp_w (0 : Int32) (fun y2 => D_X10_weightOf_4 xs xl d v1 y1 y2 M)) := by
  have hF := dp_den_grow (md := true) (xs := xs) (xl := xl) d
  unfold D_X10_weightOf_0
  refine dp_s1 hF (i := .iconst 0) rfl (fun _ => rfl) ?_
  refine dp_s1w (0 : Int32) (fun (y1 : Int32) => (2, [some (.ref 28), some (.int v1), some (.int y1), none], [], M)) hF (i := .istore_n 2) rfl (fun _ => rfl) (fun y1 => ?_)
  refine dp_s1 hF (i := .iconst 0) rfl (fun _ => rfl) ?_
  refine dp_s1w (0 : Int32) (fun (y2 : Int32) => (4, [some (.ref 28), some (.int v1), some (.int y1), some (.int y2)], [], M)) hF (i := .istore_n 3) rfl (fun _ => rfl) (fun y2 => ?_)
  exact rfl
set_option maxRecDepth 20000 in
theorem D_X10_weightOf_4_eq (xs : Nat → Int32) (xl d : Nat) (v1 : Int32) (v2 : Int32) (v3 : Int32) (M : dp_M) : D_X10_weightOf_4 xs xl d v1 v2 v3 M = if v1 < 0 ∨ dp_len M 33 ≤ Int32.toNatClampNeg v1 then none else (if (dp_I M 33 (Int32.toNatClampNeg v1)) ≤ v3 then (some (.inl (some (.int v2)), M)) else (dp_bi (dp_den true xs xl d 226 [.ref 28, .int v1, .int v3] M) (fun r2 M1 => if r2 < 0 ∨ 100 ≤ Int32.toNatClampNeg r2 then none else (dp_w (v2 + (dp_I M1 5 (Int32.toNatClampNeg r2))) (fun y3 => dp_w (v3 + (1 : Int32)) (fun y4 => D_X10_weightOf_4 xs xl d v1 y3 y4 M1)))))) := by
  have hF := dp_den_grow (md := true) (xs := xs) (xl := xl) d
  unfold D_X10_weightOf_4
  refine dp_s1 hF (i := .iload_n 3) rfl (fun _ => rfl) ?_
  refine dp_s1 hF (i := .aload_n 0) rfl (fun _ => rfl) ?_
  refine dp_s1 hF (i := .getfield 40) rfl (fun _ => rfl) ?_
  refine dp_s1 hF (i := .iload_n 1) rfl (fun _ => rfl) ?_
  refine dp_s3 hF (i := .iaload) rfl (fun _ => rfl) ?_
  refine dp_s2 hF (i := .if_icmp .ge 26) (a := (37, [some (.ref 28), some (.int v1), some (.int v2), some (.int v3)], [], M)) (b := (14, [some (.ref 28), some (.int v1), some (.int v2), some (.int v3)], [], M)) rfl (fun _ => rfl) ?_ ?_
  · refine dp_s1 hF (i := .iload_n 2) rfl (fun _ => rfl) ?_
    exact dp_s0 hF (i := .ireturn) rfl (fun _ => rfl)
  refine dp_s1 hF (i := .iload_n 2) rfl (fun _ => rfl) ?_
  refine dp_s1 hF (i := .aload_n 0) rfl (fun _ => rfl) ?_
  refine dp_s1 hF (i := .getfield 26) rfl (fun _ => rfl) ?_
  refine dp_s1 hF (i := .getfield 66) rfl (fun _ => rfl) ?_
  refine dp_s1 hF (i := .aload_n 0) rfl (fun _ => rfl) ?_
  refine dp_s1 hF (i := .iload_n 1) rfl (fun _ => rfl) ?_
  refine dp_s1 hF (i := .iload_n 3) rfl (fun _ => rfl) ?_
  refine dp_si (mj := dp_m_X10_boxAt) (i := .invokevirtual 58) rfl rfl (Or.inl rfl) rfl (fun _ => rfl) (fun r2 M1 => ?_)
  refine dp_s3 hF (i := .iaload) rfl (fun _ => rfl) ?_
  refine dp_s1 hF (i := .iadd) rfl (fun _ => rfl) ?_
  refine dp_s1w (v2 + (dp_I M1 5 (Int32.toNatClampNeg r2))) (fun (y3 : Int32) => (31, [some (.ref 28), some (.int v1), some (.int y3), some (.int v3)], [], M1)) hF (i := .istore_n 2) rfl (fun _ => rfl) (fun y3 => ?_)
  refine dp_s1w (v3 + (1 : Int32)) (fun (y4 : Int32) => (34, [some (.ref 28), some (.int v1), some (.int y3), some (.int y4)], [], M1)) hF (i := .iinc 3 1) rfl (fun _ => rfl) (fun y4 => ?_)
  refine dp_s1 hF (i := .goto (-30)) rfl (fun _ => rfl) ?_
  exact rfl
noncomputable def D_X10_hasOtherShip_0 (xs : Nat → Int32) (xl d : Nat) (v1 : Int32) (v2 : Int32) (M : dp_M) : Option dp_Res := dp_lim true xs xl (dp_den true xs xl d) dp_m_X10_hasOtherShip (0, [some (.ref 28), some (.int v1), some (.int v2), none], [], M)
noncomputable def D_X10_hasOtherShip_2 (xs : Nat → Int32) (xl d : Nat) (v1 : Int32) (v2 : Int32) (v3 : Int32) (M : dp_M) : Option dp_Res := dp_lim true xs xl (dp_den true xs xl d) dp_m_X10_hasOtherShip (2, [some (.ref 28), some (.int v1), some (.int v2), some (.int v3)], [], M)
theorem D_X10_hasOtherShip_0_den (xs : Nat → Int32) (xl d : Nat) (a0 : Int32) (a1 : Int32) (M : dp_M) : dp_den true xs xl (d + 1) 231 [.ref 28, .int a0, .int a1] M = D_X10_hasOtherShip_0 xs xl d a0 a1 M := rfl
set_option maxRecDepth 20000 in
theorem D_X10_hasOtherShip_0_eq (xs : Nat → Int32) (xl d : Nat) (v1 : Int32) (v2 : Int32) (M : dp_M) : D_X10_hasOtherShip_0 xs xl d v1 v2 M = dp_w (0 : Int32) (fun y1 => D_X10_hasOtherShip_2 xs xl d v1 v2 y1 M) := by
  have hF := dp_den_grow (md := true) (xs := xs) (xl := xl) d
  unfold D_X10_hasOtherShip_0
  refine dp_s1 hF (i := .iconst 0) rfl (fun _ => rfl) ?_
  refine dp_s1w (0 : Int32) (fun (y1 : Int32) => (2, [some (.ref 28), some (.int v1), some (.int v2), some (.int y1)], [], M)) hF (i := .istore_n 3) rfl (fun _ => rfl) (fun y1 => ?_)
  exact rfl
set_option maxRecDepth 20000 in
theorem D_X10_hasOtherShip_2_eq (xs : Nat → Int32) (xl d : Nat) (v1 : Int32) (v2 : Int32) (v3 : Int32) (M : dp_M) : D_X10_hasOtherShip_2 xs xl d v1 v2 v3 M = if v1 < 0 ∨ dp_len M 33 ≤ Int32.toNatClampNeg v1 then none else (if (dp_I M 33 (Int32.toNatClampNeg v1)) ≤ v3 then (some (.inl (some (.int (0 : Int32))), M)) else (dp_bi (dp_den true xs xl d 226 [.ref 28, .int v1, .int v3] M) (fun r2 M1 => if r2 < 0 ∨ 100 ≤ Int32.toNatClampNeg r2 then none else (if (dp_I M1 7 (Int32.toNatClampNeg r2)) = v2 then (dp_w (v3 + (1 : Int32)) (fun y3 => D_X10_hasOtherShip_2 xs xl d v1 v2 y3 M1)) else (some (.inl (some (.int (1 : Int32))), M1)))))) := by
  have hF := dp_den_grow (md := true) (xs := xs) (xl := xl) d
  unfold D_X10_hasOtherShip_2
  refine dp_s1 hF (i := .iload_n 3) rfl (fun _ => rfl) ?_
  refine dp_s1 hF (i := .aload_n 0) rfl (fun _ => rfl) ?_
  refine dp_s1 hF (i := .getfield 40) rfl (fun _ => rfl) ?_
  refine dp_s1 hF (i := .iload_n 1) rfl (fun _ => rfl) ?_
  refine dp_s3 hF (i := .iaload) rfl (fun _ => rfl) ?_
  refine dp_s2 hF (i := .if_icmp .ge 29) (a := (38, [some (.ref 28), some (.int v1), some (.int v2), some (.int v3)], [], M)) (b := (12, [some (.ref 28), some (.int v1), some (.int v2), some (.int v3)], [], M)) rfl (fun _ => rfl) ?_ ?_
  · refine dp_s1 hF (i := .iconst 0) rfl (fun _ => rfl) ?_
    exact dp_s0 hF (i := .ireturn) rfl (fun _ => rfl)
  refine dp_s1 hF (i := .aload_n 0) rfl (fun _ => rfl) ?_
  refine dp_s1 hF (i := .getfield 26) rfl (fun _ => rfl) ?_
  refine dp_s1 hF (i := .getfield 69) rfl (fun _ => rfl) ?_
  refine dp_s1 hF (i := .aload_n 0) rfl (fun _ => rfl) ?_
  refine dp_s1 hF (i := .iload_n 1) rfl (fun _ => rfl) ?_
  refine dp_s1 hF (i := .iload_n 3) rfl (fun _ => rfl) ?_
  refine dp_si (mj := dp_m_X10_boxAt) (i := .invokevirtual 58) rfl rfl (Or.inl rfl) rfl (fun _ => rfl) (fun r2 M1 => ?_)
  refine dp_s3 hF (i := .iaload) rfl (fun _ => rfl) ?_
  refine dp_s1 hF (i := .iload_n 2) rfl (fun _ => rfl) ?_
  refine dp_s2 hF (i := .if_icmp .eq 5) (a := (32, [some (.ref 28), some (.int v1), some (.int v2), some (.int v3)], [], M1)) (b := (30, [some (.ref 28), some (.int v1), some (.int v2), some (.int v3)], [], M1)) rfl (fun _ => rfl) ?_ ?_
  · refine dp_s1w (v3 + (1 : Int32)) (fun (y3 : Int32) => (35, [some (.ref 28), some (.int v1), some (.int v2), some (.int y3)], [], M1)) hF (i := .iinc 3 1) rfl (fun _ => rfl) (fun y3 => ?_)
    refine dp_s1 hF (i := .goto (-33)) rfl (fun _ => rfl) ?_
    exact rfl
  refine dp_s1 hF (i := .iconst 1) rfl (fun _ => rfl) ?_
  exact dp_s0 hF (i := .ireturn) rfl (fun _ => rfl)
noncomputable def D_X10_hasOtherSize_0 (xs : Nat → Int32) (xl d : Nat) (v1 : Int32) (v2 : Int32) (M : dp_M) : Option dp_Res := dp_lim true xs xl (dp_den true xs xl d) dp_m_X10_hasOtherSize (0, [some (.ref 28), some (.int v1), some (.int v2), none], [], M)
noncomputable def D_X10_hasOtherSize_2 (xs : Nat → Int32) (xl d : Nat) (v1 : Int32) (v2 : Int32) (v3 : Int32) (M : dp_M) : Option dp_Res := dp_lim true xs xl (dp_den true xs xl d) dp_m_X10_hasOtherSize (2, [some (.ref 28), some (.int v1), some (.int v2), some (.int v3)], [], M)
theorem D_X10_hasOtherSize_0_den (xs : Nat → Int32) (xl d : Nat) (a0 : Int32) (a1 : Int32) (M : dp_M) : dp_den true xs xl (d + 1) 232 [.ref 28, .int a0, .int a1] M = D_X10_hasOtherSize_0 xs xl d a0 a1 M := rfl
set_option maxRecDepth 20000 in
theorem D_X10_hasOtherSize_0_eq (xs : Nat → Int32) (xl d : Nat) (v1 : Int32) (v2 : Int32) (M : dp_M) : D_X10_hasOtherSize_0 xs xl d v1 v2 M = dp_w (0 : Int32) (fun y1 => D_X10_hasOtherSize_2 xs xl d v1 v2 y1 M) := by
  have hF := dp_den_grow (md := true) (xs := xs) (xl := xl) d
  unfold D_X10_hasOtherSize_0
  refine dp_s1 hF (i := .iconst 0) rfl (fun _ => rfl) ?_
  refine dp_s1w (0 : Int32) (fun (y1 : Int32) => (2, [some (.ref 28), some (.int v1), some (.int v2), some (.int y1)], [], M)) hF (i := .istore_n 3) rfl (fun _ => rfl) (fun y1 => ?_)
  exact rfl
set_option maxRecDepth 20000 in
theorem D_X10_hasOtherSize_2_eq (xs : Nat → Int32) (xl d : Nat) (v1 : Int32) (v2 : Int32) (v3 : Int32) (M : dp_M) : D_X10_hasOtherSize_2 xs xl d v1 v2 v3 M = if v1 < 0 ∨ dp_len M 33 ≤ Int32.toNatClampNeg v1 then none else (if (dp_I M 33 (Int32.toNatClampNeg v1)) ≤ v3 then (some (.inl (some (.int (0 : Int32))), M)) else (dp_bi (dp_den true xs xl d 226 [.ref 28, .int v1, .int v3] M) (fun r2 M1 => if r2 < 0 ∨ 100 ≤ Int32.toNatClampNeg r2 then none else (if (dp_I M1 4 (Int32.toNatClampNeg r2)) = v2 then (dp_w (v3 + (1 : Int32)) (fun y3 => D_X10_hasOtherSize_2 xs xl d v1 v2 y3 M1)) else (some (.inl (some (.int (1 : Int32))), M1)))))) := by
  have hF := dp_den_grow (md := true) (xs := xs) (xl := xl) d
  unfold D_X10_hasOtherSize_2
  refine dp_s1 hF (i := .iload_n 3) rfl (fun _ => rfl) ?_
  refine dp_s1 hF (i := .aload_n 0) rfl (fun _ => rfl) ?_
  refine dp_s1 hF (i := .getfield 40) rfl (fun _ => rfl) ?_
  refine dp_s1 hF (i := .iload_n 1) rfl (fun _ => rfl) ?_
  refine dp_s3 hF (i := .iaload) rfl (fun _ => rfl) ?_
  refine dp_s2 hF (i := .if_icmp .ge 29) (a := (38, [some (.ref 28), some (.int v1), some (.int v2), some (.int v3)], [], M)) (b := (12, [some (.ref 28), some (.int v1), some (.int v2), some (.int v3)], [], M)) rfl (fun _ => rfl) ?_ ?_
  · refine dp_s1 hF (i := .iconst 0) rfl (fun _ => rfl) ?_
    exact dp_s0 hF (i := .ireturn) rfl (fun _ => rfl)
  refine dp_s1 hF (i := .aload_n 0) rfl (fun _ => rfl) ?_
  refine dp_s1 hF (i := .getfield 26) rfl (fun _ => rfl) ?_
  refine dp_s1 hF (i := .getfield 72) rfl (fun _ => rfl) ?_
  refine dp_s1 hF (i := .aload_n 0) rfl (fun _ => rfl) ?_
  refine dp_s1 hF (i := .iload_n 1) rfl (fun _ => rfl) ?_
  refine dp_s1 hF (i := .iload_n 3) rfl (fun _ => rfl) ?_
  refine dp_si (mj := dp_m_X10_boxAt) (i := .invokevirtual 58) rfl rfl (Or.inl rfl) rfl (fun _ => rfl) (fun r2 M1 => ?_)
  refine dp_s3 hF (i := .iaload) rfl (fun _ => rfl) ?_
  refine dp_s1 hF (i := .iload_n 2) rfl (fun _ => rfl) ?_
  refine dp_s2 hF (i := .if_icmp .eq 5) (a := (32, [some (.ref 28), some (.int v1), some (.int v2), some (.int v3)], [], M1)) (b := (30, [some (.ref 28), some (.int v1), some (.int v2), some (.int v3)], [], M1)) rfl (fun _ => rfl) ?_ ?_
  · refine dp_s1w (v3 + (1 : Int32)) (fun (y3 : Int32) => (35, [some (.ref 28), some (.int v1), some (.int v2), some (.int y3)], [], M1)) hF (i := .iinc 3 1) rfl (fun _ => rfl) (fun y3 => ?_)
    refine dp_s1 hF (i := .goto (-33)) rfl (fun _ => rfl) ?_
    exact rfl
  refine dp_s1 hF (i := .iconst 1) rfl (fun _ => rfl) ?_
  exact dp_s0 hF (i := .ireturn) rfl (fun _ => rfl)
noncomputable def D_X10_sooner_0 (xs : Nat → Int32) (xl d : Nat) (v1 : Int32) (v2 : Int32) (v3 : Int32) (M : dp_M) : Option dp_Res := dp_lim true xs xl (dp_den true xs xl d) dp_m_X10_sooner (0, [some (.ref 28), some (.int v1), some (.int v2), some (.int v3), none, none], [], M)
noncomputable def D_X10_sooner_6 (xs : Nat → Int32) (xl d : Nat) (v1 : Int32) (v2 : Int32) (v3 : Int32) (v4 : Int32) (v5 : Int32) (M : dp_M) : Option dp_Res := dp_lim true xs xl (dp_den true xs xl d) dp_m_X10_sooner (6, [some (.ref 28), some (.int v1), some (.int v2), some (.int v3), some (.int v4), some (.int v5)], [], M)
theorem D_X10_sooner_0_den (xs : Nat → Int32) (xl d : Nat) (a0 : Int32) (a1 : Int32) (a2 : Int32) (M : dp_M) : dp_den true xs xl (d + 1) 233 [.ref 28, .int a0, .int a1, .int a2] M = D_X10_sooner_0 xs xl d a0 a1 a2 M := rfl
set_option maxRecDepth 20000 in
theorem D_X10_sooner_0_eq (xs : Nat → Int32) (xl d : Nat) (v1 : Int32) (v2 : Int32) (v3 : Int32) (M : dp_M) : D_X10_sooner_0 xs xl d v1 v2 v3 M = dp_w (0 : Int32) (fun y1 => dp_w (0 : Int32) (fun y2 => D_X10_sooner_6 xs xl d v1 v2 v3 y1 y2 M)) := by
  have hF := dp_den_grow (md := true) (xs := xs) (xl := xl) d
  unfold D_X10_sooner_0
  refine dp_s1 hF (i := .iconst 0) rfl (fun _ => rfl) ?_
  refine dp_s1w (0 : Int32) (fun (y1 : Int32) => (3, [some (.ref 28), some (.int v1), some (.int v2), some (.int v3), some (.int y1), none], [], M)) hF (i := .istore 4) rfl (fun _ => rfl) (fun y1 => ?_)
  refine dp_s1 hF (i := .iconst 0) rfl (fun _ => rfl) ?_
  refine dp_s1w (0 : Int32) (fun (y2 : Int32) => (6, [some (.ref 28), some (.int v1), some (.int v2), some (.int v3), some (.int y1), some (.int y2)], [], M)) hF (i := .istore 5) rfl (fun _ => rfl) (fun y2 => ?_)
  exact rfl
set_option maxRecDepth 20000 in
theorem D_X10_sooner_6_eq (xs : Nat → Int32) (xl d : Nat) (v1 : Int32) (v2 : Int32) (v3 : Int32) (v4 : Int32) (v5 : Int32) (M : dp_M) : D_X10_sooner_6 xs xl d v1 v2 v3 v4 v5 M = if v3 ≤ v5 then (some (.inl (some (.int v4)), M)) else (dp_bi (dp_den true xs xl d 226 [.ref 28, .int v2, .int v5] M) (fun r2 M1 => if r2 < 0 ∨ 100 ≤ Int32.toNatClampNeg r2 then none else (if v1 < 0 ∨ 100 ≤ Int32.toNatClampNeg v1 then none else (if (dp_I M1 6 (Int32.toNatClampNeg v1)) ≤ (dp_I M1 6 (Int32.toNatClampNeg r2)) then (dp_w (v4 + (0 : Int32)) (fun y3 => dp_w (v5 + (1 : Int32)) (fun y4 => D_X10_sooner_6 xs xl d v1 v2 v3 y3 y4 M1))) else (dp_w (v4 + (1 : Int32)) (fun y5 => dp_w (v5 + (1 : Int32)) (fun y6 => D_X10_sooner_6 xs xl d v1 v2 v3 y5 y6 M1))))))) := by
  have hF := dp_den_grow (md := true) (xs := xs) (xl := xl) d
  unfold D_X10_sooner_6
  refine dp_s1 hF (i := .iload 5) rfl (fun _ => rfl) ?_
  refine dp_s1 hF (i := .iload_n 3) rfl (fun _ => rfl) ?_
  refine dp_s2 hF (i := .if_icmp .ge 46) (a := (55, [some (.ref 28), some (.int v1), some (.int v2), some (.int v3), some (.int v4), some (.int v5)], [], M)) (b := (12, [some (.ref 28), some (.int v1), some (.int v2), some (.int v3), some (.int v4), some (.int v5)], [], M)) rfl (fun _ => rfl) ?_ ?_
  · refine dp_s1 hF (i := .iload 4) rfl (fun _ => rfl) ?_
    exact dp_s0 hF (i := .ireturn) rfl (fun _ => rfl)
  refine dp_s1 hF (i := .iload 4) rfl (fun _ => rfl) ?_
  refine dp_s1 hF (i := .aload_n 0) rfl (fun _ => rfl) ?_
  refine dp_s1 hF (i := .getfield 26) rfl (fun _ => rfl) ?_
  refine dp_s1 hF (i := .getfield 75) rfl (fun _ => rfl) ?_
  refine dp_s1 hF (i := .aload_n 0) rfl (fun _ => rfl) ?_
  refine dp_s1 hF (i := .iload_n 2) rfl (fun _ => rfl) ?_
  refine dp_s1 hF (i := .iload 5) rfl (fun _ => rfl) ?_
  refine dp_si (mj := dp_m_X10_boxAt) (i := .invokevirtual 58) rfl rfl (Or.inl rfl) rfl (fun _ => rfl) (fun r2 M1 => ?_)
  refine dp_s3 hF (i := .iaload) rfl (fun _ => rfl) ?_
  refine dp_s1 hF (i := .aload_n 0) rfl (fun _ => rfl) ?_
  refine dp_s1 hF (i := .getfield 26) rfl (fun _ => rfl) ?_
  refine dp_s1 hF (i := .getfield 75) rfl (fun _ => rfl) ?_
  refine dp_s1 hF (i := .iload_n 1) rfl (fun _ => rfl) ?_
  refine dp_s3 hF (i := .iaload) rfl (fun _ => rfl) ?_
  refine dp_s2 hF (i := .if_icmp .ge 7) (a := (45, [some (.ref 28), some (.int v1), some (.int v2), some (.int v3), some (.int v4), some (.int v5)], [.int v4], M1)) (b := (41, [some (.ref 28), some (.int v1), some (.int v2), some (.int v3), some (.int v4), some (.int v5)], [.int v4], M1)) rfl (fun _ => rfl) ?_ ?_
  · refine dp_s1 hF (i := .iconst 0) rfl (fun _ => rfl) ?_
    refine dp_s1 hF (i := .iadd) rfl (fun _ => rfl) ?_
    refine dp_s1w (v4 + (0 : Int32)) (fun (y3 : Int32) => (49, [some (.ref 28), some (.int v1), some (.int v2), some (.int v3), some (.int y3), some (.int v5)], [], M1)) hF (i := .istore 4) rfl (fun _ => rfl) (fun y3 => ?_)
    refine dp_s1w (v5 + (1 : Int32)) (fun (y4 : Int32) => (52, [some (.ref 28), some (.int v1), some (.int v2), some (.int v3), some (.int y3), some (.int y4)], [], M1)) hF (i := .iinc 5 1) rfl (fun _ => rfl) (fun y4 => ?_)
    refine dp_s1 hF (i := .goto (-46)) rfl (fun _ => rfl) ?_
    exact rfl
  refine dp_s1 hF (i := .iconst 1) rfl (fun _ => rfl) ?_
  refine dp_s1 hF (i := .goto 4) rfl (fun _ => rfl) ?_
  refine dp_s1 hF (i := .iadd) rfl (fun _ => rfl) ?_
  refine dp_s1w (v4 + (1 : Int32)) (fun (y5 : Int32) => (49, [some (.ref 28), some (.int v1), some (.int v2), some (.int v3), some (.int y5), some (.int v5)], [], M1)) hF (i := .istore 4) rfl (fun _ => rfl) (fun y5 => ?_)
  refine dp_s1w (v5 + (1 : Int32)) (fun (y6 : Int32) => (52, [some (.ref 28), some (.int v1), some (.int v2), some (.int v3), some (.int y5), some (.int y6)], [], M1)) hF (i := .iinc 5 1) rfl (fun _ => rfl) (fun y6 => ?_)
  refine dp_s1 hF (i := .goto (-46)) rfl (fun _ => rfl) ?_
  exact rfl
noncomputable def D_X10_soonerBelow_0 (xs : Nat → Int32) (xl d : Nat) (v1 : Int32) (M : dp_M) : Option dp_Res := dp_lim true xs xl (dp_den true xs xl d) dp_m_X10_soonerBelow (0, [some (.ref 28), some (.int v1)], [], M)
theorem D_X10_soonerBelow_0_den (xs : Nat → Int32) (xl d : Nat) (a0 : Int32) (M : dp_M) : dp_den true xs xl (d + 1) 234 [.ref 28, .int a0] M = D_X10_soonerBelow_0 xs xl d a0 M := rfl
set_option maxRecDepth 20000 in
theorem D_X10_soonerBelow_0_eq (xs : Nat → Int32) (xl d : Nat) (v1 : Int32) (M : dp_M) : D_X10_soonerBelow_0 xs xl d v1 M = if v1 < 0 ∨ 100 ≤ Int32.toNatClampNeg v1 then none else (if (dp_I M 29 (Int32.toNatClampNeg v1)) = (-1 : Int32) then (some (.inl (some (.int (0 : Int32))), M)) else (if v1 < 0 ∨ 100 ≤ Int32.toNatClampNeg v1 then none else (if v1 < 0 ∨ 100 ≤ Int32.toNatClampNeg v1 then none else (dp_bi (dp_den true xs xl d 233 [.ref 28, .int v1, .int (dp_I M 29 (Int32.toNatClampNeg v1)), .int (dp_I M 30 (Int32.toNatClampNeg v1))] M) (fun r2 M1 => some (.inl (some (.int r2)), M1)))))) := by
  have hF := dp_den_grow (md := true) (xs := xs) (xl := xl) d
  unfold D_X10_soonerBelow_0
  refine dp_s1 hF (i := .aload_n 0) rfl (fun _ => rfl) ?_
  refine dp_s1 hF (i := .getfield 11) rfl (fun _ => rfl) ?_
  refine dp_s1 hF (i := .iload_n 1) rfl (fun _ => rfl) ?_
  refine dp_s3 hF (i := .iaload) rfl (fun _ => rfl) ?_
  refine dp_s1 hF (i := .iconst (-1)) rfl (fun _ => rfl) ?_
  refine dp_s2 hF (i := .if_icmp .ne 7) (a := (10, [some (.ref 28), some (.int v1)], [], M)) (b := (14, [some (.ref 28), some (.int v1)], [], M)) rfl (fun _ => rfl) ?_ ?_
  · refine dp_s1 hF (i := .iconst 0) rfl (fun _ => rfl) ?_
    refine dp_s1 hF (i := .goto 20) rfl (fun _ => rfl) ?_
    exact dp_s0 hF (i := .ireturn) rfl (fun _ => rfl)
  refine dp_s1 hF (i := .aload_n 0) rfl (fun _ => rfl) ?_
  refine dp_s1 hF (i := .iload_n 1) rfl (fun _ => rfl) ?_
  refine dp_s1 hF (i := .aload_n 0) rfl (fun _ => rfl) ?_
  refine dp_s1 hF (i := .getfield 11) rfl (fun _ => rfl) ?_
  refine dp_s1 hF (i := .iload_n 1) rfl (fun _ => rfl) ?_
  refine dp_s3 hF (i := .iaload) rfl (fun _ => rfl) ?_
  refine dp_s1 hF (i := .aload_n 0) rfl (fun _ => rfl) ?_
  refine dp_s1 hF (i := .getfield 17) rfl (fun _ => rfl) ?_
  refine dp_s1 hF (i := .iload_n 1) rfl (fun _ => rfl) ?_
  refine dp_s3 hF (i := .iaload) rfl (fun _ => rfl) ?_
  refine dp_si (mj := dp_m_X10_sooner) (i := .invokevirtual 78) rfl rfl (Or.inl rfl) rfl (fun _ => rfl) (fun r2 M1 => ?_)
  exact dp_s0 hF (i := .ireturn) rfl (fun _ => rfl)
noncomputable def D_X10_isInTheWay_0 (xs : Nat → Int32) (xl d : Nat) (v1 : Int32) (M : dp_M) : Option dp_Res := dp_lim true xs xl (dp_den true xs xl d) dp_m_X10_isInTheWay (0, [some (.ref 28), some (.int v1)], [], M)
theorem D_X10_isInTheWay_0_den (xs : Nat → Int32) (xl d : Nat) (a0 : Int32) (M : dp_M) : dp_den true xs xl (d + 1) 235 [.ref 28, .int a0] M = D_X10_isInTheWay_0 xs xl d a0 M := rfl
set_option maxRecDepth 20000 in
theorem D_X10_isInTheWay_0_eq (xs : Nat → Int32) (xl d : Nat) (v1 : Int32) (M : dp_M) : D_X10_isInTheWay_0 xs xl d v1 M = dp_bi (dp_den true xs xl d 234 [.ref 28, .int v1] M) (fun r2 M1 => if r2 ≤ 0 then (some (.inl (some (.int (0 : Int32))), M1)) else (some (.inl (some (.int (1 : Int32))), M1))) := by
  have hF := dp_den_grow (md := true) (xs := xs) (xl := xl) d
  unfold D_X10_isInTheWay_0
  refine dp_s1 hF (i := .aload_n 0) rfl (fun _ => rfl) ?_
  refine dp_s1 hF (i := .iload_n 1) rfl (fun _ => rfl) ?_
  refine dp_si (mj := dp_m_X10_soonerBelow) (i := .invokevirtual 82) rfl rfl (Or.inl rfl) rfl (fun _ => rfl) (fun r2 M1 => ?_)
  refine dp_s2 hF (i := .ifCond .le 7) (a := (12, [some (.ref 28), some (.int v1)], [], M1)) (b := (8, [some (.ref 28), some (.int v1)], [], M1)) rfl (fun _ => rfl) ?_ ?_
  · refine dp_s1 hF (i := .iconst 0) rfl (fun _ => rfl) ?_
    exact dp_s0 hF (i := .ireturn) rfl (fun _ => rfl)
  refine dp_s1 hF (i := .iconst 1) rfl (fun _ => rfl) ?_
  refine dp_s1 hF (i := .goto 4) rfl (fun _ => rfl) ?_
  exact dp_s0 hF (i := .ireturn) rfl (fun _ => rfl)
noncomputable def D_X10_inTheWay_0 (xs : Nat → Int32) (xl d : Nat)  (M : dp_M) : Option dp_Res := dp_lim true xs xl (dp_den true xs xl d) dp_m_X10_inTheWay (0, [some (.ref 28), none, none], [], M)
noncomputable def D_X10_inTheWay_4 (xs : Nat → Int32) (xl d : Nat) (v1 : Int32) (v2 : Int32) (M : dp_M) : Option dp_Res := dp_lim true xs xl (dp_den true xs xl d) dp_m_X10_inTheWay (4, [some (.ref 28), some (.int v1), some (.int v2)], [], M)
theorem D_X10_inTheWay_0_den (xs : Nat → Int32) (xl d : Nat)  (M : dp_M) : dp_den true xs xl (d + 1) 236 [.ref 28] M = D_X10_inTheWay_0 xs xl d  M := rfl
set_option maxRecDepth 20000 in
theorem D_X10_inTheWay_0_eq (xs : Nat → Int32) (xl d : Nat)  (M : dp_M) : D_X10_inTheWay_0 xs xl d  M = dp_w (0 : Int32) (fun y1 => dp_w (0 : Int32) (fun y2 => D_X10_inTheWay_4 xs xl d y1 y2 M)) := by
  have hF := dp_den_grow (md := true) (xs := xs) (xl := xl) d
  unfold D_X10_inTheWay_0
  refine dp_s1 hF (i := .iconst 0) rfl (fun _ => rfl) ?_
  refine dp_s1w (0 : Int32) (fun (y1 : Int32) => (2, [some (.ref 28), some (.int y1), none], [], M)) hF (i := .istore_n 1) rfl (fun _ => rfl) (fun y1 => ?_)
  refine dp_s1 hF (i := .iconst 0) rfl (fun _ => rfl) ?_
  refine dp_s1w (0 : Int32) (fun (y2 : Int32) => (4, [some (.ref 28), some (.int y1), some (.int y2)], [], M)) hF (i := .istore_n 2) rfl (fun _ => rfl) (fun y2 => ?_)
  exact rfl
set_option maxRecDepth 20000 in
theorem D_X10_inTheWay_4_eq (xs : Nat → Int32) (xl d : Nat) (v1 : Int32) (v2 : Int32) (M : dp_M) : D_X10_inTheWay_4 xs xl d v1 v2 M = if (dp_I M 1 2) ≤ v2 then (some (.inl (some (.int v1)), M)) else (dp_bi (dp_den true xs xl d 235 [.ref 28, .int v2] M) (fun r2 M1 => if r2 = 0 then (dp_w (v1 + (0 : Int32)) (fun y3 => dp_w (v2 + (1 : Int32)) (fun y4 => D_X10_inTheWay_4 xs xl d y3 y4 M1))) else (dp_w (v1 + (1 : Int32)) (fun y5 => dp_w (v2 + (1 : Int32)) (fun y6 => D_X10_inTheWay_4 xs xl d y5 y6 M1))))) := by
  have hF := dp_den_grow (md := true) (xs := xs) (xl := xl) d
  unfold D_X10_inTheWay_4
  refine dp_s1 hF (i := .iload_n 2) rfl (fun _ => rfl) ?_
  refine dp_s1 hF (i := .aload_n 0) rfl (fun _ => rfl) ?_
  refine dp_s1 hF (i := .getfield 26) rfl (fun _ => rfl) ?_
  refine dp_s1 hF (i := .getfield 85) rfl (fun _ => rfl) ?_
  refine dp_s2 hF (i := .if_icmp .ge 25) (a := (37, [some (.ref 28), some (.int v1), some (.int v2)], [], M)) (b := (15, [some (.ref 28), some (.int v1), some (.int v2)], [], M)) rfl (fun _ => rfl) ?_ ?_
  · refine dp_s1 hF (i := .iload_n 1) rfl (fun _ => rfl) ?_
    exact dp_s0 hF (i := .ireturn) rfl (fun _ => rfl)
  refine dp_s1 hF (i := .iload_n 1) rfl (fun _ => rfl) ?_
  refine dp_s1 hF (i := .aload_n 0) rfl (fun _ => rfl) ?_
  refine dp_s1 hF (i := .iload_n 2) rfl (fun _ => rfl) ?_
  refine dp_si (mj := dp_m_X10_isInTheWay) (i := .invokevirtual 88) rfl rfl (Or.inr rfl) rfl (fun _ => rfl) (fun r2 M1 => ?_)
  refine dp_s2 hF (i := .ifCond .eq 7) (a := (28, [some (.ref 28), some (.int v1), some (.int v2)], [.int v1], M1)) (b := (24, [some (.ref 28), some (.int v1), some (.int v2)], [.int v1], M1)) rfl (fun _ => rfl) ?_ ?_
  · refine dp_s1 hF (i := .iconst 0) rfl (fun _ => rfl) ?_
    refine dp_s1 hF (i := .iadd) rfl (fun _ => rfl) ?_
    refine dp_s1w (v1 + (0 : Int32)) (fun (y3 : Int32) => (31, [some (.ref 28), some (.int y3), some (.int v2)], [], M1)) hF (i := .istore_n 1) rfl (fun _ => rfl) (fun y3 => ?_)
    refine dp_s1w (v2 + (1 : Int32)) (fun (y4 : Int32) => (34, [some (.ref 28), some (.int y3), some (.int y4)], [], M1)) hF (i := .iinc 2 1) rfl (fun _ => rfl) (fun y4 => ?_)
    refine dp_s1 hF (i := .goto (-30)) rfl (fun _ => rfl) ?_
    exact rfl
  refine dp_s1 hF (i := .iconst 1) rfl (fun _ => rfl) ?_
  refine dp_s1 hF (i := .goto 4) rfl (fun _ => rfl) ?_
  refine dp_s1 hF (i := .iadd) rfl (fun _ => rfl) ?_
  refine dp_s1w (v1 + (1 : Int32)) (fun (y5 : Int32) => (31, [some (.ref 28), some (.int y5), some (.int v2)], [], M1)) hF (i := .istore_n 1) rfl (fun _ => rfl) (fun y5 => ?_)
  refine dp_s1w (v2 + (1 : Int32)) (fun (y6 : Int32) => (34, [some (.ref 28), some (.int y5), some (.int y6)], [], M1)) hF (i := .iinc 2 1) rfl (fun _ => rfl) (fun y6 => ?_)
  refine dp_s1 hF (i := .goto (-30)) rfl (fun _ => rfl) ?_
  exact rfl
noncomputable def D_X10_standing_0 (xs : Nat → Int32) (xl d : Nat)  (M : dp_M) : Option dp_Res := dp_lim true xs xl (dp_den true xs xl d) dp_m_X10_standing (0, [some (.ref 28), none, none], [], M)
noncomputable def D_X10_standing_4 (xs : Nat → Int32) (xl d : Nat) (v1 : Int32) (v2 : Int32) (M : dp_M) : Option dp_Res := dp_lim true xs xl (dp_den true xs xl d) dp_m_X10_standing (4, [some (.ref 28), some (.int v1), some (.int v2)], [], M)
theorem D_X10_standing_0_den (xs : Nat → Int32) (xl d : Nat)  (M : dp_M) : dp_den true xs xl (d + 1) 237 [.ref 28] M = D_X10_standing_0 xs xl d  M := rfl
set_option maxRecDepth 20000 in
theorem D_X10_standing_0_eq (xs : Nat → Int32) (xl d : Nat)  (M : dp_M) : D_X10_standing_0 xs xl d  M = dp_w (0 : Int32) (fun y1 => dp_w (0 : Int32) (fun y2 => D_X10_standing_4 xs xl d y1 y2 M)) := by
  have hF := dp_den_grow (md := true) (xs := xs) (xl := xl) d
  unfold D_X10_standing_0
  refine dp_s1 hF (i := .iconst 0) rfl (fun _ => rfl) ?_
  refine dp_s1w (0 : Int32) (fun (y1 : Int32) => (2, [some (.ref 28), some (.int y1), none], [], M)) hF (i := .istore_n 1) rfl (fun _ => rfl) (fun y1 => ?_)
  refine dp_s1 hF (i := .iconst 0) rfl (fun _ => rfl) ?_
  refine dp_s1w (0 : Int32) (fun (y2 : Int32) => (4, [some (.ref 28), some (.int y1), some (.int y2)], [], M)) hF (i := .istore_n 2) rfl (fun _ => rfl) (fun y2 => ?_)
  exact rfl
set_option maxRecDepth 20000 in
theorem D_X10_standing_4_eq (xs : Nat → Int32) (xl d : Nat) (v1 : Int32) (v2 : Int32) (M : dp_M) : D_X10_standing_4 xs xl d v1 v2 M = if (dp_I M 28 1) ≤ v2 then (some (.inl (some (.int v1)), M)) else (if v2 < 0 ∨ dp_len M 33 ≤ Int32.toNatClampNeg v2 then none else (dp_w (v1 + (dp_I M 33 (Int32.toNatClampNeg v2))) (fun y1 => dp_w (v2 + (1 : Int32)) (fun y2 => D_X10_standing_4 xs xl d y1 y2 M)))) := by
  have hF := dp_den_grow (md := true) (xs := xs) (xl := xl) d
  unfold D_X10_standing_4
  refine dp_s1 hF (i := .iload_n 2) rfl (fun _ => rfl) ?_
  refine dp_s1 hF (i := .aload_n 0) rfl (fun _ => rfl) ?_
  refine dp_s1 hF (i := .getfield 30) rfl (fun _ => rfl) ?_
  refine dp_s2 hF (i := .if_icmp .ge 18) (a := (27, [some (.ref 28), some (.int v1), some (.int v2)], [], M)) (b := (12, [some (.ref 28), some (.int v1), some (.int v2)], [], M)) rfl (fun _ => rfl) ?_ ?_
  · refine dp_s1 hF (i := .iload_n 1) rfl (fun _ => rfl) ?_
    exact dp_s0 hF (i := .ireturn) rfl (fun _ => rfl)
  refine dp_s1 hF (i := .iload_n 1) rfl (fun _ => rfl) ?_
  refine dp_s1 hF (i := .aload_n 0) rfl (fun _ => rfl) ?_
  refine dp_s1 hF (i := .getfield 40) rfl (fun _ => rfl) ?_
  refine dp_s1 hF (i := .iload_n 2) rfl (fun _ => rfl) ?_
  refine dp_s3 hF (i := .iaload) rfl (fun _ => rfl) ?_
  refine dp_s1 hF (i := .iadd) rfl (fun _ => rfl) ?_
  refine dp_s1w (v1 + (dp_I M 33 (Int32.toNatClampNeg v2))) (fun (y1 : Int32) => (21, [some (.ref 28), some (.int y1), some (.int v2)], [], M)) hF (i := .istore_n 1) rfl (fun _ => rfl) (fun y1 => ?_)
  refine dp_s1w (v2 + (1 : Int32)) (fun (y2 : Int32) => (24, [some (.ref 28), some (.int y1), some (.int y2)], [], M)) hF (i := .iinc 2 1) rfl (fun _ => rfl) (fun y2 => ?_)
  refine dp_s1 hF (i := .goto (-20)) rfl (fun _ => rfl) ?_
  exact rfl
noncomputable def D_X10_brokenByPut_0 (xs : Nat → Int32) (xl d : Nat) (v1 : Int32) (v2 : Int32) (M : dp_M) : Option dp_Res := dp_lim true xs xl (dp_den true xs xl d) dp_m_X10_brokenByPut (0, [some (.ref 28), some (.int v1), some (.int v2)], [], M)
theorem D_X10_brokenByPut_0_den (xs : Nat → Int32) (xl d : Nat) (a0 : Int32) (a1 : Int32) (M : dp_M) : dp_den true xs xl (d + 1) 238 [.ref 28, .int a0, .int a1] M = D_X10_brokenByPut_0 xs xl d a0 a1 M := rfl
set_option maxRecDepth 20000 in
theorem D_X10_brokenByPut_0_eq (xs : Nat → Int32) (xl d : Nat) (v1 : Int32) (v2 : Int32) (M : dp_M) : D_X10_brokenByPut_0 xs xl d v1 v2 M = dp_bi (dp_den true xs xl d 53 [.ref 1, .int v1] M) (fun r2 M1 => if r2 = 0 then (some (.inl (some (.int (9 : Int32))), M1)) else (if v1 < 0 ∨ 100 ≤ Int32.toNatClampNeg v1 then none else (if (dp_I M1 29 (Int32.toNatClampNeg v1)) = (-1 : Int32) then (dp_bi (dp_den true xs xl d 240 [.ref 28, .int v1, .int v2] M1) (fun r4 M3 => some (.inl (some (.int r4)), M3))) else (some (.inl (some (.int (1 : Int32))), M1))))) := by
  have hF := dp_den_grow (md := true) (xs := xs) (xl := xl) d
  unfold D_X10_brokenByPut_0
  refine dp_s1 hF (i := .aload_n 0) rfl (fun _ => rfl) ?_
  refine dp_s1 hF (i := .getfield 26) rfl (fun _ => rfl) ?_
  refine dp_s1 hF (i := .iload_n 1) rfl (fun _ => rfl) ?_
  refine dp_si (mj := dp_m_X2_isHere) (i := .invokevirtual 92) rfl rfl (Or.inr rfl) rfl (fun _ => rfl) (fun r2 M1 => ?_)
  refine dp_s2 hF (i := .ifCond .ne 6) (a := (11, [some (.ref 28), some (.int v1), some (.int v2)], [], M1)) (b := (14, [some (.ref 28), some (.int v1), some (.int v2)], [], M1)) rfl (fun _ => rfl) ?_ ?_
  · refine dp_s1 hF (i := .bipush 9) rfl (fun _ => rfl) ?_
    exact dp_s0 hF (i := .ireturn) rfl (fun _ => rfl)
  refine dp_s1 hF (i := .aload_n 0) rfl (fun _ => rfl) ?_
  refine dp_s1 hF (i := .getfield 11) rfl (fun _ => rfl) ?_
  refine dp_s1 hF (i := .iload_n 1) rfl (fun _ => rfl) ?_
  refine dp_s3 hF (i := .iaload) rfl (fun _ => rfl) ?_
  refine dp_s1 hF (i := .iconst (-1)) rfl (fun _ => rfl) ?_
  refine dp_s2 hF (i := .if_icmp .eq 7) (a := (28, [some (.ref 28), some (.int v1), some (.int v2)], [], M1)) (b := (24, [some (.ref 28), some (.int v1), some (.int v2)], [], M1)) rfl (fun _ => rfl) ?_ ?_
  · refine dp_s1 hF (i := .aload_n 0) rfl (fun _ => rfl) ?_
    refine dp_s1 hF (i := .iload_n 1) rfl (fun _ => rfl) ?_
    refine dp_s1 hF (i := .iload_n 2) rfl (fun _ => rfl) ?_
    refine dp_si (mj := dp_m_X10_brokenOnRow) (i := .invokevirtual 95) rfl rfl (Or.inl rfl) rfl (fun _ => rfl) (fun r4 M3 => ?_)
    exact dp_s0 hF (i := .ireturn) rfl (fun _ => rfl)
  refine dp_s1 hF (i := .iconst 1) rfl (fun _ => rfl) ?_
  refine dp_s1 hF (i := .goto 9) rfl (fun _ => rfl) ?_
  exact dp_s0 hF (i := .ireturn) rfl (fun _ => rfl)
noncomputable def D_X10_brokenByShift_0 (xs : Nat → Int32) (xl d : Nat) (v1 : Int32) (v2 : Int32) (M : dp_M) : Option dp_Res := dp_lim true xs xl (dp_den true xs xl d) dp_m_X10_brokenByShift (0, [some (.ref 28), some (.int v1), some (.int v2)], [], M)
theorem D_X10_brokenByShift_0_den (xs : Nat → Int32) (xl d : Nat) (a0 : Int32) (a1 : Int32) (M : dp_M) : dp_den true xs xl (d + 1) 239 [.ref 28, .int a0, .int a1] M = D_X10_brokenByShift_0 xs xl d a0 a1 M := rfl
set_option maxRecDepth 20000 in
theorem D_X10_brokenByShift_0_eq (xs : Nat → Int32) (xl d : Nat) (v1 : Int32) (v2 : Int32) (M : dp_M) : D_X10_brokenByShift_0 xs xl d v1 v2 M = dp_bi (dp_den true xs xl d 53 [.ref 1, .int v1] M) (fun r2 M1 => if r2 = 0 then (some (.inl (some (.int (9 : Int32))), M1)) else (if v1 < 0 ∨ 100 ≤ Int32.toNatClampNeg v1 then none else (if (dp_I M1 29 (Int32.toNatClampNeg v1)) = v2 then (some (.inl (some (.int (1 : Int32))), M1)) else (dp_bi (dp_den true xs xl d 240 [.ref 28, .int v1, .int v2] M1) (fun r4 M3 => some (.inl (some (.int r4)), M3)))))) := by
  have hF := dp_den_grow (md := true) (xs := xs) (xl := xl) d
  unfold D_X10_brokenByShift_0
  refine dp_s1 hF (i := .aload_n 0) rfl (fun _ => rfl) ?_
  refine dp_s1 hF (i := .getfield 26) rfl (fun _ => rfl) ?_
  refine dp_s1 hF (i := .iload_n 1) rfl (fun _ => rfl) ?_
  refine dp_si (mj := dp_m_X2_isHere) (i := .invokevirtual 92) rfl rfl (Or.inr rfl) rfl (fun _ => rfl) (fun r2 M1 => ?_)
  refine dp_s2 hF (i := .ifCond .ne 6) (a := (11, [some (.ref 28), some (.int v1), some (.int v2)], [], M1)) (b := (14, [some (.ref 28), some (.int v1), some (.int v2)], [], M1)) rfl (fun _ => rfl) ?_ ?_
  · refine dp_s1 hF (i := .bipush 9) rfl (fun _ => rfl) ?_
    exact dp_s0 hF (i := .ireturn) rfl (fun _ => rfl)
  refine dp_s1 hF (i := .aload_n 0) rfl (fun _ => rfl) ?_
  refine dp_s1 hF (i := .getfield 11) rfl (fun _ => rfl) ?_
  refine dp_s1 hF (i := .iload_n 1) rfl (fun _ => rfl) ?_
  refine dp_s3 hF (i := .iaload) rfl (fun _ => rfl) ?_
  refine dp_s1 hF (i := .iload_n 2) rfl (fun _ => rfl) ?_
  refine dp_s2 hF (i := .if_icmp .ne 7) (a := (24, [some (.ref 28), some (.int v1), some (.int v2)], [], M1)) (b := (28, [some (.ref 28), some (.int v1), some (.int v2)], [], M1)) rfl (fun _ => rfl) ?_ ?_
  · refine dp_s1 hF (i := .iconst 1) rfl (fun _ => rfl) ?_
    refine dp_s1 hF (i := .goto 9) rfl (fun _ => rfl) ?_
    exact dp_s0 hF (i := .ireturn) rfl (fun _ => rfl)
  refine dp_s1 hF (i := .aload_n 0) rfl (fun _ => rfl) ?_
  refine dp_s1 hF (i := .iload_n 1) rfl (fun _ => rfl) ?_
  refine dp_s1 hF (i := .iload_n 2) rfl (fun _ => rfl) ?_
  refine dp_si (mj := dp_m_X10_brokenOnRow) (i := .invokevirtual 95) rfl rfl (Or.inl rfl) rfl (fun _ => rfl) (fun r4 M3 => ?_)
  exact dp_s0 hF (i := .ireturn) rfl (fun _ => rfl)
noncomputable def D_X10_brokenOnRow_0 (xs : Nat → Int32) (xl d : Nat) (v1 : Int32) (v2 : Int32) (M : dp_M) : Option dp_Res := dp_lim true xs xl (dp_den true xs xl d) dp_m_X10_brokenOnRow (0, [some (.ref 28), some (.int v1), some (.int v2)], [], M)
noncomputable def D_X10_brokenOnRow_29 (xs : Nat → Int32) (xl d : Nat) (v1 : Int32) (v2 : Int32) (M : dp_M) : Option dp_Res := dp_lim true xs xl (dp_den true xs xl d) dp_m_X10_brokenOnRow (29, [some (.ref 28), some (.int v1), some (.int v2)], [], M)
noncomputable def D_X10_brokenOnRow_124 (xs : Nat → Int32) (xl d : Nat) (v1 : Int32) (v2 : Int32) (M : dp_M) : Option dp_Res := dp_lim true xs xl (dp_den true xs xl d) dp_m_X10_brokenOnRow (124, [some (.ref 28), some (.int v1), some (.int v2)], [], M)
noncomputable def D_X10_brokenOnRow_168 (xs : Nat → Int32) (xl d : Nat) (v1 : Int32) (v2 : Int32) (vs0 : Int32) (M : dp_M) : Option dp_Res := dp_lim true xs xl (dp_den true xs xl d) dp_m_X10_brokenOnRow (168, [some (.ref 28), some (.int v1), some (.int v2)], [.int vs0], M)
theorem D_X10_brokenOnRow_0_den (xs : Nat → Int32) (xl d : Nat) (a0 : Int32) (a1 : Int32) (M : dp_M) : dp_den true xs xl (d + 1) 240 [.ref 28, .int a0, .int a1] M = D_X10_brokenOnRow_0 xs xl d a0 a1 M := rfl
set_option maxRecDepth 20000 in
theorem D_X10_brokenOnRow_0_eq (xs : Nat → Int32) (xl d : Nat) (v1 : Int32) (v2 : Int32) (M : dp_M) : D_X10_brokenOnRow_0 xs xl d v1 v2 M = if v2 < 0 ∨ dp_len M 35 ≤ Int32.toNatClampNeg v2 then none else (if (dp_I M 35 (Int32.toNatClampNeg v2)) = 0 then (D_X10_brokenOnRow_29 xs xl d v1 v2 M) else (if v2 < 0 ∨ dp_len M 35 ≤ Int32.toNatClampNeg v2 then none else (if v1 < 0 ∨ 100 ≤ Int32.toNatClampNeg v1 then none else (if (dp_I M 35 (Int32.toNatClampNeg v2)) = (dp_I M 7 (Int32.toNatClampNeg v1)) then (D_X10_brokenOnRow_29 xs xl d v1 v2 M) else (some (.inl (some (.int (2 : Int32))), M)))))) := by
  have hF := dp_den_grow (md := true) (xs := xs) (xl := xl) d
  unfold D_X10_brokenOnRow_0
  refine dp_s1 hF (i := .aload_n 0) rfl (fun _ => rfl) ?_
  refine dp_s1 hF (i := .getfield 46) rfl (fun _ => rfl) ?_
  refine dp_s1 hF (i := .iload_n 2) rfl (fun _ => rfl) ?_
  refine dp_s3 hF (i := .iaload) rfl (fun _ => rfl) ?_
  refine dp_s2 hF (i := .ifCond .eq 23) (a := (29, [some (.ref 28), some (.int v1), some (.int v2)], [], M)) (b := (9, [some (.ref 28), some (.int v1), some (.int v2)], [], M)) rfl (fun _ => rfl) ?_ ?_
  · exact rfl
  refine dp_s1 hF (i := .aload_n 0) rfl (fun _ => rfl) ?_
  refine dp_s1 hF (i := .getfield 46) rfl (fun _ => rfl) ?_
  refine dp_s1 hF (i := .iload_n 2) rfl (fun _ => rfl) ?_
  refine dp_s3 hF (i := .iaload) rfl (fun _ => rfl) ?_
  refine dp_s1 hF (i := .aload_n 0) rfl (fun _ => rfl) ?_
  refine dp_s1 hF (i := .getfield 26) rfl (fun _ => rfl) ?_
  refine dp_s1 hF (i := .getfield 69) rfl (fun _ => rfl) ?_
  refine dp_s1 hF (i := .iload_n 1) rfl (fun _ => rfl) ?_
  refine dp_s3 hF (i := .iaload) rfl (fun _ => rfl) ?_
  refine dp_s2 hF (i := .if_icmp .eq 5) (a := (29, [some (.ref 28), some (.int v1), some (.int v2)], [], M)) (b := (27, [some (.ref 28), some (.int v1), some (.int v2)], [], M)) rfl (fun _ => rfl) ?_ ?_
  · exact rfl
  refine dp_s1 hF (i := .iconst 2) rfl (fun _ => rfl) ?_
  exact dp_s0 hF (i := .ireturn) rfl (fun _ => rfl)
set_option maxRecDepth 20000 in
theorem D_X10_brokenOnRow_29_eq (xs : Nat → Int32) (xl d : Nat) (v1 : Int32) (v2 : Int32) (M : dp_M) : D_X10_brokenOnRow_29 xs xl d v1 v2 M = if v2 < 0 ∨ dp_len M 33 ≤ Int32.toNatClampNeg v2 then none else (if (dp_I M 33 (Int32.toNatClampNeg v2)) < (dp_I M 28 2) then (dp_bi (dp_den true xs xl d 230 [.ref 28, .int v2] M) (fun r2 M1 => if v1 < 0 ∨ 100 ≤ Int32.toNatClampNeg v1 then none else (if (r2 + (dp_I M1 5 (Int32.toNatClampNeg v1))) ≤ (dp_I M1 28 3) then (if v1 < 0 ∨ 100 ≤ Int32.toNatClampNeg v1 then none else (dp_bi (dp_den true xs xl d 232 [.ref 28, .int v2, .int (dp_I M1 4 (Int32.toNatClampNeg v1))] M1) (fun r4 M3 => if r4 = 0 then (if v2 < 0 ∨ dp_len M3 33 ≤ Int32.toNatClampNeg v2 then none else (if (dp_I M3 33 (Int32.toNatClampNeg v2)) ≤ 0 then (D_X10_brokenOnRow_124 xs xl d v1 v2 M3) else (if v1 < 0 ∨ 100 ≤ Int32.toNatClampNeg v1 then none else (dp_bi (dp_den true xs xl d 227 [.ref 28, .int v2] M3) (fun r6 M5 => if r6 < 0 ∨ 100 ≤ Int32.toNatClampNeg r6 then none else (if (dp_I M3 5 (Int32.toNatClampNeg v1)) ≤ (dp_I M5 5 (Int32.toNatClampNeg r6)) then (D_X10_brokenOnRow_124 xs xl d v1 v2 M5) else (some (.inl (some (.int (6 : Int32))), M5)))))))) else (some (.inl (some (.int (5 : Int32))), M3))))) else (some (.inl (some (.int (4 : Int32))), M1))))) else (some (.inl (some (.int (3 : Int32))), M))) := by
  have hF := dp_den_grow (md := true) (xs := xs) (xl := xl) d
  unfold D_X10_brokenOnRow_29
  refine dp_s1 hF (i := .aload_n 0) rfl (fun _ => rfl) ?_
  refine dp_s1 hF (i := .getfield 40) rfl (fun _ => rfl) ?_
  refine dp_s1 hF (i := .iload_n 2) rfl (fun _ => rfl) ?_
  refine dp_s3 hF (i := .iaload) rfl (fun _ => rfl) ?_
  refine dp_s1 hF (i := .aload_n 0) rfl (fun _ => rfl) ?_
  refine dp_s1 hF (i := .getfield 34) rfl (fun _ => rfl) ?_
  refine dp_s2 hF (i := .if_icmp .lt 5) (a := (44, [some (.ref 28), some (.int v1), some (.int v2)], [], M)) (b := (42, [some (.ref 28), some (.int v1), some (.int v2)], [], M)) rfl (fun _ => rfl) ?_ ?_
  · refine dp_s1 hF (i := .aload_n 0) rfl (fun _ => rfl) ?_
    refine dp_s1 hF (i := .iload_n 2) rfl (fun _ => rfl) ?_
    refine dp_si (mj := dp_m_X10_weightOf) (i := .invokevirtual 98) rfl rfl (Or.inl rfl) rfl (fun _ => rfl) (fun r2 M1 => ?_)
    refine dp_s1 hF (i := .aload_n 0) rfl (fun _ => rfl) ?_
    refine dp_s1 hF (i := .getfield 26) rfl (fun _ => rfl) ?_
    refine dp_s1 hF (i := .getfield 66) rfl (fun _ => rfl) ?_
    refine dp_s1 hF (i := .iload_n 1) rfl (fun _ => rfl) ?_
    refine dp_s3 hF (i := .iaload) rfl (fun _ => rfl) ?_
    refine dp_s1 hF (i := .iadd) rfl (fun _ => rfl) ?_
    refine dp_s1 hF (i := .aload_n 0) rfl (fun _ => rfl) ?_
    refine dp_s1 hF (i := .getfield 37) rfl (fun _ => rfl) ?_
    refine dp_s2 hF (i := .if_icmp .le 5) (a := (68, [some (.ref 28), some (.int v1), some (.int v2)], [], M1)) (b := (66, [some (.ref 28), some (.int v1), some (.int v2)], [], M1)) rfl (fun _ => rfl) ?_ ?_
    · refine dp_s1 hF (i := .aload_n 0) rfl (fun _ => rfl) ?_
      refine dp_s1 hF (i := .iload_n 2) rfl (fun _ => rfl) ?_
      refine dp_s1 hF (i := .aload_n 0) rfl (fun _ => rfl) ?_
      refine dp_s1 hF (i := .getfield 26) rfl (fun _ => rfl) ?_
      refine dp_s1 hF (i := .getfield 72) rfl (fun _ => rfl) ?_
      refine dp_s1 hF (i := .iload_n 1) rfl (fun _ => rfl) ?_
      refine dp_s3 hF (i := .iaload) rfl (fun _ => rfl) ?_
      refine dp_si (mj := dp_m_X10_hasOtherSize) (i := .invokevirtual 101) rfl rfl (Or.inr rfl) rfl (fun _ => rfl) (fun r4 M3 => ?_)
      refine dp_s2 hF (i := .ifCond .eq 5) (a := (87, [some (.ref 28), some (.int v1), some (.int v2)], [], M3)) (b := (85, [some (.ref 28), some (.int v1), some (.int v2)], [], M3)) rfl (fun _ => rfl) ?_ ?_
      · refine dp_s1 hF (i := .aload_n 0) rfl (fun _ => rfl) ?_
        refine dp_s1 hF (i := .getfield 40) rfl (fun _ => rfl) ?_
        refine dp_s1 hF (i := .iload_n 2) rfl (fun _ => rfl) ?_
        refine dp_s3 hF (i := .iaload) rfl (fun _ => rfl) ?_
        refine dp_s2 hF (i := .ifCond .le 31) (a := (124, [some (.ref 28), some (.int v1), some (.int v2)], [], M3)) (b := (96, [some (.ref 28), some (.int v1), some (.int v2)], [], M3)) rfl (fun _ => rfl) ?_ ?_
        · exact rfl
        refine dp_s1 hF (i := .aload_n 0) rfl (fun _ => rfl) ?_
        refine dp_s1 hF (i := .getfield 26) rfl (fun _ => rfl) ?_
        refine dp_s1 hF (i := .getfield 66) rfl (fun _ => rfl) ?_
        refine dp_s1 hF (i := .iload_n 1) rfl (fun _ => rfl) ?_
        refine dp_s3 hF (i := .iaload) rfl (fun _ => rfl) ?_
        refine dp_s1 hF (i := .aload_n 0) rfl (fun _ => rfl) ?_
        refine dp_s1 hF (i := .getfield 26) rfl (fun _ => rfl) ?_
        refine dp_s1 hF (i := .getfield 66) rfl (fun _ => rfl) ?_
        refine dp_s1 hF (i := .aload_n 0) rfl (fun _ => rfl) ?_
        refine dp_s1 hF (i := .iload_n 2) rfl (fun _ => rfl) ?_
        refine dp_si (mj := dp_m_X10_topOf) (i := .invokevirtual 62) rfl rfl (Or.inl rfl) rfl (fun _ => rfl) (fun r6 M5 => ?_)
        refine dp_s3 hF (i := .iaload) rfl (fun _ => rfl) ?_
        refine dp_s2 hF (i := .if_icmp .le 6) (a := (124, [some (.ref 28), some (.int v1), some (.int v2)], [], M5)) (b := (121, [some (.ref 28), some (.int v1), some (.int v2)], [], M5)) rfl (fun _ => rfl) ?_ ?_
        · exact rfl
        refine dp_s1 hF (i := .bipush 6) rfl (fun _ => rfl) ?_
        exact dp_s0 hF (i := .ireturn) rfl (fun _ => rfl)
      refine dp_s1 hF (i := .iconst 5) rfl (fun _ => rfl) ?_
      exact dp_s0 hF (i := .ireturn) rfl (fun _ => rfl)
    refine dp_s1 hF (i := .iconst 4) rfl (fun _ => rfl) ?_
    exact dp_s0 hF (i := .ireturn) rfl (fun _ => rfl)
  refine dp_s1 hF (i := .iconst 3) rfl (fun _ => rfl) ?_
  exact dp_s0 hF (i := .ireturn) rfl (fun _ => rfl)
set_option maxRecDepth 20000 in
theorem D_X10_brokenOnRow_124_eq (xs : Nat → Int32) (xl d : Nat) (v1 : Int32) (v2 : Int32) (M : dp_M) : D_X10_brokenOnRow_124 xs xl d v1 v2 M = if v1 < 0 ∨ 100 ≤ Int32.toNatClampNeg v1 then none else (if (dp_I M 3 (Int32.toNatClampNeg v1)) = (1 : Int32) then (if v2 < 0 ∨ dp_len M 34 ≤ Int32.toNatClampNeg v2 then none else (if (dp_I M 34 (Int32.toNatClampNeg v2)) = (1 : Int32) then (if v1 < 0 ∨ 100 ≤ Int32.toNatClampNeg v1 then none else (if (dp_I M 3 (Int32.toNatClampNeg v1)) = (2 : Int32) then (D_X10_brokenOnRow_168 xs xl d v1 v2 (1 : Int32) M) else (D_X10_brokenOnRow_168 xs xl d v1 v2 (0 : Int32) M))) else (some (.inl (some (.int (7 : Int32))), M)))) else (if v1 < 0 ∨ 100 ≤ Int32.toNatClampNeg v1 then none else (if (dp_I M 3 (Int32.toNatClampNeg v1)) = (2 : Int32) then (D_X10_brokenOnRow_168 xs xl d v1 v2 (1 : Int32) M) else (D_X10_brokenOnRow_168 xs xl d v1 v2 (0 : Int32) M)))) := by
  have hF := dp_den_grow (md := true) (xs := xs) (xl := xl) d
  unfold D_X10_brokenOnRow_124
  refine dp_s1 hF (i := .aload_n 0) rfl (fun _ => rfl) ?_
  refine dp_s1 hF (i := .getfield 26) rfl (fun _ => rfl) ?_
  refine dp_s1 hF (i := .getfield 105) rfl (fun _ => rfl) ?_
  refine dp_s1 hF (i := .iload_n 1) rfl (fun _ => rfl) ?_
  refine dp_s3 hF (i := .iaload) rfl (fun _ => rfl) ?_
  refine dp_s1 hF (i := .iconst 1) rfl (fun _ => rfl) ?_
  refine dp_s2 hF (i := .if_icmp .ne 16) (a := (137, [some (.ref 28), some (.int v1), some (.int v2)], [], M)) (b := (150, [some (.ref 28), some (.int v1), some (.int v2)], [], M)) rfl (fun _ => rfl) ?_ ?_
  · refine dp_s1 hF (i := .aload_n 0) rfl (fun _ => rfl) ?_
    refine dp_s1 hF (i := .getfield 43) rfl (fun _ => rfl) ?_
    refine dp_s1 hF (i := .iload_n 2) rfl (fun _ => rfl) ?_
    refine dp_s3 hF (i := .iaload) rfl (fun _ => rfl) ?_
    refine dp_s1 hF (i := .iconst 1) rfl (fun _ => rfl) ?_
    refine dp_s2 hF (i := .if_icmp .eq 6) (a := (150, [some (.ref 28), some (.int v1), some (.int v2)], [], M)) (b := (147, [some (.ref 28), some (.int v1), some (.int v2)], [], M)) rfl (fun _ => rfl) ?_ ?_
    · refine dp_s1 hF (i := .aload_n 0) rfl (fun _ => rfl) ?_
      refine dp_s1 hF (i := .getfield 26) rfl (fun _ => rfl) ?_
      refine dp_s1 hF (i := .getfield 105) rfl (fun _ => rfl) ?_
      refine dp_s1 hF (i := .iload_n 1) rfl (fun _ => rfl) ?_
      refine dp_s3 hF (i := .iaload) rfl (fun _ => rfl) ?_
      refine dp_s1 hF (i := .iconst 2) rfl (fun _ => rfl) ?_
      refine dp_s2 hF (i := .if_icmp .ne 7) (a := (163, [some (.ref 28), some (.int v1), some (.int v2)], [], M)) (b := (167, [some (.ref 28), some (.int v1), some (.int v2)], [], M)) rfl (fun _ => rfl) ?_ ?_
      · refine dp_s1 hF (i := .iconst 1) rfl (fun _ => rfl) ?_
        refine dp_s1 hF (i := .goto 4) rfl (fun _ => rfl) ?_
        exact rfl
      refine dp_s1 hF (i := .iconst 0) rfl (fun _ => rfl) ?_
      exact rfl
    refine dp_s1 hF (i := .bipush 7) rfl (fun _ => rfl) ?_
    exact dp_s0 hF (i := .ireturn) rfl (fun _ => rfl)
  refine dp_s1 hF (i := .aload_n 0) rfl (fun _ => rfl) ?_
  refine dp_s1 hF (i := .getfield 26) rfl (fun _ => rfl) ?_
  refine dp_s1 hF (i := .getfield 105) rfl (fun _ => rfl) ?_
  refine dp_s1 hF (i := .iload_n 1) rfl (fun _ => rfl) ?_
  refine dp_s3 hF (i := .iaload) rfl (fun _ => rfl) ?_
  refine dp_s1 hF (i := .iconst 2) rfl (fun _ => rfl) ?_
  refine dp_s2 hF (i := .if_icmp .ne 7) (a := (163, [some (.ref 28), some (.int v1), some (.int v2)], [], M)) (b := (167, [some (.ref 28), some (.int v1), some (.int v2)], [], M)) rfl (fun _ => rfl) ?_ ?_
  · refine dp_s1 hF (i := .iconst 1) rfl (fun _ => rfl) ?_
    refine dp_s1 hF (i := .goto 4) rfl (fun _ => rfl) ?_
    exact rfl
  refine dp_s1 hF (i := .iconst 0) rfl (fun _ => rfl) ?_
  exact rfl
set_option maxRecDepth 20000 in
theorem D_X10_brokenOnRow_168_eq (xs : Nat → Int32) (xl d : Nat) (v1 : Int32) (v2 : Int32) (vs0 : Int32) (M : dp_M) : D_X10_brokenOnRow_168 xs xl d v1 v2 vs0 M = if v2 < 0 ∨ dp_len M 34 ≤ Int32.toNatClampNeg v2 then none else (if (dp_I M 34 (Int32.toNatClampNeg v2)) = (2 : Int32) then (if vs0 = (1 : Int32) then (some (.inl (some (.int (0 : Int32))), M)) else (some (.inl (some (.int (8 : Int32))), M))) else (if vs0 = (0 : Int32) then (some (.inl (some (.int (0 : Int32))), M)) else (some (.inl (some (.int (8 : Int32))), M)))) := by
  have hF := dp_den_grow (md := true) (xs := xs) (xl := xl) d
  unfold D_X10_brokenOnRow_168
  refine dp_s1 hF (i := .aload_n 0) rfl (fun _ => rfl) ?_
  refine dp_s1 hF (i := .getfield 43) rfl (fun _ => rfl) ?_
  refine dp_s1 hF (i := .iload_n 2) rfl (fun _ => rfl) ?_
  refine dp_s3 hF (i := .iaload) rfl (fun _ => rfl) ?_
  refine dp_s1 hF (i := .iconst 2) rfl (fun _ => rfl) ?_
  refine dp_s2 hF (i := .if_icmp .ne 7) (a := (178, [some (.ref 28), some (.int v1), some (.int v2)], [.int vs0], M)) (b := (182, [some (.ref 28), some (.int v1), some (.int v2)], [.int vs0], M)) rfl (fun _ => rfl) ?_ ?_
  · refine dp_s1 hF (i := .iconst 1) rfl (fun _ => rfl) ?_
    refine dp_s1 hF (i := .goto 4) rfl (fun _ => rfl) ?_
    refine dp_s2 hF (i := .if_icmp .eq 8) (a := (191, [some (.ref 28), some (.int v1), some (.int v2)], [], M)) (b := (186, [some (.ref 28), some (.int v1), some (.int v2)], [], M)) rfl (fun _ => rfl) ?_ ?_
    · refine dp_s1 hF (i := .iconst 0) rfl (fun _ => rfl) ?_
      exact dp_s0 hF (i := .ireturn) rfl (fun _ => rfl)
    refine dp_s1 hF (i := .bipush 8) rfl (fun _ => rfl) ?_
    refine dp_s1 hF (i := .goto 4) rfl (fun _ => rfl) ?_
    exact dp_s0 hF (i := .ireturn) rfl (fun _ => rfl)
  refine dp_s1 hF (i := .iconst 0) rfl (fun _ => rfl) ?_
  refine dp_s2 hF (i := .if_icmp .eq 8) (a := (191, [some (.ref 28), some (.int v1), some (.int v2)], [], M)) (b := (186, [some (.ref 28), some (.int v1), some (.int v2)], [], M)) rfl (fun _ => rfl) ?_ ?_
  · refine dp_s1 hF (i := .iconst 0) rfl (fun _ => rfl) ?_
    exact dp_s0 hF (i := .ireturn) rfl (fun _ => rfl)
  refine dp_s1 hF (i := .bipush 8) rfl (fun _ => rfl) ?_
  refine dp_s1 hF (i := .goto 4) rfl (fun _ => rfl) ?_
  exact dp_s0 hF (i := .ireturn) rfl (fun _ => rfl)
noncomputable def D_X10_score_0 (xs : Nat → Int32) (xl d : Nat) (v1 : Int32) (v2 : Int32) (M : dp_M) : Option dp_Res := dp_lim true xs xl (dp_den true xs xl d) dp_m_X10_score (0, [some (.ref 28), some (.int v1), some (.int v2), none, none, none, none], [], M)
noncomputable def D_X10_score_15 (xs : Nat → Int32) (xl d : Nat) (v1 : Int32) (v2 : Int32) (vs0 : Int32) (M : dp_M) : Option dp_Res := dp_lim true xs xl (dp_den true xs xl d) dp_m_X10_score (15, [some (.ref 28), some (.int v1), some (.int v2), none, none, none, none], [.int vs0], M)
noncomputable def D_X10_score_65 (xs : Nat → Int32) (xl d : Nat) (v1 : Int32) (v2 : Int32) (v3 : Int32) (v4 : Int32) (vs0 : Int32) (M : dp_M) : Option dp_Res := dp_lim true xs xl (dp_den true xs xl d) dp_m_X10_score (65, [some (.ref 28), some (.int v1), some (.int v2), some (.int v3), some (.int v4), none, none], [.int vs0], M)
theorem D_X10_score_0_den (xs : Nat → Int32) (xl d : Nat) (a0 : Int32) (a1 : Int32) (M : dp_M) : dp_den true xs xl (d + 1) 241 [.ref 28, .int a0, .int a1] M = D_X10_score_0 xs xl d a0 a1 M := rfl
set_option maxRecDepth 20000 in
theorem D_X10_score_0_eq (xs : Nat → Int32) (xl d : Nat) (v1 : Int32) (v2 : Int32) (M : dp_M) : D_X10_score_0 xs xl d v1 v2 M = if v2 < 0 ∨ dp_len M 35 ≤ Int32.toNatClampNeg v2 then none else (if (dp_I M 35 (Int32.toNatClampNeg v2)) = 0 then (D_X10_score_15 xs xl d v1 v2 (0 : Int32) M) else (D_X10_score_15 xs xl d v1 v2 (30 : Int32) M)) := by
  have hF := dp_den_grow (md := true) (xs := xs) (xl := xl) d
  unfold D_X10_score_0
  refine dp_s1 hF (i := .aload_n 0) rfl (fun _ => rfl) ?_
  refine dp_s1 hF (i := .getfield 46) rfl (fun _ => rfl) ?_
  refine dp_s1 hF (i := .iload_n 2) rfl (fun _ => rfl) ?_
  refine dp_s3 hF (i := .iaload) rfl (fun _ => rfl) ?_
  refine dp_s2 hF (i := .ifCond .eq 8) (a := (14, [some (.ref 28), some (.int v1), some (.int v2), none, none, none, none], [], M)) (b := (9, [some (.ref 28), some (.int v1), some (.int v2), none, none, none, none], [], M)) rfl (fun _ => rfl) ?_ ?_
  · refine dp_s1 hF (i := .iconst 0) rfl (fun _ => rfl) ?_
    exact rfl
  refine dp_s1 hF (i := .bipush 30) rfl (fun _ => rfl) ?_
  refine dp_s1 hF (i := .goto 4) rfl (fun _ => rfl) ?_
  exact rfl
set_option maxRecDepth 20000 in
theorem D_X10_score_15_eq (xs : Nat → Int32) (xl d : Nat) (v1 : Int32) (v2 : Int32) (vs0 : Int32) (M : dp_M) : D_X10_score_15 xs xl d v1 v2 vs0 M = if v2 < 0 ∨ dp_len M 33 ≤ Int32.toNatClampNeg v2 then none else (if (dp_I M 33 (Int32.toNatClampNeg v2)) = 0 then (some (.inl (some (.int ((20 : Int32) + vs0))), M)) else (dp_bi (dp_den true xs xl d 227 [.ref 28, .int v2] M) (fun r2 M1 => if r2 < 0 ∨ 100 ≤ Int32.toNatClampNeg r2 then none else (if v1 < 0 ∨ 100 ≤ Int32.toNatClampNeg v1 then none else (if (dp_I M1 7 (Int32.toNatClampNeg r2)) = (dp_I M1 7 (Int32.toNatClampNeg v1)) then (D_X10_score_65 xs xl d v1 v2 vs0 r2 (12 : Int32) M1) else (D_X10_score_65 xs xl d v1 v2 vs0 r2 (0 : Int32) M1)))))) := by
  have hF := dp_den_grow (md := true) (xs := xs) (xl := xl) d
  unfold D_X10_score_15
  refine dp_s1 hF (i := .istore_n 3) rfl (fun _ => rfl) ?_
  refine dp_s1 hF (i := .aload_n 0) rfl (fun _ => rfl) ?_
  refine dp_s1 hF (i := .getfield 40) rfl (fun _ => rfl) ?_
  refine dp_s1 hF (i := .iload_n 2) rfl (fun _ => rfl) ?_
  refine dp_s3 hF (i := .iaload) rfl (fun _ => rfl) ?_
  refine dp_s2 hF (i := .ifCond .ne 8) (a := (25, [some (.ref 28), some (.int v1), some (.int v2), some (.int vs0), none, none, none], [], M)) (b := (30, [some (.ref 28), some (.int v1), some (.int v2), some (.int vs0), none, none, none], [], M)) rfl (fun _ => rfl) ?_ ?_
  · refine dp_s1 hF (i := .bipush 20) rfl (fun _ => rfl) ?_
    refine dp_s1 hF (i := .iload_n 3) rfl (fun _ => rfl) ?_
    refine dp_s1 hF (i := .iadd) rfl (fun _ => rfl) ?_
    exact dp_s0 hF (i := .ireturn) rfl (fun _ => rfl)
  refine dp_s1 hF (i := .aload_n 0) rfl (fun _ => rfl) ?_
  refine dp_s1 hF (i := .iload_n 2) rfl (fun _ => rfl) ?_
  refine dp_si (mj := dp_m_X10_topOf) (i := .invokevirtual 62) rfl rfl (Or.inl rfl) rfl (fun _ => rfl) (fun r2 M1 => ?_)
  refine dp_s1 hF (i := .istore 4) rfl (fun _ => rfl) ?_
  refine dp_s1 hF (i := .aload_n 0) rfl (fun _ => rfl) ?_
  refine dp_s1 hF (i := .getfield 26) rfl (fun _ => rfl) ?_
  refine dp_s1 hF (i := .getfield 69) rfl (fun _ => rfl) ?_
  refine dp_s1 hF (i := .iload 4) rfl (fun _ => rfl) ?_
  refine dp_s3 hF (i := .iaload) rfl (fun _ => rfl) ?_
  refine dp_s1 hF (i := .aload_n 0) rfl (fun _ => rfl) ?_
  refine dp_s1 hF (i := .getfield 26) rfl (fun _ => rfl) ?_
  refine dp_s1 hF (i := .getfield 69) rfl (fun _ => rfl) ?_
  refine dp_s1 hF (i := .iload_n 1) rfl (fun _ => rfl) ?_
  refine dp_s3 hF (i := .iaload) rfl (fun _ => rfl) ?_
  refine dp_s2 hF (i := .if_icmp .ne 8) (a := (59, [some (.ref 28), some (.int v1), some (.int v2), some (.int vs0), some (.int r2), none, none], [], M1)) (b := (64, [some (.ref 28), some (.int v1), some (.int v2), some (.int vs0), some (.int r2), none, none], [], M1)) rfl (fun _ => rfl) ?_ ?_
  · refine dp_s1 hF (i := .bipush 12) rfl (fun _ => rfl) ?_
    refine dp_s1 hF (i := .goto 4) rfl (fun _ => rfl) ?_
    exact rfl
  refine dp_s1 hF (i := .iconst 0) rfl (fun _ => rfl) ?_
  exact rfl
set_option maxRecDepth 20000 in
theorem D_X10_score_65_eq (xs : Nat → Int32) (xl d : Nat) (v1 : Int32) (v2 : Int32) (v3 : Int32) (v4 : Int32) (vs0 : Int32) (M : dp_M) : D_X10_score_65 xs xl d v1 v2 v3 v4 vs0 M = if v4 < 0 ∨ 100 ≤ Int32.toNatClampNeg v4 then none else (if v1 < 0 ∨ 100 ≤ Int32.toNatClampNeg v1 then none else (dp_w (if (0 : Int32) < ((dp_I M 5 (Int32.toNatClampNeg v4)) - (dp_I M 5 (Int32.toNatClampNeg v1))) then ((dp_I M 5 (Int32.toNatClampNeg v4)) - (dp_I M 5 (Int32.toNatClampNeg v1))) else (0 : Int32)) (fun y1 => if v2 < 0 ∨ dp_len M 33 ≤ Int32.toNatClampNeg v2 then none else (dp_bi (dp_den true xs xl d 233 [.ref 28, .int v1, .int v2, .int (dp_I M 33 (Int32.toNatClampNeg v2))] M) (fun r3 M2 => some (.inl (some (.int (((((40 : Int32) - ((15 : Int32) * r3)) + vs0) - (if ((3 : Int32) * y1) < (24 : Int32) then ((3 : Int32) * y1) else (24 : Int32))) + v3))), M2)))))) := by
  have hF := dp_den_grow (md := true) (xs := xs) (xl := xl) d
  unfold D_X10_score_65
  refine dp_s1 hF (i := .istore 5) rfl (fun _ => rfl) ?_
  refine dp_s1 hF (i := .iconst 0) rfl (fun _ => rfl) ?_
  refine dp_s1 hF (i := .aload_n 0) rfl (fun _ => rfl) ?_
  refine dp_s1 hF (i := .getfield 26) rfl (fun _ => rfl) ?_
  refine dp_s1 hF (i := .getfield 66) rfl (fun _ => rfl) ?_
  refine dp_s1 hF (i := .iload 4) rfl (fun _ => rfl) ?_
  refine dp_s3 hF (i := .iaload) rfl (fun _ => rfl) ?_
  refine dp_s1 hF (i := .aload_n 0) rfl (fun _ => rfl) ?_
  refine dp_s1 hF (i := .getfield 26) rfl (fun _ => rfl) ?_
  refine dp_s1 hF (i := .getfield 66) rfl (fun _ => rfl) ?_
  refine dp_s1 hF (i := .iload_n 1) rfl (fun _ => rfl) ?_
  refine dp_s3 hF (i := .iaload) rfl (fun _ => rfl) ?_
  refine dp_s1 hF (i := .isub) rfl (fun _ => rfl) ?_
  refine dp_s1 hF (i := .invokestatic 108) rfl (fun _ => rfl) ?_
  refine dp_s1w (if (0 : Int32) < ((dp_I M 5 (Int32.toNatClampNeg v4)) - (dp_I M 5 (Int32.toNatClampNeg v1))) then ((dp_I M 5 (Int32.toNatClampNeg v4)) - (dp_I M 5 (Int32.toNatClampNeg v1))) else (0 : Int32)) (fun (y1 : Int32) => (93, [some (.ref 28), some (.int v1), some (.int v2), some (.int v3), some (.int v4), some (.int vs0), some (.int y1)], [], M)) hF (i := .istore 6) rfl (fun _ => rfl) (fun y1 => ?_)
  refine dp_s1 hF (i := .bipush 40) rfl (fun _ => rfl) ?_
  refine dp_s1 hF (i := .bipush 15) rfl (fun _ => rfl) ?_
  refine dp_s1 hF (i := .aload_n 0) rfl (fun _ => rfl) ?_
  refine dp_s1 hF (i := .iload_n 1) rfl (fun _ => rfl) ?_
  refine dp_s1 hF (i := .iload_n 2) rfl (fun _ => rfl) ?_
  refine dp_s1 hF (i := .aload_n 0) rfl (fun _ => rfl) ?_
  refine dp_s1 hF (i := .getfield 40) rfl (fun _ => rfl) ?_
  refine dp_s1 hF (i := .iload_n 2) rfl (fun _ => rfl) ?_
  refine dp_s3 hF (i := .iaload) rfl (fun _ => rfl) ?_
  refine dp_si (mj := dp_m_X10_sooner) (i := .invokevirtual 78) rfl rfl (Or.inl rfl) rfl (fun _ => rfl) (fun r3 M2 => ?_)
  refine dp_s1 hF (i := .imul) rfl (fun _ => rfl) ?_
  refine dp_s1 hF (i := .isub) rfl (fun _ => rfl) ?_
  refine dp_s1 hF (i := .iload 5) rfl (fun _ => rfl) ?_
  refine dp_s1 hF (i := .iadd) rfl (fun _ => rfl) ?_
  refine dp_s1 hF (i := .bipush 24) rfl (fun _ => rfl) ?_
  refine dp_s1 hF (i := .iconst 3) rfl (fun _ => rfl) ?_
  refine dp_s1 hF (i := .iload 6) rfl (fun _ => rfl) ?_
  refine dp_s1 hF (i := .imul) rfl (fun _ => rfl) ?_
  refine dp_s1 hF (i := .invokestatic 113) rfl (fun _ => rfl) ?_
  refine dp_s1 hF (i := .isub) rfl (fun _ => rfl) ?_
  refine dp_s1 hF (i := .iload_n 3) rfl (fun _ => rfl) ?_
  refine dp_s1 hF (i := .iadd) rfl (fun _ => rfl) ?_
  exact dp_s0 hF (i := .ireturn) rfl (fun _ => rfl)
noncomputable def D_X10_bestRow_0 (xs : Nat → Int32) (xl d : Nat) (v1 : Int32) (M : dp_M) : Option dp_Res := dp_lim true xs xl (dp_den true xs xl d) dp_m_X10_bestRow (0, [some (.ref 28), some (.int v1), none, none], [], M)
noncomputable def D_X10_bestRow_4 (xs : Nat → Int32) (xl d : Nat) (v1 : Int32) (v2 : Int32) (v3 : Int32) (M : dp_M) : Option dp_Res := dp_lim true xs xl (dp_den true xs xl d) dp_m_X10_bestRow (4, [some (.ref 28), some (.int v1), some (.int v2), some (.int v3)], [], M)
theorem D_X10_bestRow_0_den (xs : Nat → Int32) (xl d : Nat) (a0 : Int32) (M : dp_M) : dp_den true xs xl (d + 1) 242 [.ref 28, .int a0] M = D_X10_bestRow_0 xs xl d a0 M := rfl
set_option maxRecDepth 20000 in
theorem D_X10_bestRow_0_eq (xs : Nat → Int32) (xl d : Nat) (v1 : Int32) (M : dp_M) : D_X10_bestRow_0 xs xl d v1 M = dp_w (-1 : Int32) (fun y1 => dp_w (0 : Int32) (fun y2 => D_X10_bestRow_4 xs xl d v1 y1 y2 M)) := by
  have hF := dp_den_grow (md := true) (xs := xs) (xl := xl) d
  unfold D_X10_bestRow_0
  refine dp_s1 hF (i := .iconst (-1)) rfl (fun _ => rfl) ?_
  refine dp_s1w (-1 : Int32) (fun (y1 : Int32) => (2, [some (.ref 28), some (.int v1), some (.int y1), none], [], M)) hF (i := .istore_n 2) rfl (fun _ => rfl) (fun y1 => ?_)
  refine dp_s1 hF (i := .iconst 0) rfl (fun _ => rfl) ?_
  refine dp_s1w (0 : Int32) (fun (y2 : Int32) => (4, [some (.ref 28), some (.int v1), some (.int y1), some (.int y2)], [], M)) hF (i := .istore_n 3) rfl (fun _ => rfl) (fun y2 => ?_)
  exact rfl
set_option maxRecDepth 20000 in
theorem D_X10_bestRow_4_eq (xs : Nat → Int32) (xl d : Nat) (v1 : Int32) (v2 : Int32) (v3 : Int32) (M : dp_M) : D_X10_bestRow_4 xs xl d v1 v2 v3 M = if (dp_I M 28 1) ≤ v3 then (some (.inl (some (.int v2)), M)) else (dp_bi (dp_den true xs xl d 240 [.ref 28, .int v1, .int v3] M) (fun r2 M1 => if r2 = 0 then (if v2 = (-1 : Int32) then (dp_w (v3 + (1 : Int32)) (fun y3 => D_X10_bestRow_4 xs xl d v1 v3 y3 M1)) else (dp_bi (dp_den true xs xl d 241 [.ref 28, .int v1, .int v3] M1) (fun r5 M4 => dp_bi (dp_den true xs xl d 241 [.ref 28, .int v1, .int v2] M4) (fun r7 M6 => if r5 ≤ r7 then (dp_w (v3 + (1 : Int32)) (fun y8 => D_X10_bestRow_4 xs xl d v1 v2 y8 M6)) else (dp_w (v3 + (1 : Int32)) (fun y9 => D_X10_bestRow_4 xs xl d v1 v3 y9 M6)))))) else (dp_w (v3 + (1 : Int32)) (fun y10 => D_X10_bestRow_4 xs xl d v1 v2 y10 M1)))) := by
  have hF := dp_den_grow (md := true) (xs := xs) (xl := xl) d
  unfold D_X10_bestRow_4
  refine dp_s1 hF (i := .iload_n 3) rfl (fun _ => rfl) ?_
  refine dp_s1 hF (i := .aload_n 0) rfl (fun _ => rfl) ?_
  refine dp_s1 hF (i := .getfield 30) rfl (fun _ => rfl) ?_
  refine dp_s2 hF (i := .if_icmp .ge 40) (a := (49, [some (.ref 28), some (.int v1), some (.int v2), some (.int v3)], [], M)) (b := (12, [some (.ref 28), some (.int v1), some (.int v2), some (.int v3)], [], M)) rfl (fun _ => rfl) ?_ ?_
  · refine dp_s1 hF (i := .iload_n 2) rfl (fun _ => rfl) ?_
    exact dp_s0 hF (i := .ireturn) rfl (fun _ => rfl)
  refine dp_s1 hF (i := .aload_n 0) rfl (fun _ => rfl) ?_
  refine dp_s1 hF (i := .iload_n 1) rfl (fun _ => rfl) ?_
  refine dp_s1 hF (i := .iload_n 3) rfl (fun _ => rfl) ?_
  refine dp_si (mj := dp_m_X10_brokenOnRow) (i := .invokevirtual 95) rfl rfl (Or.inl rfl) rfl (fun _ => rfl) (fun r2 M1 => ?_)
  refine dp_s2 hF (i := .ifCond .ne 25) (a := (21, [some (.ref 28), some (.int v1), some (.int v2), some (.int v3)], [], M1)) (b := (43, [some (.ref 28), some (.int v1), some (.int v2), some (.int v3)], [], M1)) rfl (fun _ => rfl) ?_ ?_
  · refine dp_s1 hF (i := .iload_n 2) rfl (fun _ => rfl) ?_
    refine dp_s1 hF (i := .iconst (-1)) rfl (fun _ => rfl) ?_
    refine dp_s2 hF (i := .if_icmp .eq 18) (a := (41, [some (.ref 28), some (.int v1), some (.int v2), some (.int v3)], [], M1)) (b := (26, [some (.ref 28), some (.int v1), some (.int v2), some (.int v3)], [], M1)) rfl (fun _ => rfl) ?_ ?_
    · refine dp_s1 hF (i := .iload_n 3) rfl (fun _ => rfl) ?_
      refine dp_s1 hF (i := .istore_n 2) rfl (fun _ => rfl) ?_
      refine dp_s1w (v3 + (1 : Int32)) (fun (y3 : Int32) => (46, [some (.ref 28), some (.int v1), some (.int v3), some (.int y3)], [], M1)) hF (i := .iinc 3 1) rfl (fun _ => rfl) (fun y3 => ?_)
      refine dp_s1 hF (i := .goto (-42)) rfl (fun _ => rfl) ?_
      exact rfl
    refine dp_s1 hF (i := .aload_n 0) rfl (fun _ => rfl) ?_
    refine dp_s1 hF (i := .iload_n 1) rfl (fun _ => rfl) ?_
    refine dp_s1 hF (i := .iload_n 3) rfl (fun _ => rfl) ?_
    refine dp_si (mj := dp_m_X10_score) (i := .invokevirtual 116) rfl rfl (Or.inl rfl) rfl (fun _ => rfl) (fun r5 M4 => ?_)
    refine dp_s1 hF (i := .aload_n 0) rfl (fun _ => rfl) ?_
    refine dp_s1 hF (i := .iload_n 1) rfl (fun _ => rfl) ?_
    refine dp_s1 hF (i := .iload_n 2) rfl (fun _ => rfl) ?_
    refine dp_si (mj := dp_m_X10_score) (i := .invokevirtual 116) rfl rfl (Or.inl rfl) rfl (fun _ => rfl) (fun r7 M6 => ?_)
    refine dp_s2 hF (i := .if_icmp .le 5) (a := (43, [some (.ref 28), some (.int v1), some (.int v2), some (.int v3)], [], M6)) (b := (41, [some (.ref 28), some (.int v1), some (.int v2), some (.int v3)], [], M6)) rfl (fun _ => rfl) ?_ ?_
    · refine dp_s1w (v3 + (1 : Int32)) (fun (y8 : Int32) => (46, [some (.ref 28), some (.int v1), some (.int v2), some (.int y8)], [], M6)) hF (i := .iinc 3 1) rfl (fun _ => rfl) (fun y8 => ?_)
      refine dp_s1 hF (i := .goto (-42)) rfl (fun _ => rfl) ?_
      exact rfl
    refine dp_s1 hF (i := .iload_n 3) rfl (fun _ => rfl) ?_
    refine dp_s1 hF (i := .istore_n 2) rfl (fun _ => rfl) ?_
    refine dp_s1w (v3 + (1 : Int32)) (fun (y9 : Int32) => (46, [some (.ref 28), some (.int v1), some (.int v3), some (.int y9)], [], M6)) hF (i := .iinc 3 1) rfl (fun _ => rfl) (fun y9 => ?_)
    refine dp_s1 hF (i := .goto (-42)) rfl (fun _ => rfl) ?_
    exact rfl
  refine dp_s1w (v3 + (1 : Int32)) (fun (y10 : Int32) => (46, [some (.ref 28), some (.int v1), some (.int v2), some (.int y10)], [], M1)) hF (i := .iinc 3 1) rfl (fun _ => rfl) (fun y10 => ?_)
  refine dp_s1 hF (i := .goto (-42)) rfl (fun _ => rfl) ?_
  exact rfl
noncomputable def D_X10_bestClearRow_0 (xs : Nat → Int32) (xl d : Nat) (v1 : Int32) (M : dp_M) : Option dp_Res := dp_lim true xs xl (dp_den true xs xl d) dp_m_X10_bestClearRow (0, [some (.ref 28), some (.int v1), none, none, none], [], M)
noncomputable def D_X10_bestClearRow_4 (xs : Nat → Int32) (xl d : Nat) (v1 : Int32) (v2 : Int32) (v3 : Int32) (M : dp_M) : Option dp_Res := dp_lim true xs xl (dp_den true xs xl d) dp_m_X10_bestClearRow (4, [some (.ref 28), some (.int v1), some (.int v2), some (.int v3), none], [], M)
noncomputable def D_X10_bestClearRow_41 (xs : Nat → Int32) (xl d : Nat) (v1 : Int32) (v2 : Int32) (v3 : Int32) (vs0 : Int32) (M : dp_M) : Option dp_Res := dp_lim true xs xl (dp_den true xs xl d) dp_m_X10_bestClearRow (41, [some (.ref 28), some (.int v1), some (.int v2), some (.int v3), none], [.int vs0], M)
noncomputable def D_X10_bestClearRow_4_a (xs : Nat → Int32) (xl d : Nat) (v1 : Int32) (v2 : Int32) (v3 : Int32) (v4 : Int32) (M : dp_M) : Option dp_Res := dp_lim true xs xl (dp_den true xs xl d) dp_m_X10_bestClearRow (4, [some (.ref 28), some (.int v1), some (.int v2), some (.int v3), some (.int v4)], [], M)
noncomputable def D_X10_bestClearRow_41_a (xs : Nat → Int32) (xl d : Nat) (v1 : Int32) (v2 : Int32) (v3 : Int32) (v4 : Int32) (vs0 : Int32) (M : dp_M) : Option dp_Res := dp_lim true xs xl (dp_den true xs xl d) dp_m_X10_bestClearRow (41, [some (.ref 28), some (.int v1), some (.int v2), some (.int v3), some (.int v4)], [.int vs0], M)
theorem D_X10_bestClearRow_0_den (xs : Nat → Int32) (xl d : Nat) (a0 : Int32) (M : dp_M) : dp_den true xs xl (d + 1) 243 [.ref 28, .int a0] M = D_X10_bestClearRow_0 xs xl d a0 M := rfl
set_option maxRecDepth 20000 in
theorem D_X10_bestClearRow_0_eq (xs : Nat → Int32) (xl d : Nat) (v1 : Int32) (M : dp_M) : D_X10_bestClearRow_0 xs xl d v1 M = dp_w (-1 : Int32) (fun y1 => dp_w (0 : Int32) (fun y2 => D_X10_bestClearRow_4 xs xl d v1 y1 y2 M)) := by
  have hF := dp_den_grow (md := true) (xs := xs) (xl := xl) d
  unfold D_X10_bestClearRow_0
  refine dp_s1 hF (i := .iconst (-1)) rfl (fun _ => rfl) ?_
  refine dp_s1w (-1 : Int32) (fun (y1 : Int32) => (2, [some (.ref 28), some (.int v1), some (.int y1), none, none], [], M)) hF (i := .istore_n 2) rfl (fun _ => rfl) (fun y1 => ?_)
  refine dp_s1 hF (i := .iconst 0) rfl (fun _ => rfl) ?_
  refine dp_s1w (0 : Int32) (fun (y2 : Int32) => (4, [some (.ref 28), some (.int v1), some (.int y1), some (.int y2), none], [], M)) hF (i := .istore_n 3) rfl (fun _ => rfl) (fun y2 => ?_)
  exact rfl
set_option maxRecDepth 20000 in
theorem D_X10_bestClearRow_4_eq (xs : Nat → Int32) (xl d : Nat) (v1 : Int32) (v2 : Int32) (v3 : Int32) (M : dp_M) : D_X10_bestClearRow_4 xs xl d v1 v2 v3 M = if (dp_I M 28 1) ≤ v3 then (some (.inl (some (.int v2)), M)) else (dp_bi (dp_den true xs xl d 239 [.ref 28, .int v1, .int v3] M) (fun r2 M1 => if r2 = 0 then (if v3 < 0 ∨ dp_len M1 33 ≤ Int32.toNatClampNeg v3 then none else (dp_bi (dp_den true xs xl d 233 [.ref 28, .int v1, .int v3, .int (dp_I M1 33 (Int32.toNatClampNeg v3))] M1) (fun r4 M3 => if r4 = 0 then (D_X10_bestClearRow_41 xs xl d v1 v2 v3 (1 : Int32) M3) else (D_X10_bestClearRow_41 xs xl d v1 v2 v3 (0 : Int32) M3)))) else (D_X10_bestClearRow_41 xs xl d v1 v2 v3 (0 : Int32) M1))) := by
  have hF := dp_den_grow (md := true) (xs := xs) (xl := xl) d
  unfold D_X10_bestClearRow_4
  refine dp_s1 hF (i := .iload_n 3) rfl (fun _ => rfl) ?_
  refine dp_s1 hF (i := .aload_n 0) rfl (fun _ => rfl) ?_
  refine dp_s1 hF (i := .getfield 30) rfl (fun _ => rfl) ?_
  refine dp_s2 hF (i := .if_icmp .ge 67) (a := (76, [some (.ref 28), some (.int v1), some (.int v2), some (.int v3), none], [], M)) (b := (12, [some (.ref 28), some (.int v1), some (.int v2), some (.int v3), none], [], M)) rfl (fun _ => rfl) ?_ ?_
  · refine dp_s1 hF (i := .iload_n 2) rfl (fun _ => rfl) ?_
    exact dp_s0 hF (i := .ireturn) rfl (fun _ => rfl)
  refine dp_s1 hF (i := .aload_n 0) rfl (fun _ => rfl) ?_
  refine dp_s1 hF (i := .iload_n 1) rfl (fun _ => rfl) ?_
  refine dp_s1 hF (i := .iload_n 3) rfl (fun _ => rfl) ?_
  refine dp_si (mj := dp_m_X10_brokenByShift) (i := .invokevirtual 119) rfl rfl (Or.inl rfl) rfl (fun _ => rfl) (fun r2 M1 => ?_)
  refine dp_s2 hF (i := .ifCond .ne 22) (a := (21, [some (.ref 28), some (.int v1), some (.int v2), some (.int v3), none], [], M1)) (b := (40, [some (.ref 28), some (.int v1), some (.int v2), some (.int v3), none], [], M1)) rfl (fun _ => rfl) ?_ ?_
  · refine dp_s1 hF (i := .aload_n 0) rfl (fun _ => rfl) ?_
    refine dp_s1 hF (i := .iload_n 1) rfl (fun _ => rfl) ?_
    refine dp_s1 hF (i := .iload_n 3) rfl (fun _ => rfl) ?_
    refine dp_s1 hF (i := .aload_n 0) rfl (fun _ => rfl) ?_
    refine dp_s1 hF (i := .getfield 40) rfl (fun _ => rfl) ?_
    refine dp_s1 hF (i := .iload_n 3) rfl (fun _ => rfl) ?_
    refine dp_s3 hF (i := .iaload) rfl (fun _ => rfl) ?_
    refine dp_si (mj := dp_m_X10_sooner) (i := .invokevirtual 78) rfl rfl (Or.inl rfl) rfl (fun _ => rfl) (fun r4 M3 => ?_)
    refine dp_s2 hF (i := .ifCond .ne 7) (a := (36, [some (.ref 28), some (.int v1), some (.int v2), some (.int v3), none], [], M3)) (b := (40, [some (.ref 28), some (.int v1), some (.int v2), some (.int v3), none], [], M3)) rfl (fun _ => rfl) ?_ ?_
    · refine dp_s1 hF (i := .iconst 1) rfl (fun _ => rfl) ?_
      refine dp_s1 hF (i := .goto 4) rfl (fun _ => rfl) ?_
      exact rfl
    refine dp_s1 hF (i := .iconst 0) rfl (fun _ => rfl) ?_
    exact rfl
  refine dp_s1 hF (i := .iconst 0) rfl (fun _ => rfl) ?_
  exact rfl
set_option maxRecDepth 20000 in
theorem D_X10_bestClearRow_41_eq (xs : Nat → Int32) (xl d : Nat) (v1 : Int32) (v2 : Int32) (v3 : Int32) (vs0 : Int32) (M : dp_M) : D_X10_bestClearRow_41 xs xl d v1 v2 v3 vs0 M = if vs0 = 0 then (dp_w (v3 + (1 : Int32)) (fun y1 => D_X10_bestClearRow_4_a xs xl d v1 v2 y1 vs0 M)) else (if v2 = (-1 : Int32) then (dp_w (v3 + (1 : Int32)) (fun y2 => D_X10_bestClearRow_4_a xs xl d v1 v3 y2 vs0 M)) else (dp_bi (dp_den true xs xl d 241 [.ref 28, .int v1, .int v3] M) (fun r4 M3 => dp_bi (dp_den true xs xl d 241 [.ref 28, .int v1, .int v2] M3) (fun r6 M5 => if r4 ≤ r6 then (dp_w (v3 + (1 : Int32)) (fun y7 => D_X10_bestClearRow_4_a xs xl d v1 v2 y7 vs0 M5)) else (dp_w (v3 + (1 : Int32)) (fun y8 => D_X10_bestClearRow_4_a xs xl d v1 v3 y8 vs0 M5)))))) := by
  have hF := dp_den_grow (md := true) (xs := xs) (xl := xl) d
  unfold D_X10_bestClearRow_41
  refine dp_s1 hF (i := .istore 4) rfl (fun _ => rfl) ?_
  refine dp_s1 hF (i := .iload 4) rfl (fun _ => rfl) ?_
  refine dp_s2 hF (i := .ifCond .eq 25) (a := (70, [some (.ref 28), some (.int v1), some (.int v2), some (.int v3), some (.int vs0)], [], M)) (b := (48, [some (.ref 28), some (.int v1), some (.int v2), some (.int v3), some (.int vs0)], [], M)) rfl (fun _ => rfl) ?_ ?_
  · refine dp_s1w (v3 + (1 : Int32)) (fun (y1 : Int32) => (73, [some (.ref 28), some (.int v1), some (.int v2), some (.int y1), some (.int vs0)], [], M)) hF (i := .iinc 3 1) rfl (fun _ => rfl) (fun y1 => ?_)
    refine dp_s1 hF (i := .goto (-69)) rfl (fun _ => rfl) ?_
    exact rfl
  refine dp_s1 hF (i := .iload_n 2) rfl (fun _ => rfl) ?_
  refine dp_s1 hF (i := .iconst (-1)) rfl (fun _ => rfl) ?_
  refine dp_s2 hF (i := .if_icmp .eq 18) (a := (68, [some (.ref 28), some (.int v1), some (.int v2), some (.int v3), some (.int vs0)], [], M)) (b := (53, [some (.ref 28), some (.int v1), some (.int v2), some (.int v3), some (.int vs0)], [], M)) rfl (fun _ => rfl) ?_ ?_
  · refine dp_s1 hF (i := .iload_n 3) rfl (fun _ => rfl) ?_
    refine dp_s1 hF (i := .istore_n 2) rfl (fun _ => rfl) ?_
    refine dp_s1w (v3 + (1 : Int32)) (fun (y2 : Int32) => (73, [some (.ref 28), some (.int v1), some (.int v3), some (.int y2), some (.int vs0)], [], M)) hF (i := .iinc 3 1) rfl (fun _ => rfl) (fun y2 => ?_)
    refine dp_s1 hF (i := .goto (-69)) rfl (fun _ => rfl) ?_
    exact rfl
  refine dp_s1 hF (i := .aload_n 0) rfl (fun _ => rfl) ?_
  refine dp_s1 hF (i := .iload_n 1) rfl (fun _ => rfl) ?_
  refine dp_s1 hF (i := .iload_n 3) rfl (fun _ => rfl) ?_
  refine dp_si (mj := dp_m_X10_score) (i := .invokevirtual 116) rfl rfl (Or.inl rfl) rfl (fun _ => rfl) (fun r4 M3 => ?_)
  refine dp_s1 hF (i := .aload_n 0) rfl (fun _ => rfl) ?_
  refine dp_s1 hF (i := .iload_n 1) rfl (fun _ => rfl) ?_
  refine dp_s1 hF (i := .iload_n 2) rfl (fun _ => rfl) ?_
  refine dp_si (mj := dp_m_X10_score) (i := .invokevirtual 116) rfl rfl (Or.inl rfl) rfl (fun _ => rfl) (fun r6 M5 => ?_)
  refine dp_s2 hF (i := .if_icmp .le 5) (a := (70, [some (.ref 28), some (.int v1), some (.int v2), some (.int v3), some (.int vs0)], [], M5)) (b := (68, [some (.ref 28), some (.int v1), some (.int v2), some (.int v3), some (.int vs0)], [], M5)) rfl (fun _ => rfl) ?_ ?_
  · refine dp_s1w (v3 + (1 : Int32)) (fun (y7 : Int32) => (73, [some (.ref 28), some (.int v1), some (.int v2), some (.int y7), some (.int vs0)], [], M5)) hF (i := .iinc 3 1) rfl (fun _ => rfl) (fun y7 => ?_)
    refine dp_s1 hF (i := .goto (-69)) rfl (fun _ => rfl) ?_
    exact rfl
  refine dp_s1 hF (i := .iload_n 3) rfl (fun _ => rfl) ?_
  refine dp_s1 hF (i := .istore_n 2) rfl (fun _ => rfl) ?_
  refine dp_s1w (v3 + (1 : Int32)) (fun (y8 : Int32) => (73, [some (.ref 28), some (.int v1), some (.int v3), some (.int y8), some (.int vs0)], [], M5)) hF (i := .iinc 3 1) rfl (fun _ => rfl) (fun y8 => ?_)
  refine dp_s1 hF (i := .goto (-69)) rfl (fun _ => rfl) ?_
  exact rfl
set_option maxRecDepth 20000 in
theorem D_X10_bestClearRow_4_a_eq (xs : Nat → Int32) (xl d : Nat) (v1 : Int32) (v2 : Int32) (v3 : Int32) (v4 : Int32) (M : dp_M) : D_X10_bestClearRow_4_a xs xl d v1 v2 v3 v4 M = if (dp_I M 28 1) ≤ v3 then (some (.inl (some (.int v2)), M)) else (dp_bi (dp_den true xs xl d 239 [.ref 28, .int v1, .int v3] M) (fun r2 M1 => if r2 = 0 then (if v3 < 0 ∨ dp_len M1 33 ≤ Int32.toNatClampNeg v3 then none else (dp_bi (dp_den true xs xl d 233 [.ref 28, .int v1, .int v3, .int (dp_I M1 33 (Int32.toNatClampNeg v3))] M1) (fun r4 M3 => if r4 = 0 then (D_X10_bestClearRow_41_a xs xl d v1 v2 v3 v4 (1 : Int32) M3) else (D_X10_bestClearRow_41_a xs xl d v1 v2 v3 v4 (0 : Int32) M3)))) else (D_X10_bestClearRow_41_a xs xl d v1 v2 v3 v4 (0 : Int32) M1))) := by
  have hF := dp_den_grow (md := true) (xs := xs) (xl := xl) d
  unfold D_X10_bestClearRow_4_a
  refine dp_s1 hF (i := .iload_n 3) rfl (fun _ => rfl) ?_
  refine dp_s1 hF (i := .aload_n 0) rfl (fun _ => rfl) ?_
  refine dp_s1 hF (i := .getfield 30) rfl (fun _ => rfl) ?_
  refine dp_s2 hF (i := .if_icmp .ge 67) (a := (76, [some (.ref 28), some (.int v1), some (.int v2), some (.int v3), some (.int v4)], [], M)) (b := (12, [some (.ref 28), some (.int v1), some (.int v2), some (.int v3), some (.int v4)], [], M)) rfl (fun _ => rfl) ?_ ?_
  · refine dp_s1 hF (i := .iload_n 2) rfl (fun _ => rfl) ?_
    exact dp_s0 hF (i := .ireturn) rfl (fun _ => rfl)
  refine dp_s1 hF (i := .aload_n 0) rfl (fun _ => rfl) ?_
  refine dp_s1 hF (i := .iload_n 1) rfl (fun _ => rfl) ?_
  refine dp_s1 hF (i := .iload_n 3) rfl (fun _ => rfl) ?_
  refine dp_si (mj := dp_m_X10_brokenByShift) (i := .invokevirtual 119) rfl rfl (Or.inl rfl) rfl (fun _ => rfl) (fun r2 M1 => ?_)
  refine dp_s2 hF (i := .ifCond .ne 22) (a := (21, [some (.ref 28), some (.int v1), some (.int v2), some (.int v3), some (.int v4)], [], M1)) (b := (40, [some (.ref 28), some (.int v1), some (.int v2), some (.int v3), some (.int v4)], [], M1)) rfl (fun _ => rfl) ?_ ?_
  · refine dp_s1 hF (i := .aload_n 0) rfl (fun _ => rfl) ?_
    refine dp_s1 hF (i := .iload_n 1) rfl (fun _ => rfl) ?_
    refine dp_s1 hF (i := .iload_n 3) rfl (fun _ => rfl) ?_
    refine dp_s1 hF (i := .aload_n 0) rfl (fun _ => rfl) ?_
    refine dp_s1 hF (i := .getfield 40) rfl (fun _ => rfl) ?_
    refine dp_s1 hF (i := .iload_n 3) rfl (fun _ => rfl) ?_
    refine dp_s3 hF (i := .iaload) rfl (fun _ => rfl) ?_
    refine dp_si (mj := dp_m_X10_sooner) (i := .invokevirtual 78) rfl rfl (Or.inl rfl) rfl (fun _ => rfl) (fun r4 M3 => ?_)
    refine dp_s2 hF (i := .ifCond .ne 7) (a := (36, [some (.ref 28), some (.int v1), some (.int v2), some (.int v3), some (.int v4)], [], M3)) (b := (40, [some (.ref 28), some (.int v1), some (.int v2), some (.int v3), some (.int v4)], [], M3)) rfl (fun _ => rfl) ?_ ?_
    · refine dp_s1 hF (i := .iconst 1) rfl (fun _ => rfl) ?_
      refine dp_s1 hF (i := .goto 4) rfl (fun _ => rfl) ?_
      exact rfl
    refine dp_s1 hF (i := .iconst 0) rfl (fun _ => rfl) ?_
    exact rfl
  refine dp_s1 hF (i := .iconst 0) rfl (fun _ => rfl) ?_
  exact rfl
set_option maxRecDepth 20000 in
theorem D_X10_bestClearRow_41_a_eq (xs : Nat → Int32) (xl d : Nat) (v1 : Int32) (v2 : Int32) (v3 : Int32) (v4 : Int32) (vs0 : Int32) (M : dp_M) : D_X10_bestClearRow_41_a xs xl d v1 v2 v3 v4 vs0 M = if vs0 = 0 then (dp_w (v3 + (1 : Int32)) (fun y1 => D_X10_bestClearRow_4_a xs xl d v1 v2 y1 vs0 M)) else (if v2 = (-1 : Int32) then (dp_w (v3 + (1 : Int32)) (fun y2 => D_X10_bestClearRow_4_a xs xl d v1 v3 y2 vs0 M)) else (dp_bi (dp_den true xs xl d 241 [.ref 28, .int v1, .int v3] M) (fun r4 M3 => dp_bi (dp_den true xs xl d 241 [.ref 28, .int v1, .int v2] M3) (fun r6 M5 => if r4 ≤ r6 then (dp_w (v3 + (1 : Int32)) (fun y7 => D_X10_bestClearRow_4_a xs xl d v1 v2 y7 vs0 M5)) else (dp_w (v3 + (1 : Int32)) (fun y8 => D_X10_bestClearRow_4_a xs xl d v1 v3 y8 vs0 M5)))))) := by
  have hF := dp_den_grow (md := true) (xs := xs) (xl := xl) d
  unfold D_X10_bestClearRow_41_a
  refine dp_s1 hF (i := .istore 4) rfl (fun _ => rfl) ?_
  refine dp_s1 hF (i := .iload 4) rfl (fun _ => rfl) ?_
  refine dp_s2 hF (i := .ifCond .eq 25) (a := (70, [some (.ref 28), some (.int v1), some (.int v2), some (.int v3), some (.int vs0)], [], M)) (b := (48, [some (.ref 28), some (.int v1), some (.int v2), some (.int v3), some (.int vs0)], [], M)) rfl (fun _ => rfl) ?_ ?_
  · refine dp_s1w (v3 + (1 : Int32)) (fun (y1 : Int32) => (73, [some (.ref 28), some (.int v1), some (.int v2), some (.int y1), some (.int vs0)], [], M)) hF (i := .iinc 3 1) rfl (fun _ => rfl) (fun y1 => ?_)
    refine dp_s1 hF (i := .goto (-69)) rfl (fun _ => rfl) ?_
    exact rfl
  refine dp_s1 hF (i := .iload_n 2) rfl (fun _ => rfl) ?_
  refine dp_s1 hF (i := .iconst (-1)) rfl (fun _ => rfl) ?_
  refine dp_s2 hF (i := .if_icmp .eq 18) (a := (68, [some (.ref 28), some (.int v1), some (.int v2), some (.int v3), some (.int vs0)], [], M)) (b := (53, [some (.ref 28), some (.int v1), some (.int v2), some (.int v3), some (.int vs0)], [], M)) rfl (fun _ => rfl) ?_ ?_
  · refine dp_s1 hF (i := .iload_n 3) rfl (fun _ => rfl) ?_
    refine dp_s1 hF (i := .istore_n 2) rfl (fun _ => rfl) ?_
    refine dp_s1w (v3 + (1 : Int32)) (fun (y2 : Int32) => (73, [some (.ref 28), some (.int v1), some (.int v3), some (.int y2), some (.int vs0)], [], M)) hF (i := .iinc 3 1) rfl (fun _ => rfl) (fun y2 => ?_)
    refine dp_s1 hF (i := .goto (-69)) rfl (fun _ => rfl) ?_
    exact rfl
  refine dp_s1 hF (i := .aload_n 0) rfl (fun _ => rfl) ?_
  refine dp_s1 hF (i := .iload_n 1) rfl (fun _ => rfl) ?_
  refine dp_s1 hF (i := .iload_n 3) rfl (fun _ => rfl) ?_
  refine dp_si (mj := dp_m_X10_score) (i := .invokevirtual 116) rfl rfl (Or.inl rfl) rfl (fun _ => rfl) (fun r4 M3 => ?_)
  refine dp_s1 hF (i := .aload_n 0) rfl (fun _ => rfl) ?_
  refine dp_s1 hF (i := .iload_n 1) rfl (fun _ => rfl) ?_
  refine dp_s1 hF (i := .iload_n 2) rfl (fun _ => rfl) ?_
  refine dp_si (mj := dp_m_X10_score) (i := .invokevirtual 116) rfl rfl (Or.inl rfl) rfl (fun _ => rfl) (fun r6 M5 => ?_)
  refine dp_s2 hF (i := .if_icmp .le 5) (a := (70, [some (.ref 28), some (.int v1), some (.int v2), some (.int v3), some (.int vs0)], [], M5)) (b := (68, [some (.ref 28), some (.int v1), some (.int v2), some (.int v3), some (.int vs0)], [], M5)) rfl (fun _ => rfl) ?_ ?_
  · refine dp_s1w (v3 + (1 : Int32)) (fun (y7 : Int32) => (73, [some (.ref 28), some (.int v1), some (.int v2), some (.int y7), some (.int vs0)], [], M5)) hF (i := .iinc 3 1) rfl (fun _ => rfl) (fun y7 => ?_)
    refine dp_s1 hF (i := .goto (-69)) rfl (fun _ => rfl) ?_
    exact rfl
  refine dp_s1 hF (i := .iload_n 3) rfl (fun _ => rfl) ?_
  refine dp_s1 hF (i := .istore_n 2) rfl (fun _ => rfl) ?_
  refine dp_s1w (v3 + (1 : Int32)) (fun (y8 : Int32) => (73, [some (.ref 28), some (.int v1), some (.int v3), some (.int y8), some (.int vs0)], [], M5)) hF (i := .iinc 3 1) rfl (fun _ => rfl) (fun y8 => ?_)
  refine dp_s1 hF (i := .goto (-69)) rfl (fun _ => rfl) ?_
  exact rfl
noncomputable def D_X10_tidy_0 (xs : Nat → Int32) (xl d : Nat) (v1 : Int32) (M : dp_M) : Option dp_Res := dp_lim true xs xl (dp_den true xs xl d) dp_m_X10_tidy (0, [some (.ref 28), some (.int v1), none, none], [], M)
noncomputable def D_X10_tidy_2 (xs : Nat → Int32) (xl d : Nat) (v1 : Int32) (v2 : Int32) (M : dp_M) : Option dp_Res := dp_lim true xs xl (dp_den true xs xl d) dp_m_X10_tidy (2, [some (.ref 28), some (.int v1), some (.int v2), none], [], M)
noncomputable def D_X10_tidy_2_a (xs : Nat → Int32) (xl d : Nat) (v1 : Int32) (v2 : Int32) (v3 : Int32) (M : dp_M) : Option dp_Res := dp_lim true xs xl (dp_den true xs xl d) dp_m_X10_tidy (2, [some (.ref 28), some (.int v1), some (.int v2), some (.int v3)], [], M)
theorem D_X10_tidy_0_den (xs : Nat → Int32) (xl d : Nat) (a0 : Int32) (M : dp_M) : dp_den true xs xl (d + 1) 244 [.ref 28, .int a0] M = D_X10_tidy_0 xs xl d a0 M := rfl
set_option maxRecDepth 20000 in
theorem D_X10_tidy_0_eq (xs : Nat → Int32) (xl d : Nat) (v1 : Int32) (M : dp_M) : D_X10_tidy_0 xs xl d v1 M = dp_w (0 : Int32) (fun y1 => D_X10_tidy_2 xs xl d v1 y1 M) := by
  have hF := dp_den_grow (md := true) (xs := xs) (xl := xl) d
  unfold D_X10_tidy_0
  refine dp_s1 hF (i := .iconst 0) rfl (fun _ => rfl) ?_
  refine dp_s1w (0 : Int32) (fun (y1 : Int32) => (2, [some (.ref 28), some (.int v1), some (.int y1), none], [], M)) hF (i := .istore_n 2) rfl (fun _ => rfl) (fun y1 => ?_)
  exact rfl
set_option maxRecDepth 20000 in
theorem D_X10_tidy_2_eq (xs : Nat → Int32) (xl d : Nat) (v1 : Int32) (v2 : Int32) (M : dp_M) : D_X10_tidy_2 xs xl d v1 v2 M = if v1 ≤ v2 then (some (.inl (some (.int v2)), M)) else (dp_bi (dp_den true xs xl d 245 [.ref 28] M) (fun r2 M1 => if r2 = (-1 : Int32) then (some (.inl (some (.int v2)), M1)) else (dp_bi (dp_den true xs xl d 243 [.ref 28, .int r2] M1) (fun r4 M3 => dp_bv (dp_den true xs xl d 246 [.ref 28, .int r2, .int r4] M3) (fun M5 => dp_w (v2 + (1 : Int32)) (fun y6 => D_X10_tidy_2_a xs xl d v1 y6 r2 M5)))))) := by
  have hF := dp_den_grow (md := true) (xs := xs) (xl := xl) d
  unfold D_X10_tidy_2
  refine dp_s1 hF (i := .iload_n 2) rfl (fun _ => rfl) ?_
  refine dp_s1 hF (i := .iload_n 1) rfl (fun _ => rfl) ?_
  refine dp_s2 hF (i := .if_icmp .ge 32) (a := (36, [some (.ref 28), some (.int v1), some (.int v2), none], [], M)) (b := (7, [some (.ref 28), some (.int v1), some (.int v2), none], [], M)) rfl (fun _ => rfl) ?_ ?_
  · refine dp_s1 hF (i := .iload_n 2) rfl (fun _ => rfl) ?_
    exact dp_s0 hF (i := .ireturn) rfl (fun _ => rfl)
  refine dp_s1 hF (i := .aload_n 0) rfl (fun _ => rfl) ?_
  refine dp_si (mj := dp_m_X10_boxToTidy) (i := .invokevirtual 122) rfl rfl (Or.inl rfl) rfl (fun _ => rfl) (fun r2 M1 => ?_)
  refine dp_s1 hF (i := .istore_n 3) rfl (fun _ => rfl) ?_
  refine dp_s1 hF (i := .iload_n 3) rfl (fun _ => rfl) ?_
  refine dp_s1 hF (i := .iconst (-1)) rfl (fun _ => rfl) ?_
  refine dp_s2 hF (i := .if_icmp .ne 6) (a := (17, [some (.ref 28), some (.int v1), some (.int v2), some (.int r2)], [], M1)) (b := (20, [some (.ref 28), some (.int v1), some (.int v2), some (.int r2)], [], M1)) rfl (fun _ => rfl) ?_ ?_
  · refine dp_s1 hF (i := .goto 19) rfl (fun _ => rfl) ?_
    refine dp_s1 hF (i := .iload_n 2) rfl (fun _ => rfl) ?_
    exact dp_s0 hF (i := .ireturn) rfl (fun _ => rfl)
  refine dp_s1 hF (i := .aload_n 0) rfl (fun _ => rfl) ?_
  refine dp_s1 hF (i := .iload_n 3) rfl (fun _ => rfl) ?_
  refine dp_s1 hF (i := .aload_n 0) rfl (fun _ => rfl) ?_
  refine dp_s1 hF (i := .iload_n 3) rfl (fun _ => rfl) ?_
  refine dp_si (mj := dp_m_X10_bestClearRow) (i := .invokevirtual 126) rfl rfl (Or.inl rfl) rfl (fun _ => rfl) (fun r4 M3 => ?_)
  refine dp_sv (mj := dp_m_X10_bring) (i := .invokevirtual 129) rfl rfl rfl rfl (fun _ => rfl) (fun M5 => ?_)
  refine dp_s1w (v2 + (1 : Int32)) (fun (y6 : Int32) => (33, [some (.ref 28), some (.int v1), some (.int y6), some (.int r2)], [], M5)) hF (i := .iinc 2 1) rfl (fun _ => rfl) (fun y6 => ?_)
  refine dp_s1 hF (i := .goto (-31)) rfl (fun _ => rfl) ?_
  exact rfl
set_option maxRecDepth 20000 in
theorem D_X10_tidy_2_a_eq (xs : Nat → Int32) (xl d : Nat) (v1 : Int32) (v2 : Int32) (v3 : Int32) (M : dp_M) : D_X10_tidy_2_a xs xl d v1 v2 v3 M = if v1 ≤ v2 then (some (.inl (some (.int v2)), M)) else (dp_bi (dp_den true xs xl d 245 [.ref 28] M) (fun r2 M1 => if r2 = (-1 : Int32) then (some (.inl (some (.int v2)), M1)) else (dp_bi (dp_den true xs xl d 243 [.ref 28, .int r2] M1) (fun r4 M3 => dp_bv (dp_den true xs xl d 246 [.ref 28, .int r2, .int r4] M3) (fun M5 => dp_w (v2 + (1 : Int32)) (fun y6 => D_X10_tidy_2_a xs xl d v1 y6 r2 M5)))))) := by
  have hF := dp_den_grow (md := true) (xs := xs) (xl := xl) d
  unfold D_X10_tidy_2_a
  refine dp_s1 hF (i := .iload_n 2) rfl (fun _ => rfl) ?_
  refine dp_s1 hF (i := .iload_n 1) rfl (fun _ => rfl) ?_
  refine dp_s2 hF (i := .if_icmp .ge 32) (a := (36, [some (.ref 28), some (.int v1), some (.int v2), some (.int v3)], [], M)) (b := (7, [some (.ref 28), some (.int v1), some (.int v2), some (.int v3)], [], M)) rfl (fun _ => rfl) ?_ ?_
  · refine dp_s1 hF (i := .iload_n 2) rfl (fun _ => rfl) ?_
    exact dp_s0 hF (i := .ireturn) rfl (fun _ => rfl)
  refine dp_s1 hF (i := .aload_n 0) rfl (fun _ => rfl) ?_
  refine dp_si (mj := dp_m_X10_boxToTidy) (i := .invokevirtual 122) rfl rfl (Or.inl rfl) rfl (fun _ => rfl) (fun r2 M1 => ?_)
  refine dp_s1 hF (i := .istore_n 3) rfl (fun _ => rfl) ?_
  refine dp_s1 hF (i := .iload_n 3) rfl (fun _ => rfl) ?_
  refine dp_s1 hF (i := .iconst (-1)) rfl (fun _ => rfl) ?_
  refine dp_s2 hF (i := .if_icmp .ne 6) (a := (17, [some (.ref 28), some (.int v1), some (.int v2), some (.int r2)], [], M1)) (b := (20, [some (.ref 28), some (.int v1), some (.int v2), some (.int r2)], [], M1)) rfl (fun _ => rfl) ?_ ?_
  · refine dp_s1 hF (i := .goto 19) rfl (fun _ => rfl) ?_
    refine dp_s1 hF (i := .iload_n 2) rfl (fun _ => rfl) ?_
    exact dp_s0 hF (i := .ireturn) rfl (fun _ => rfl)
  refine dp_s1 hF (i := .aload_n 0) rfl (fun _ => rfl) ?_
  refine dp_s1 hF (i := .iload_n 3) rfl (fun _ => rfl) ?_
  refine dp_s1 hF (i := .aload_n 0) rfl (fun _ => rfl) ?_
  refine dp_s1 hF (i := .iload_n 3) rfl (fun _ => rfl) ?_
  refine dp_si (mj := dp_m_X10_bestClearRow) (i := .invokevirtual 126) rfl rfl (Or.inl rfl) rfl (fun _ => rfl) (fun r4 M3 => ?_)
  refine dp_sv (mj := dp_m_X10_bring) (i := .invokevirtual 129) rfl rfl rfl rfl (fun _ => rfl) (fun M5 => ?_)
  refine dp_s1w (v2 + (1 : Int32)) (fun (y6 : Int32) => (33, [some (.ref 28), some (.int v1), some (.int y6), some (.int r2)], [], M5)) hF (i := .iinc 2 1) rfl (fun _ => rfl) (fun y6 => ?_)
  refine dp_s1 hF (i := .goto (-31)) rfl (fun _ => rfl) ?_
  exact rfl
noncomputable def D_X10_boxToTidy_0 (xs : Nat → Int32) (xl d : Nat)  (M : dp_M) : Option dp_Res := dp_lim true xs xl (dp_den true xs xl d) dp_m_X10_boxToTidy (0, [some (.ref 28), none, none, none, none], [], M)
noncomputable def D_X10_boxToTidy_6 (xs : Nat → Int32) (xl d : Nat) (v1 : Int32) (v2 : Int32) (v3 : Int32) (M : dp_M) : Option dp_Res := dp_lim true xs xl (dp_den true xs xl d) dp_m_X10_boxToTidy (6, [some (.ref 28), some (.int v1), some (.int v2), some (.int v3), none], [], M)
noncomputable def D_X10_boxToTidy_6_a (xs : Nat → Int32) (xl d : Nat) (v1 : Int32) (v2 : Int32) (v3 : Int32) (v4 : Int32) (M : dp_M) : Option dp_Res := dp_lim true xs xl (dp_den true xs xl d) dp_m_X10_boxToTidy (6, [some (.ref 28), some (.int v1), some (.int v2), some (.int v3), some (.int v4)], [], M)
theorem D_X10_boxToTidy_0_den (xs : Nat → Int32) (xl d : Nat)  (M : dp_M) : dp_den true xs xl (d + 1) 245 [.ref 28] M = D_X10_boxToTidy_0 xs xl d  M := rfl
set_option maxRecDepth 20000 in
theorem D_X10_boxToTidy_0_eq (xs : Nat → Int32) (xl d : Nat)  (M : dp_M) : D_X10_boxToTidy_0 xs xl d  M = dp_w (-1 : Int32) (fun y1 => dp_w (0 : Int32) (fun y2 => dp_w (0 : Int32) (fun y3 => D_X10_boxToTidy_6 xs xl d y1 y2 y3 M))) := by
  have hF := dp_den_grow (md := true) (xs := xs) (xl := xl) d
  unfold D_X10_boxToTidy_0
  refine dp_s1 hF (i := .iconst (-1)) rfl (fun _ => rfl) ?_
  refine dp_s1w (-1 : Int32) (fun (y1 : Int32) => (2, [some (.ref 28), some (.int y1), none, none, none], [], M)) hF (i := .istore_n 1) rfl (fun _ => rfl) (fun y1 => ?_)
  refine dp_s1 hF (i := .iconst 0) rfl (fun _ => rfl) ?_
  refine dp_s1w (0 : Int32) (fun (y2 : Int32) => (4, [some (.ref 28), some (.int y1), some (.int y2), none, none], [], M)) hF (i := .istore_n 2) rfl (fun _ => rfl) (fun y2 => ?_)
  refine dp_s1 hF (i := .iconst 0) rfl (fun _ => rfl) ?_
  refine dp_s1w (0 : Int32) (fun (y3 : Int32) => (6, [some (.ref 28), some (.int y1), some (.int y2), some (.int y3), none], [], M)) hF (i := .istore_n 3) rfl (fun _ => rfl) (fun y3 => ?_)
  exact rfl
set_option maxRecDepth 20000 in
theorem D_X10_boxToTidy_6_eq (xs : Nat → Int32) (xl d : Nat) (v1 : Int32) (v2 : Int32) (v3 : Int32) (M : dp_M) : D_X10_boxToTidy_6 xs xl d v1 v2 v3 M = if (dp_I M 28 1) ≤ v3 then (some (.inl (some (.int v1)), M)) else (dp_bi (dp_den true xs xl d 227 [.ref 28, .int v3] M) (fun r2 M1 => if r2 = (-1 : Int32) then (dp_w (v3 + (1 : Int32)) (fun y3 => D_X10_boxToTidy_6_a xs xl d v1 v2 y3 r2 M1)) else (dp_bi (dp_den true xs xl d 234 [.ref 28, .int r2] M1) (fun r5 M4 => if r5 ≤ v2 then (dp_w (v3 + (1 : Int32)) (fun y6 => D_X10_boxToTidy_6_a xs xl d v1 v2 y6 r2 M4)) else (dp_bi (dp_den true xs xl d 243 [.ref 28, .int r2] M4) (fun r8 M7 => if r8 = (-1 : Int32) then (dp_w (v3 + (1 : Int32)) (fun y9 => D_X10_boxToTidy_6_a xs xl d v1 v2 y9 r2 M7)) else (dp_bi (dp_den true xs xl d 234 [.ref 28, .int r2] M7) (fun r11 M10 => dp_w (v3 + (1 : Int32)) (fun y12 => D_X10_boxToTidy_6_a xs xl d r2 r11 y12 r2 M10))))))))) := by
  have hF := dp_den_grow (md := true) (xs := xs) (xl := xl) d
  unfold D_X10_boxToTidy_6
  refine dp_s1 hF (i := .iload_n 3) rfl (fun _ => rfl) ?_
  refine dp_s1 hF (i := .aload_n 0) rfl (fun _ => rfl) ?_
  refine dp_s1 hF (i := .getfield 30) rfl (fun _ => rfl) ?_
  refine dp_s2 hF (i := .if_icmp .ge 52) (a := (63, [some (.ref 28), some (.int v1), some (.int v2), some (.int v3), none], [], M)) (b := (14, [some (.ref 28), some (.int v1), some (.int v2), some (.int v3), none], [], M)) rfl (fun _ => rfl) ?_ ?_
  · refine dp_s1 hF (i := .iload_n 1) rfl (fun _ => rfl) ?_
    exact dp_s0 hF (i := .ireturn) rfl (fun _ => rfl)
  refine dp_s1 hF (i := .aload_n 0) rfl (fun _ => rfl) ?_
  refine dp_s1 hF (i := .iload_n 3) rfl (fun _ => rfl) ?_
  refine dp_si (mj := dp_m_X10_topOf) (i := .invokevirtual 62) rfl rfl (Or.inl rfl) rfl (fun _ => rfl) (fun r2 M1 => ?_)
  refine dp_s1 hF (i := .istore 4) rfl (fun _ => rfl) ?_
  refine dp_s1 hF (i := .iload 4) rfl (fun _ => rfl) ?_
  refine dp_s1 hF (i := .iconst (-1)) rfl (fun _ => rfl) ?_
  refine dp_s2 hF (i := .if_icmp .eq 33) (a := (57, [some (.ref 28), some (.int v1), some (.int v2), some (.int v3), some (.int r2)], [], M1)) (b := (27, [some (.ref 28), some (.int v1), some (.int v2), some (.int v3), some (.int r2)], [], M1)) rfl (fun _ => rfl) ?_ ?_
  · refine dp_s1w (v3 + (1 : Int32)) (fun (y3 : Int32) => (60, [some (.ref 28), some (.int v1), some (.int v2), some (.int y3), some (.int r2)], [], M1)) hF (i := .iinc 3 1) rfl (fun _ => rfl) (fun y3 => ?_)
    refine dp_s1 hF (i := .goto (-54)) rfl (fun _ => rfl) ?_
    exact rfl
  refine dp_s1 hF (i := .aload_n 0) rfl (fun _ => rfl) ?_
  refine dp_s1 hF (i := .iload 4) rfl (fun _ => rfl) ?_
  refine dp_si (mj := dp_m_X10_soonerBelow) (i := .invokevirtual 82) rfl rfl (Or.inl rfl) rfl (fun _ => rfl) (fun r5 M4 => ?_)
  refine dp_s1 hF (i := .iload_n 2) rfl (fun _ => rfl) ?_
  refine dp_s2 hF (i := .if_icmp .le 23) (a := (57, [some (.ref 28), some (.int v1), some (.int v2), some (.int v3), some (.int r2)], [], M4)) (b := (37, [some (.ref 28), some (.int v1), some (.int v2), some (.int v3), some (.int r2)], [], M4)) rfl (fun _ => rfl) ?_ ?_
  · refine dp_s1w (v3 + (1 : Int32)) (fun (y6 : Int32) => (60, [some (.ref 28), some (.int v1), some (.int v2), some (.int y6), some (.int r2)], [], M4)) hF (i := .iinc 3 1) rfl (fun _ => rfl) (fun y6 => ?_)
    refine dp_s1 hF (i := .goto (-54)) rfl (fun _ => rfl) ?_
    exact rfl
  refine dp_s1 hF (i := .aload_n 0) rfl (fun _ => rfl) ?_
  refine dp_s1 hF (i := .iload 4) rfl (fun _ => rfl) ?_
  refine dp_si (mj := dp_m_X10_bestClearRow) (i := .invokevirtual 126) rfl rfl (Or.inl rfl) rfl (fun _ => rfl) (fun r8 M7 => ?_)
  refine dp_s1 hF (i := .iconst (-1)) rfl (fun _ => rfl) ?_
  refine dp_s2 hF (i := .if_icmp .eq 13) (a := (57, [some (.ref 28), some (.int v1), some (.int v2), some (.int v3), some (.int r2)], [], M7)) (b := (47, [some (.ref 28), some (.int v1), some (.int v2), some (.int v3), some (.int r2)], [], M7)) rfl (fun _ => rfl) ?_ ?_
  · refine dp_s1w (v3 + (1 : Int32)) (fun (y9 : Int32) => (60, [some (.ref 28), some (.int v1), some (.int v2), some (.int y9), some (.int r2)], [], M7)) hF (i := .iinc 3 1) rfl (fun _ => rfl) (fun y9 => ?_)
    refine dp_s1 hF (i := .goto (-54)) rfl (fun _ => rfl) ?_
    exact rfl
  refine dp_s1 hF (i := .iload 4) rfl (fun _ => rfl) ?_
  refine dp_s1 hF (i := .istore_n 1) rfl (fun _ => rfl) ?_
  refine dp_s1 hF (i := .aload_n 0) rfl (fun _ => rfl) ?_
  refine dp_s1 hF (i := .iload 4) rfl (fun _ => rfl) ?_
  refine dp_si (mj := dp_m_X10_soonerBelow) (i := .invokevirtual 82) rfl rfl (Or.inl rfl) rfl (fun _ => rfl) (fun r11 M10 => ?_)
  refine dp_s1 hF (i := .istore_n 2) rfl (fun _ => rfl) ?_
  refine dp_s1w (v3 + (1 : Int32)) (fun (y12 : Int32) => (60, [some (.ref 28), some (.int r2), some (.int r11), some (.int y12), some (.int r2)], [], M10)) hF (i := .iinc 3 1) rfl (fun _ => rfl) (fun y12 => ?_)
  refine dp_s1 hF (i := .goto (-54)) rfl (fun _ => rfl) ?_
  exact rfl
set_option maxRecDepth 20000 in
theorem D_X10_boxToTidy_6_a_eq (xs : Nat → Int32) (xl d : Nat) (v1 : Int32) (v2 : Int32) (v3 : Int32) (v4 : Int32) (M : dp_M) : D_X10_boxToTidy_6_a xs xl d v1 v2 v3 v4 M = if (dp_I M 28 1) ≤ v3 then (some (.inl (some (.int v1)), M)) else (dp_bi (dp_den true xs xl d 227 [.ref 28, .int v3] M) (fun r2 M1 => if r2 = (-1 : Int32) then (dp_w (v3 + (1 : Int32)) (fun y3 => D_X10_boxToTidy_6_a xs xl d v1 v2 y3 r2 M1)) else (dp_bi (dp_den true xs xl d 234 [.ref 28, .int r2] M1) (fun r5 M4 => if r5 ≤ v2 then (dp_w (v3 + (1 : Int32)) (fun y6 => D_X10_boxToTidy_6_a xs xl d v1 v2 y6 r2 M4)) else (dp_bi (dp_den true xs xl d 243 [.ref 28, .int r2] M4) (fun r8 M7 => if r8 = (-1 : Int32) then (dp_w (v3 + (1 : Int32)) (fun y9 => D_X10_boxToTidy_6_a xs xl d v1 v2 y9 r2 M7)) else (dp_bi (dp_den true xs xl d 234 [.ref 28, .int r2] M7) (fun r11 M10 => dp_w (v3 + (1 : Int32)) (fun y12 => D_X10_boxToTidy_6_a xs xl d r2 r11 y12 r2 M10))))))))) := by
  have hF := dp_den_grow (md := true) (xs := xs) (xl := xl) d
  unfold D_X10_boxToTidy_6_a
  refine dp_s1 hF (i := .iload_n 3) rfl (fun _ => rfl) ?_
  refine dp_s1 hF (i := .aload_n 0) rfl (fun _ => rfl) ?_
  refine dp_s1 hF (i := .getfield 30) rfl (fun _ => rfl) ?_
  refine dp_s2 hF (i := .if_icmp .ge 52) (a := (63, [some (.ref 28), some (.int v1), some (.int v2), some (.int v3), some (.int v4)], [], M)) (b := (14, [some (.ref 28), some (.int v1), some (.int v2), some (.int v3), some (.int v4)], [], M)) rfl (fun _ => rfl) ?_ ?_
  · refine dp_s1 hF (i := .iload_n 1) rfl (fun _ => rfl) ?_
    exact dp_s0 hF (i := .ireturn) rfl (fun _ => rfl)
  refine dp_s1 hF (i := .aload_n 0) rfl (fun _ => rfl) ?_
  refine dp_s1 hF (i := .iload_n 3) rfl (fun _ => rfl) ?_
  refine dp_si (mj := dp_m_X10_topOf) (i := .invokevirtual 62) rfl rfl (Or.inl rfl) rfl (fun _ => rfl) (fun r2 M1 => ?_)
  refine dp_s1 hF (i := .istore 4) rfl (fun _ => rfl) ?_
  refine dp_s1 hF (i := .iload 4) rfl (fun _ => rfl) ?_
  refine dp_s1 hF (i := .iconst (-1)) rfl (fun _ => rfl) ?_
  refine dp_s2 hF (i := .if_icmp .eq 33) (a := (57, [some (.ref 28), some (.int v1), some (.int v2), some (.int v3), some (.int r2)], [], M1)) (b := (27, [some (.ref 28), some (.int v1), some (.int v2), some (.int v3), some (.int r2)], [], M1)) rfl (fun _ => rfl) ?_ ?_
  · refine dp_s1w (v3 + (1 : Int32)) (fun (y3 : Int32) => (60, [some (.ref 28), some (.int v1), some (.int v2), some (.int y3), some (.int r2)], [], M1)) hF (i := .iinc 3 1) rfl (fun _ => rfl) (fun y3 => ?_)
    refine dp_s1 hF (i := .goto (-54)) rfl (fun _ => rfl) ?_
    exact rfl
  refine dp_s1 hF (i := .aload_n 0) rfl (fun _ => rfl) ?_
  refine dp_s1 hF (i := .iload 4) rfl (fun _ => rfl) ?_
  refine dp_si (mj := dp_m_X10_soonerBelow) (i := .invokevirtual 82) rfl rfl (Or.inl rfl) rfl (fun _ => rfl) (fun r5 M4 => ?_)
  refine dp_s1 hF (i := .iload_n 2) rfl (fun _ => rfl) ?_
  refine dp_s2 hF (i := .if_icmp .le 23) (a := (57, [some (.ref 28), some (.int v1), some (.int v2), some (.int v3), some (.int r2)], [], M4)) (b := (37, [some (.ref 28), some (.int v1), some (.int v2), some (.int v3), some (.int r2)], [], M4)) rfl (fun _ => rfl) ?_ ?_
  · refine dp_s1w (v3 + (1 : Int32)) (fun (y6 : Int32) => (60, [some (.ref 28), some (.int v1), some (.int v2), some (.int y6), some (.int r2)], [], M4)) hF (i := .iinc 3 1) rfl (fun _ => rfl) (fun y6 => ?_)
    refine dp_s1 hF (i := .goto (-54)) rfl (fun _ => rfl) ?_
    exact rfl
  refine dp_s1 hF (i := .aload_n 0) rfl (fun _ => rfl) ?_
  refine dp_s1 hF (i := .iload 4) rfl (fun _ => rfl) ?_
  refine dp_si (mj := dp_m_X10_bestClearRow) (i := .invokevirtual 126) rfl rfl (Or.inl rfl) rfl (fun _ => rfl) (fun r8 M7 => ?_)
  refine dp_s1 hF (i := .iconst (-1)) rfl (fun _ => rfl) ?_
  refine dp_s2 hF (i := .if_icmp .eq 13) (a := (57, [some (.ref 28), some (.int v1), some (.int v2), some (.int v3), some (.int r2)], [], M7)) (b := (47, [some (.ref 28), some (.int v1), some (.int v2), some (.int v3), some (.int r2)], [], M7)) rfl (fun _ => rfl) ?_ ?_
  · refine dp_s1w (v3 + (1 : Int32)) (fun (y9 : Int32) => (60, [some (.ref 28), some (.int v1), some (.int v2), some (.int y9), some (.int r2)], [], M7)) hF (i := .iinc 3 1) rfl (fun _ => rfl) (fun y9 => ?_)
    refine dp_s1 hF (i := .goto (-54)) rfl (fun _ => rfl) ?_
    exact rfl
  refine dp_s1 hF (i := .iload 4) rfl (fun _ => rfl) ?_
  refine dp_s1 hF (i := .istore_n 1) rfl (fun _ => rfl) ?_
  refine dp_s1 hF (i := .aload_n 0) rfl (fun _ => rfl) ?_
  refine dp_s1 hF (i := .iload 4) rfl (fun _ => rfl) ?_
  refine dp_si (mj := dp_m_X10_soonerBelow) (i := .invokevirtual 82) rfl rfl (Or.inl rfl) rfl (fun _ => rfl) (fun r11 M10 => ?_)
  refine dp_s1 hF (i := .istore_n 2) rfl (fun _ => rfl) ?_
  refine dp_s1w (v3 + (1 : Int32)) (fun (y12 : Int32) => (60, [some (.ref 28), some (.int r2), some (.int r11), some (.int y12), some (.int r2)], [], M10)) hF (i := .iinc 3 1) rfl (fun _ => rfl) (fun y12 => ?_)
  refine dp_s1 hF (i := .goto (-54)) rfl (fun _ => rfl) ?_
  exact rfl
noncomputable def D_X10_bring_0 (xs : Nat → Int32) (xl d : Nat) (v1 : Int32) (v2 : Int32) (M : dp_M) : Option dp_Res := dp_lim true xs xl (dp_den true xs xl d) dp_m_X10_bring (0, [some (.ref 28), some (.int v1), some (.int v2)], [], M)
theorem D_X10_bring_0_den (xs : Nat → Int32) (xl d : Nat) (a0 : Int32) (a1 : Int32) (M : dp_M) : dp_den true xs xl (d + 1) 246 [.ref 28, .int a0, .int a1] M = D_X10_bring_0 xs xl d a0 a1 M := rfl
set_option maxRecDepth 20000 in
theorem D_X10_bring_0_eq (xs : Nat → Int32) (xl d : Nat) (v1 : Int32) (v2 : Int32) (M : dp_M) : D_X10_bring_0 xs xl d v1 v2 M = if (dp_I M 28 12) < 0 ∨ 100 ≤ Int32.toNatClampNeg (dp_I M 28 12) then none else dp_w (dp_setI M 31 (Int32.toNatClampNeg (dp_I M 28 12)) v1) (fun M1 => if v1 < 0 ∨ 100 ≤ Int32.toNatClampNeg v1 then none else (if (dp_I M1 28 12) < 0 ∨ 100 ≤ Int32.toNatClampNeg (dp_I M1 28 12) then none else dp_w (dp_setI M1 32 (Int32.toNatClampNeg (dp_I M1 28 12)) (dp_I M1 29 (Int32.toNatClampNeg v1))) (fun M2 => dp_w (dp_setI M2 28 12 (((dp_I M2 28 12) + (1 : Int32)) - ((dp_I M2 28 12) + (1 : Int32)) / (100 : Int32) * (100 : Int32))) (fun M3 => dp_w (dp_setI M3 28 13 (if (100 : Int32) < ((dp_I M3 28 13) + (1 : Int32)) then (100 : Int32) else ((dp_I M3 28 13) + (1 : Int32)))) (fun M4 => dp_w (dp_setI M4 28 14 ((dp_I M4 28 14) + (1 : Int32))) (fun M5 => dp_bv (dp_den true xs xl d 248 [.ref 28, .int v1, .int v2] M5) (fun M6 => some (.inl none, M6)))))))) := by
  have hF := dp_den_grow (md := true) (xs := xs) (xl := xl) d
  unfold D_X10_bring_0
  refine dp_s1 hF (i := .aload_n 0) rfl (fun _ => rfl) ?_
  refine dp_s1 hF (i := .getfield 20) rfl (fun _ => rfl) ?_
  refine dp_s1 hF (i := .aload_n 0) rfl (fun _ => rfl) ?_
  refine dp_s1 hF (i := .getfield 133) rfl (fun _ => rfl) ?_
  refine dp_s1 hF (i := .iload_n 1) rfl (fun _ => rfl) ?_
  refine dp_s3w (dp_setI M 31 (Int32.toNatClampNeg (dp_I M 28 12)) v1) (fun (M1 : dp_M) => (10, [some (.ref 28), some (.int v1), some (.int v2)], [], M1)) hF (i := .iastore) rfl (fun _ => rfl) (fun M1 => ?_)
  refine dp_s1 hF (i := .aload_n 0) rfl (fun _ => rfl) ?_
  refine dp_s1 hF (i := .getfield 23) rfl (fun _ => rfl) ?_
  refine dp_s1 hF (i := .aload_n 0) rfl (fun _ => rfl) ?_
  refine dp_s1 hF (i := .getfield 133) rfl (fun _ => rfl) ?_
  refine dp_s1 hF (i := .aload_n 0) rfl (fun _ => rfl) ?_
  refine dp_s1 hF (i := .getfield 11) rfl (fun _ => rfl) ?_
  refine dp_s1 hF (i := .iload_n 1) rfl (fun _ => rfl) ?_
  refine dp_s3 hF (i := .iaload) rfl (fun _ => rfl) ?_
  refine dp_s3w (dp_setI M1 32 (Int32.toNatClampNeg (dp_I M1 28 12)) (dp_I M1 29 (Int32.toNatClampNeg v1))) (fun (M2 : dp_M) => (25, [some (.ref 28), some (.int v1), some (.int v2)], [], M2)) hF (i := .iastore) rfl (fun _ => rfl) (fun M2 => ?_)
  refine dp_s1 hF (i := .aload_n 0) rfl (fun _ => rfl) ?_
  refine dp_s1 hF (i := .aload_n 0) rfl (fun _ => rfl) ?_
  refine dp_s1 hF (i := .getfield 133) rfl (fun _ => rfl) ?_
  refine dp_s1 hF (i := .iconst 1) rfl (fun _ => rfl) ?_
  refine dp_s1 hF (i := .iadd) rfl (fun _ => rfl) ?_
  refine dp_s1 hF (i := .bipush 100) rfl (fun _ => rfl) ?_
  refine dp_s1 hF (i := .irem) rfl (fun _ => rfl) ?_
  refine dp_s1w (dp_setI M2 28 12 (((dp_I M2 28 12) + (1 : Int32)) - ((dp_I M2 28 12) + (1 : Int32)) / (100 : Int32) * (100 : Int32))) (fun (M3 : dp_M) => (38, [some (.ref 28), some (.int v1), some (.int v2)], [], M3)) hF (i := .putfield 133) rfl (fun _ => rfl) (fun M3 => ?_)
  refine dp_s1 hF (i := .aload_n 0) rfl (fun _ => rfl) ?_
  refine dp_s1 hF (i := .aload_n 0) rfl (fun _ => rfl) ?_
  refine dp_s1 hF (i := .getfield 136) rfl (fun _ => rfl) ?_
  refine dp_s1 hF (i := .iconst 1) rfl (fun _ => rfl) ?_
  refine dp_s1 hF (i := .iadd) rfl (fun _ => rfl) ?_
  refine dp_s1 hF (i := .bipush 100) rfl (fun _ => rfl) ?_
  refine dp_s1 hF (i := .invokestatic 113) rfl (fun _ => rfl) ?_
  refine dp_s1w (dp_setI M3 28 13 (if (100 : Int32) < ((dp_I M3 28 13) + (1 : Int32)) then (100 : Int32) else ((dp_I M3 28 13) + (1 : Int32)))) (fun (M4 : dp_M) => (53, [some (.ref 28), some (.int v1), some (.int v2)], [], M4)) hF (i := .putfield 136) rfl (fun _ => rfl) (fun M4 => ?_)
  refine dp_s1 hF (i := .aload_n 0) rfl (fun _ => rfl) ?_
  refine dp_s1 hF (i := .dup) rfl (fun _ => rfl) ?_
  refine dp_s1 hF (i := .getfield 139) rfl (fun _ => rfl) ?_
  refine dp_s1 hF (i := .iconst 1) rfl (fun _ => rfl) ?_
  refine dp_s1 hF (i := .iadd) rfl (fun _ => rfl) ?_
  refine dp_s1w (dp_setI M4 28 14 ((dp_I M4 28 14) + (1 : Int32))) (fun (M5 : dp_M) => (63, [some (.ref 28), some (.int v1), some (.int v2)], [], M5)) hF (i := .putfield 139) rfl (fun _ => rfl) (fun M5 => ?_)
  refine dp_s1 hF (i := .aload_n 0) rfl (fun _ => rfl) ?_
  refine dp_s1 hF (i := .iload_n 1) rfl (fun _ => rfl) ?_
  refine dp_s1 hF (i := .iload_n 2) rfl (fun _ => rfl) ?_
  refine dp_sv (mj := dp_m_X10_place) (i := .invokevirtual 142) rfl rfl rfl rfl (fun _ => rfl) (fun M6 => ?_)
  exact dp_s0 hF (i := .return_) rfl (fun _ => rfl)
noncomputable def D_X10_takeBack_0 (xs : Nat → Int32) (xl d : Nat)  (M : dp_M) : Option dp_Res := dp_lim true xs xl (dp_den true xs xl d) dp_m_X10_takeBack (0, [some (.ref 28), none], [], M)
theorem D_X10_takeBack_0_den (xs : Nat → Int32) (xl d : Nat)  (M : dp_M) : dp_den true xs xl (d + 1) 247 [.ref 28] M = D_X10_takeBack_0 xs xl d  M := rfl
set_option maxRecDepth 20000 in
theorem D_X10_takeBack_0_eq (xs : Nat → Int32) (xl d : Nat)  (M : dp_M) : D_X10_takeBack_0 xs xl d  M = dp_w ((((dp_I M 28 12) + (100 : Int32)) - (1 : Int32)) - (((dp_I M 28 12) + (100 : Int32)) - (1 : Int32)) / (100 : Int32) * (100 : Int32)) (fun y1 => if (dp_I M 28 13) = 0 then (some (.inl (some (.int (-1 : Int32))), M)) else (if y1 < 0 ∨ 100 ≤ Int32.toNatClampNeg y1 then none else (if (dp_I M 31 (Int32.toNatClampNeg y1)) < 0 ∨ 100 ≤ Int32.toNatClampNeg (dp_I M 31 (Int32.toNatClampNeg y1)) then none else (if (dp_I M 11 (Int32.toNatClampNeg (dp_I M 31 (Int32.toNatClampNeg y1)))) = 0 then (dp_w (dp_setI M 28 12 y1) (fun M2 => dp_w (dp_setI M2 28 13 ((dp_I M2 28 13) - (1 : Int32))) (fun M3 => dp_w (dp_setI M3 28 14 ((dp_I M3 28 14) - (1 : Int32))) (fun M4 => if y1 < 0 ∨ 100 ≤ Int32.toNatClampNeg y1 then none else (if y1 < 0 ∨ 100 ≤ Int32.toNatClampNeg y1 then none else (dp_bv (dp_den true xs xl d 248 [.ref 28, .int (dp_I M4 31 (Int32.toNatClampNeg y1)), .int (dp_I M4 32 (Int32.toNatClampNeg y1))] M4) (fun M5 => if y1 < 0 ∨ 100 ≤ Int32.toNatClampNeg y1 then none else (some (.inl (some (.int (dp_I M5 31 (Int32.toNatClampNeg y1)))), M5))))))))) else (some (.inl (some (.int (-1 : Int32))), M)))))) := by
  have hF := dp_den_grow (md := true) (xs := xs) (xl := xl) d
  unfold D_X10_takeBack_0
  refine dp_s1 hF (i := .aload_n 0) rfl (fun _ => rfl) ?_
  refine dp_s1 hF (i := .getfield 133) rfl (fun _ => rfl) ?_
  refine dp_s1 hF (i := .bipush 100) rfl (fun _ => rfl) ?_
  refine dp_s1 hF (i := .iadd) rfl (fun _ => rfl) ?_
  refine dp_s1 hF (i := .iconst 1) rfl (fun _ => rfl) ?_
  refine dp_s1 hF (i := .isub) rfl (fun _ => rfl) ?_
  refine dp_s1 hF (i := .bipush 100) rfl (fun _ => rfl) ?_
  refine dp_s1 hF (i := .irem) rfl (fun _ => rfl) ?_
  refine dp_s1w ((((dp_I M 28 12) + (100 : Int32)) - (1 : Int32)) - (((dp_I M 28 12) + (100 : Int32)) - (1 : Int32)) / (100 : Int32) * (100 : Int32)) (fun (y1 : Int32) => (13, [some (.ref 28), some (.int y1)], [], M)) hF (i := .istore_n 1) rfl (fun _ => rfl) (fun y1 => ?_)
  refine dp_s1 hF (i := .aload_n 0) rfl (fun _ => rfl) ?_
  refine dp_s1 hF (i := .getfield 136) rfl (fun _ => rfl) ?_
  refine dp_s2 hF (i := .ifCond .eq 20) (a := (37, [some (.ref 28), some (.int y1)], [], M)) (b := (20, [some (.ref 28), some (.int y1)], [], M)) rfl (fun _ => rfl) ?_ ?_
  · refine dp_s1 hF (i := .iconst (-1)) rfl (fun _ => rfl) ?_
    exact dp_s0 hF (i := .ireturn) rfl (fun _ => rfl)
  refine dp_s1 hF (i := .aload_n 0) rfl (fun _ => rfl) ?_
  refine dp_s1 hF (i := .getfield 26) rfl (fun _ => rfl) ?_
  refine dp_s1 hF (i := .getfield 145) rfl (fun _ => rfl) ?_
  refine dp_s1 hF (i := .aload_n 0) rfl (fun _ => rfl) ?_
  refine dp_s1 hF (i := .getfield 20) rfl (fun _ => rfl) ?_
  refine dp_s1 hF (i := .iload_n 1) rfl (fun _ => rfl) ?_
  refine dp_s3 hF (i := .iaload) rfl (fun _ => rfl) ?_
  refine dp_s3 hF (i := .iaload) rfl (fun _ => rfl) ?_
  refine dp_s2 hF (i := .ifCond .eq 5) (a := (39, [some (.ref 28), some (.int y1)], [], M)) (b := (37, [some (.ref 28), some (.int y1)], [], M)) rfl (fun _ => rfl) ?_ ?_
  · refine dp_s1 hF (i := .aload_n 0) rfl (fun _ => rfl) ?_
    refine dp_s1 hF (i := .iload_n 1) rfl (fun _ => rfl) ?_
    refine dp_s1w (dp_setI M 28 12 y1) (fun (M2 : dp_M) => (44, [some (.ref 28), some (.int y1)], [], M2)) hF (i := .putfield 133) rfl (fun _ => rfl) (fun M2 => ?_)
    refine dp_s1 hF (i := .aload_n 0) rfl (fun _ => rfl) ?_
    refine dp_s1 hF (i := .dup) rfl (fun _ => rfl) ?_
    refine dp_s1 hF (i := .getfield 136) rfl (fun _ => rfl) ?_
    refine dp_s1 hF (i := .iconst 1) rfl (fun _ => rfl) ?_
    refine dp_s1 hF (i := .isub) rfl (fun _ => rfl) ?_
    refine dp_s1w (dp_setI M2 28 13 ((dp_I M2 28 13) - (1 : Int32))) (fun (M3 : dp_M) => (54, [some (.ref 28), some (.int y1)], [], M3)) hF (i := .putfield 136) rfl (fun _ => rfl) (fun M3 => ?_)
    refine dp_s1 hF (i := .aload_n 0) rfl (fun _ => rfl) ?_
    refine dp_s1 hF (i := .dup) rfl (fun _ => rfl) ?_
    refine dp_s1 hF (i := .getfield 139) rfl (fun _ => rfl) ?_
    refine dp_s1 hF (i := .iconst 1) rfl (fun _ => rfl) ?_
    refine dp_s1 hF (i := .isub) rfl (fun _ => rfl) ?_
    refine dp_s1w (dp_setI M3 28 14 ((dp_I M3 28 14) - (1 : Int32))) (fun (M4 : dp_M) => (64, [some (.ref 28), some (.int y1)], [], M4)) hF (i := .putfield 139) rfl (fun _ => rfl) (fun M4 => ?_)
    refine dp_s1 hF (i := .aload_n 0) rfl (fun _ => rfl) ?_
    refine dp_s1 hF (i := .aload_n 0) rfl (fun _ => rfl) ?_
    refine dp_s1 hF (i := .getfield 20) rfl (fun _ => rfl) ?_
    refine dp_s1 hF (i := .iload_n 1) rfl (fun _ => rfl) ?_
    refine dp_s3 hF (i := .iaload) rfl (fun _ => rfl) ?_
    refine dp_s1 hF (i := .aload_n 0) rfl (fun _ => rfl) ?_
    refine dp_s1 hF (i := .getfield 23) rfl (fun _ => rfl) ?_
    refine dp_s1 hF (i := .iload_n 1) rfl (fun _ => rfl) ?_
    refine dp_s3 hF (i := .iaload) rfl (fun _ => rfl) ?_
    refine dp_sv (mj := dp_m_X10_place) (i := .invokevirtual 142) rfl rfl rfl rfl (fun _ => rfl) (fun M5 => ?_)
    refine dp_s1 hF (i := .aload_n 0) rfl (fun _ => rfl) ?_
    refine dp_s1 hF (i := .getfield 20) rfl (fun _ => rfl) ?_
    refine dp_s1 hF (i := .iload_n 1) rfl (fun _ => rfl) ?_
    refine dp_s3 hF (i := .iaload) rfl (fun _ => rfl) ?_
    exact dp_s0 hF (i := .ireturn) rfl (fun _ => rfl)
  refine dp_s1 hF (i := .iconst (-1)) rfl (fun _ => rfl) ?_
  exact dp_s0 hF (i := .ireturn) rfl (fun _ => rfl)
noncomputable def D_X10_place_0 (xs : Nat → Int32) (xl d : Nat) (v1 : Int32) (v2 : Int32) (M : dp_M) : Option dp_Res := dp_lim true xs xl (dp_den true xs xl d) dp_m_X10_place (0, [some (.ref 28), some (.int v1), some (.int v2)], [], M)
noncomputable def D_X10_place_25 (xs : Nat → Int32) (xl d : Nat) (v1 : Int32) (v2 : Int32) (M : dp_M) : Option dp_Res := dp_lim true xs xl (dp_den true xs xl d) dp_m_X10_place (25, [some (.ref 28), some (.int v1), some (.int v2)], [], M)
theorem D_X10_place_0_den (xs : Nat → Int32) (xl d : Nat) (a0 : Int32) (a1 : Int32) (M : dp_M) : dp_den true xs xl (d + 1) 248 [.ref 28, .int a0, .int a1] M = D_X10_place_0 xs xl d a0 a1 M := rfl
set_option maxRecDepth 20000 in
theorem D_X10_place_0_eq (xs : Nat → Int32) (xl d : Nat) (v1 : Int32) (v2 : Int32) (M : dp_M) : D_X10_place_0 xs xl d v1 v2 M = if v1 < 0 ∨ 100 ≤ Int32.toNatClampNeg v1 then none else (if (dp_I M 29 (Int32.toNatClampNeg v1)) = (-1 : Int32) then (D_X10_place_25 xs xl d v1 v2 M) else (if v1 < 0 ∨ 100 ≤ Int32.toNatClampNeg v1 then none else (if (dp_I M 29 (Int32.toNatClampNeg v1)) < 0 ∨ dp_len M 33 ≤ Int32.toNatClampNeg (dp_I M 29 (Int32.toNatClampNeg v1)) then none else (if (dp_I M 29 (Int32.toNatClampNeg v1)) < 0 ∨ dp_len M 33 ≤ Int32.toNatClampNeg (dp_I M 29 (Int32.toNatClampNeg v1)) then none else dp_w (dp_setI M 33 (Int32.toNatClampNeg (dp_I M 29 (Int32.toNatClampNeg v1))) ((dp_I M 33 (Int32.toNatClampNeg (dp_I M 29 (Int32.toNatClampNeg v1)))) - (1 : Int32))) (fun M1 => D_X10_place_25 xs xl d v1 v2 M1))))) := by
  have hF := dp_den_grow (md := true) (xs := xs) (xl := xl) d
  unfold D_X10_place_0
  refine dp_s1 hF (i := .aload_n 0) rfl (fun _ => rfl) ?_
  refine dp_s1 hF (i := .getfield 11) rfl (fun _ => rfl) ?_
  refine dp_s1 hF (i := .iload_n 1) rfl (fun _ => rfl) ?_
  refine dp_s3 hF (i := .iaload) rfl (fun _ => rfl) ?_
  refine dp_s1 hF (i := .iconst (-1)) rfl (fun _ => rfl) ?_
  refine dp_s2 hF (i := .if_icmp .eq 18) (a := (25, [some (.ref 28), some (.int v1), some (.int v2)], [], M)) (b := (10, [some (.ref 28), some (.int v1), some (.int v2)], [], M)) rfl (fun _ => rfl) ?_ ?_
  · exact rfl
  refine dp_s1 hF (i := .aload_n 0) rfl (fun _ => rfl) ?_
  refine dp_s1 hF (i := .getfield 40) rfl (fun _ => rfl) ?_
  refine dp_s1 hF (i := .aload_n 0) rfl (fun _ => rfl) ?_
  refine dp_s1 hF (i := .getfield 11) rfl (fun _ => rfl) ?_
  refine dp_s1 hF (i := .iload_n 1) rfl (fun _ => rfl) ?_
  refine dp_s3 hF (i := .iaload) rfl (fun _ => rfl) ?_
  refine dp_s1 hF (i := .dup2) rfl (fun _ => rfl) ?_
  refine dp_s3 hF (i := .iaload) rfl (fun _ => rfl) ?_
  refine dp_s1 hF (i := .iconst 1) rfl (fun _ => rfl) ?_
  refine dp_s1 hF (i := .isub) rfl (fun _ => rfl) ?_
  refine dp_s3w (dp_setI M 33 (Int32.toNatClampNeg (dp_I M 29 (Int32.toNatClampNeg v1))) ((dp_I M 33 (Int32.toNatClampNeg (dp_I M 29 (Int32.toNatClampNeg v1)))) - (1 : Int32))) (fun (M1 : dp_M) => (25, [some (.ref 28), some (.int v1), some (.int v2)], [], M1)) hF (i := .iastore) rfl (fun _ => rfl) (fun M1 => ?_)
  exact rfl
set_option maxRecDepth 20000 in
theorem D_X10_place_25_eq (xs : Nat → Int32) (xl d : Nat) (v1 : Int32) (v2 : Int32) (M : dp_M) : D_X10_place_25 xs xl d v1 v2 M = if v1 < 0 ∨ 100 ≤ Int32.toNatClampNeg v1 then none else dp_w (dp_setI M 29 (Int32.toNatClampNeg v1) (-1 : Int32)) (fun M1 => if v1 < 0 ∨ 100 ≤ Int32.toNatClampNeg v1 then none else dp_w (dp_setI M1 30 (Int32.toNatClampNeg v1) (-1 : Int32)) (fun M2 => if v2 = (-1 : Int32) then (some (.inl none, M2)) else (if v2 < 0 ∨ dp_len M2 33 ≤ Int32.toNatClampNeg v2 then none else (if (dp_I M2 28 2) ≤ (dp_I M2 33 (Int32.toNatClampNeg v2)) then (some (.inl none, M2)) else (if v1 < 0 ∨ 100 ≤ Int32.toNatClampNeg v1 then none else dp_w (dp_setI M2 29 (Int32.toNatClampNeg v1) v2) (fun M3 => if v2 < 0 ∨ dp_len M3 33 ≤ Int32.toNatClampNeg v2 then none else (if v1 < 0 ∨ 100 ≤ Int32.toNatClampNeg v1 then none else dp_w (dp_setI M3 30 (Int32.toNatClampNeg v1) (dp_I M3 33 (Int32.toNatClampNeg v2))) (fun M4 => if v2 < 0 ∨ dp_len M4 33 ≤ Int32.toNatClampNeg v2 then none else (if ((v2 * (dp_I M4 28 2)) + (dp_I M4 33 (Int32.toNatClampNeg v2))) < 0 ∨ dp_len M4 36 ≤ Int32.toNatClampNeg ((v2 * (dp_I M4 28 2)) + (dp_I M4 33 (Int32.toNatClampNeg v2))) then none else dp_w (dp_setI M4 36 (Int32.toNatClampNeg ((v2 * (dp_I M4 28 2)) + (dp_I M4 33 (Int32.toNatClampNeg v2)))) v1) (fun M5 => if v2 < 0 ∨ dp_len M5 33 ≤ Int32.toNatClampNeg v2 then none else (if v2 < 0 ∨ dp_len M5 33 ≤ Int32.toNatClampNeg v2 then none else dp_w (dp_setI M5 33 (Int32.toNatClampNeg v2) ((dp_I M5 33 (Int32.toNatClampNeg v2)) + (1 : Int32))) (fun M6 => some (.inl none, M6))))))))))))) := by
  have hF := dp_den_grow (md := true) (xs := xs) (xl := xl) d
  unfold D_X10_place_25
  refine dp_s1 hF (i := .aload_n 0) rfl (fun _ => rfl) ?_
  refine dp_s1 hF (i := .getfield 11) rfl (fun _ => rfl) ?_
  refine dp_s1 hF (i := .iload_n 1) rfl (fun _ => rfl) ?_
  refine dp_s1 hF (i := .iconst (-1)) rfl (fun _ => rfl) ?_
  refine dp_s3w (dp_setI M 29 (Int32.toNatClampNeg v1) (-1 : Int32)) (fun (M1 : dp_M) => (32, [some (.ref 28), some (.int v1), some (.int v2)], [], M1)) hF (i := .iastore) rfl (fun _ => rfl) (fun M1 => ?_)
  refine dp_s1 hF (i := .aload_n 0) rfl (fun _ => rfl) ?_
  refine dp_s1 hF (i := .getfield 17) rfl (fun _ => rfl) ?_
  refine dp_s1 hF (i := .iload_n 1) rfl (fun _ => rfl) ?_
  refine dp_s1 hF (i := .iconst (-1)) rfl (fun _ => rfl) ?_
  refine dp_s3w (dp_setI M1 30 (Int32.toNatClampNeg v1) (-1 : Int32)) (fun (M2 : dp_M) => (39, [some (.ref 28), some (.int v1), some (.int v2)], [], M2)) hF (i := .iastore) rfl (fun _ => rfl) (fun M2 => ?_)
  refine dp_s1 hF (i := .iload_n 2) rfl (fun _ => rfl) ?_
  refine dp_s1 hF (i := .iconst (-1)) rfl (fun _ => rfl) ?_
  refine dp_s2 hF (i := .if_icmp .eq 64) (a := (105, [some (.ref 28), some (.int v1), some (.int v2)], [], M2)) (b := (44, [some (.ref 28), some (.int v1), some (.int v2)], [], M2)) rfl (fun _ => rfl) ?_ ?_
  · exact dp_s0 hF (i := .return_) rfl (fun _ => rfl)
  refine dp_s1 hF (i := .aload_n 0) rfl (fun _ => rfl) ?_
  refine dp_s1 hF (i := .getfield 40) rfl (fun _ => rfl) ?_
  refine dp_s1 hF (i := .iload_n 2) rfl (fun _ => rfl) ?_
  refine dp_s3 hF (i := .iaload) rfl (fun _ => rfl) ?_
  refine dp_s1 hF (i := .aload_n 0) rfl (fun _ => rfl) ?_
  refine dp_s1 hF (i := .getfield 34) rfl (fun _ => rfl) ?_
  refine dp_s2 hF (i := .if_icmp .ge 51) (a := (105, [some (.ref 28), some (.int v1), some (.int v2)], [], M2)) (b := (57, [some (.ref 28), some (.int v1), some (.int v2)], [], M2)) rfl (fun _ => rfl) ?_ ?_
  · exact dp_s0 hF (i := .return_) rfl (fun _ => rfl)
  refine dp_s1 hF (i := .aload_n 0) rfl (fun _ => rfl) ?_
  refine dp_s1 hF (i := .getfield 11) rfl (fun _ => rfl) ?_
  refine dp_s1 hF (i := .iload_n 1) rfl (fun _ => rfl) ?_
  refine dp_s1 hF (i := .iload_n 2) rfl (fun _ => rfl) ?_
  refine dp_s3w (dp_setI M2 29 (Int32.toNatClampNeg v1) v2) (fun (M3 : dp_M) => (64, [some (.ref 28), some (.int v1), some (.int v2)], [], M3)) hF (i := .iastore) rfl (fun _ => rfl) (fun M3 => ?_)
  refine dp_s1 hF (i := .aload_n 0) rfl (fun _ => rfl) ?_
  refine dp_s1 hF (i := .getfield 17) rfl (fun _ => rfl) ?_
  refine dp_s1 hF (i := .iload_n 1) rfl (fun _ => rfl) ?_
  refine dp_s1 hF (i := .aload_n 0) rfl (fun _ => rfl) ?_
  refine dp_s1 hF (i := .getfield 40) rfl (fun _ => rfl) ?_
  refine dp_s1 hF (i := .iload_n 2) rfl (fun _ => rfl) ?_
  refine dp_s3 hF (i := .iaload) rfl (fun _ => rfl) ?_
  refine dp_s3w (dp_setI M3 30 (Int32.toNatClampNeg v1) (dp_I M3 33 (Int32.toNatClampNeg v2))) (fun (M4 : dp_M) => (76, [some (.ref 28), some (.int v1), some (.int v2)], [], M4)) hF (i := .iastore) rfl (fun _ => rfl) (fun M4 => ?_)
  refine dp_s1 hF (i := .aload_n 0) rfl (fun _ => rfl) ?_
  refine dp_s1 hF (i := .getfield 49) rfl (fun _ => rfl) ?_
  refine dp_s1 hF (i := .iload_n 2) rfl (fun _ => rfl) ?_
  refine dp_s1 hF (i := .aload_n 0) rfl (fun _ => rfl) ?_
  refine dp_s1 hF (i := .getfield 34) rfl (fun _ => rfl) ?_
  refine dp_s1 hF (i := .imul) rfl (fun _ => rfl) ?_
  refine dp_s1 hF (i := .aload_n 0) rfl (fun _ => rfl) ?_
  refine dp_s1 hF (i := .getfield 40) rfl (fun _ => rfl) ?_
  refine dp_s1 hF (i := .iload_n 2) rfl (fun _ => rfl) ?_
  refine dp_s3 hF (i := .iaload) rfl (fun _ => rfl) ?_
  refine dp_s1 hF (i := .iadd) rfl (fun _ => rfl) ?_
  refine dp_s1 hF (i := .iload_n 1) rfl (fun _ => rfl) ?_
  refine dp_s3w (dp_setI M4 36 (Int32.toNatClampNeg ((v2 * (dp_I M4 28 2)) + (dp_I M4 33 (Int32.toNatClampNeg v2)))) v1) (fun (M5 : dp_M) => (95, [some (.ref 28), some (.int v1), some (.int v2)], [], M5)) hF (i := .iastore) rfl (fun _ => rfl) (fun M5 => ?_)
  refine dp_s1 hF (i := .aload_n 0) rfl (fun _ => rfl) ?_
  refine dp_s1 hF (i := .getfield 40) rfl (fun _ => rfl) ?_
  refine dp_s1 hF (i := .iload_n 2) rfl (fun _ => rfl) ?_
  refine dp_s1 hF (i := .dup2) rfl (fun _ => rfl) ?_
  refine dp_s3 hF (i := .iaload) rfl (fun _ => rfl) ?_
  refine dp_s1 hF (i := .iconst 1) rfl (fun _ => rfl) ?_
  refine dp_s1 hF (i := .iadd) rfl (fun _ => rfl) ?_
  refine dp_s3w (dp_setI M5 33 (Int32.toNatClampNeg v2) ((dp_I M5 33 (Int32.toNatClampNeg v2)) + (1 : Int32))) (fun (M6 : dp_M) => (105, [some (.ref 28), some (.int v1), some (.int v2)], [], M6)) hF (i := .iastore) rfl (fun _ => rfl) (fun M6 => ?_)
  exact dp_s0 hF (i := .return_) rfl (fun _ => rfl)
