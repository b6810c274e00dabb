noncomputable def D_X6_fact_0 (xs : Nat → Int32) (xl d : Nat) (p0 : Nat) (v1 : Int32) (v2 : Int32) (M : dp_M) : Option dp_Res := dp_lim true xs xl (dp_den true xs xl d) dp_m_X6_fact (0, [some (.ref p0), some (.int v1), some (.int v2)], [], M)
theorem D_X6_fact_0_den (xs : Nat → Int32) (xl d : Nat) (a9 : Nat) (a0 : Int32) (a1 : Int32) (M : dp_M) : dp_den true xs xl (d + 1) 135 [.ref a9, .int a0, .int a1] M = D_X6_fact_0 xs xl d a9 a0 a1 M := rfl
set_option maxRecDepth 20000 in
theorem D_X6_fact_0_eq (xs : Nat → Int32) (xl d : Nat) (p0 : Nat) (v1 : Int32) (v2 : Int32) (M : dp_M) : D_X6_fact_0 xs xl d p0 v1 v2 M = if dp_t true M p0 = 16 then dp_o (dp_rf true M p0 2) (none) (fun q1 => if dp_t true M q1 = 1 then (if ((v1 * (7 : Int32)) + v2) < 0 ∨ dp_ln true M q1 ≤ Int32.toNatClampNeg ((v1 * (7 : Int32)) + v2) then none else (some (.inl (some (.int (dp_I M q1 (Int32.toNatClampNeg ((v1 * (7 : Int32)) + v2))))), M))) else none) else none := by
  have hF := dp_den_grow (md := true) (xs := xs) (xl := xl) d
  unfold D_X6_fact_0
  refine dp_s1 hF (i := .aload_n 0) rfl (fun _ => rfl) ?_
  refine dp_s4o hF (i := .getfield 16) (x := dp_rf true M p0 2) rfl (fun _ => rfl) ?_ (fun q1 => ?_)
  · refine dp_s1 hF (i := .iload_n 1) rfl (fun _ => rfl) ?_
    refine dp_s1 hF (i := .bipush 7) rfl (fun _ => rfl) ?_
    refine dp_s1 hF (i := .imul) rfl (fun _ => rfl) ?_
    refine dp_s1 hF (i := .iload_n 2) rfl (fun _ => rfl) ?_
    refine dp_s1 hF (i := .iadd) rfl (fun _ => rfl) ?_
    exact dp_s0 hF (i := .iaload) rfl (fun _ => rfl)
  refine dp_s1 hF (i := .iload_n 1) rfl (fun _ => rfl) ?_
  refine dp_s1 hF (i := .bipush 7) rfl (fun _ => rfl) ?_
  refine dp_s1 hF (i := .imul) rfl (fun _ => rfl) ?_
  refine dp_s1 hF (i := .iload_n 2) rfl (fun _ => rfl) ?_
  refine dp_s1 hF (i := .iadd) rfl (fun _ => rfl) ?_
  refine dp_s6 hF (i := .iaload) rfl (fun _ => rfl) ?_
  exact dp_s0 hF (i := .ireturn) rfl (fun _ => rfl)
noncomputable def D_X6_kindOf_0 (xs : Nat → Int32) (xl d : Nat) (p0 : Nat) (v1 : Int32) (M : dp_M) : Option dp_Res := dp_lim true xs xl (dp_den true xs xl d) dp_m_X6_kindOf (0, [some (.ref p0), some (.int v1)], [], M)
theorem D_X6_kindOf_0_den (xs : Nat → Int32) (xl d : Nat) (a9 : Nat) (a0 : Int32) (M : dp_M) : dp_den true xs xl (d + 1) 136 [.ref a9, .int a0] M = D_X6_kindOf_0 xs xl d a9 a0 M := rfl
set_option maxRecDepth 20000 in
theorem D_X6_kindOf_0_eq (xs : Nat → Int32) (xl d : Nat) (p0 : Nat) (v1 : Int32) (M : dp_M) : D_X6_kindOf_0 xs xl d p0 v1 M = if dp_t true M p0 = 16 then dp_bi (dp_den true xs xl d 135 [.ref p0, .int v1, .int (0 : Int32)] M) (fun r2 M1 => some (.inl (some (.int r2)), M1)) else none := by
  have hF := dp_den_grow (md := true) (xs := xs) (xl := xl) d
  unfold D_X6_kindOf_0
  refine dp_s1 hF (i := .aload_n 0) rfl (fun _ => rfl) ?_
  refine dp_s1 hF (i := .iload_n 1) rfl (fun _ => rfl) ?_
  refine dp_s1 hF (i := .iconst 0) rfl (fun _ => rfl) ?_
  refine dp_si4 (mj := dp_m_X6_fact) (i := .invokevirtual 23) rfl rfl (Or.inl rfl) rfl (fun _ => rfl) (fun r2 M1 => ?_)
  exact dp_s0 hF (i := .ireturn) rfl (fun _ => rfl)
noncomputable def D_X6_stepFact_0 (xs : Nat → Int32) (xl d : Nat) (p0 : Nat) (v1 : Int32) (v2 : Int32) (v3 : Int32) (M : dp_M) : Option dp_Res := dp_lim true xs xl (dp_den true xs xl d) dp_m_X6_stepFact (0, [some (.ref p0), some (.int v1), some (.int v2), some (.int v3)], [], M)
theorem D_X6_stepFact_0_den (xs : Nat → Int32) (xl d : Nat) (a9 : Nat) (a0 : Int32) (a1 : Int32) (a2 : Int32) (M : dp_M) : dp_den true xs xl (d + 1) 137 [.ref a9, .int a0, .int a1, .int a2] M = D_X6_stepFact_0 xs xl d a9 a0 a1 a2 M := rfl
set_option maxRecDepth 20000 in
theorem D_X6_stepFact_0_eq (xs : Nat → Int32) (xl d : Nat) (p0 : Nat) (v1 : Int32) (v2 : Int32) (v3 : Int32) (M : dp_M) : D_X6_stepFact_0 xs xl d p0 v1 v2 v3 M = if dp_t true M p0 = 16 then dp_o (dp_rf true M p0 3) (if dp_t true M p0 = 16 then dp_bi (dp_den true xs xl d 135 [.ref p0, .int v1, .int (6 : Int32)] M) (fun r2 M1 => none) else none) (fun q3 => if dp_t true M p0 = 16 then dp_bi (dp_den true xs xl d 135 [.ref p0, .int v1, .int (6 : Int32)] M) (fun r5 M4 => if dp_t true M4 q3 = 1 then (if (((r5 + v2) * (2 : Int32)) + v3) < 0 ∨ dp_ln true M4 q3 ≤ Int32.toNatClampNeg (((r5 + v2) * (2 : Int32)) + v3) then none else (some (.inl (some (.int (dp_I M4 q3 (Int32.toNatClampNeg (((r5 + v2) * (2 : Int32)) + v3))))), M4))) else none) else none) else none := by
  have hF := dp_den_grow (md := true) (xs := xs) (xl := xl) d
  unfold D_X6_stepFact_0
  refine dp_s1 hF (i := .aload_n 0) rfl (fun _ => rfl) ?_
  refine dp_s4o hF (i := .getfield 20) (x := dp_rf true M p0 3) rfl (fun _ => rfl) ?_ (fun q3 => ?_)
  · refine dp_s1 hF (i := .aload_n 0) rfl (fun _ => rfl) ?_
    refine dp_s1 hF (i := .iload_n 1) rfl (fun _ => rfl) ?_
    refine dp_s1 hF (i := .bipush 6) rfl (fun _ => rfl) ?_
    refine dp_si4 (mj := dp_m_X6_fact) (i := .invokevirtual 23) rfl rfl (Or.inl rfl) rfl (fun _ => rfl) (fun r2 M1 => ?_)
    refine dp_s1 hF (i := .iload_n 2) rfl (fun _ => rfl) ?_
    refine dp_s1 hF (i := .iadd) rfl (fun _ => rfl) ?_
    refine dp_s1 hF (i := .iconst 2) rfl (fun _ => rfl) ?_
    refine dp_s1 hF (i := .imul) rfl (fun _ => rfl) ?_
    refine dp_s1 hF (i := .iload_n 3) rfl (fun _ => rfl) ?_
    refine dp_s1 hF (i := .iadd) rfl (fun _ => rfl) ?_
    exact dp_s0 hF (i := .iaload) rfl (fun _ => rfl)
  refine dp_s1 hF (i := .aload_n 0) rfl (fun _ => rfl) ?_
  refine dp_s1 hF (i := .iload_n 1) rfl (fun _ => rfl) ?_
  refine dp_s1 hF (i := .bipush 6) rfl (fun _ => rfl) ?_
  refine dp_si4 (mj := dp_m_X6_fact) (i := .invokevirtual 23) rfl rfl (Or.inl rfl) rfl (fun _ => rfl) (fun r5 M4 => ?_)
  refine dp_s1 hF (i := .iload_n 2) rfl (fun _ => rfl) ?_
  refine dp_s1 hF (i := .iadd) rfl (fun _ => rfl) ?_
  refine dp_s1 hF (i := .iconst 2) rfl (fun _ => rfl) ?_
  refine dp_s1 hF (i := .imul) rfl (fun _ => rfl) ?_
  refine dp_s1 hF (i := .iload_n 3) rfl (fun _ => rfl) ?_
  refine dp_s1 hF (i := .iadd) rfl (fun _ => rfl) ?_
  refine dp_s6 hF (i := .iaload) rfl (fun _ => rfl) ?_
  exact dp_s0 hF (i := .ireturn) rfl (fun _ => rfl)
noncomputable def D_X6_valueAt_0 (xs : Nat → Int32) (xl d : Nat) (p0 : Nat) (v1 : Int64) (p3 : Nat) (p4 : Nat) (M : dp_M) : Option dp_Res := dp_lim true xs xl (dp_den true xs xl d) dp_m_X6_valueAt (0, [some (.ref p0), some (.long v1), none, some (.ref p3), some (.ref p4), none], [], M)
noncomputable def D_X6_valueAt_8 (xs : Nat → Int32) (xl d : Nat) (p0 : Nat) (v1 : Int64) (p3 : Nat) (p4 : Nat) (v5 : Int32) (M : dp_M) : Option dp_Res := dp_lim true xs xl (dp_den true xs xl d) dp_m_X6_valueAt (8, [some (.ref p0), some (.long v1), none, some (.ref p3), some (.ref p4), some (.int v5)], [], M)
theorem D_X6_valueAt_0_den (xs : Nat → Int32) (xl d : Nat) (a9 : Nat) (a0 : Int64) (a1 : Nat) (a2 : Nat) (M : dp_M) : dp_den true xs xl (d + 1) 138 [.ref a9, .long a0, .ref a1, .ref a2] M = D_X6_valueAt_0 xs xl d a9 a0 a1 a2 M := rfl
set_option maxRecDepth 20000 in
theorem D_X6_valueAt_0_eq (xs : Nat → Int32) (xl d : Nat) (p0 : Nat) (v1 : Int64) (p3 : Nat) (p4 : Nat) (M : dp_M) : D_X6_valueAt_0 xs xl d p0 v1 p3 p4 M = if dp_t true M p0 = 16 then (dp_w ((dp_I M p0 0) - (1 : Int32)) (fun y1 => D_X6_valueAt_8 xs xl d p0 v1 p3 p4 y1 M)) else none := by
  have hF := dp_den_grow (md := true) (xs := xs) (xl := xl) d
  unfold D_X6_valueAt_0
  refine dp_s1 hF (i := .aload_n 0) rfl (fun _ => rfl) ?_
  refine dp_s4 hF (i := .getfield 7) rfl (fun _ => rfl) ?_
  refine dp_s1 hF (i := .iconst 1) rfl (fun _ => rfl) ?_
  refine dp_s1 hF (i := .isub) rfl (fun _ => rfl) ?_
  refine dp_s1w ((dp_I M p0 0) - (1 : Int32)) (fun (y1 : Int32) => (8, [some (.ref p0), some (.long v1), none, some (.ref p3), some (.ref p4), some (.int y1)], [], M)) hF (i := .istore 5) rfl (fun _ => rfl) (fun y1 => ?_)
  exact rfl
set_option maxRecDepth 20000 in
theorem D_X6_valueAt_8_eq (xs : Nat → Int32) (xl d : Nat) (p0 : Nat) (v1 : Int64) (p3 : Nat) (p4 : Nat) (v5 : Int32) (M : dp_M) : D_X6_valueAt_8 xs xl d p0 v1 p3 p4 v5 M = if v5 < 0 then (if dp_t true M p4 = 2 then (if (0 : Int32) < 0 ∨ dp_ln true M p4 ≤ Int32.toNatClampNeg (0 : Int32) then none else (some (.inl (some (.long (if (dp_J M p4 (Int32.toNatClampNeg (0 : Int32))) < (0 : Int64) then (0 : Int64) else (dp_J M p4 (Int32.toNatClampNeg (0 : Int32)))))), M))) else none) else (if dp_t true M p0 = 16 then dp_bi (dp_den true xs xl d 136 [.ref p0, .int v5] M) (fun r2 M1 => if r2 < (3 : Int32) then (if dp_t true M1 p0 = 16 then dp_bl (dp_den true xs xl d 140 [.ref p0, .int v5, .long v1, .ref p3] M1) (fun r4 M3 => if dp_t true M3 p4 = 2 then (if v5 < 0 ∨ dp_ln true M3 p4 ≤ Int32.toNatClampNeg v5 then none else dp_w (dp_setJ M3 p4 (Int32.toNatClampNeg v5) r4) (fun M5 => dp_w (v5 + (-1 : Int32)) (fun y6 => D_X6_valueAt_8 xs xl d p0 v1 p3 p4 y6 M5))) else none) else none) else (if dp_t true M1 p0 = 16 then dp_bi (dp_den true xs xl d 136 [.ref p0, .int v5] M1) (fun r8 M7 => if (6 : Int32) < r8 then (if dp_t true M7 p0 = 16 then dp_bl (dp_den true xs xl d 140 [.ref p0, .int v5, .long v1, .ref p3] M7) (fun r10 M9 => if dp_t true M9 p4 = 2 then (if v5 < 0 ∨ dp_ln true M9 p4 ≤ Int32.toNatClampNeg v5 then none else dp_w (dp_setJ M9 p4 (Int32.toNatClampNeg v5) r10) (fun M11 => dp_w (v5 + (-1 : Int32)) (fun y12 => D_X6_valueAt_8 xs xl d p0 v1 p3 p4 y12 M11))) else none) else none) else (if dp_t true M7 p0 = 16 then dp_bl (dp_den true xs xl d 139 [.ref p0, .int v5, .ref p4] M7) (fun r14 M13 => if dp_t true M13 p4 = 2 then (if v5 < 0 ∨ dp_ln true M13 p4 ≤ Int32.toNatClampNeg v5 then none else dp_w (dp_setJ M13 p4 (Int32.toNatClampNeg v5) r14) (fun M15 => dp_w (v5 + (-1 : Int32)) (fun y16 => D_X6_valueAt_8 xs xl d p0 v1 p3 p4 y16 M15))) else none) else none)) else none)) else none) := by
  have hF := dp_den_grow (md := true) (xs := xs) (xl := xl) d
  unfold D_X6_valueAt_8
  refine dp_s1 hF (i := .iload 5) rfl (fun _ => rfl) ?_
  refine dp_s2 hF (i := .ifCond .lt 54) (a := (64, [some (.ref p0), some (.long v1), none, some (.ref p3), some (.ref p4), some (.int v5)], [], M)) (b := (13, [some (.ref p0), some (.long v1), none, some (.ref p3), some (.ref p4), some (.int v5)], [], M)) rfl (fun _ => rfl) ?_ ?_
  · refine dp_s1 hF (i := .lconst 0) rfl (fun _ => rfl) ?_
    refine dp_s1 hF (i := .aload 4) rfl (fun _ => rfl) ?_
    refine dp_s1 hF (i := .iconst 0) rfl (fun _ => rfl) ?_
    refine dp_s6 hF (i := .laload) rfl (fun _ => rfl) ?_
    refine dp_s1 hF (i := .invokestatic 39) rfl (fun _ => rfl) ?_
    exact dp_s0 hF (i := .lreturn) rfl (fun _ => rfl)
  refine dp_s1 hF (i := .aload 4) rfl (fun _ => rfl) ?_
  refine dp_s1 hF (i := .iload 5) rfl (fun _ => rfl) ?_
  refine dp_s1 hF (i := .aload_n 0) rfl (fun _ => rfl) ?_
  refine dp_s1 hF (i := .iload 5) rfl (fun _ => rfl) ?_
  refine dp_si4 (mj := dp_m_X6_kindOf) (i := .invokevirtual 27) rfl rfl (Or.inl rfl) rfl (fun _ => rfl) (fun r2 M1 => ?_)
  refine dp_s1 hF (i := .iconst 3) rfl (fun _ => rfl) ?_
  refine dp_s2 hF (i := .if_icmp .lt 25) (a := (49, [some (.ref p0), some (.long v1), none, some (.ref p3), some (.ref p4), some (.int v5)], [.int v5, .ref p4], M1)) (b := (27, [some (.ref p0), some (.long v1), none, some (.ref p3), some (.ref p4), some (.int v5)], [.int v5, .ref p4], M1)) rfl (fun _ => rfl) ?_ ?_
  · refine dp_s1 hF (i := .aload_n 0) rfl (fun _ => rfl) ?_
    refine dp_s1 hF (i := .iload 5) rfl (fun _ => rfl) ?_
    refine dp_s1 hF (i := .lload_n 1) rfl (fun _ => rfl) ?_
    refine dp_s1 hF (i := .aload_n 3) rfl (fun _ => rfl) ?_
    refine dp_sl4 (mj := dp_m_X6_single) (i := .invokevirtual 35) rfl rfl rfl rfl (fun _ => rfl) (fun r4 M3 => ?_)
    refine dp_s6w (dp_setJ M3 p4 (Int32.toNatClampNeg v5) r4) (fun (M5 : dp_M) => (58, [some (.ref p0), some (.long v1), none, some (.ref p3), some (.ref p4), some (.int v5)], [], M5)) hF (i := .lastore) rfl (fun _ => rfl) (fun M5 => ?_)
    refine dp_s1w (v5 + (-1 : Int32)) (fun (y6 : Int32) => (61, [some (.ref p0), some (.long v1), none, some (.ref p3), some (.ref p4), some (.int y6)], [], M5)) hF (i := .iinc 5 (-1)) rfl (fun _ => rfl) (fun y6 => ?_)
    refine dp_s1 hF (i := .goto (-53)) rfl (fun _ => rfl) ?_
    exact rfl
  refine dp_s1 hF (i := .aload_n 0) rfl (fun _ => rfl) ?_
  refine dp_s1 hF (i := .iload 5) rfl (fun _ => rfl) ?_
  refine dp_si4 (mj := dp_m_X6_kindOf) (i := .invokevirtual 27) rfl rfl (Or.inl rfl) rfl (fun _ => rfl) (fun r8 M7 => ?_)
  refine dp_s1 hF (i := .bipush 6) rfl (fun _ => rfl) ?_
  refine dp_s2 hF (i := .if_icmp .gt 14) (a := (49, [some (.ref p0), some (.long v1), none, some (.ref p3), some (.ref p4), some (.int v5)], [.int v5, .ref p4], M7)) (b := (38, [some (.ref p0), some (.long v1), none, some (.ref p3), some (.ref p4), some (.int v5)], [.int v5, .ref p4], M7)) rfl (fun _ => rfl) ?_ ?_
  · refine dp_s1 hF (i := .aload_n 0) rfl (fun _ => rfl) ?_
    refine dp_s1 hF (i := .iload 5) rfl (fun _ => rfl) ?_
    refine dp_s1 hF (i := .lload_n 1) rfl (fun _ => rfl) ?_
    refine dp_s1 hF (i := .aload_n 3) rfl (fun _ => rfl) ?_
    refine dp_sl4 (mj := dp_m_X6_single) (i := .invokevirtual 35) rfl rfl rfl rfl (fun _ => rfl) (fun r10 M9 => ?_)
    refine dp_s6w (dp_setJ M9 p4 (Int32.toNatClampNeg v5) r10) (fun (M11 : dp_M) => (58, [some (.ref p0), some (.long v1), none, some (.ref p3), some (.ref p4), some (.int v5)], [], M11)) hF (i := .lastore) rfl (fun _ => rfl) (fun M11 => ?_)
    refine dp_s1w (v5 + (-1 : Int32)) (fun (y12 : Int32) => (61, [some (.ref p0), some (.long v1), none, some (.ref p3), some (.ref p4), some (.int y12)], [], M11)) hF (i := .iinc 5 (-1)) rfl (fun _ => rfl) (fun y12 => ?_)
    refine dp_s1 hF (i := .goto (-53)) rfl (fun _ => rfl) ?_
    exact rfl
  refine dp_s1 hF (i := .aload_n 0) rfl (fun _ => rfl) ?_
  refine dp_s1 hF (i := .iload 5) rfl (fun _ => rfl) ?_
  refine dp_s1 hF (i := .aload 4) rfl (fun _ => rfl) ?_
  refine dp_sl4 (mj := dp_m_X6_joined) (i := .invokevirtual 31) rfl rfl rfl rfl (fun _ => rfl) (fun r14 M13 => ?_)
  refine dp_s1 hF (i := .goto 11) rfl (fun _ => rfl) ?_
  refine dp_s6w (dp_setJ M13 p4 (Int32.toNatClampNeg v5) r14) (fun (M15 : dp_M) => (58, [some (.ref p0), some (.long v1), none, some (.ref p3), some (.ref p4), some (.int v5)], [], M15)) hF (i := .lastore) rfl (fun _ => rfl) (fun M15 => ?_)
  refine dp_s1w (v5 + (-1 : Int32)) (fun (y16 : Int32) => (61, [some (.ref p0), some (.long v1), none, some (.ref p3), some (.ref p4), some (.int y16)], [], M15)) hF (i := .iinc 5 (-1)) rfl (fun _ => rfl) (fun y16 => ?_)
  refine dp_s1 hF (i := .goto (-53)) rfl (fun _ => rfl) ?_
  exact rfl
noncomputable def D_X6_joined_0 (xs : Nat → Int32) (xl d : Nat) (p0 : Nat) (v1 : Int32) (p2 : Nat) (M : dp_M) : Option dp_Res := dp_lim true xs xl (dp_den true xs xl d) dp_m_X6_joined (0, [some (.ref p0), some (.int v1), some (.ref p2), none, none, none, none], [], M)
theorem D_X6_joined_0_den (xs : Nat → Int32) (xl d : Nat) (a9 : Nat) (a0 : Int32) (a1 : Nat) (M : dp_M) : dp_den true xs xl (d + 1) 139 [.ref a9, .int a0, .ref a1] M = D_X6_joined_0 xs xl d a9 a0 a1 M := rfl
set_option maxRecDepth 20000 in
theorem D_X6_joined_0_eq (xs : Nat → Int32) (xl d : Nat) (p0 : Nat) (v1 : Int32) (p2 : Nat) (M : dp_M) : D_X6_joined_0 xs xl d p0 v1 p2 M = if dp_t true M p0 = 16 then dp_bi (dp_den true xs xl d 135 [.ref p0, .int v1, .int (3 : Int32)] M) (fun r2 M1 => if dp_t true M1 p2 = 2 then (if r2 < 0 ∨ dp_ln true M1 p2 ≤ Int32.toNatClampNeg r2 then none else (dp_w (dp_J M1 p2 (Int32.toNatClampNeg r2)) (fun y3 => if dp_t true M1 p0 = 16 then dp_bi (dp_den true xs xl d 135 [.ref p0, .int v1, .int (4 : Int32)] M1) (fun r5 M4 => if dp_t true M4 p2 = 2 then (if r5 < 0 ∨ dp_ln true M4 p2 ≤ Int32.toNatClampNeg r5 then none else (dp_w (dp_J M4 p2 (Int32.toNatClampNeg r5)) (fun y6 => if dp_t true M4 p0 = 16 then dp_bi (dp_den true xs xl d 136 [.ref p0, .int v1] M4) (fun r8 M7 => if r8 = (3 : Int32) then (some (.inl (some (.long (y3 + y6))), M7)) else if r8 = (4 : Int32) then (some (.inl (some (.long (y3 - y6))), M7)) else if r8 = (5 : Int32) then (some (.inl (some (.long (if y6 < y3 then y6 else y3))), M7)) else (some (.inl (some (.long (if y6 < y3 then y3 else y6))), M7))) else none))) else none) else none))) else none) else none := by
  have hF := dp_den_grow (md := true) (xs := xs) (xl := xl) d
  unfold D_X6_joined_0
  refine dp_s1 hF (i := .aload_n 2) rfl (fun _ => rfl) ?_
  refine dp_s1 hF (i := .aload_n 0) rfl (fun _ => rfl) ?_
  refine dp_s1 hF (i := .iload_n 1) rfl (fun _ => rfl) ?_
  refine dp_s1 hF (i := .iconst 3) rfl (fun _ => rfl) ?_
  refine dp_si4 (mj := dp_m_X6_fact) (i := .invokevirtual 23) rfl rfl (Or.inl rfl) rfl (fun _ => rfl) (fun r2 M1 => ?_)
  refine dp_s6 hF (i := .laload) rfl (fun _ => rfl) ?_
  refine dp_s1w (dp_J M1 p2 (Int32.toNatClampNeg r2)) (fun (y3 : Int64) => (9, [some (.ref p0), some (.int v1), some (.ref p2), some (.long y3), none, none, none], [], M1)) hF (i := .lstore_n 3) rfl (fun _ => rfl) (fun y3 => ?_)
  refine dp_s1 hF (i := .aload_n 2) rfl (fun _ => rfl) ?_
  refine dp_s1 hF (i := .aload_n 0) rfl (fun _ => rfl) ?_
  refine dp_s1 hF (i := .iload_n 1) rfl (fun _ => rfl) ?_
  refine dp_s1 hF (i := .iconst 4) rfl (fun _ => rfl) ?_
  refine dp_si4 (mj := dp_m_X6_fact) (i := .invokevirtual 23) rfl rfl (Or.inl rfl) rfl (fun _ => rfl) (fun r5 M4 => ?_)
  refine dp_s6 hF (i := .laload) rfl (fun _ => rfl) ?_
  refine dp_s1w (dp_J M4 p2 (Int32.toNatClampNeg r5)) (fun (y6 : Int64) => (19, [some (.ref p0), some (.int v1), some (.ref p2), some (.long y3), none, some (.long y6), none], [], M4)) hF (i := .lstore 5) rfl (fun _ => rfl) (fun y6 => ?_)
  refine dp_s1 hF (i := .aload_n 0) rfl (fun _ => rfl) ?_
  refine dp_s1 hF (i := .iload_n 1) rfl (fun _ => rfl) ?_
  refine dp_si4 (mj := dp_m_X6_kindOf) (i := .invokevirtual 27) rfl rfl (Or.inl rfl) rfl (fun _ => rfl) (fun r8 M7 => ?_)
  refine (dp_s (E := fun k => if r8 = (3 : Int32) then k (52, [some (.ref p0), some (.int v1), some (.ref p2), some (.long y3), none, some (.long y6), none], [], M7) else if r8 = (4 : Int32) then k (57, [some (.ref p0), some (.int v1), some (.ref p2), some (.long y3), none, some (.long y6), none], [], M7) else if r8 = (5 : Int32) then k (62, [some (.ref p0), some (.int v1), some (.ref p2), some (.long y3), none, some (.long y6), none], [], M7) else k (69, [some (.ref p0), some (.int v1), some (.ref p2), some (.long y3), none, some (.long y6), none], [], M7)) hF (i := .tableswitch 45 3 5 #[28, 33, 38]) rfl (fun _ => rfl)).trans ?_
  refine dp_ifc ?_ ?_
  · refine dp_s1 hF (i := .lload_n 3) rfl (fun _ => rfl) ?_
    refine dp_s1 hF (i := .lload 5) rfl (fun _ => rfl) ?_
    refine dp_s1 hF (i := .ladd) rfl (fun _ => rfl) ?_
    exact dp_s0 hF (i := .lreturn) rfl (fun _ => rfl)
  refine dp_ifc ?_ ?_
  · refine dp_s1 hF (i := .lload_n 3) rfl (fun _ => rfl) ?_
    refine dp_s1 hF (i := .lload 5) rfl (fun _ => rfl) ?_
    refine dp_s1 hF (i := .lsub) rfl (fun _ => rfl) ?_
    exact dp_s0 hF (i := .lreturn) rfl (fun _ => rfl)
  refine dp_ifc ?_ ?_
  · refine dp_s1 hF (i := .lload_n 3) rfl (fun _ => rfl) ?_
    refine dp_s1 hF (i := .lload 5) rfl (fun _ => rfl) ?_
    refine dp_s1 hF (i := .invokestatic 45) rfl (fun _ => rfl) ?_
    exact dp_s0 hF (i := .lreturn) rfl (fun _ => rfl)
  refine dp_s1 hF (i := .lload_n 3) rfl (fun _ => rfl) ?_
  refine dp_s1 hF (i := .lload 5) rfl (fun _ => rfl) ?_
  refine dp_s1 hF (i := .invokestatic 39) rfl (fun _ => rfl) ?_
  exact dp_s0 hF (i := .lreturn) rfl (fun _ => rfl)
noncomputable def D_X6_single_0 (xs : Nat → Int32) (xl d : Nat) (p0 : Nat) (v1 : Int32) (v2 : Int64) (p4 : Nat) (M : dp_M) : Option dp_Res := dp_lim true xs xl (dp_den true xs xl d) dp_m_X6_single (0, [some (.ref p0), some (.int v1), some (.long v2), none, some (.ref p4)], [], M)
theorem D_X6_single_0_den (xs : Nat → Int32) (xl d : Nat) (a9 : Nat) (a0 : Int32) (a1 : Int64) (a2 : Nat) (M : dp_M) : dp_den true xs xl (d + 1) 140 [.ref a9, .int a0, .long a1, .ref a2] M = D_X6_single_0 xs xl d a9 a0 a1 a2 M := rfl
set_option maxRecDepth 20000 in
theorem D_X6_single_0_eq (xs : Nat → Int32) (xl d : Nat) (p0 : Nat) (v1 : Int32) (v2 : Int64) (p4 : Nat) (M : dp_M) : D_X6_single_0 xs xl d p0 v1 v2 p4 M = if dp_t true M p0 = 16 then dp_bi (dp_den true xs xl d 136 [.ref p0, .int v1] M) (fun r2 M1 => if r2 = (1 : Int32) then (if dp_t true M1 p0 = 16 then dp_bi (dp_den true xs xl d 135 [.ref p0, .int v1, .int (1 : Int32)] M1) (fun r4 M3 => some (.inl (some (.long ((v2 * (Int32.toInt64 r4)) * (10 : Int64)))), M3)) else none) else if r2 = (2 : Int32) then (if dp_t true M1 p0 = 16 then dp_bi (dp_den true xs xl d 135 [.ref p0, .int v1, .int (2 : Int32)] M1) (fun r6 M5 => if dp_t true M5 p4 = 2 then (if r6 < 0 ∨ dp_ln true M5 p4 ≤ Int32.toNatClampNeg r6 then none else (if dp_t true M5 p0 = 16 then dp_bi (dp_den true xs xl d 135 [.ref p0, .int v1, .int (1 : Int32)] M5) (fun r8 M7 => some (.inl (some (.long ((dp_J M5 p4 (Int32.toNatClampNeg r6)) * (Int32.toInt64 r8)))), M7)) else none)) else none) else none) else if r2 = (7 : Int32) then (if dp_t true M1 p0 = 16 then dp_bl (dp_den true xs xl d 141 [.ref p0, .int v1, .long v2] M1) (fun r10 M9 => some (.inl (some (.long (r10 * (1000000 : Int64)))), M9)) else none) else (some (.inl (some (.long (0 : Int64))), M1))) else none := by
  have hF := dp_den_grow (md := true) (xs := xs) (xl := xl) d
  unfold D_X6_single_0
  refine dp_s1 hF (i := .aload_n 0) rfl (fun _ => rfl) ?_
  refine dp_s1 hF (i := .iload_n 1) rfl (fun _ => rfl) ?_
  refine dp_si4 (mj := dp_m_X6_kindOf) (i := .invokevirtual 27) rfl rfl (Or.inl rfl) rfl (fun _ => rfl) (fun r2 M1 => ?_)
  refine (dp_s (E := fun k => if r2 = (1 : Int32) then k (40, [some (.ref p0), some (.int v1), some (.long v2), none, some (.ref p4)], [], M1) else if r2 = (2 : Int32) then k (54, [some (.ref p0), some (.int v1), some (.long v2), none, some (.ref p4)], [], M1) else if r2 = (7 : Int32) then k (72, [some (.ref p0), some (.int v1), some (.long v2), none, some (.ref p4)], [], M1) else k (83, [some (.ref p0), some (.int v1), some (.long v2), none, some (.ref p4)], [], M1)) hF (i := .lookupswitch 78 #[(1, 35), (2, 49), (7, 67)]) rfl (fun _ => rfl)).trans ?_
  refine dp_ifc ?_ ?_
  · refine dp_s1 hF (i := .lload_n 2) rfl (fun _ => rfl) ?_
    refine dp_s1 hF (i := .aload_n 0) rfl (fun _ => rfl) ?_
    refine dp_s1 hF (i := .iload_n 1) rfl (fun _ => rfl) ?_
    refine dp_s1 hF (i := .iconst 1) rfl (fun _ => rfl) ?_
    refine dp_si4 (mj := dp_m_X6_fact) (i := .invokevirtual 23) rfl rfl (Or.inl rfl) rfl (fun _ => rfl) (fun r4 M3 => ?_)
    refine dp_s1 hF (i := .i2l) rfl (fun _ => rfl) ?_
    refine dp_s1 hF (i := .lmul) rfl (fun _ => rfl) ?_
    refine dp_s1 hF (i := .ldc2_w 48) rfl (fun _ => rfl) ?_
    refine dp_s1 hF (i := .lmul) rfl (fun _ => rfl) ?_
    exact dp_s0 hF (i := .lreturn) rfl (fun _ => rfl)
  refine dp_ifc ?_ ?_
  · refine dp_s1 hF (i := .aload 4) rfl (fun _ => rfl) ?_
    refine dp_s1 hF (i := .aload_n 0) rfl (fun _ => rfl) ?_
    refine dp_s1 hF (i := .iload_n 1) rfl (fun _ => rfl) ?_
    refine dp_s1 hF (i := .iconst 2) rfl (fun _ => rfl) ?_
    refine dp_si4 (mj := dp_m_X6_fact) (i := .invokevirtual 23) rfl rfl (Or.inl rfl) rfl (fun _ => rfl) (fun r6 M5 => ?_)
    refine dp_s6 hF (i := .laload) rfl (fun _ => rfl) ?_
    refine dp_s1 hF (i := .aload_n 0) rfl (fun _ => rfl) ?_
    refine dp_s1 hF (i := .iload_n 1) rfl (fun _ => rfl) ?_
    refine dp_s1 hF (i := .iconst 1) rfl (fun _ => rfl) ?_
    refine dp_si4 (mj := dp_m_X6_fact) (i := .invokevirtual 23) rfl rfl (Or.inl rfl) rfl (fun _ => rfl) (fun r8 M7 => ?_)
    refine dp_s1 hF (i := .i2l) rfl (fun _ => rfl) ?_
    refine dp_s1 hF (i := .lmul) rfl (fun _ => rfl) ?_
    exact dp_s0 hF (i := .lreturn) rfl (fun _ => rfl)
  refine dp_ifc ?_ ?_
  · refine dp_s1 hF (i := .aload_n 0) rfl (fun _ => rfl) ?_
    refine dp_s1 hF (i := .iload_n 1) rfl (fun _ => rfl) ?_
    refine dp_s1 hF (i := .lload_n 2) rfl (fun _ => rfl) ?_
    refine dp_sl4 (mj := dp_m_X6_stepCents) (i := .invokevirtual 50) rfl rfl rfl rfl (fun _ => rfl) (fun r10 M9 => ?_)
    refine dp_s1 hF (i := .ldc2_w 54) rfl (fun _ => rfl) ?_
    refine dp_s1 hF (i := .lmul) rfl (fun _ => rfl) ?_
    exact dp_s0 hF (i := .lreturn) rfl (fun _ => rfl)
  refine dp_s1 hF (i := .lconst 0) rfl (fun _ => rfl) ?_
  exact dp_s0 hF (i := .lreturn) rfl (fun _ => rfl)
noncomputable def D_X6_stepCents_0 (xs : Nat → Int32) (xl d : Nat) (p0 : Nat) (v1 : Int32) (v2 : Int64) (M : dp_M) : Option dp_Res := dp_lim true xs xl (dp_den true xs xl d) dp_m_X6_stepCents (0, [some (.ref p0), some (.int v1), some (.long v2), none, none, none, none, none, none, none], [], M)
noncomputable def D_X6_stepCents_47 (xs : Nat → Int32) (xl d : Nat) (p0 : Nat) (v1 : Int32) (v2 : Int64) (v4 : Int32) (v5 : Int64) (v7 : Int64) (v9 : Int32) (M : dp_M) : Option dp_Res := dp_lim true xs xl (dp_den true xs xl d) dp_m_X6_stepCents (47, [some (.ref p0), some (.int v1), some (.long v2), none, some (.int v4), some (.long v5), none, some (.long v7), none, some (.int v9)], [], M)
theorem D_X6_stepCents_0_den (xs : Nat → Int32) (xl d : Nat) (a9 : Nat) (a0 : Int32) (a1 : Int64) (M : dp_M) : dp_den true xs xl (d + 1) 141 [.ref a9, .int a0, .long a1] M = D_X6_stepCents_0 xs xl d a9 a0 a1 M := rfl
set_option maxRecDepth 20000 in
theorem D_X6_stepCents_0_eq (xs : Nat → Int32) (xl d : Nat) (p0 : Nat) (v1 : Int32) (v2 : Int64) (M : dp_M) : D_X6_stepCents_0 xs xl d p0 v1 v2 M = if dp_t true M p0 = 16 then dp_bi (dp_den true xs xl d 135 [.ref p0, .int v1, .int (5 : Int32)] M) (fun r2 M1 => if 0 < (lg_cmp v2 (0 : Int64)) then (if dp_t true M1 p0 = 16 then dp_bi (dp_den true xs xl d 135 [.ref p0, .int v1, .int (1 : Int32)] M1) (fun r4 M3 => if v2 = 0 then none else (dp_w (((Int32.toInt64 r4) * (100 : Int64)) / v2) (fun y5 => dp_w (0 : Int64) (fun y6 => dp_w (0 : Int32) (fun y7 => D_X6_stepCents_47 xs xl d p0 v1 v2 r2 y5 y6 y7 M3))))) else none) else (if dp_t true M1 p0 = 16 then dp_bi (dp_den true xs xl d 137 [.ref p0, .int v1, .int (r2 - (1 : Int32)), .int (1 : Int32)] M1) (fun r9 M8 => some (.inl (some (.long (Int32.toInt64 r9))), M8)) else none)) else none := by
  have hF := dp_den_grow (md := true) (xs := xs) (xl := xl) d
  unfold D_X6_stepCents_0
  refine dp_s1 hF (i := .aload_n 0) rfl (fun _ => rfl) ?_
  refine dp_s1 hF (i := .iload_n 1) rfl (fun _ => rfl) ?_
  refine dp_s1 hF (i := .iconst 5) rfl (fun _ => rfl) ?_
  refine dp_si4 (mj := dp_m_X6_fact) (i := .invokevirtual 23) rfl rfl (Or.inl rfl) rfl (fun _ => rfl) (fun r2 M1 => ?_)
  refine dp_s1 hF (i := .istore 4) rfl (fun _ => rfl) ?_
  refine dp_s1 hF (i := .lload_n 2) rfl (fun _ => rfl) ?_
  refine dp_s1 hF (i := .lconst 0) rfl (fun _ => rfl) ?_
  refine dp_s1 hF (i := .lcmp) rfl (fun _ => rfl) ?_
  refine dp_s2 hF (i := .ifCond .gt 15) (a := (26, [some (.ref p0), some (.int v1), some (.long v2), none, some (.int r2), none, none, none, none, none], [], M1)) (b := (14, [some (.ref p0), some (.int v1), some (.long v2), none, some (.int r2), none, none, none, none, none], [], M1)) rfl (fun _ => rfl) ?_ ?_
  · refine dp_s1 hF (i := .aload_n 0) rfl (fun _ => rfl) ?_
    refine dp_s1 hF (i := .iload_n 1) rfl (fun _ => rfl) ?_
    refine dp_s1 hF (i := .iconst 1) rfl (fun _ => rfl) ?_
    refine dp_si4 (mj := dp_m_X6_fact) (i := .invokevirtual 23) rfl rfl (Or.inl rfl) rfl (fun _ => rfl) (fun r4 M3 => ?_)
    refine dp_s1 hF (i := .i2l) rfl (fun _ => rfl) ?_
    refine dp_s1 hF (i := .ldc2_w 60) rfl (fun _ => rfl) ?_
    refine dp_s1 hF (i := .lmul) rfl (fun _ => rfl) ?_
    refine dp_s1 hF (i := .lload_n 2) rfl (fun _ => rfl) ?_
    refine dp_s3 hF (i := .ldiv) rfl (fun _ => rfl) ?_
    refine dp_s1w (((Int32.toInt64 r4) * (100 : Int64)) / v2) (fun (y5 : Int64) => (41, [some (.ref p0), some (.int v1), some (.long v2), none, some (.int r2), some (.long y5), none, none, none, none], [], M3)) hF (i := .lstore 5) rfl (fun _ => rfl) (fun y5 => ?_)
    refine dp_s1 hF (i := .lconst 0) rfl (fun _ => rfl) ?_
    refine dp_s1w (0 : Int64) (fun (y6 : Int64) => (44, [some (.ref p0), some (.int v1), some (.long v2), none, some (.int r2), some (.long y5), none, some (.long y6), none, none], [], M3)) hF (i := .lstore 7) rfl (fun _ => rfl) (fun y6 => ?_)
    refine dp_s1 hF (i := .iconst 0) rfl (fun _ => rfl) ?_
    refine dp_s1w (0 : Int32) (fun (y7 : Int32) => (47, [some (.ref p0), some (.int v1), some (.long v2), none, some (.int r2), some (.long y5), none, some (.long y6), none, some (.int y7)], [], M3)) hF (i := .istore 9) rfl (fun _ => rfl) (fun y7 => ?_)
    exact rfl
  refine dp_s1 hF (i := .aload_n 0) rfl (fun _ => rfl) ?_
  refine dp_s1 hF (i := .iload_n 1) rfl (fun _ => rfl) ?_
  refine dp_s1 hF (i := .iload 4) rfl (fun _ => rfl) ?_
  refine dp_s1 hF (i := .iconst 1) rfl (fun _ => rfl) ?_
  refine dp_s1 hF (i := .isub) rfl (fun _ => rfl) ?_
  refine dp_s1 hF (i := .iconst 1) rfl (fun _ => rfl) ?_
  refine dp_si4 (mj := dp_m_X6_stepFact) (i := .invokevirtual 56) rfl rfl (Or.inl rfl) rfl (fun _ => rfl) (fun r9 M8 => ?_)
  refine dp_s1 hF (i := .i2l) rfl (fun _ => rfl) ?_
  exact dp_s0 hF (i := .lreturn) rfl (fun _ => rfl)
set_option maxRecDepth 20000 in
theorem D_X6_stepCents_47_eq (xs : Nat → Int32) (xl d : Nat) (p0 : Nat) (v1 : Int32) (v2 : Int64) (v4 : Int32) (v5 : Int64) (v7 : Int64) (v9 : Int32) (M : dp_M) : D_X6_stepCents_47 xs xl d p0 v1 v2 v4 v5 v7 v9 M = if v4 ≤ v9 then (some (.inl (some (.long v7)), M)) else (if dp_t true M p0 = 16 then dp_bi (dp_den true xs xl d 137 [.ref p0, .int v1, .int v9, .int (0 : Int32)] M) (fun r2 M1 => if 0 < (lg_cmp (Int32.toInt64 r2) v5) then (dp_w (v9 + (1 : Int32)) (fun y3 => D_X6_stepCents_47 xs xl d p0 v1 v2 v4 v5 v7 y3 M1)) else (if dp_t true M1 p0 = 16 then dp_bi (dp_den true xs xl d 137 [.ref p0, .int v1, .int v9, .int (1 : Int32)] M1) (fun r5 M4 => dp_w (Int32.toInt64 r5) (fun y6 => dp_w (v9 + (1 : Int32)) (fun y7 => D_X6_stepCents_47 xs xl d p0 v1 v2 v4 v5 y6 y7 M4))) else none)) else none) := by
  have hF := dp_den_grow (md := true) (xs := xs) (xl := xl) d
  unfold D_X6_stepCents_47
  refine dp_s1 hF (i := .iload 9) rfl (fun _ => rfl) ?_
  refine dp_s1 hF (i := .iload 4) rfl (fun _ => rfl) ?_
  refine dp_s2 hF (i := .if_icmp .ge 35) (a := (86, [some (.ref p0), some (.int v1), some (.long v2), none, some (.int v4), some (.long v5), none, some (.long v7), none, some (.int v9)], [], M)) (b := (54, [some (.ref p0), some (.int v1), some (.long v2), none, some (.int v4), some (.long v5), none, some (.long v7), none, some (.int v9)], [], M)) rfl (fun _ => rfl) ?_ ?_
  · refine dp_s1 hF (i := .lload 7) rfl (fun _ => rfl) ?_
    exact dp_s0 hF (i := .lreturn) rfl (fun _ => rfl)
  refine dp_s1 hF (i := .aload_n 0) rfl (fun _ => rfl) ?_
  refine dp_s1 hF (i := .iload_n 1) rfl (fun _ => rfl) ?_
  refine dp_s1 hF (i := .iload 9) rfl (fun _ => rfl) ?_
  refine dp_s1 hF (i := .iconst 0) rfl (fun _ => rfl) ?_
  refine dp_si4 (mj := dp_m_X6_stepFact) (i := .invokevirtual 56) rfl rfl (Or.inl rfl) rfl (fun _ => rfl) (fun r2 M1 => ?_)
  refine dp_s1 hF (i := .i2l) rfl (fun _ => rfl) ?_
  refine dp_s1 hF (i := .lload 5) rfl (fun _ => rfl) ?_
  refine dp_s1 hF (i := .lcmp) rfl (fun _ => rfl) ?_
  refine dp_s2 hF (i := .ifCond .gt 14) (a := (80, [some (.ref p0), some (.int v1), some (.long v2), none, some (.int v4), some (.long v5), none, some (.long v7), none, some (.int v9)], [], M1)) (b := (69, [some (.ref p0), some (.int v1), some (.long v2), none, some (.int v4), some (.long v5), none, some (.long v7), none, some (.int v9)], [], M1)) rfl (fun _ => rfl) ?_ ?_
  · refine dp_s1w (v9 + (1 : Int32)) (fun (y3 : Int32) => (83, [some (.ref p0), some (.int v1), some (.long v2), none, some (.int v4), some (.long v5), none, some (.long v7), none, some (.int y3)], [], M1)) hF (i := .iinc 9 1) rfl (fun _ => rfl) (fun y3 => ?_)
    refine dp_s1 hF (i := .goto (-36)) rfl (fun _ => rfl) ?_
    exact rfl
  refine dp_s1 hF (i := .aload_n 0) rfl (fun _ => rfl) ?_
  refine dp_s1 hF (i := .iload_n 1) rfl (fun _ => rfl) ?_
  refine dp_s1 hF (i := .iload 9) rfl (fun _ => rfl) ?_
  refine dp_s1 hF (i := .iconst 1) rfl (fun _ => rfl) ?_
  refine dp_si4 (mj := dp_m_X6_stepFact) (i := .invokevirtual 56) rfl rfl (Or.inl rfl) rfl (fun _ => rfl) (fun r5 M4 => ?_)
  refine dp_s1 hF (i := .i2l) rfl (fun _ => rfl) ?_
  refine dp_s1w (Int32.toInt64 r5) (fun (y6 : Int64) => (80, [some (.ref p0), some (.int v1), some (.long v2), none, some (.int v4), some (.long v5), none, some (.long y6), none, some (.int v9)], [], M4)) hF (i := .lstore 7) rfl (fun _ => rfl) (fun y6 => ?_)
  refine dp_s1w (v9 + (1 : Int32)) (fun (y7 : Int32) => (83, [some (.ref p0), some (.int v1), some (.long v2), none, some (.int v4), some (.long v5), none, some (.long y6), none, some (.int y7)], [], M4)) hF (i := .iinc 9 1) rfl (fun _ => rfl) (fun y7 => ?_)
  refine dp_s1 hF (i := .goto (-36)) rfl (fun _ => rfl) ?_
  exact rfl
