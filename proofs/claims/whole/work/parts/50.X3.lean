noncomputable def D_X3_fact_0 (xs : Nat → Int32) (xl d : Nat) (v1 : Int32) (v2 : Int32) (M : dp_M) : Option dp_Res := dp_lim true xs xl (dp_den true xs xl d) dp_m_X3_fact (0, [some (.ref 97), some (.int v1), some (.int v2)], [], M)
theorem D_X3_fact_0_den (xs : Nat → Int32) (xl d : Nat) (a0 : Int32) (a1 : Int32) (M : dp_M) : dp_den true xs xl (d + 1) 78 [.ref 97, .int a0, .int a1] M = D_X3_fact_0 xs xl d a0 a1 M := rfl
set_option maxRecDepth 20000 in
theorem D_X3_fact_0_eq (xs : Nat → Int32) (xl d : Nat) (v1 : Int32) (v2 : Int32) (M : dp_M) : D_X3_fact_0 xs xl d v1 v2 M = if ((v1 * (7 : Int32)) + v2) < 0 ∨ 5600 ≤ Int32.toNatClampNeg ((v1 * (7 : Int32)) + v2) then none else (some (.inl (some (.int (dp_I M 100 (Int32.toNatClampNeg ((v1 * (7 : Int32)) + v2))))), M)) := by
  have hF := dp_den_grow (md := true) (xs := xs) (xl := xl) d
  unfold D_X3_fact_0
  refine dp_s1 hF (i := .aload_n 0) rfl (fun _ => rfl) ?_
  refine dp_s1 hF (i := .getfield 28) rfl (fun _ => rfl) ?_
  refine dp_s1 hF (i := .iload_n 1) rfl (fun _ => rfl) ?_
  refine dp_s1 hF (i := .bipush 7) rfl (fun _ => rfl) ?_
  refine dp_s1 hF (i := .imul) rfl (fun _ => rfl) ?_
  refine dp_s1 hF (i := .iload_n 2) rfl (fun _ => rfl) ?_
  refine dp_s1 hF (i := .iadd) rfl (fun _ => rfl) ?_
  refine dp_s3 hF (i := .iaload) rfl (fun _ => rfl) ?_
  exact dp_s0 hF (i := .ireturn) rfl (fun _ => rfl)
noncomputable def D_X3_set_0 (xs : Nat → Int32) (xl d : Nat) (v1 : Int32) (v2 : Int32) (v3 : Int32) (M : dp_M) : Option dp_Res := dp_lim true xs xl (dp_den true xs xl d) dp_m_X3_set (0, [some (.ref 97), some (.int v1), some (.int v2), some (.int v3)], [], M)
theorem D_X3_set_0_den (xs : Nat → Int32) (xl d : Nat) (a0 : Int32) (a1 : Int32) (a2 : Int32) (M : dp_M) : dp_den true xs xl (d + 1) 79 [.ref 97, .int a0, .int a1, .int a2] M = D_X3_set_0 xs xl d a0 a1 a2 M := rfl
set_option maxRecDepth 20000 in
theorem D_X3_set_0_eq (xs : Nat → Int32) (xl d : Nat) (v1 : Int32) (v2 : Int32) (v3 : Int32) (M : dp_M) : D_X3_set_0 xs xl d v1 v2 v3 M = if ((v1 * (7 : Int32)) + v2) < 0 ∨ 5600 ≤ Int32.toNatClampNeg ((v1 * (7 : Int32)) + v2) then none else dp_w (dp_setI M 100 (Int32.toNatClampNeg ((v1 * (7 : Int32)) + v2)) v3) (fun M1 => some (.inl none, M1)) := by
  have hF := dp_den_grow (md := true) (xs := xs) (xl := xl) d
  unfold D_X3_set_0
  refine dp_s1 hF (i := .aload_n 0) rfl (fun _ => rfl) ?_
  refine dp_s1 hF (i := .getfield 28) rfl (fun _ => rfl) ?_
  refine dp_s1 hF (i := .iload_n 1) rfl (fun _ => rfl) ?_
  refine dp_s1 hF (i := .bipush 7) rfl (fun _ => rfl) ?_
  refine dp_s1 hF (i := .imul) rfl (fun _ => rfl) ?_
  refine dp_s1 hF (i := .iload_n 2) rfl (fun _ => rfl) ?_
  refine dp_s1 hF (i := .iadd) rfl (fun _ => rfl) ?_
  refine dp_s1 hF (i := .iload_n 3) rfl (fun _ => rfl) ?_
  refine dp_s3w (dp_setI M 100 (Int32.toNatClampNeg ((v1 * (7 : Int32)) + v2)) v3) (fun (M1 : dp_M) => (12, [some (.ref 97), some (.int v1), some (.int v2), some (.int v3)], [], M1)) hF (i := .iastore) rfl (fun _ => rfl) (fun M1 => ?_)
  exact dp_s0 hF (i := .return_) rfl (fun _ => rfl)
noncomputable def D_X3_stateOf_0 (xs : Nat → Int32) (xl d : Nat) (v1 : Int32) (M : dp_M) : Option dp_Res := dp_lim true xs xl (dp_den true xs xl d) dp_m_X3_stateOf (0, [some (.ref 97), some (.int v1)], [], M)
theorem D_X3_stateOf_0_den (xs : Nat → Int32) (xl d : Nat) (a0 : Int32) (M : dp_M) : dp_den true xs xl (d + 1) 80 [.ref 97, .int a0] M = D_X3_stateOf_0 xs xl d a0 M := rfl
set_option maxRecDepth 20000 in
theorem D_X3_stateOf_0_eq (xs : Nat → Int32) (xl d : Nat) (v1 : Int32) (M : dp_M) : D_X3_stateOf_0 xs xl d v1 M = dp_bi (dp_den true xs xl d 78 [.ref 97, .int v1, .int (0 : Int32)] M) (fun r2 M1 => some (.inl (some (.int r2)), M1)) := by
  have hF := dp_den_grow (md := true) (xs := xs) (xl := xl) d
  unfold D_X3_stateOf_0
  refine dp_s1 hF (i := .aload_n 0) rfl (fun _ => rfl) ?_
  refine dp_s1 hF (i := .iload_n 1) rfl (fun _ => rfl) ?_
  refine dp_s1 hF (i := .iconst 0) rfl (fun _ => rfl) ?_
  refine dp_si (mj := dp_m_X3_fact) (i := .invokevirtual 53) rfl rfl (Or.inl rfl) rfl (fun _ => rfl) (fun r2 M1 => ?_)
  exact dp_s0 hF (i := .ireturn) rfl (fun _ => rfl)
noncomputable def D_X3_entriesOf_0 (xs : Nat → Int32) (xl d : Nat) (v1 : Int32) (M : dp_M) : Option dp_Res := dp_lim true xs xl (dp_den true xs xl d) dp_m_X3_entriesOf (0, [some (.ref 97), some (.int v1)], [], M)
theorem D_X3_entriesOf_0_den (xs : Nat → Int32) (xl d : Nat) (a0 : Int32) (M : dp_M) : dp_den true xs xl (d + 1) 81 [.ref 97, .int a0] M = D_X3_entriesOf_0 xs xl d a0 M := rfl
set_option maxRecDepth 20000 in
theorem D_X3_entriesOf_0_eq (xs : Nat → Int32) (xl d : Nat) (v1 : Int32) (M : dp_M) : D_X3_entriesOf_0 xs xl d v1 M = dp_bi (dp_den true xs xl d 78 [.ref 97, .int v1, .int (1 : Int32)] M) (fun r2 M1 => some (.inl (some (.int r2)), M1)) := by
  have hF := dp_den_grow (md := true) (xs := xs) (xl := xl) d
  unfold D_X3_entriesOf_0
  refine dp_s1 hF (i := .aload_n 0) rfl (fun _ => rfl) ?_
  refine dp_s1 hF (i := .iload_n 1) rfl (fun _ => rfl) ?_
  refine dp_s1 hF (i := .iconst 1) rfl (fun _ => rfl) ?_
  refine dp_si (mj := dp_m_X3_fact) (i := .invokevirtual 53) rfl rfl (Or.inl rfl) rfl (fun _ => rfl) (fun r2 M1 => ?_)
  exact dp_s0 hF (i := .ireturn) rfl (fun _ => rfl)
noncomputable def D_X3_begin_0 (xs : Nat → Int32) (xl d : Nat) (v1 : Int32) (v2 : Int32) (M : dp_M) : Option dp_Res := dp_lim true xs xl (dp_den true xs xl d) dp_m_X3_begin (0, [some (.ref 97), some (.int v1), some (.int v2), none], [], M)
theorem D_X3_begin_0_den (xs : Nat → Int32) (xl d : Nat) (a0 : Int32) (a1 : Int32) (M : dp_M) : dp_den true xs xl (d + 1) 82 [.ref 97, .int a0, .int a1] M = D_X3_begin_0 xs xl d a0 a1 M := rfl
set_option maxRecDepth 20000 in
theorem D_X3_begin_0_eq (xs : Nat → Int32) (xl d : Nat) (v1 : Int32) (v2 : Int32) (M : dp_M) : D_X3_begin_0 xs xl d v1 v2 M = dp_w (dp_I M 97 0) (fun y1 => dp_bv (dp_den true xs xl d 79 [.ref 97, .int y1, .int (2 : Int32), .int (-1 : Int32)] M) (fun M2 => dp_bv (dp_den true xs xl d 79 [.ref 97, .int y1, .int (3 : Int32), .int (-1 : Int32)] M2) (fun M3 => dp_bv (dp_den true xs xl d 79 [.ref 97, .int y1, .int (5 : Int32), .int v1] M3) (fun M4 => dp_bv (dp_den true xs xl d 79 [.ref 97, .int y1, .int (6 : Int32), .int v2] M4) (fun M5 => dp_w (dp_setI M5 97 0 ((dp_I M5 97 0) + (1 : Int32))) (fun M6 => some (.inl (some (.int y1)), M6))))))) := by
  have hF := dp_den_grow (md := true) (xs := xs) (xl := xl) d
  unfold D_X3_begin_0
  refine dp_s1 hF (i := .aload_n 0) rfl (fun _ => rfl) ?_
  refine dp_s1 hF (i := .getfield 57) rfl (fun _ => rfl) ?_
  refine dp_s1w (dp_I M 97 0) (fun (y1 : Int32) => (5, [some (.ref 97), some (.int v1), some (.int v2), some (.int y1)], [], M)) hF (i := .istore_n 3) rfl (fun _ => rfl) (fun y1 => ?_)
  refine dp_s1 hF (i := .aload_n 0) rfl (fun _ => rfl) ?_
  refine dp_s1 hF (i := .iload_n 3) rfl (fun _ => rfl) ?_
  refine dp_s1 hF (i := .iconst 2) rfl (fun _ => rfl) ?_
  refine dp_s1 hF (i := .iconst (-1)) rfl (fun _ => rfl) ?_
  refine dp_sv (mj := dp_m_X3_set) (i := .invokevirtual 60) rfl rfl rfl rfl (fun _ => rfl) (fun M2 => ?_)
  refine dp_s1 hF (i := .aload_n 0) rfl (fun _ => rfl) ?_
  refine dp_s1 hF (i := .iload_n 3) rfl (fun _ => rfl) ?_
  refine dp_s1 hF (i := .iconst 3) rfl (fun _ => rfl) ?_
  refine dp_s1 hF (i := .iconst (-1)) rfl (fun _ => rfl) ?_
  refine dp_sv (mj := dp_m_X3_set) (i := .invokevirtual 60) rfl rfl rfl rfl (fun _ => rfl) (fun M3 => ?_)
  refine dp_s1 hF (i := .aload_n 0) rfl (fun _ => rfl) ?_
  refine dp_s1 hF (i := .iload_n 3) rfl (fun _ => rfl) ?_
  refine dp_s1 hF (i := .iconst 5) rfl (fun _ => rfl) ?_
  refine dp_s1 hF (i := .iload_n 1) rfl (fun _ => rfl) ?_
  refine dp_sv (mj := dp_m_X3_set) (i := .invokevirtual 60) rfl rfl rfl rfl (fun _ => rfl) (fun M4 => ?_)
  refine dp_s1 hF (i := .aload_n 0) rfl (fun _ => rfl) ?_
  refine dp_s1 hF (i := .iload_n 3) rfl (fun _ => rfl) ?_
  refine dp_s1 hF (i := .bipush 6) rfl (fun _ => rfl) ?_
  refine dp_s1 hF (i := .iload_n 2) rfl (fun _ => rfl) ?_
  refine dp_sv (mj := dp_m_X3_set) (i := .invokevirtual 60) rfl rfl rfl rfl (fun _ => rfl) (fun M5 => ?_)
  refine dp_s1 hF (i := .aload_n 0) rfl (fun _ => rfl) ?_
  refine dp_s1 hF (i := .dup) rfl (fun _ => rfl) ?_
  refine dp_s1 hF (i := .getfield 57) rfl (fun _ => rfl) ?_
  refine dp_s1 hF (i := .iconst 1) rfl (fun _ => rfl) ?_
  refine dp_s1 hF (i := .iadd) rfl (fun _ => rfl) ?_
  refine dp_s1w (dp_setI M5 97 0 ((dp_I M5 97 0) + (1 : Int32))) (fun (M6 : dp_M) => (44, [some (.ref 97), some (.int v1), some (.int v2), some (.int y1)], [], M6)) hF (i := .putfield 57) rfl (fun _ => rfl) (fun M6 => ?_)
  refine dp_s1 hF (i := .iload_n 3) rfl (fun _ => rfl) ?_
  exact dp_s0 hF (i := .ireturn) rfl (fun _ => rfl)
noncomputable def D_X3_addEntry_0 (xs : Nat → Int32) (xl d : Nat) (v1 : Int32) (v2 : Int32) (v3 : Int64) (M : dp_M) : Option dp_Res := dp_lim true xs xl (dp_den true xs xl d) dp_m_X3_addEntry (0, [some (.ref 97), some (.int v1), some (.int v2), some (.long v3), none, none], [], M)
theorem D_X3_addEntry_0_den (xs : Nat → Int32) (xl d : Nat) (a0 : Int32) (a1 : Int32) (a2 : Int64) (M : dp_M) : dp_den true xs xl (d + 1) 83 [.ref 97, .int a0, .int a1, .long a2] M = D_X3_addEntry_0 xs xl d a0 a1 a2 M := rfl
set_option maxRecDepth 20000 in
theorem D_X3_addEntry_0_eq (xs : Nat → Int32) (xl d : Nat) (v1 : Int32) (v2 : Int32) (v3 : Int64) (M : dp_M) : D_X3_addEntry_0 xs xl d v1 v2 v3 M = dp_bi (dp_den true xs xl d 81 [.ref 97, .int v1] M) (fun r2 M1 => if r2 < (20 : Int32) then (if ((v1 * (20 : Int32)) + r2) < 0 ∨ 16000 ≤ Int32.toNatClampNeg ((v1 * (20 : Int32)) + r2) then none else dp_w (dp_setI M1 101 (Int32.toNatClampNeg ((v1 * (20 : Int32)) + r2)) v2) (fun M3 => if ((v1 * (20 : Int32)) + r2) < 0 ∨ 16000 ≤ Int32.toNatClampNeg ((v1 * (20 : Int32)) + r2) then none else dp_w (dp_setI M3 102 (Int32.toNatClampNeg ((v1 * (20 : Int32)) + r2)) (Int64.toInt32 v3)) (fun M4 => dp_bv (dp_den true xs xl d 79 [.ref 97, .int v1, .int (1 : Int32), .int (r2 + (1 : Int32))] M4) (fun M5 => some (.inl (some (.int (1 : Int32))), M5))))) else (some (.inl (some (.int (0 : Int32))), M1))) := by
  have hF := dp_den_grow (md := true) (xs := xs) (xl := xl) d
  unfold D_X3_addEntry_0
  refine dp_s1 hF (i := .aload_n 0) rfl (fun _ => rfl) ?_
  refine dp_s1 hF (i := .iload_n 1) rfl (fun _ => rfl) ?_
  refine dp_si (mj := dp_m_X3_entriesOf) (i := .invokevirtual 64) rfl rfl (Or.inl rfl) rfl (fun _ => rfl) (fun r2 M1 => ?_)
  refine dp_s1 hF (i := .istore 5) rfl (fun _ => rfl) ?_
  refine dp_s1 hF (i := .iload 5) rfl (fun _ => rfl) ?_
  refine dp_s1 hF (i := .bipush 20) rfl (fun _ => rfl) ?_
  refine dp_s2 hF (i := .if_icmp .lt 5) (a := (16, [some (.ref 97), some (.int v1), some (.int v2), some (.long v3), none, some (.int r2)], [], M1)) (b := (14, [some (.ref 97), some (.int v1), some (.int v2), some (.long v3), none, some (.int r2)], [], M1)) rfl (fun _ => rfl) ?_ ?_
  · refine dp_s1 hF (i := .aload_n 0) rfl (fun _ => rfl) ?_
    refine dp_s1 hF (i := .getfield 31) rfl (fun _ => rfl) ?_
    refine dp_s1 hF (i := .iload_n 1) rfl (fun _ => rfl) ?_
    refine dp_s1 hF (i := .bipush 20) rfl (fun _ => rfl) ?_
    refine dp_s1 hF (i := .imul) rfl (fun _ => rfl) ?_
    refine dp_s1 hF (i := .iload 5) rfl (fun _ => rfl) ?_
    refine dp_s1 hF (i := .iadd) rfl (fun _ => rfl) ?_
    refine dp_s1 hF (i := .iload_n 2) rfl (fun _ => rfl) ?_
    refine dp_s3w (dp_setI M1 101 (Int32.toNatClampNeg ((v1 * (20 : Int32)) + r2)) v2) (fun (M3 : dp_M) => (29, [some (.ref 97), some (.int v1), some (.int v2), some (.long v3), none, some (.int r2)], [], M3)) hF (i := .iastore) rfl (fun _ => rfl) (fun M3 => ?_)
    refine dp_s1 hF (i := .aload_n 0) rfl (fun _ => rfl) ?_
    refine dp_s1 hF (i := .getfield 34) rfl (fun _ => rfl) ?_
    refine dp_s1 hF (i := .iload_n 1) rfl (fun _ => rfl) ?_
    refine dp_s1 hF (i := .bipush 20) rfl (fun _ => rfl) ?_
    refine dp_s1 hF (i := .imul) rfl (fun _ => rfl) ?_
    refine dp_s1 hF (i := .iload 5) rfl (fun _ => rfl) ?_
    refine dp_s1 hF (i := .iadd) rfl (fun _ => rfl) ?_
    refine dp_s1 hF (i := .lload_n 3) rfl (fun _ => rfl) ?_
    refine dp_s1 hF (i := .l2i) rfl (fun _ => rfl) ?_
    refine dp_s3w (dp_setI M3 102 (Int32.toNatClampNeg ((v1 * (20 : Int32)) + r2)) (Int64.toInt32 v3)) (fun (M4 : dp_M) => (43, [some (.ref 97), some (.int v1), some (.int v2), some (.long v3), none, some (.int r2)], [], M4)) hF (i := .iastore) rfl (fun _ => rfl) (fun M4 => ?_)
    refine dp_s1 hF (i := .aload_n 0) rfl (fun _ => rfl) ?_
    refine dp_s1 hF (i := .iload_n 1) rfl (fun _ => rfl) ?_
    refine dp_s1 hF (i := .iconst 1) rfl (fun _ => rfl) ?_
    refine dp_s1 hF (i := .iload 5) rfl (fun _ => rfl) ?_
    refine dp_s1 hF (i := .iconst 1) rfl (fun _ => rfl) ?_
    refine dp_s1 hF (i := .iadd) rfl (fun _ => rfl) ?_
    refine dp_sv (mj := dp_m_X3_set) (i := .invokevirtual 60) rfl rfl rfl rfl (fun _ => rfl) (fun M5 => ?_)
    refine dp_s1 hF (i := .iconst 1) rfl (fun _ => rfl) ?_
    exact dp_s0 hF (i := .ireturn) rfl (fun _ => rfl)
  refine dp_s1 hF (i := .iconst 0) rfl (fun _ => rfl) ?_
  exact dp_s0 hF (i := .ireturn) rfl (fun _ => rfl)
noncomputable def D_X3_setFailing_0 (xs : Nat → Int32) (xl d : Nat) (v1 : Int32) (v2 : Int32) (M : dp_M) : Option dp_Res := dp_lim true xs xl (dp_den true xs xl d) dp_m_X3_setFailing (0, [some (.ref 97), some (.int v1), some (.int v2)], [], M)
theorem D_X3_setFailing_0_den (xs : Nat → Int32) (xl d : Nat) (a0 : Int32) (a1 : Int32) (M : dp_M) : dp_den true xs xl (d + 1) 84 [.ref 97, .int a0, .int a1] M = D_X3_setFailing_0 xs xl d a0 a1 M := rfl
set_option maxRecDepth 20000 in
theorem D_X3_setFailing_0_eq (xs : Nat → Int32) (xl d : Nat) (v1 : Int32) (v2 : Int32) (M : dp_M) : D_X3_setFailing_0 xs xl d v1 v2 M = if v2 = 0 then (dp_bv (dp_den true xs xl d 79 [.ref 97, .int v1, .int (4 : Int32), .int (0 : Int32)] M) (fun M1 => some (.inl none, M1))) else (dp_bv (dp_den true xs xl d 79 [.ref 97, .int v1, .int (4 : Int32), .int (1 : Int32)] M) (fun M2 => some (.inl none, M2))) := by
  have hF := dp_den_grow (md := true) (xs := xs) (xl := xl) d
  unfold D_X3_setFailing_0
  refine dp_s1 hF (i := .aload_n 0) rfl (fun _ => rfl) ?_
  refine dp_s1 hF (i := .iload_n 1) rfl (fun _ => rfl) ?_
  refine dp_s1 hF (i := .iconst 4) rfl (fun _ => rfl) ?_
  refine dp_s1 hF (i := .iload_n 2) rfl (fun _ => rfl) ?_
  refine dp_s2 hF (i := .ifCond .eq 7) (a := (11, [some (.ref 97), some (.int v1), some (.int v2)], [.int (4 : Int32), .int v1, .ref 97], M)) (b := (7, [some (.ref 97), some (.int v1), some (.int v2)], [.int (4 : Int32), .int v1, .ref 97], M)) rfl (fun _ => rfl) ?_ ?_
  · refine dp_s1 hF (i := .iconst 0) rfl (fun _ => rfl) ?_
    refine dp_sv (mj := dp_m_X3_set) (i := .invokevirtual 60) rfl rfl rfl rfl (fun _ => rfl) (fun M1 => ?_)
    exact dp_s0 hF (i := .return_) rfl (fun _ => rfl)
  refine dp_s1 hF (i := .iconst 1) rfl (fun _ => rfl) ?_
  refine dp_s1 hF (i := .goto 4) rfl (fun _ => rfl) ?_
  refine dp_sv (mj := dp_m_X3_set) (i := .invokevirtual 60) rfl rfl rfl rfl (fun _ => rfl) (fun M2 => ?_)
  exact dp_s0 hF (i := .return_) rfl (fun _ => rfl)
noncomputable def D_X3_isTooEarly_0 (xs : Nat → Int32) (xl d : Nat) (v1 : Int32) (M : dp_M) : Option dp_Res := dp_lim true xs xl (dp_den true xs xl d) dp_m_X3_isTooEarly (0, [some (.ref 97), some (.int v1)], [], M)
theorem D_X3_isTooEarly_0_den (xs : Nat → Int32) (xl d : Nat) (a0 : Int32) (M : dp_M) : dp_den true xs xl (d + 1) 85 [.ref 97, .int a0] M = D_X3_isTooEarly_0 xs xl d a0 M := rfl
set_option maxRecDepth 20000 in
theorem D_X3_isTooEarly_0_eq (xs : Nat → Int32) (xl d : Nat) (v1 : Int32) (M : dp_M) : D_X3_isTooEarly_0 xs xl d v1 M = if v1 ≤ (dp_I M 97 2) then (some (.inl (some (.int (1 : Int32))), M)) else (if (dp_I M 97 3) ≤ v1 then (some (.inl (some (.int (0 : Int32))), M)) else (some (.inl (some (.int (1 : Int32))), M))) := by
  have hF := dp_den_grow (md := true) (xs := xs) (xl := xl) d
  unfold D_X3_isTooEarly_0
  refine dp_s1 hF (i := .iload_n 1) rfl (fun _ => rfl) ?_
  refine dp_s1 hF (i := .aload_n 0) rfl (fun _ => rfl) ?_
  refine dp_s1 hF (i := .getfield 9) rfl (fun _ => rfl) ?_
  refine dp_s2 hF (i := .if_icmp .le 11) (a := (16, [some (.ref 97), some (.int v1)], [], M)) (b := (8, [some (.ref 97), some (.int v1)], [], M)) rfl (fun _ => rfl) ?_ ?_
  · refine dp_s1 hF (i := .iconst 1) rfl (fun _ => rfl) ?_
    refine dp_s1 hF (i := .goto 4) rfl (fun _ => rfl) ?_
    exact dp_s0 hF (i := .ireturn) rfl (fun _ => rfl)
  refine dp_s1 hF (i := .iload_n 1) rfl (fun _ => rfl) ?_
  refine dp_s1 hF (i := .aload_n 0) rfl (fun _ => rfl) ?_
  refine dp_s1 hF (i := .getfield 15) rfl (fun _ => rfl) ?_
  refine dp_s2 hF (i := .if_icmp .ge 7) (a := (20, [some (.ref 97), some (.int v1)], [], M)) (b := (16, [some (.ref 97), some (.int v1)], [], M)) rfl (fun _ => rfl) ?_ ?_
  · refine dp_s1 hF (i := .iconst 0) rfl (fun _ => rfl) ?_
    exact dp_s0 hF (i := .ireturn) rfl (fun _ => rfl)
  refine dp_s1 hF (i := .iconst 1) rfl (fun _ => rfl) ?_
  refine dp_s1 hF (i := .goto 4) rfl (fun _ => rfl) ?_
  exact dp_s0 hF (i := .ireturn) rfl (fun _ => rfl)
noncomputable def D_X3_hasRoom_0 (xs : Nat → Int32) (xl d : Nat) (v1 : Int32) (M : dp_M) : Option dp_Res := dp_lim true xs xl (dp_den true xs xl d) dp_m_X3_hasRoom (0, [some (.ref 97), some (.int v1)], [], M)
theorem D_X3_hasRoom_0_den (xs : Nat → Int32) (xl d : Nat) (a0 : Int32) (M : dp_M) : dp_den true xs xl (d + 1) 86 [.ref 97, .int a0] M = D_X3_hasRoom_0 xs xl d a0 M := rfl
set_option maxRecDepth 20000 in
theorem D_X3_hasRoom_0_eq (xs : Nat → Int32) (xl d : Nat) (v1 : Int32) (M : dp_M) : D_X3_hasRoom_0 xs xl d v1 M = if (4000 : Int32) < ((dp_I M 97 1) + v1) then (some (.inl (some (.int (0 : Int32))), M)) else (some (.inl (some (.int (1 : Int32))), M)) := by
  have hF := dp_den_grow (md := true) (xs := xs) (xl := xl) d
  unfold D_X3_hasRoom_0
  refine dp_s1 hF (i := .aload_n 0) rfl (fun _ => rfl) ?_
  refine dp_s1 hF (i := .getfield 68) rfl (fun _ => rfl) ?_
  refine dp_s1 hF (i := .iload_n 1) rfl (fun _ => rfl) ?_
  refine dp_s1 hF (i := .iadd) rfl (fun _ => rfl) ?_
  refine dp_s1 hF (i := .sipush 4000) rfl (fun _ => rfl) ?_
  refine dp_s2 hF (i := .if_icmp .gt 7) (a := (16, [some (.ref 97), some (.int v1)], [], M)) (b := (12, [some (.ref 97), some (.int v1)], [], M)) rfl (fun _ => rfl) ?_ ?_
  · refine dp_s1 hF (i := .iconst 0) rfl (fun _ => rfl) ?_
    exact dp_s0 hF (i := .ireturn) rfl (fun _ => rfl)
  refine dp_s1 hF (i := .iconst 1) rfl (fun _ => rfl) ?_
  refine dp_s1 hF (i := .goto 4) rfl (fun _ => rfl) ?_
  exact dp_s0 hF (i := .ireturn) rfl (fun _ => rfl)
noncomputable def D_X3_wouldTake_0 (xs : Nat → Int32) (xl d : Nat) (v1 : Int32) (v2 : Int32) (M : dp_M) : Option dp_Res := dp_lim true xs xl (dp_den true xs xl d) dp_m_X3_wouldTake (0, [some (.ref 97), some (.int v1), some (.int v2)], [], M)
theorem D_X3_wouldTake_0_den (xs : Nat → Int32) (xl d : Nat) (a0 : Int32) (a1 : Int32) (M : dp_M) : dp_den true xs xl (d + 1) 87 [.ref 97, .int a0, .int a1] M = D_X3_wouldTake_0 xs xl d a0 a1 M := rfl
set_option maxRecDepth 20000 in
theorem D_X3_wouldTake_0_eq (xs : Nat → Int32) (xl d : Nat) (v1 : Int32) (v2 : Int32) (M : dp_M) : D_X3_wouldTake_0 xs xl d v1 v2 M = if (800 : Int32) ≤ (dp_I M 97 0) then (some (.inl (some (.int (0 : Int32))), M)) else (dp_bi (dp_den true xs xl d 85 [.ref 97, .int v2] M) (fun r2 M1 => if r2 = 0 then (dp_bi (dp_den true xs xl d 86 [.ref 97, .int v1] M1) (fun r4 M3 => if r4 = 0 then (some (.inl (some (.int (0 : Int32))), M3)) else (some (.inl (some (.int (1 : Int32))), M3)))) else (some (.inl (some (.int (0 : Int32))), M1)))) := by
  have hF := dp_den_grow (md := true) (xs := xs) (xl := xl) d
  unfold D_X3_wouldTake_0
  refine dp_s1 hF (i := .aload_n 0) rfl (fun _ => rfl) ?_
  refine dp_s1 hF (i := .getfield 57) rfl (fun _ => rfl) ?_
  refine dp_s1 hF (i := .sipush 800) rfl (fun _ => rfl) ?_
  refine dp_s2 hF (i := .if_icmp .ge 23) (a := (30, [some (.ref 97), some (.int v1), some (.int v2)], [], M)) (b := (10, [some (.ref 97), some (.int v1), some (.int v2)], [], M)) rfl (fun _ => rfl) ?_ ?_
  · refine dp_s1 hF (i := .iconst 0) rfl (fun _ => rfl) ?_
    exact dp_s0 hF (i := .ireturn) rfl (fun _ => rfl)
  refine dp_s1 hF (i := .aload_n 0) rfl (fun _ => rfl) ?_
  refine dp_s1 hF (i := .iload_n 2) rfl (fun _ => rfl) ?_
  refine dp_si (mj := dp_m_X3_isTooEarly) (i := .invokevirtual 71) rfl rfl (Or.inr rfl) rfl (fun _ => rfl) (fun r2 M1 => ?_)
  refine dp_s2 hF (i := .ifCond .ne 15) (a := (18, [some (.ref 97), some (.int v1), some (.int v2)], [], M1)) (b := (30, [some (.ref 97), some (.int v1), some (.int v2)], [], M1)) rfl (fun _ => rfl) ?_ ?_
  · refine dp_s1 hF (i := .aload_n 0) rfl (fun _ => rfl) ?_
    refine dp_s1 hF (i := .iload_n 1) rfl (fun _ => rfl) ?_
    refine dp_si (mj := dp_m_X3_hasRoom) (i := .invokevirtual 75) rfl rfl (Or.inr rfl) rfl (fun _ => rfl) (fun r4 M3 => ?_)
    refine dp_s2 hF (i := .ifCond .eq 7) (a := (30, [some (.ref 97), some (.int v1), some (.int v2)], [], M3)) (b := (26, [some (.ref 97), some (.int v1), some (.int v2)], [], M3)) rfl (fun _ => rfl) ?_ ?_
    · refine dp_s1 hF (i := .iconst 0) rfl (fun _ => rfl) ?_
      exact dp_s0 hF (i := .ireturn) rfl (fun _ => rfl)
    refine dp_s1 hF (i := .iconst 1) rfl (fun _ => rfl) ?_
    refine dp_s1 hF (i := .goto 4) rfl (fun _ => rfl) ?_
    exact dp_s0 hF (i := .ireturn) rfl (fun _ => rfl)
  refine dp_s1 hF (i := .iconst 0) rfl (fun _ => rfl) ?_
  exact dp_s0 hF (i := .ireturn) rfl (fun _ => rfl)
noncomputable def D_X3_sumOf_0 (xs : Nat → Int32) (xl d : Nat) (v1 : Int32) (M : dp_M) : Option dp_Res := dp_lim true xs xl (dp_den true xs xl d) dp_m_X3_sumOf (0, [some (.ref 97), some (.int v1), none, none, none], [], M)
noncomputable def D_X3_sumOf_5 (xs : Nat → Int32) (xl d : Nat) (v1 : Int32) (v2 : Int64) (v4 : Int32) (M : dp_M) : Option dp_Res := dp_lim true xs xl (dp_den true xs xl d) dp_m_X3_sumOf (5, [some (.ref 97), some (.int v1), some (.long v2), none, some (.int v4)], [], M)
theorem D_X3_sumOf_0_den (xs : Nat → Int32) (xl d : Nat) (a0 : Int32) (M : dp_M) : dp_den true xs xl (d + 1) 88 [.ref 97, .int a0] M = D_X3_sumOf_0 xs xl d a0 M := rfl
set_option maxRecDepth 20000 in
theorem D_X3_sumOf_0_eq (xs : Nat → Int32) (xl d : Nat) (v1 : Int32) (M : dp_M) : D_X3_sumOf_0 xs xl d v1 M = dp_w (0 : Int64) (fun y1 => dp_w (0 : Int32) (fun y2 => D_X3_sumOf_5 xs xl d v1 y1 y2 M)) := by
  have hF := dp_den_grow (md := true) (xs := xs) (xl := xl) d
  unfold D_X3_sumOf_0
  refine dp_s1 hF (i := .lconst 0) rfl (fun _ => rfl) ?_
  refine dp_s1w (0 : Int64) (fun (y1 : Int64) => (2, [some (.ref 97), some (.int v1), some (.long y1), none, none], [], M)) hF (i := .lstore_n 2) rfl (fun _ => rfl) (fun y1 => ?_)
  refine dp_s1 hF (i := .iconst 0) rfl (fun _ => rfl) ?_
  refine dp_s1w (0 : Int32) (fun (y2 : Int32) => (5, [some (.ref 97), some (.int v1), some (.long y1), none, some (.int y2)], [], M)) hF (i := .istore 4) rfl (fun _ => rfl) (fun y2 => ?_)
  exact rfl
set_option maxRecDepth 20000 in
theorem D_X3_sumOf_5_eq (xs : Nat → Int32) (xl d : Nat) (v1 : Int32) (v2 : Int64) (v4 : Int32) (M : dp_M) : D_X3_sumOf_5 xs xl d v1 v2 v4 M = dp_bi (dp_den true xs xl d 81 [.ref 97, .int v1] M) (fun r2 M1 => if r2 ≤ v4 then (some (.inl (some (.long v2)), M1)) else (if ((v1 * (20 : Int32)) + v4) < 0 ∨ 16000 ≤ Int32.toNatClampNeg ((v1 * (20 : Int32)) + v4) then none else (dp_w (v2 + (Int32.toInt64 (dp_I M1 102 (Int32.toNatClampNeg ((v1 * (20 : Int32)) + v4))))) (fun y3 => dp_w (v4 + (1 : Int32)) (fun y4 => D_X3_sumOf_5 xs xl d v1 y3 y4 M1))))) := by
  have hF := dp_den_grow (md := true) (xs := xs) (xl := xl) d
  unfold D_X3_sumOf_5
  refine dp_s1 hF (i := .iload 4) rfl (fun _ => rfl) ?_
  refine dp_s1 hF (i := .aload_n 0) rfl (fun _ => rfl) ?_
  refine dp_s1 hF (i := .iload_n 1) rfl (fun _ => rfl) ?_
  refine dp_si (mj := dp_m_X3_entriesOf) (i := .invokevirtual 64) rfl rfl (Or.inl rfl) rfl (fun _ => rfl) (fun r2 M1 => ?_)
  refine dp_s2 hF (i := .if_icmp .ge 25) (a := (37, [some (.ref 97), some (.int v1), some (.long v2), none, some (.int v4)], [], M1)) (b := (15, [some (.ref 97), some (.int v1), some (.long v2), none, some (.int v4)], [], M1)) rfl (fun _ => rfl) ?_ ?_
  · refine dp_s1 hF (i := .lload_n 2) rfl (fun _ => rfl) ?_
    exact dp_s0 hF (i := .lreturn) rfl (fun _ => rfl)
  refine dp_s1 hF (i := .lload_n 2) rfl (fun _ => rfl) ?_
  refine dp_s1 hF (i := .aload_n 0) rfl (fun _ => rfl) ?_
  refine dp_s1 hF (i := .getfield 34) rfl (fun _ => rfl) ?_
  refine dp_s1 hF (i := .iload_n 1) rfl (fun _ => rfl) ?_
  refine dp_s1 hF (i := .bipush 20) rfl (fun _ => rfl) ?_
  refine dp_s1 hF (i := .imul) rfl (fun _ => rfl) ?_
  refine dp_s1 hF (i := .iload 4) rfl (fun _ => rfl) ?_
  refine dp_s1 hF (i := .iadd) rfl (fun _ => rfl) ?_
  refine dp_s3 hF (i := .iaload) rfl (fun _ => rfl) ?_
  refine dp_s1 hF (i := .i2l) rfl (fun _ => rfl) ?_
  refine dp_s1 hF (i := .ladd) rfl (fun _ => rfl) ?_
  refine dp_s1w (v2 + (Int32.toInt64 (dp_I M1 102 (Int32.toNatClampNeg ((v1 * (20 : Int32)) + v4))))) (fun (y3 : Int64) => (31, [some (.ref 97), some (.int v1), some (.long y3), none, some (.int v4)], [], M1)) hF (i := .lstore_n 2) rfl (fun _ => rfl) (fun y3 => ?_)
  refine dp_s1w (v4 + (1 : Int32)) (fun (y4 : Int32) => (34, [some (.ref 97), some (.int v1), some (.long y3), none, some (.int y4)], [], M1)) hF (i := .iinc 4 1) rfl (fun _ => rfl) (fun y4 => ?_)
  refine dp_s1 hF (i := .goto (-29)) rfl (fun _ => rfl) ?_
  exact rfl
noncomputable def D_X3_wrongWith_0 (xs : Nat → Int32) (xl d : Nat) (v1 : Int32) (M : dp_M) : Option dp_Res := dp_lim true xs xl (dp_den true xs xl d) dp_m_X3_wrongWith (0, [some (.ref 97), some (.int v1)], [], M)
theorem D_X3_wrongWith_0_den (xs : Nat → Int32) (xl d : Nat) (a0 : Int32) (M : dp_M) : dp_den true xs xl (d + 1) 89 [.ref 97, .int a0] M = D_X3_wrongWith_0 xs xl d a0 M := rfl
set_option maxRecDepth 20000 in
theorem D_X3_wrongWith_0_eq (xs : Nat → Int32) (xl d : Nat) (v1 : Int32) (M : dp_M) : D_X3_wrongWith_0 xs xl d v1 M = dp_bi (dp_den true xs xl d 81 [.ref 97, .int v1] M) (fun r2 M1 => if r2 = 0 then (some (.inl (some (.int (1 : Int32))), M1)) else (dp_bl (dp_den true xs xl d 88 [.ref 97, .int v1] M1) (fun r4 M3 => if (lg_cmp r4 (0 : Int64)) = 0 then (dp_bi (dp_den true xs xl d 78 [.ref 97, .int v1, .int (6 : Int32)] M3) (fun r6 M5 => if (dp_I M5 97 2) < r6 then (dp_bi (dp_den true xs xl d 78 [.ref 97, .int v1, .int (6 : Int32)] M5) (fun r8 M7 => dp_bi (dp_den true xs xl d 85 [.ref 97, .int r8] M7) (fun r10 M9 => if r10 = 0 then (dp_bi (dp_den true xs xl d 81 [.ref 97, .int v1] M9) (fun r12 M11 => dp_bi (dp_den true xs xl d 86 [.ref 97, .int r12] M11) (fun r14 M13 => if r14 = 0 then (some (.inl (some (.int (5 : Int32))), M13)) else (some (.inl (some (.int (0 : Int32))), M13))))) else (some (.inl (some (.int (4 : Int32))), M9))))) else (some (.inl (some (.int (3 : Int32))), M5)))) else (some (.inl (some (.int (2 : Int32))), M3))))) := by
  have hF := dp_den_grow (md := true) (xs := xs) (xl := xl) d
  unfold D_X3_wrongWith_0
  refine dp_s1 hF (i := .aload_n 0) rfl (fun _ => rfl) ?_
  refine dp_s1 hF (i := .iload_n 1) rfl (fun _ => rfl) ?_
  refine dp_si (mj := dp_m_X3_entriesOf) (i := .invokevirtual 64) rfl rfl (Or.inl rfl) rfl (fun _ => rfl) (fun r2 M1 => ?_)
  refine dp_s2 hF (i := .ifCond .ne 5) (a := (8, [some (.ref 97), some (.int v1)], [], M1)) (b := (10, [some (.ref 97), some (.int v1)], [], M1)) rfl (fun _ => rfl) ?_ ?_
  · refine dp_s1 hF (i := .iconst 1) rfl (fun _ => rfl) ?_
    exact dp_s0 hF (i := .ireturn) rfl (fun _ => rfl)
  refine dp_s1 hF (i := .aload_n 0) rfl (fun _ => rfl) ?_
  refine dp_s1 hF (i := .iload_n 1) rfl (fun _ => rfl) ?_
  refine dp_sl9 (mj := dp_m_X3_sumOf) (i := .invokevirtual 78) rfl rfl rfl rfl (fun _ => rfl) (fun r4 M3 => ?_)
  refine dp_s1 hF (i := .lconst 0) rfl (fun _ => rfl) ?_
  refine dp_s1 hF (i := .lcmp) rfl (fun _ => rfl) ?_
  refine dp_s2 hF (i := .ifCond .eq 5) (a := (22, [some (.ref 97), some (.int v1)], [], M3)) (b := (20, [some (.ref 97), some (.int v1)], [], M3)) rfl (fun _ => rfl) ?_ ?_
  · refine dp_s1 hF (i := .aload_n 0) rfl (fun _ => rfl) ?_
    refine dp_s1 hF (i := .iload_n 1) rfl (fun _ => rfl) ?_
    refine dp_s1 hF (i := .bipush 6) rfl (fun _ => rfl) ?_
    refine dp_si (mj := dp_m_X3_fact) (i := .invokevirtual 53) rfl rfl (Or.inl rfl) rfl (fun _ => rfl) (fun r6 M5 => ?_)
    refine dp_s1 hF (i := .aload_n 0) rfl (fun _ => rfl) ?_
    refine dp_s1 hF (i := .getfield 9) rfl (fun _ => rfl) ?_
    refine dp_s2 hF (i := .if_icmp .gt 5) (a := (38, [some (.ref 97), some (.int v1)], [], M5)) (b := (36, [some (.ref 97), some (.int v1)], [], M5)) rfl (fun _ => rfl) ?_ ?_
    · refine dp_s1 hF (i := .aload_n 0) rfl (fun _ => rfl) ?_
      refine dp_s1 hF (i := .aload_n 0) rfl (fun _ => rfl) ?_
      refine dp_s1 hF (i := .iload_n 1) rfl (fun _ => rfl) ?_
      refine dp_s1 hF (i := .bipush 6) rfl (fun _ => rfl) ?_
      refine dp_si (mj := dp_m_X3_fact) (i := .invokevirtual 53) rfl rfl (Or.inl rfl) rfl (fun _ => rfl) (fun r8 M7 => ?_)
      refine dp_si (mj := dp_m_X3_isTooEarly) (i := .invokevirtual 71) rfl rfl (Or.inr rfl) rfl (fun _ => rfl) (fun r10 M9 => ?_)
      refine dp_s2 hF (i := .ifCond .eq 5) (a := (54, [some (.ref 97), some (.int v1)], [], M9)) (b := (52, [some (.ref 97), some (.int v1)], [], M9)) rfl (fun _ => rfl) ?_ ?_
      · refine dp_s1 hF (i := .aload_n 0) rfl (fun _ => rfl) ?_
        refine dp_s1 hF (i := .aload_n 0) rfl (fun _ => rfl) ?_
        refine dp_s1 hF (i := .iload_n 1) rfl (fun _ => rfl) ?_
        refine dp_si (mj := dp_m_X3_entriesOf) (i := .invokevirtual 64) rfl rfl (Or.inl rfl) rfl (fun _ => rfl) (fun r12 M11 => ?_)
        refine dp_si (mj := dp_m_X3_hasRoom) (i := .invokevirtual 75) rfl rfl (Or.inr rfl) rfl (fun _ => rfl) (fun r14 M13 => ?_)
        refine dp_s2 hF (i := .ifCond .eq 7) (a := (70, [some (.ref 97), some (.int v1)], [], M13)) (b := (66, [some (.ref 97), some (.int v1)], [], M13)) rfl (fun _ => rfl) ?_ ?_
        · refine dp_s1 hF (i := .iconst 5) rfl (fun _ => rfl) ?_
          exact dp_s0 hF (i := .ireturn) rfl (fun _ => rfl)
        refine dp_s1 hF (i := .iconst 0) rfl (fun _ => rfl) ?_
        refine dp_s1 hF (i := .goto 4) rfl (fun _ => rfl) ?_
        exact dp_s0 hF (i := .ireturn) rfl (fun _ => rfl)
      refine dp_s1 hF (i := .iconst 4) rfl (fun _ => rfl) ?_
      exact dp_s0 hF (i := .ireturn) rfl (fun _ => rfl)
    refine dp_s1 hF (i := .iconst 3) rfl (fun _ => rfl) ?_
    exact dp_s0 hF (i := .ireturn) rfl (fun _ => rfl)
  refine dp_s1 hF (i := .iconst 2) rfl (fun _ => rfl) ?_
  exact dp_s0 hF (i := .ireturn) rfl (fun _ => rfl)
noncomputable def D_X3_voidIfWrong_0 (xs : Nat → Int32) (xl d : Nat) (v1 : Int32) (M : dp_M) : Option dp_Res := dp_lim true xs xl (dp_den true xs xl d) dp_m_X3_voidIfWrong (0, [some (.ref 97), some (.int v1), none], [], M)
theorem D_X3_voidIfWrong_0_den (xs : Nat → Int32) (xl d : Nat) (a0 : Int32) (M : dp_M) : dp_den true xs xl (d + 1) 90 [.ref 97, .int a0] M = D_X3_voidIfWrong_0 xs xl d a0 M := rfl
set_option maxRecDepth 20000 in
theorem D_X3_voidIfWrong_0_eq (xs : Nat → Int32) (xl d : Nat) (v1 : Int32) (M : dp_M) : D_X3_voidIfWrong_0 xs xl d v1 M = dp_bi (dp_den true xs xl d 89 [.ref 97, .int v1] M) (fun r2 M1 => if r2 = 0 then (some (.inl (some (.int (0 : Int32))), M1)) else (dp_w (dp_setI M1 97 4 r2) (fun M3 => if r2 = (2 : Int32) then (dp_bi (dp_den true xs xl d 91 [.ref 97, .int v1] M3) (fun r5 M4 => dp_w (dp_setI M4 97 5 r5) (fun M6 => dp_bv (dp_den true xs xl d 79 [.ref 97, .int v1, .int (0 : Int32), .int (2 : Int32)] M6) (fun M7 => dp_bv (dp_den true xs xl d 79 [.ref 97, .int v1, .int (1 : Int32), .int (0 : Int32)] M7) (fun M8 => some (.inl (some (.int (1 : Int32))), M8)))))) else (dp_w (dp_setI M3 97 5 (-1 : Int32)) (fun M9 => dp_bv (dp_den true xs xl d 79 [.ref 97, .int v1, .int (0 : Int32), .int (2 : Int32)] M9) (fun M10 => dp_bv (dp_den true xs xl d 79 [.ref 97, .int v1, .int (1 : Int32), .int (0 : Int32)] M10) (fun M11 => some (.inl (some (.int (1 : Int32))), M11)))))))) := by
  have hF := dp_den_grow (md := true) (xs := xs) (xl := xl) d
  unfold D_X3_voidIfWrong_0
  refine dp_s1 hF (i := .aload_n 0) rfl (fun _ => rfl) ?_
  refine dp_s1 hF (i := .iload_n 1) rfl (fun _ => rfl) ?_
  refine dp_si (mj := dp_m_X3_wrongWith) (i := .invokevirtual 82) rfl rfl (Or.inl rfl) rfl (fun _ => rfl) (fun r2 M1 => ?_)
  refine dp_s1 hF (i := .istore_n 2) rfl (fun _ => rfl) ?_
  refine dp_s1 hF (i := .iload_n 2) rfl (fun _ => rfl) ?_
  refine dp_s2 hF (i := .ifCond .ne 5) (a := (10, [some (.ref 97), some (.int v1), some (.int r2)], [], M1)) (b := (12, [some (.ref 97), some (.int v1), some (.int r2)], [], M1)) rfl (fun _ => rfl) ?_ ?_
  · refine dp_s1 hF (i := .iconst 0) rfl (fun _ => rfl) ?_
    exact dp_s0 hF (i := .ireturn) rfl (fun _ => rfl)
  refine dp_s1 hF (i := .aload_n 0) rfl (fun _ => rfl) ?_
  refine dp_s1 hF (i := .iload_n 2) rfl (fun _ => rfl) ?_
  refine dp_s1w (dp_setI M1 97 4 r2) (fun (M3 : dp_M) => (17, [some (.ref 97), some (.int v1), some (.int r2)], [], M3)) hF (i := .putfield 85) rfl (fun _ => rfl) (fun M3 => ?_)
  refine dp_s1 hF (i := .aload_n 0) rfl (fun _ => rfl) ?_
  refine dp_s1 hF (i := .iload_n 2) rfl (fun _ => rfl) ?_
  refine dp_s1 hF (i := .iconst 2) rfl (fun _ => rfl) ?_
  refine dp_s2 hF (i := .if_icmp .ne 11) (a := (23, [some (.ref 97), some (.int v1), some (.int r2)], [.ref 97], M3)) (b := (31, [some (.ref 97), some (.int v1), some (.int r2)], [.ref 97], M3)) rfl (fun _ => rfl) ?_ ?_
  · refine dp_s1 hF (i := .aload_n 0) rfl (fun _ => rfl) ?_
    refine dp_s1 hF (i := .iload_n 1) rfl (fun _ => rfl) ?_
    refine dp_si (mj := dp_m_X3_greatestAccount) (i := .invokevirtual 88) rfl rfl (Or.inl rfl) rfl (fun _ => rfl) (fun r5 M4 => ?_)
    refine dp_s1 hF (i := .goto 4) rfl (fun _ => rfl) ?_
    refine dp_s1w (dp_setI M4 97 5 r5) (fun (M6 : dp_M) => (35, [some (.ref 97), some (.int v1), some (.int r2)], [], M6)) hF (i := .putfield 18) rfl (fun _ => rfl) (fun M6 => ?_)
    refine dp_s1 hF (i := .aload_n 0) rfl (fun _ => rfl) ?_
    refine dp_s1 hF (i := .iload_n 1) rfl (fun _ => rfl) ?_
    refine dp_s1 hF (i := .iconst 0) rfl (fun _ => rfl) ?_
    refine dp_s1 hF (i := .iconst 2) rfl (fun _ => rfl) ?_
    refine dp_sv (mj := dp_m_X3_set) (i := .invokevirtual 60) rfl rfl rfl rfl (fun _ => rfl) (fun M7 => ?_)
    refine dp_s1 hF (i := .aload_n 0) rfl (fun _ => rfl) ?_
    refine dp_s1 hF (i := .iload_n 1) rfl (fun _ => rfl) ?_
    refine dp_s1 hF (i := .iconst 1) rfl (fun _ => rfl) ?_
    refine dp_s1 hF (i := .iconst 0) rfl (fun _ => rfl) ?_
    refine dp_sv (mj := dp_m_X3_set) (i := .invokevirtual 60) rfl rfl rfl rfl (fun _ => rfl) (fun M8 => ?_)
    refine dp_s1 hF (i := .iconst 1) rfl (fun _ => rfl) ?_
    exact dp_s0 hF (i := .ireturn) rfl (fun _ => rfl)
  refine dp_s1 hF (i := .iconst (-1)) rfl (fun _ => rfl) ?_
  refine dp_s1w (dp_setI M3 97 5 (-1 : Int32)) (fun (M9 : dp_M) => (35, [some (.ref 97), some (.int v1), some (.int r2)], [], M9)) hF (i := .putfield 18) rfl (fun _ => rfl) (fun M9 => ?_)
  refine dp_s1 hF (i := .aload_n 0) rfl (fun _ => rfl) ?_
  refine dp_s1 hF (i := .iload_n 1) rfl (fun _ => rfl) ?_
  refine dp_s1 hF (i := .iconst 0) rfl (fun _ => rfl) ?_
  refine dp_s1 hF (i := .iconst 2) rfl (fun _ => rfl) ?_
  refine dp_sv (mj := dp_m_X3_set) (i := .invokevirtual 60) rfl rfl rfl rfl (fun _ => rfl) (fun M10 => ?_)
  refine dp_s1 hF (i := .aload_n 0) rfl (fun _ => rfl) ?_
  refine dp_s1 hF (i := .iload_n 1) rfl (fun _ => rfl) ?_
  refine dp_s1 hF (i := .iconst 1) rfl (fun _ => rfl) ?_
  refine dp_s1 hF (i := .iconst 0) rfl (fun _ => rfl) ?_
  refine dp_sv (mj := dp_m_X3_set) (i := .invokevirtual 60) rfl rfl rfl rfl (fun _ => rfl) (fun M11 => ?_)
  refine dp_s1 hF (i := .iconst 1) rfl (fun _ => rfl) ?_
  exact dp_s0 hF (i := .ireturn) rfl (fun _ => rfl)
noncomputable def D_X3_greatestAccount_0 (xs : Nat → Int32) (xl d : Nat) (v1 : Int32) (M : dp_M) : Option dp_Res := dp_lim true xs xl (dp_den true xs xl d) dp_m_X3_greatestAccount (0, [some (.ref 97), some (.int v1), none, none], [], M)
noncomputable def D_X3_greatestAccount_13 (xs : Nat → Int32) (xl d : Nat) (v1 : Int32) (v2 : Int32) (M : dp_M) : Option dp_Res := dp_lim true xs xl (dp_den true xs xl d) dp_m_X3_greatestAccount (13, [some (.ref 97), some (.int v1), some (.int v2), none], [], M)
noncomputable def D_X3_greatestAccount_58 (xs : Nat → Int32) (xl d : Nat) (v1 : Int32) (v2 : Int32) (v3 : Int32) (M : dp_M) : Option dp_Res := dp_lim true xs xl (dp_den true xs xl d) dp_m_X3_greatestAccount (58, [some (.ref 97), some (.int v1), some (.int v2), some (.int v3)], [], M)
theorem D_X3_greatestAccount_0_den (xs : Nat → Int32) (xl d : Nat) (a0 : Int32) (M : dp_M) : dp_den true xs xl (d + 1) 91 [.ref 97, .int a0] M = D_X3_greatestAccount_0 xs xl d a0 M := rfl
set_option maxRecDepth 20000 in
theorem D_X3_greatestAccount_0_eq (xs : Nat → Int32) (xl d : Nat) (v1 : Int32) (M : dp_M) : D_X3_greatestAccount_0 xs xl d v1 M = dp_bv (dp_den true xs xl d 592 [.ref 105, .long (0 : Int64)] M) (fun M1 => dp_w (v1 * (20 : Int32)) (fun y2 => D_X3_greatestAccount_13 xs xl d v1 y2 M1)) := by
  have hF := dp_den_grow (md := true) (xs := xs) (xl := xl) d
  unfold D_X3_greatestAccount_0
  refine dp_s1 hF (i := .aload_n 0) rfl (fun _ => rfl) ?_
  refine dp_s1 hF (i := .getfield 43) rfl (fun _ => rfl) ?_
  refine dp_s1 hF (i := .lconst 0) rfl (fun _ => rfl) ?_
  refine dp_sv (mj := dp_m_J7_fill_d0a16) (i := .invokestatic 91) rfl rfl rfl rfl (fun _ => rfl) (fun M1 => ?_)
  refine dp_s1 hF (i := .iload_n 1) rfl (fun _ => rfl) ?_
  refine dp_s1 hF (i := .bipush 20) rfl (fun _ => rfl) ?_
  refine dp_s1 hF (i := .imul) rfl (fun _ => rfl) ?_
  refine dp_s1w (v1 * (20 : Int32)) (fun (y2 : Int32) => (13, [some (.ref 97), some (.int v1), some (.int y2), none], [], M1)) hF (i := .istore_n 2) rfl (fun _ => rfl) (fun y2 => ?_)
  exact rfl
set_option maxRecDepth 20000 in
theorem D_X3_greatestAccount_13_eq (xs : Nat → Int32) (xl d : Nat) (v1 : Int32) (v2 : Int32) (M : dp_M) : D_X3_greatestAccount_13 xs xl d v1 v2 M = dp_bi (dp_den true xs xl d 81 [.ref 97, .int v1] M) (fun r2 M1 => if ((v1 * (20 : Int32)) + r2) ≤ v2 then (dp_w (0 : Int32) (fun y3 => dp_w (1 : Int32) (fun y4 => D_X3_greatestAccount_58 xs xl d v1 y3 y4 M1))) else (if v2 < 0 ∨ 16000 ≤ Int32.toNatClampNeg v2 then none else (if (dp_I M1 101 (Int32.toNatClampNeg v2)) < 0 ∨ 12 ≤ Int32.toNatClampNeg (dp_I M1 101 (Int32.toNatClampNeg v2)) then none else (if v2 < 0 ∨ 16000 ≤ Int32.toNatClampNeg v2 then none else (if (dp_I M1 101 (Int32.toNatClampNeg v2)) < 0 ∨ 12 ≤ Int32.toNatClampNeg (dp_I M1 101 (Int32.toNatClampNeg v2)) then none else dp_w (dp_setJ M1 105 (Int32.toNatClampNeg (dp_I M1 101 (Int32.toNatClampNeg v2))) ((dp_J M1 105 (Int32.toNatClampNeg (dp_I M1 101 (Int32.toNatClampNeg v2)))) + (Int32.toInt64 (dp_I M1 102 (Int32.toNatClampNeg v2))))) (fun M5 => dp_w (v2 + (1 : Int32)) (fun y6 => D_X3_greatestAccount_13 xs xl d v1 y6 M5))))))) := by
  have hF := dp_den_grow (md := true) (xs := xs) (xl := xl) d
  unfold D_X3_greatestAccount_13
  refine dp_s1 hF (i := .iload_n 2) rfl (fun _ => rfl) ?_
  refine dp_s1 hF (i := .iload_n 1) rfl (fun _ => rfl) ?_
  refine dp_s1 hF (i := .bipush 20) rfl (fun _ => rfl) ?_
  refine dp_s1 hF (i := .imul) rfl (fun _ => rfl) ?_
  refine dp_s1 hF (i := .aload_n 0) rfl (fun _ => rfl) ?_
  refine dp_s1 hF (i := .iload_n 1) rfl (fun _ => rfl) ?_
  refine dp_si (mj := dp_m_X3_entriesOf) (i := .invokevirtual 64) rfl rfl (Or.inl rfl) rfl (fun _ => rfl) (fun r2 M1 => ?_)
  refine dp_s1 hF (i := .iadd) rfl (fun _ => rfl) ?_
  refine dp_s2 hF (i := .if_icmp .ge 30) (a := (54, [some (.ref 97), some (.int v1), some (.int v2), none], [], M1)) (b := (27, [some (.ref 97), some (.int v1), some (.int v2), none], [], M1)) rfl (fun _ => rfl) ?_ ?_
  · refine dp_s1 hF (i := .iconst 0) rfl (fun _ => rfl) ?_
    refine dp_s1w (0 : Int32) (fun (y3 : Int32) => (56, [some (.ref 97), some (.int v1), some (.int y3), none], [], M1)) hF (i := .istore_n 2) rfl (fun _ => rfl) (fun y3 => ?_)
    refine dp_s1 hF (i := .iconst 1) rfl (fun _ => rfl) ?_
    refine dp_s1w (1 : Int32) (fun (y4 : Int32) => (58, [some (.ref 97), some (.int v1), some (.int y3), some (.int y4)], [], M1)) hF (i := .istore_n 3) rfl (fun _ => rfl) (fun y4 => ?_)
    exact rfl
  refine dp_s1 hF (i := .aload_n 0) rfl (fun _ => rfl) ?_
  refine dp_s1 hF (i := .getfield 43) rfl (fun _ => rfl) ?_
  refine dp_s1 hF (i := .aload_n 0) rfl (fun _ => rfl) ?_
  refine dp_s1 hF (i := .getfield 31) rfl (fun _ => rfl) ?_
  refine dp_s1 hF (i := .iload_n 2) rfl (fun _ => rfl) ?_
  refine dp_s3 hF (i := .iaload) rfl (fun _ => rfl) ?_
  refine dp_s1 hF (i := .dup2) rfl (fun _ => rfl) ?_
  refine dp_s3 hF (i := .laload) rfl (fun _ => rfl) ?_
  refine dp_s1 hF (i := .aload_n 0) rfl (fun _ => rfl) ?_
  refine dp_s1 hF (i := .getfield 34) rfl (fun _ => rfl) ?_
  refine dp_s1 hF (i := .iload_n 2) rfl (fun _ => rfl) ?_
  refine dp_s3 hF (i := .iaload) rfl (fun _ => rfl) ?_
  refine dp_s1 hF (i := .i2l) rfl (fun _ => rfl) ?_
  refine dp_s1 hF (i := .ladd) rfl (fun _ => rfl) ?_
  refine dp_s3w (dp_setJ M1 105 (Int32.toNatClampNeg (dp_I M1 101 (Int32.toNatClampNeg v2))) ((dp_J M1 105 (Int32.toNatClampNeg (dp_I M1 101 (Int32.toNatClampNeg v2)))) + (Int32.toInt64 (dp_I M1 102 (Int32.toNatClampNeg v2))))) (fun (M5 : dp_M) => (48, [some (.ref 97), some (.int v1), some (.int v2), none], [], M5)) hF (i := .lastore) rfl (fun _ => rfl) (fun M5 => ?_)
  refine dp_s1w (v2 + (1 : Int32)) (fun (y6 : Int32) => (51, [some (.ref 97), some (.int v1), some (.int y6), none], [], M5)) hF (i := .iinc 2 1) rfl (fun _ => rfl) (fun y6 => ?_)
  refine dp_s1 hF (i := .goto (-38)) rfl (fun _ => rfl) ?_
  exact rfl
set_option maxRecDepth 20000 in
theorem D_X3_greatestAccount_58_eq (xs : Nat → Int32) (xl d : Nat) (v1 : Int32) (v2 : Int32) (v3 : Int32) (M : dp_M) : D_X3_greatestAccount_58 xs xl d v1 v2 v3 M = if (12 : Int32) ≤ v3 then (some (.inl (some (.int v2)), M)) else (if v3 < 0 ∨ 12 ≤ Int32.toNatClampNeg v3 then none else (if v2 < 0 ∨ 12 ≤ Int32.toNatClampNeg v2 then none else (if (lg_cmp (if 0 < (dp_J M 105 (Int32.toNatClampNeg v3)) then (dp_J M 105 (Int32.toNatClampNeg v3)) else -(dp_J M 105 (Int32.toNatClampNeg v3))) (if 0 < (dp_J M 105 (Int32.toNatClampNeg v2)) then (dp_J M 105 (Int32.toNatClampNeg v2)) else -(dp_J M 105 (Int32.toNatClampNeg v2)))) ≤ 0 then (dp_w (v3 + (1 : Int32)) (fun y1 => D_X3_greatestAccount_58 xs xl d v1 v2 y1 M)) else (dp_w (v3 + (1 : Int32)) (fun y2 => D_X3_greatestAccount_58 xs xl d v1 v3 y2 M))))) := by
  have hF := dp_den_grow (md := true) (xs := xs) (xl := xl) d
  unfold D_X3_greatestAccount_58
  refine dp_s1 hF (i := .iload_n 3) rfl (fun _ => rfl) ?_
  refine dp_s1 hF (i := .bipush 12) rfl (fun _ => rfl) ?_
  refine dp_s2 hF (i := .if_icmp .ge 33) (a := (94, [some (.ref 97), some (.int v1), some (.int v2), some (.int v3)], [], M)) (b := (64, [some (.ref 97), some (.int v1), some (.int v2), some (.int v3)], [], M)) rfl (fun _ => rfl) ?_ ?_
  · refine dp_s1 hF (i := .iload_n 2) rfl (fun _ => rfl) ?_
    exact dp_s0 hF (i := .ireturn) rfl (fun _ => rfl)
  refine dp_s1 hF (i := .aload_n 0) rfl (fun _ => rfl) ?_
  refine dp_s1 hF (i := .getfield 43) rfl (fun _ => rfl) ?_
  refine dp_s1 hF (i := .iload_n 3) rfl (fun _ => rfl) ?_
  refine dp_s3 hF (i := .laload) rfl (fun _ => rfl) ?_
  refine dp_s1 hF (i := .invokestatic 97) rfl (fun _ => rfl) ?_
  refine dp_s1 hF (i := .aload_n 0) rfl (fun _ => rfl) ?_
  refine dp_s1 hF (i := .getfield 43) rfl (fun _ => rfl) ?_
  refine dp_s1 hF (i := .iload_n 2) rfl (fun _ => rfl) ?_
  refine dp_s3 hF (i := .laload) rfl (fun _ => rfl) ?_
  refine dp_s1 hF (i := .invokestatic 97) rfl (fun _ => rfl) ?_
  refine dp_s1 hF (i := .lcmp) rfl (fun _ => rfl) ?_
  refine dp_s2 hF (i := .ifCond .le 5) (a := (88, [some (.ref 97), some (.int v1), some (.int v2), some (.int v3)], [], M)) (b := (86, [some (.ref 97), some (.int v1), some (.int v2), some (.int v3)], [], M)) rfl (fun _ => rfl) ?_ ?_
  · refine dp_s1w (v3 + (1 : Int32)) (fun (y1 : Int32) => (91, [some (.ref 97), some (.int v1), some (.int v2), some (.int y1)], [], M)) hF (i := .iinc 3 1) rfl (fun _ => rfl) (fun y1 => ?_)
    refine dp_s1 hF (i := .goto (-33)) rfl (fun _ => rfl) ?_
    exact rfl
  refine dp_s1 hF (i := .iload_n 3) rfl (fun _ => rfl) ?_
  refine dp_s1 hF (i := .istore_n 2) rfl (fun _ => rfl) ?_
  refine dp_s1w (v3 + (1 : Int32)) (fun (y2 : Int32) => (91, [some (.ref 97), some (.int v1), some (.int v3), some (.int y2)], [], M)) hF (i := .iinc 3 1) rfl (fun _ => rfl) (fun y2 => ?_)
  refine dp_s1 hF (i := .goto (-33)) rfl (fun _ => rfl) ?_
  exact rfl
noncomputable def D_X3_failIfTold_0 (xs : Nat → Int32) (xl d : Nat) (v1 : Int32) (M : dp_M) : Option dp_Res := dp_lim true xs xl (dp_den true xs xl d) dp_m_X3_failIfTold (0, [some (.ref 97), some (.int v1)], [], M)
theorem D_X3_failIfTold_0_den (xs : Nat → Int32) (xl d : Nat) (a0 : Int32) (M : dp_M) : dp_den true xs xl (d + 1) 92 [.ref 97, .int a0] M = D_X3_failIfTold_0 xs xl d a0 M := rfl
set_option maxRecDepth 20000 in
theorem D_X3_failIfTold_0_eq (xs : Nat → Int32) (xl d : Nat) (v1 : Int32) (M : dp_M) : D_X3_failIfTold_0 xs xl d v1 M = dp_bi (dp_den true xs xl d 78 [.ref 97, .int v1, .int (4 : Int32)] M) (fun r2 M1 => if r2 = 0 then (some (.inl (some (.int (0 : Int32))), M1)) else (dp_bv (dp_den true xs xl d 79 [.ref 97, .int v1, .int (4 : Int32), .int (0 : Int32)] M1) (fun M3 => dp_w (dp_setI M3 97 6 ((dp_I M3 97 6) + (1 : Int32))) (fun M4 => some (.inl (some (.int (1 : Int32))), M4))))) := by
  have hF := dp_den_grow (md := true) (xs := xs) (xl := xl) d
  unfold D_X3_failIfTold_0
  refine dp_s1 hF (i := .aload_n 0) rfl (fun _ => rfl) ?_
  refine dp_s1 hF (i := .iload_n 1) rfl (fun _ => rfl) ?_
  refine dp_s1 hF (i := .iconst 4) rfl (fun _ => rfl) ?_
  refine dp_si (mj := dp_m_X3_fact) (i := .invokevirtual 53) rfl rfl (Or.inl rfl) rfl (fun _ => rfl) (fun r2 M1 => ?_)
  refine dp_s2 hF (i := .ifCond .ne 5) (a := (9, [some (.ref 97), some (.int v1)], [], M1)) (b := (11, [some (.ref 97), some (.int v1)], [], M1)) rfl (fun _ => rfl) ?_ ?_
  · refine dp_s1 hF (i := .iconst 0) rfl (fun _ => rfl) ?_
    exact dp_s0 hF (i := .ireturn) rfl (fun _ => rfl)
  refine dp_s1 hF (i := .aload_n 0) rfl (fun _ => rfl) ?_
  refine dp_s1 hF (i := .iload_n 1) rfl (fun _ => rfl) ?_
  refine dp_s1 hF (i := .iconst 4) rfl (fun _ => rfl) ?_
  refine dp_s1 hF (i := .iconst 0) rfl (fun _ => rfl) ?_
  refine dp_sv (mj := dp_m_X3_set) (i := .invokevirtual 60) rfl rfl rfl rfl (fun _ => rfl) (fun M3 => ?_)
  refine dp_s1 hF (i := .aload_n 0) rfl (fun _ => rfl) ?_
  refine dp_s1 hF (i := .dup) rfl (fun _ => rfl) ?_
  refine dp_s1 hF (i := .getfield 103) rfl (fun _ => rfl) ?_
  refine dp_s1 hF (i := .iconst 1) rfl (fun _ => rfl) ?_
  refine dp_s1 hF (i := .iadd) rfl (fun _ => rfl) ?_
  refine dp_s1w (dp_setI M3 97 6 ((dp_I M3 97 6) + (1 : Int32))) (fun (M4 : dp_M) => (28, [some (.ref 97), some (.int v1)], [], M4)) hF (i := .putfield 103) rfl (fun _ => rfl) (fun M4 => ?_)
  refine dp_s1 hF (i := .iconst 1) rfl (fun _ => rfl) ?_
  exact dp_s0 hF (i := .ireturn) rfl (fun _ => rfl)
noncomputable def D_X3_enter_0 (xs : Nat → Int32) (xl d : Nat) (v1 : Int32) (M : dp_M) : Option dp_Res := dp_lim true xs xl (dp_den true xs xl d) dp_m_X3_enter (0, [some (.ref 97), some (.int v1), none], [], M)
noncomputable def D_X3_enter_2 (xs : Nat → Int32) (xl d : Nat) (v1 : Int32) (v2 : Int32) (M : dp_M) : Option dp_Res := dp_lim true xs xl (dp_den true xs xl d) dp_m_X3_enter (2, [some (.ref 97), some (.int v1), some (.int v2)], [], M)
theorem D_X3_enter_0_den (xs : Nat → Int32) (xl d : Nat) (a0 : Int32) (M : dp_M) : dp_den true xs xl (d + 1) 93 [.ref 97, .int a0] M = D_X3_enter_0 xs xl d a0 M := rfl
set_option maxRecDepth 20000 in
theorem D_X3_enter_0_eq (xs : Nat → Int32) (xl d : Nat) (v1 : Int32) (M : dp_M) : D_X3_enter_0 xs xl d v1 M = dp_w (0 : Int32) (fun y1 => D_X3_enter_2 xs xl d v1 y1 M) := by
  have hF := dp_den_grow (md := true) (xs := xs) (xl := xl) d
  unfold D_X3_enter_0
  refine dp_s1 hF (i := .iconst 0) rfl (fun _ => rfl) ?_
  refine dp_s1w (0 : Int32) (fun (y1 : Int32) => (2, [some (.ref 97), some (.int v1), some (.int y1)], [], M)) hF (i := .istore_n 2) rfl (fun _ => rfl) (fun y1 => ?_)
  exact rfl
set_option maxRecDepth 20000 in
theorem D_X3_enter_2_eq (xs : Nat → Int32) (xl d : Nat) (v1 : Int32) (v2 : Int32) (M : dp_M) : D_X3_enter_2 xs xl d v1 v2 M = dp_bi (dp_den true xs xl d 81 [.ref 97, .int v1] M) (fun r2 M1 => if r2 ≤ v2 then (dp_bv (dp_den true xs xl d 79 [.ref 97, .int v1, .int (0 : Int32), .int (1 : Int32)] M1) (fun M3 => dp_bi (dp_den true xs xl d 78 [.ref 97, .int v1, .int (6 : Int32)] M3) (fun r5 M4 => dp_w (dp_setI M4 97 3 r5) (fun M6 => some (.inl none, M6))))) else (if (4000 : Int32) ≤ (dp_I M1 97 1) then (dp_bv (dp_den true xs xl d 79 [.ref 97, .int v1, .int (0 : Int32), .int (1 : Int32)] M1) (fun M7 => dp_bi (dp_den true xs xl d 78 [.ref 97, .int v1, .int (6 : Int32)] M7) (fun r9 M8 => dp_w (dp_setI M8 97 3 r9) (fun M10 => some (.inl none, M10))))) else (if (dp_I M1 97 1) < 0 ∨ 4000 ≤ Int32.toNatClampNeg (dp_I M1 97 1) then none else dp_w (dp_setI M1 103 (Int32.toNatClampNeg (dp_I M1 97 1)) v1) (fun M11 => if (dp_I M11 97 1) < 0 ∨ 4000 ≤ Int32.toNatClampNeg (dp_I M11 97 1) then none else dp_w (dp_setI M11 104 (Int32.toNatClampNeg (dp_I M11 97 1)) ((v1 * (20 : Int32)) + v2)) (fun M12 => dp_w (dp_setI M12 97 1 ((dp_I M12 97 1) + (1 : Int32))) (fun M13 => dp_w (v2 + (1 : Int32)) (fun y14 => D_X3_enter_2 xs xl d v1 y14 M13))))))) := by
  have hF := dp_den_grow (md := true) (xs := xs) (xl := xl) d
  unfold D_X3_enter_2
  refine dp_s1 hF (i := .iload_n 2) rfl (fun _ => rfl) ?_
  refine dp_s1 hF (i := .aload_n 0) rfl (fun _ => rfl) ?_
  refine dp_s1 hF (i := .iload_n 1) rfl (fun _ => rfl) ?_
  refine dp_si (mj := dp_m_X3_entriesOf) (i := .invokevirtual 64) rfl rfl (Or.inl rfl) rfl (fun _ => rfl) (fun r2 M1 => ?_)
  refine dp_s2 hF (i := .if_icmp .ge 54) (a := (62, [some (.ref 97), some (.int v1), some (.int v2)], [], M1)) (b := (11, [some (.ref 97), some (.int v1), some (.int v2)], [], M1)) rfl (fun _ => rfl) ?_ ?_
  · refine dp_s1 hF (i := .aload_n 0) rfl (fun _ => rfl) ?_
    refine dp_s1 hF (i := .iload_n 1) rfl (fun _ => rfl) ?_
    refine dp_s1 hF (i := .iconst 0) rfl (fun _ => rfl) ?_
    refine dp_s1 hF (i := .iconst 1) rfl (fun _ => rfl) ?_
    refine dp_sv (mj := dp_m_X3_set) (i := .invokevirtual 60) rfl rfl rfl rfl (fun _ => rfl) (fun M3 => ?_)
    refine dp_s1 hF (i := .aload_n 0) rfl (fun _ => rfl) ?_
    refine dp_s1 hF (i := .aload_n 0) rfl (fun _ => rfl) ?_
    refine dp_s1 hF (i := .iload_n 1) rfl (fun _ => rfl) ?_
    refine dp_s1 hF (i := .bipush 6) rfl (fun _ => rfl) ?_
    refine dp_si (mj := dp_m_X3_fact) (i := .invokevirtual 53) rfl rfl (Or.inl rfl) rfl (fun _ => rfl) (fun r5 M4 => ?_)
    refine dp_s1w (dp_setI M4 97 3 r5) (fun (M6 : dp_M) => (80, [some (.ref 97), some (.int v1), some (.int v2)], [], M6)) hF (i := .putfield 15) rfl (fun _ => rfl) (fun M6 => ?_)
    exact dp_s0 hF (i := .return_) rfl (fun _ => rfl)
  refine dp_s1 hF (i := .aload_n 0) rfl (fun _ => rfl) ?_
  refine dp_s1 hF (i := .getfield 68) rfl (fun _ => rfl) ?_
  refine dp_s1 hF (i := .sipush 4000) rfl (fun _ => rfl) ?_
  refine dp_s2 hF (i := .if_icmp .ge 44) (a := (62, [some (.ref 97), some (.int v1), some (.int v2)], [], M1)) (b := (21, [some (.ref 97), some (.int v1), some (.int v2)], [], M1)) rfl (fun _ => rfl) ?_ ?_
  · refine dp_s1 hF (i := .aload_n 0) rfl (fun _ => rfl) ?_
    refine dp_s1 hF (i := .iload_n 1) rfl (fun _ => rfl) ?_
    refine dp_s1 hF (i := .iconst 0) rfl (fun _ => rfl) ?_
    refine dp_s1 hF (i := .iconst 1) rfl (fun _ => rfl) ?_
    refine dp_sv (mj := dp_m_X3_set) (i := .invokevirtual 60) rfl rfl rfl rfl (fun _ => rfl) (fun M7 => ?_)
    refine dp_s1 hF (i := .aload_n 0) rfl (fun _ => rfl) ?_
    refine dp_s1 hF (i := .aload_n 0) rfl (fun _ => rfl) ?_
    refine dp_s1 hF (i := .iload_n 1) rfl (fun _ => rfl) ?_
    refine dp_s1 hF (i := .bipush 6) rfl (fun _ => rfl) ?_
    refine dp_si (mj := dp_m_X3_fact) (i := .invokevirtual 53) rfl rfl (Or.inl rfl) rfl (fun _ => rfl) (fun r9 M8 => ?_)
    refine dp_s1w (dp_setI M8 97 3 r9) (fun (M10 : dp_M) => (80, [some (.ref 97), some (.int v1), some (.int v2)], [], M10)) hF (i := .putfield 15) rfl (fun _ => rfl) (fun M10 => ?_)
    exact dp_s0 hF (i := .return_) rfl (fun _ => rfl)
  refine dp_s1 hF (i := .aload_n 0) rfl (fun _ => rfl) ?_
  refine dp_s1 hF (i := .getfield 37) rfl (fun _ => rfl) ?_
  refine dp_s1 hF (i := .aload_n 0) rfl (fun _ => rfl) ?_
  refine dp_s1 hF (i := .getfield 68) rfl (fun _ => rfl) ?_
  refine dp_s1 hF (i := .iload_n 1) rfl (fun _ => rfl) ?_
  refine dp_s3w (dp_setI M1 103 (Int32.toNatClampNeg (dp_I M1 97 1)) v1) (fun (M11 : dp_M) => (31, [some (.ref 97), some (.int v1), some (.int v2)], [], M11)) hF (i := .iastore) rfl (fun _ => rfl) (fun M11 => ?_)
  refine dp_s1 hF (i := .aload_n 0) rfl (fun _ => rfl) ?_
  refine dp_s1 hF (i := .getfield 40) rfl (fun _ => rfl) ?_
  refine dp_s1 hF (i := .aload_n 0) rfl (fun _ => rfl) ?_
  refine dp_s1 hF (i := .getfield 68) rfl (fun _ => rfl) ?_
  refine dp_s1 hF (i := .iload_n 1) rfl (fun _ => rfl) ?_
  refine dp_s1 hF (i := .bipush 20) rfl (fun _ => rfl) ?_
  refine dp_s1 hF (i := .imul) rfl (fun _ => rfl) ?_
  refine dp_s1 hF (i := .iload_n 2) rfl (fun _ => rfl) ?_
  refine dp_s1 hF (i := .iadd) rfl (fun _ => rfl) ?_
  refine dp_s3w (dp_setI M11 104 (Int32.toNatClampNeg (dp_I M11 97 1)) ((v1 * (20 : Int32)) + v2)) (fun (M12 : dp_M) => (46, [some (.ref 97), some (.int v1), some (.int v2)], [], M12)) hF (i := .iastore) rfl (fun _ => rfl) (fun M12 => ?_)
  refine dp_s1 hF (i := .aload_n 0) rfl (fun _ => rfl) ?_
  refine dp_s1 hF (i := .dup) rfl (fun _ => rfl) ?_
  refine dp_s1 hF (i := .getfield 68) rfl (fun _ => rfl) ?_
  refine dp_s1 hF (i := .iconst 1) rfl (fun _ => rfl) ?_
  refine dp_s1 hF (i := .iadd) rfl (fun _ => rfl) ?_
  refine dp_s1w (dp_setI M12 97 1 ((dp_I M12 97 1) + (1 : Int32))) (fun (M13 : dp_M) => (56, [some (.ref 97), some (.int v1), some (.int v2)], [], M13)) hF (i := .putfield 68) rfl (fun _ => rfl) (fun M13 => ?_)
  refine dp_s1w (v2 + (1 : Int32)) (fun (y14 : Int32) => (59, [some (.ref 97), some (.int v1), some (.int y14)], [], M13)) hF (i := .iinc 2 1) rfl (fun _ => rfl) (fun y14 => ?_)
  refine dp_s1 hF (i := .goto (-57)) rfl (fun _ => rfl) ?_
  exact rfl
noncomputable def D_X3_mayBeReversed_0 (xs : Nat → Int32) (xl d : Nat) (v1 : Int32) (M : dp_M) : Option dp_Res := dp_lim true xs xl (dp_den true xs xl d) dp_m_X3_mayBeReversed (0, [some (.ref 97), some (.int v1)], [], M)
theorem D_X3_mayBeReversed_0_den (xs : Nat → Int32) (xl d : Nat) (a0 : Int32) (M : dp_M) : dp_den true xs xl (d + 1) 94 [.ref 97, .int a0] M = D_X3_mayBeReversed_0 xs xl d a0 M := rfl
set_option maxRecDepth 20000 in
theorem D_X3_mayBeReversed_0_eq (xs : Nat → Int32) (xl d : Nat) (v1 : Int32) (M : dp_M) : D_X3_mayBeReversed_0 xs xl d v1 M = dp_bi (dp_den true xs xl d 78 [.ref 97, .int v1, .int (2 : Int32)] M) (fun r2 M1 => if r2 = (-1 : Int32) then (dp_bi (dp_den true xs xl d 78 [.ref 97, .int v1, .int (3 : Int32)] M1) (fun r4 M3 => if r4 = (-1 : Int32) then (some (.inl (some (.int (1 : Int32))), M3)) else (some (.inl (some (.int (0 : Int32))), M3)))) else (some (.inl (some (.int (0 : Int32))), M1))) := by
  have hF := dp_den_grow (md := true) (xs := xs) (xl := xl) d
  unfold D_X3_mayBeReversed_0
  refine dp_s1 hF (i := .aload_n 0) rfl (fun _ => rfl) ?_
  refine dp_s1 hF (i := .iload_n 1) rfl (fun _ => rfl) ?_
  refine dp_s1 hF (i := .iconst 2) rfl (fun _ => rfl) ?_
  refine dp_si (mj := dp_m_X3_fact) (i := .invokevirtual 53) rfl rfl (Or.inl rfl) rfl (fun _ => rfl) (fun r2 M1 => ?_)
  refine dp_s1 hF (i := .iconst (-1)) rfl (fun _ => rfl) ?_
  refine dp_s2 hF (i := .if_icmp .ne 17) (a := (10, [some (.ref 97), some (.int v1)], [], M1)) (b := (24, [some (.ref 97), some (.int v1)], [], M1)) rfl (fun _ => rfl) ?_ ?_
  · refine dp_s1 hF (i := .aload_n 0) rfl (fun _ => rfl) ?_
    refine dp_s1 hF (i := .iload_n 1) rfl (fun _ => rfl) ?_
    refine dp_s1 hF (i := .iconst 3) rfl (fun _ => rfl) ?_
    refine dp_si (mj := dp_m_X3_fact) (i := .invokevirtual 53) rfl rfl (Or.inl rfl) rfl (fun _ => rfl) (fun r4 M3 => ?_)
    refine dp_s1 hF (i := .iconst (-1)) rfl (fun _ => rfl) ?_
    refine dp_s2 hF (i := .if_icmp .ne 7) (a := (20, [some (.ref 97), some (.int v1)], [], M3)) (b := (24, [some (.ref 97), some (.int v1)], [], M3)) rfl (fun _ => rfl) ?_ ?_
    · refine dp_s1 hF (i := .iconst 1) rfl (fun _ => rfl) ?_
      refine dp_s1 hF (i := .goto 4) rfl (fun _ => rfl) ?_
      exact dp_s0 hF (i := .ireturn) rfl (fun _ => rfl)
    refine dp_s1 hF (i := .iconst 0) rfl (fun _ => rfl) ?_
    exact dp_s0 hF (i := .ireturn) rfl (fun _ => rfl)
  refine dp_s1 hF (i := .iconst 0) rfl (fun _ => rfl) ?_
  exact dp_s0 hF (i := .ireturn) rfl (fun _ => rfl)
noncomputable def D_X3_turn_0 (xs : Nat → Int32) (xl d : Nat) (v1 : Int32) (v2 : Int32) (M : dp_M) : Option dp_Res := dp_lim true xs xl (dp_den true xs xl d) dp_m_X3_turn (0, [some (.ref 97), some (.int v1), some (.int v2), none, none], [], M)
noncomputable def D_X3_turn_18 (xs : Nat → Int32) (xl d : Nat) (v1 : Int32) (v2 : Int32) (v3 : Int32) (v4 : Int32) (M : dp_M) : Option dp_Res := dp_lim true xs xl (dp_den true xs xl d) dp_m_X3_turn (18, [some (.ref 97), some (.int v1), some (.int v2), some (.int v3), some (.int v4)], [], M)
theorem D_X3_turn_0_den (xs : Nat → Int32) (xl d : Nat) (a0 : Int32) (a1 : Int32) (M : dp_M) : dp_den true xs xl (d + 1) 95 [.ref 97, .int a0, .int a1] M = D_X3_turn_0 xs xl d a0 a1 M := rfl
set_option maxRecDepth 20000 in
theorem D_X3_turn_0_eq (xs : Nat → Int32) (xl d : Nat) (v1 : Int32) (v2 : Int32) (M : dp_M) : D_X3_turn_0 xs xl d v1 v2 M = dp_bi (dp_den true xs xl d 78 [.ref 97, .int v1, .int (5 : Int32)] M) (fun r2 M1 => dp_bi (dp_den true xs xl d 82 [.ref 97, .int r2, .int v2] M1) (fun r4 M3 => dp_w (v1 * (20 : Int32)) (fun y5 => D_X3_turn_18 xs xl d v1 v2 r4 y5 M3))) := by
  have hF := dp_den_grow (md := true) (xs := xs) (xl := xl) d
  unfold D_X3_turn_0
  refine dp_s1 hF (i := .aload_n 0) rfl (fun _ => rfl) ?_
  refine dp_s1 hF (i := .aload_n 0) rfl (fun _ => rfl) ?_
  refine dp_s1 hF (i := .iload_n 1) rfl (fun _ => rfl) ?_
  refine dp_s1 hF (i := .iconst 5) rfl (fun _ => rfl) ?_
  refine dp_si (mj := dp_m_X3_fact) (i := .invokevirtual 53) rfl rfl (Or.inl rfl) rfl (fun _ => rfl) (fun r2 M1 => ?_)
  refine dp_s1 hF (i := .iload_n 2) rfl (fun _ => rfl) ?_
  refine dp_si (mj := dp_m_X3_begin) (i := .invokevirtual 106) rfl rfl (Or.inl rfl) rfl (fun _ => rfl) (fun r4 M3 => ?_)
  refine dp_s1 hF (i := .istore_n 3) rfl (fun _ => rfl) ?_
  refine dp_s1 hF (i := .iload_n 1) rfl (fun _ => rfl) ?_
  refine dp_s1 hF (i := .bipush 20) rfl (fun _ => rfl) ?_
  refine dp_s1 hF (i := .imul) rfl (fun _ => rfl) ?_
  refine dp_s1w (v1 * (20 : Int32)) (fun (y5 : Int32) => (18, [some (.ref 97), some (.int v1), some (.int v2), some (.int r4), some (.int y5)], [], M3)) hF (i := .istore 4) rfl (fun _ => rfl) (fun y5 => ?_)
  exact rfl
set_option maxRecDepth 20000 in
theorem D_X3_turn_18_eq (xs : Nat → Int32) (xl d : Nat) (v1 : Int32) (v2 : Int32) (v3 : Int32) (v4 : Int32) (M : dp_M) : D_X3_turn_18 xs xl d v1 v2 v3 v4 M = dp_bi (dp_den true xs xl d 81 [.ref 97, .int v1] M) (fun r2 M1 => if ((v1 * (20 : Int32)) + r2) ≤ v4 then (dp_bv (dp_den true xs xl d 79 [.ref 97, .int v3, .int (2 : Int32), .int v1] M1) (fun M3 => dp_bv (dp_den true xs xl d 79 [.ref 97, .int v1, .int (3 : Int32), .int v3] M3) (fun M4 => dp_bv (dp_den true xs xl d 93 [.ref 97, .int v3] M4) (fun M5 => some (.inl (some (.int v3)), M5))))) else (if v4 < 0 ∨ 16000 ≤ Int32.toNatClampNeg v4 then none else (if v4 < 0 ∨ 16000 ≤ Int32.toNatClampNeg v4 then none else (dp_bi (dp_den true xs xl d 83 [.ref 97, .int v3, .int (dp_I M1 101 (Int32.toNatClampNeg v4)), .long (Int32.toInt64 (-(dp_I M1 102 (Int32.toNatClampNeg v4))))] M1) (fun r7 M6 => dp_w (v4 + (1 : Int32)) (fun y8 => D_X3_turn_18 xs xl d v1 v2 v3 y8 M6)))))) := by
  have hF := dp_den_grow (md := true) (xs := xs) (xl := xl) d
  unfold D_X3_turn_18
  refine dp_s1 hF (i := .iload 4) rfl (fun _ => rfl) ?_
  refine dp_s1 hF (i := .iload_n 1) rfl (fun _ => rfl) ?_
  refine dp_s1 hF (i := .bipush 20) rfl (fun _ => rfl) ?_
  refine dp_s1 hF (i := .imul) rfl (fun _ => rfl) ?_
  refine dp_s1 hF (i := .aload_n 0) rfl (fun _ => rfl) ?_
  refine dp_s1 hF (i := .iload_n 1) rfl (fun _ => rfl) ?_
  refine dp_si (mj := dp_m_X3_entriesOf) (i := .invokevirtual 64) rfl rfl (Or.inl rfl) rfl (fun _ => rfl) (fun r2 M1 => ?_)
  refine dp_s1 hF (i := .iadd) rfl (fun _ => rfl) ?_
  refine dp_s2 hF (i := .if_icmp .ge 31) (a := (61, [some (.ref 97), some (.int v1), some (.int v2), some (.int v3), some (.int v4)], [], M1)) (b := (33, [some (.ref 97), some (.int v1), some (.int v2), some (.int v3), some (.int v4)], [], M1)) rfl (fun _ => rfl) ?_ ?_
  · refine dp_s1 hF (i := .aload_n 0) rfl (fun _ => rfl) ?_
    refine dp_s1 hF (i := .iload_n 3) rfl (fun _ => rfl) ?_
    refine dp_s1 hF (i := .iconst 2) rfl (fun _ => rfl) ?_
    refine dp_s1 hF (i := .iload_n 1) rfl (fun _ => rfl) ?_
    refine dp_sv (mj := dp_m_X3_set) (i := .invokevirtual 60) rfl rfl rfl rfl (fun _ => rfl) (fun M3 => ?_)
    refine dp_s1 hF (i := .aload_n 0) rfl (fun _ => rfl) ?_
    refine dp_s1 hF (i := .iload_n 1) rfl (fun _ => rfl) ?_
    refine dp_s1 hF (i := .iconst 3) rfl (fun _ => rfl) ?_
    refine dp_s1 hF (i := .iload_n 3) rfl (fun _ => rfl) ?_
    refine dp_sv (mj := dp_m_X3_set) (i := .invokevirtual 60) rfl rfl rfl rfl (fun _ => rfl) (fun M4 => ?_)
    refine dp_s1 hF (i := .aload_n 0) rfl (fun _ => rfl) ?_
    refine dp_s1 hF (i := .iload_n 3) rfl (fun _ => rfl) ?_
    refine dp_sv (mj := dp_m_X3_enter) (i := .invokevirtual 113) rfl rfl rfl rfl (fun _ => rfl) (fun M5 => ?_)
    refine dp_s1 hF (i := .iload_n 3) rfl (fun _ => rfl) ?_
    exact dp_s0 hF (i := .ireturn) rfl (fun _ => rfl)
  refine dp_s1 hF (i := .aload_n 0) rfl (fun _ => rfl) ?_
  refine dp_s1 hF (i := .iload_n 3) rfl (fun _ => rfl) ?_
  refine dp_s1 hF (i := .aload_n 0) rfl (fun _ => rfl) ?_
  refine dp_s1 hF (i := .getfield 31) rfl (fun _ => rfl) ?_
  refine dp_s1 hF (i := .iload 4) rfl (fun _ => rfl) ?_
  refine dp_s3 hF (i := .iaload) rfl (fun _ => rfl) ?_
  refine dp_s1 hF (i := .aload_n 0) rfl (fun _ => rfl) ?_
  refine dp_s1 hF (i := .getfield 34) rfl (fun _ => rfl) ?_
  refine dp_s1 hF (i := .iload 4) rfl (fun _ => rfl) ?_
  refine dp_s3 hF (i := .iaload) rfl (fun _ => rfl) ?_
  refine dp_s1 hF (i := .ineg) rfl (fun _ => rfl) ?_
  refine dp_s1 hF (i := .i2l) rfl (fun _ => rfl) ?_
  refine dp_si (mj := dp_m_X3_addEntry) (i := .invokevirtual 109) rfl rfl (Or.inr rfl) rfl (fun _ => rfl) (fun r7 M6 => ?_)
  refine dp_s1 hF (i := .pop) rfl (fun _ => rfl) ?_
  refine dp_s1w (v4 + (1 : Int32)) (fun (y8 : Int32) => (58, [some (.ref 97), some (.int v1), some (.int v2), some (.int v3), some (.int y8)], [], M6)) hF (i := .iinc 4 1) rfl (fun _ => rfl) (fun y8 => ?_)
  refine dp_s1 hF (i := .goto (-40)) rfl (fun _ => rfl) ?_
  exact rfl
noncomputable def D_X3_factOfEntry_0 (xs : Nat → Int32) (xl d : Nat) (v1 : Int32) (v2 : Int32) (M : dp_M) : Option dp_Res := dp_lim true xs xl (dp_den true xs xl d) dp_m_X3_factOfEntry (0, [some (.ref 97), some (.int v1), some (.int v2)], [], M)
theorem D_X3_factOfEntry_0_den (xs : Nat → Int32) (xl d : Nat) (a0 : Int32) (a1 : Int32) (M : dp_M) : dp_den true xs xl (d + 1) 96 [.ref 97, .int a0, .int a1] M = D_X3_factOfEntry_0 xs xl d a0 a1 M := rfl
set_option maxRecDepth 20000 in
theorem D_X3_factOfEntry_0_eq (xs : Nat → Int32) (xl d : Nat) (v1 : Int32) (v2 : Int32) (M : dp_M) : D_X3_factOfEntry_0 xs xl d v1 v2 M = if v2 = (0 : Int32) then (if v1 < 0 ∨ 4000 ≤ Int32.toNatClampNeg v1 then none else (some (.inl (some (.long (Int32.toInt64 (dp_I M 103 (Int32.toNatClampNeg v1))))), M))) else if v2 = (1 : Int32) then (if v1 < 0 ∨ 4000 ≤ Int32.toNatClampNeg v1 then none else (if (dp_I M 104 (Int32.toNatClampNeg v1)) < 0 ∨ 16000 ≤ Int32.toNatClampNeg (dp_I M 104 (Int32.toNatClampNeg v1)) then none else (some (.inl (some (.long (Int32.toInt64 (dp_I M 101 (Int32.toNatClampNeg (dp_I M 104 (Int32.toNatClampNeg v1))))))), M)))) else if v2 = (2 : Int32) then (if v1 < 0 ∨ 4000 ≤ Int32.toNatClampNeg v1 then none else (if (dp_I M 104 (Int32.toNatClampNeg v1)) < 0 ∨ 16000 ≤ Int32.toNatClampNeg (dp_I M 104 (Int32.toNatClampNeg v1)) then none else (some (.inl (some (.long (Int32.toInt64 (dp_I M 102 (Int32.toNatClampNeg (dp_I M 104 (Int32.toNatClampNeg v1))))))), M)))) else if v2 = (3 : Int32) then (if v1 < 0 ∨ 4000 ≤ Int32.toNatClampNeg v1 then none else (dp_bi (dp_den true xs xl d 78 [.ref 97, .int (dp_I M 103 (Int32.toNatClampNeg v1)), .int (5 : Int32)] M) (fun r4 M3 => some (.inl (some (.long (Int32.toInt64 r4))), M3)))) else (if v1 < 0 ∨ 4000 ≤ Int32.toNatClampNeg v1 then none else (dp_bi (dp_den true xs xl d 78 [.ref 97, .int (dp_I M 103 (Int32.toNatClampNeg v1)), .int (6 : Int32)] M) (fun r2 M1 => some (.inl (some (.long (Int32.toInt64 r2))), M1)))) := by
  have hF := dp_den_grow (md := true) (xs := xs) (xl := xl) d
  unfold D_X3_factOfEntry_0
  refine dp_s1 hF (i := .iload_n 2) rfl (fun _ => rfl) ?_
  refine (dp_s (E := fun k => if v2 = (0 : Int32) then k (32, [some (.ref 97), some (.int v1), some (.int v2)], [], M) else if v2 = (1 : Int32) then k (40, [some (.ref 97), some (.int v1), some (.int v2)], [], M) else if v2 = (2 : Int32) then k (53, [some (.ref 97), some (.int v1), some (.int v2)], [], M) else if v2 = (3 : Int32) then k (66, [some (.ref 97), some (.int v1), some (.int v2)], [], M) else k (79, [some (.ref 97), some (.int v1), some (.int v2)], [], M)) hF (i := .tableswitch 78 0 3 #[31, 39, 52, 65]) rfl (fun _ => rfl)).trans ?_
  refine dp_ifc ?_ ?_
  · refine dp_s1 hF (i := .aload_n 0) rfl (fun _ => rfl) ?_
    refine dp_s1 hF (i := .getfield 37) rfl (fun _ => rfl) ?_
    refine dp_s1 hF (i := .iload_n 1) rfl (fun _ => rfl) ?_
    refine dp_s3 hF (i := .iaload) rfl (fun _ => rfl) ?_
    refine dp_s1 hF (i := .i2l) rfl (fun _ => rfl) ?_
    exact dp_s0 hF (i := .lreturn) rfl (fun _ => rfl)
  refine dp_ifc ?_ ?_
  · refine dp_s1 hF (i := .aload_n 0) rfl (fun _ => rfl) ?_
    refine dp_s1 hF (i := .getfield 31) rfl (fun _ => rfl) ?_
    refine dp_s1 hF (i := .aload_n 0) rfl (fun _ => rfl) ?_
    refine dp_s1 hF (i := .getfield 40) rfl (fun _ => rfl) ?_
    refine dp_s1 hF (i := .iload_n 1) rfl (fun _ => rfl) ?_
    refine dp_s3 hF (i := .iaload) rfl (fun _ => rfl) ?_
    refine dp_s3 hF (i := .iaload) rfl (fun _ => rfl) ?_
    refine dp_s1 hF (i := .i2l) rfl (fun _ => rfl) ?_
    exact dp_s0 hF (i := .lreturn) rfl (fun _ => rfl)
  refine dp_ifc ?_ ?_
  · refine dp_s1 hF (i := .aload_n 0) rfl (fun _ => rfl) ?_
    refine dp_s1 hF (i := .getfield 34) rfl (fun _ => rfl) ?_
    refine dp_s1 hF (i := .aload_n 0) rfl (fun _ => rfl) ?_
    refine dp_s1 hF (i := .getfield 40) rfl (fun _ => rfl) ?_
    refine dp_s1 hF (i := .iload_n 1) rfl (fun _ => rfl) ?_
    refine dp_s3 hF (i := .iaload) rfl (fun _ => rfl) ?_
    refine dp_s3 hF (i := .iaload) rfl (fun _ => rfl) ?_
    refine dp_s1 hF (i := .i2l) rfl (fun _ => rfl) ?_
    exact dp_s0 hF (i := .lreturn) rfl (fun _ => rfl)
  refine dp_ifc ?_ ?_
  · refine dp_s1 hF (i := .aload_n 0) rfl (fun _ => rfl) ?_
    refine dp_s1 hF (i := .aload_n 0) rfl (fun _ => rfl) ?_
    refine dp_s1 hF (i := .getfield 37) rfl (fun _ => rfl) ?_
    refine dp_s1 hF (i := .iload_n 1) rfl (fun _ => rfl) ?_
    refine dp_s3 hF (i := .iaload) rfl (fun _ => rfl) ?_
    refine dp_s1 hF (i := .iconst 5) rfl (fun _ => rfl) ?_
    refine dp_si (mj := dp_m_X3_fact) (i := .invokevirtual 53) rfl rfl (Or.inl rfl) rfl (fun _ => rfl) (fun r4 M3 => ?_)
    refine dp_s1 hF (i := .i2l) rfl (fun _ => rfl) ?_
    exact dp_s0 hF (i := .lreturn) rfl (fun _ => rfl)
  refine dp_s1 hF (i := .aload_n 0) rfl (fun _ => rfl) ?_
  refine dp_s1 hF (i := .aload_n 0) rfl (fun _ => rfl) ?_
  refine dp_s1 hF (i := .getfield 37) rfl (fun _ => rfl) ?_
  refine dp_s1 hF (i := .iload_n 1) rfl (fun _ => rfl) ?_
  refine dp_s3 hF (i := .iaload) rfl (fun _ => rfl) ?_
  refine dp_s1 hF (i := .bipush 6) rfl (fun _ => rfl) ?_
  refine dp_si (mj := dp_m_X3_fact) (i := .invokevirtual 53) rfl rfl (Or.inl rfl) rfl (fun _ => rfl) (fun r2 M1 => ?_)
  refine dp_s1 hF (i := .i2l) rfl (fun _ => rfl) ?_
  exact dp_s0 hF (i := .lreturn) rfl (fun _ => rfl)
noncomputable def D_X3_sum_0 (xs : Nat → Int32) (xl d : Nat) (v1 : Int32) (v2 : Int32) (v3 : Int32) (v4 : Int32) (M : dp_M) : Option dp_Res := dp_lim true xs xl (dp_den true xs xl d) dp_m_X3_sum (0, [some (.ref 97), some (.int v1), some (.int v2), some (.int v3), some (.int v4), none, none, none, none, none], [], M)
noncomputable def D_X3_sum_6 (xs : Nat → Int32) (xl d : Nat) (v1 : Int32) (v2 : Int32) (v3 : Int32) (v4 : Int32) (v5 : Int64) (v7 : Int32) (M : dp_M) : Option dp_Res := dp_lim true xs xl (dp_den true xs xl d) dp_m_X3_sum (6, [some (.ref 97), some (.int v1), some (.int v2), some (.int v3), some (.int v4), some (.long v5), none, some (.int v7), none, none], [], M)
noncomputable def D_X3_sum_64 (xs : Nat → Int32) (xl d : Nat) (v1 : Int32) (v2 : Int32) (v3 : Int32) (v4 : Int32) (v5 : Int64) (v7 : Int32) (v8 : Int32) (vs0 : Int32) (M : dp_M) : Option dp_Res := dp_lim true xs xl (dp_den true xs xl d) dp_m_X3_sum (64, [some (.ref 97), some (.int v1), some (.int v2), some (.int v3), some (.int v4), some (.long v5), none, some (.int v7), some (.int v8), none], [.int vs0], M)
noncomputable def D_X3_sum_6_a (xs : Nat → Int32) (xl d : Nat) (v1 : Int32) (v2 : Int32) (v3 : Int32) (v4 : Int32) (v5 : Int64) (v7 : Int32) (v8 : Int32) (v9 : Int32) (M : dp_M) : Option dp_Res := dp_lim true xs xl (dp_den true xs xl d) dp_m_X3_sum (6, [some (.ref 97), some (.int v1), some (.int v2), some (.int v3), some (.int v4), some (.long v5), none, some (.int v7), some (.int v8), some (.int v9)], [], M)
noncomputable def D_X3_sum_64_a (xs : Nat → Int32) (xl d : Nat) (v1 : Int32) (v2 : Int32) (v3 : Int32) (v4 : Int32) (v5 : Int64) (v7 : Int32) (v8 : Int32) (v9 : Int32) (vs0 : Int32) (M : dp_M) : Option dp_Res := dp_lim true xs xl (dp_den true xs xl d) dp_m_X3_sum (64, [some (.ref 97), some (.int v1), some (.int v2), some (.int v3), some (.int v4), some (.long v5), none, some (.int v7), some (.int v8), some (.int v9)], [.int vs0], M)
theorem D_X3_sum_0_den (xs : Nat → Int32) (xl d : Nat) (a0 : Int32) (a1 : Int32) (a2 : Int32) (a3 : Int32) (M : dp_M) : dp_den true xs xl (d + 1) 97 [.ref 97, .int a0, .int a1, .int a2, .int a3] M = D_X3_sum_0 xs xl d a0 a1 a2 a3 M := rfl
set_option maxRecDepth 20000 in
theorem D_X3_sum_0_eq (xs : Nat → Int32) (xl d : Nat) (v1 : Int32) (v2 : Int32) (v3 : Int32) (v4 : Int32) (M : dp_M) : D_X3_sum_0 xs xl d v1 v2 v3 v4 M = dp_w (0 : Int64) (fun y1 => dp_w (0 : Int32) (fun y2 => D_X3_sum_6 xs xl d v1 v2 v3 v4 y1 y2 M)) := by
  have hF := dp_den_grow (md := true) (xs := xs) (xl := xl) d
  unfold D_X3_sum_0
  refine dp_s1 hF (i := .lconst 0) rfl (fun _ => rfl) ?_
  refine dp_s1w (0 : Int64) (fun (y1 : Int64) => (3, [some (.ref 97), some (.int v1), some (.int v2), some (.int v3), some (.int v4), some (.long y1), none, none, none, none], [], M)) hF (i := .lstore 5) rfl (fun _ => rfl) (fun y1 => ?_)
  refine dp_s1 hF (i := .iconst 0) rfl (fun _ => rfl) ?_
  refine dp_s1w (0 : Int32) (fun (y2 : Int32) => (6, [some (.ref 97), some (.int v1), some (.int v2), some (.int v3), some (.int v4), some (.long y1), none, some (.int y2), none, none], [], M)) hF (i := .istore 7) rfl (fun _ => rfl) (fun y2 => ?_)
  exact rfl
set_option maxRecDepth 20000 in
theorem D_X3_sum_6_eq (xs : Nat → Int32) (xl d : Nat) (v1 : Int32) (v2 : Int32) (v3 : Int32) (v4 : Int32) (v5 : Int64) (v7 : Int32) (M : dp_M) : D_X3_sum_6 xs xl d v1 v2 v3 v4 v5 v7 M = if (dp_I M 97 1) ≤ v7 then (some (.inl (some (.long v5)), M)) else (if v7 < 0 ∨ 4000 ≤ Int32.toNatClampNeg v7 then none else (dp_bi (dp_den true xs xl d 78 [.ref 97, .int (dp_I M 103 (Int32.toNatClampNeg v7)), .int (5 : Int32)] M) (fun r2 M1 => if r2 < v2 then (D_X3_sum_64 xs xl d v1 v2 v3 v4 v5 v7 r2 (0 : Int32) M1) else (if v3 < r2 then (D_X3_sum_64 xs xl d v1 v2 v3 v4 v5 v7 r2 (0 : Int32) M1) else (if v7 < 0 ∨ 4000 ≤ Int32.toNatClampNeg v7 then none else (dp_bi (dp_den true xs xl d 78 [.ref 97, .int (dp_I M1 103 (Int32.toNatClampNeg v7)), .int (6 : Int32)] M1) (fun r4 M3 => if v4 < r4 then (D_X3_sum_64 xs xl d v1 v2 v3 v4 v5 v7 r2 (0 : Int32) M3) else (D_X3_sum_64 xs xl d v1 v2 v3 v4 v5 v7 r2 (1 : Int32) M3)))))))) := by
  have hF := dp_den_grow (md := true) (xs := xs) (xl := xl) d
  unfold D_X3_sum_6
  refine dp_s1 hF (i := .iload 7) rfl (fun _ => rfl) ?_
  refine dp_s1 hF (i := .aload_n 0) rfl (fun _ => rfl) ?_
  refine dp_s1 hF (i := .getfield 68) rfl (fun _ => rfl) ?_
  refine dp_s2 hF (i := .if_icmp .ge 99) (a := (111, [some (.ref 97), some (.int v1), some (.int v2), some (.int v3), some (.int v4), some (.long v5), none, some (.int v7), none, none], [], M)) (b := (15, [some (.ref 97), some (.int v1), some (.int v2), some (.int v3), some (.int v4), some (.long v5), none, some (.int v7), none, none], [], M)) rfl (fun _ => rfl) ?_ ?_
  · refine dp_s1 hF (i := .lload 5) rfl (fun _ => rfl) ?_
    exact dp_s0 hF (i := .lreturn) rfl (fun _ => rfl)
  refine dp_s1 hF (i := .aload_n 0) rfl (fun _ => rfl) ?_
  refine dp_s1 hF (i := .aload_n 0) rfl (fun _ => rfl) ?_
  refine dp_s1 hF (i := .getfield 37) rfl (fun _ => rfl) ?_
  refine dp_s1 hF (i := .iload 7) rfl (fun _ => rfl) ?_
  refine dp_s3 hF (i := .iaload) rfl (fun _ => rfl) ?_
  refine dp_s1 hF (i := .iconst 5) rfl (fun _ => rfl) ?_
  refine dp_si (mj := dp_m_X3_fact) (i := .invokevirtual 53) rfl rfl (Or.inl rfl) rfl (fun _ => rfl) (fun r2 M1 => ?_)
  refine dp_s1 hF (i := .istore 8) rfl (fun _ => rfl) ?_
  refine dp_s1 hF (i := .iload 8) rfl (fun _ => rfl) ?_
  refine dp_s1 hF (i := .iload_n 2) rfl (fun _ => rfl) ?_
  refine dp_s2 hF (i := .if_icmp .lt 31) (a := (63, [some (.ref 97), some (.int v1), some (.int v2), some (.int v3), some (.int v4), some (.long v5), none, some (.int v7), some (.int r2), none], [], M1)) (b := (35, [some (.ref 97), some (.int v1), some (.int v2), some (.int v3), some (.int v4), some (.long v5), none, some (.int v7), some (.int r2), none], [], M1)) rfl (fun _ => rfl) ?_ ?_
  · refine dp_s1 hF (i := .iconst 0) rfl (fun _ => rfl) ?_
    exact rfl
  refine dp_s1 hF (i := .iload 8) rfl (fun _ => rfl) ?_
  refine dp_s1 hF (i := .iload_n 3) rfl (fun _ => rfl) ?_
  refine dp_s2 hF (i := .if_icmp .gt 25) (a := (63, [some (.ref 97), some (.int v1), some (.int v2), some (.int v3), some (.int v4), some (.long v5), none, some (.int v7), some (.int r2), none], [], M1)) (b := (41, [some (.ref 97), some (.int v1), some (.int v2), some (.int v3), some (.int v4), some (.long v5), none, some (.int v7), some (.int r2), none], [], M1)) rfl (fun _ => rfl) ?_ ?_
  · refine dp_s1 hF (i := .iconst 0) rfl (fun _ => rfl) ?_
    exact rfl
  refine dp_s1 hF (i := .aload_n 0) rfl (fun _ => rfl) ?_
  refine dp_s1 hF (i := .aload_n 0) rfl (fun _ => rfl) ?_
  refine dp_s1 hF (i := .getfield 37) rfl (fun _ => rfl) ?_
  refine dp_s1 hF (i := .iload 7) rfl (fun _ => rfl) ?_
  refine dp_s3 hF (i := .iaload) rfl (fun _ => rfl) ?_
  refine dp_s1 hF (i := .bipush 6) rfl (fun _ => rfl) ?_
  refine dp_si (mj := dp_m_X3_fact) (i := .invokevirtual 53) rfl rfl (Or.inl rfl) rfl (fun _ => rfl) (fun r4 M3 => ?_)
  refine dp_s1 hF (i := .iload 4) rfl (fun _ => rfl) ?_
  refine dp_s2 hF (i := .if_icmp .gt 7) (a := (63, [some (.ref 97), some (.int v1), some (.int v2), some (.int v3), some (.int v4), some (.long v5), none, some (.int v7), some (.int r2), none], [], M3)) (b := (59, [some (.ref 97), some (.int v1), some (.int v2), some (.int v3), some (.int v4), some (.long v5), none, some (.int v7), some (.int r2), none], [], M3)) rfl (fun _ => rfl) ?_ ?_
  · refine dp_s1 hF (i := .iconst 0) rfl (fun _ => rfl) ?_
    exact rfl
  refine dp_s1 hF (i := .iconst 1) rfl (fun _ => rfl) ?_
  refine dp_s1 hF (i := .goto 4) rfl (fun _ => rfl) ?_
  exact rfl
set_option maxRecDepth 20000 in
theorem D_X3_sum_64_eq (xs : Nat → Int32) (xl d : Nat) (v1 : Int32) (v2 : Int32) (v3 : Int32) (v4 : Int32) (v5 : Int64) (v7 : Int32) (v8 : Int32) (vs0 : Int32) (M : dp_M) : D_X3_sum_64 xs xl d v1 v2 v3 v4 v5 v7 v8 vs0 M = if vs0 = 0 then (dp_w (v7 + (1 : Int32)) (fun y1 => D_X3_sum_6_a xs xl d v1 v2 v3 v4 v5 y1 v8 vs0 M)) else (if v7 < 0 ∨ 4000 ≤ Int32.toNatClampNeg v7 then none else (if (dp_I M 104 (Int32.toNatClampNeg v7)) < 0 ∨ 16000 ≤ Int32.toNatClampNeg (dp_I M 104 (Int32.toNatClampNeg v7)) then none else (if (dp_I M 101 (Int32.toNatClampNeg (dp_I M 104 (Int32.toNatClampNeg v7)))) = v1 then (if v7 < 0 ∨ 4000 ≤ Int32.toNatClampNeg v7 then none else (if (dp_I M 104 (Int32.toNatClampNeg v7)) < 0 ∨ 16000 ≤ Int32.toNatClampNeg (dp_I M 104 (Int32.toNatClampNeg v7)) then none else (dp_w (v5 + (Int32.toInt64 (dp_I M 102 (Int32.toNatClampNeg (dp_I M 104 (Int32.toNatClampNeg v7)))))) (fun y2 => dp_w (v7 + (1 : Int32)) (fun y3 => D_X3_sum_6_a xs xl d v1 v2 v3 v4 y2 y3 v8 vs0 M))))) else (dp_w (v7 + (1 : Int32)) (fun y4 => D_X3_sum_6_a xs xl d v1 v2 v3 v4 v5 y4 v8 vs0 M))))) := by
  have hF := dp_den_grow (md := true) (xs := xs) (xl := xl) d
  unfold D_X3_sum_64
  refine dp_s1 hF (i := .istore 9) rfl (fun _ => rfl) ?_
  refine dp_s1 hF (i := .iload 9) rfl (fun _ => rfl) ?_
  refine dp_s2 hF (i := .ifCond .eq 37) (a := (105, [some (.ref 97), some (.int v1), some (.int v2), some (.int v3), some (.int v4), some (.long v5), none, some (.int v7), some (.int v8), some (.int vs0)], [], M)) (b := (71, [some (.ref 97), some (.int v1), some (.int v2), some (.int v3), some (.int v4), some (.long v5), none, some (.int v7), some (.int v8), some (.int vs0)], [], M)) rfl (fun _ => rfl) ?_ ?_
  · refine dp_s1w (v7 + (1 : Int32)) (fun (y1 : Int32) => (108, [some (.ref 97), some (.int v1), some (.int v2), some (.int v3), some (.int v4), some (.long v5), none, some (.int y1), some (.int v8), some (.int vs0)], [], M)) hF (i := .iinc 7 1) rfl (fun _ => rfl) (fun y1 => ?_)
    refine dp_s1 hF (i := .goto (-102)) rfl (fun _ => rfl) ?_
    exact rfl
  refine dp_s1 hF (i := .aload_n 0) rfl (fun _ => rfl) ?_
  refine dp_s1 hF (i := .getfield 31) rfl (fun _ => rfl) ?_
  refine dp_s1 hF (i := .aload_n 0) rfl (fun _ => rfl) ?_
  refine dp_s1 hF (i := .getfield 40) rfl (fun _ => rfl) ?_
  refine dp_s1 hF (i := .iload 7) rfl (fun _ => rfl) ?_
  refine dp_s3 hF (i := .iaload) rfl (fun _ => rfl) ?_
  refine dp_s3 hF (i := .iaload) rfl (fun _ => rfl) ?_
  refine dp_s1 hF (i := .iload_n 1) rfl (fun _ => rfl) ?_
  refine dp_s2 hF (i := .if_icmp .ne 21) (a := (87, [some (.ref 97), some (.int v1), some (.int v2), some (.int v3), some (.int v4), some (.long v5), none, some (.int v7), some (.int v8), some (.int vs0)], [], M)) (b := (105, [some (.ref 97), some (.int v1), some (.int v2), some (.int v3), some (.int v4), some (.long v5), none, some (.int v7), some (.int v8), some (.int vs0)], [], M)) rfl (fun _ => rfl) ?_ ?_
  · refine dp_s1 hF (i := .lload 5) rfl (fun _ => rfl) ?_
    refine dp_s1 hF (i := .aload_n 0) rfl (fun _ => rfl) ?_
    refine dp_s1 hF (i := .getfield 34) rfl (fun _ => rfl) ?_
    refine dp_s1 hF (i := .aload_n 0) rfl (fun _ => rfl) ?_
    refine dp_s1 hF (i := .getfield 40) rfl (fun _ => rfl) ?_
    refine dp_s1 hF (i := .iload 7) rfl (fun _ => rfl) ?_
    refine dp_s3 hF (i := .iaload) rfl (fun _ => rfl) ?_
    refine dp_s3 hF (i := .iaload) rfl (fun _ => rfl) ?_
    refine dp_s1 hF (i := .i2l) rfl (fun _ => rfl) ?_
    refine dp_s1 hF (i := .ladd) rfl (fun _ => rfl) ?_
    refine dp_s1w (v5 + (Int32.toInt64 (dp_I M 102 (Int32.toNatClampNeg (dp_I M 104 (Int32.toNatClampNeg v7)))))) (fun (y2 : Int64) => (105, [some (.ref 97), some (.int v1), some (.int v2), some (.int v3), some (.int v4), some (.long y2), none, some (.int v7), some (.int v8), some (.int vs0)], [], M)) hF (i := .lstore 5) rfl (fun _ => rfl) (fun y2 => ?_)
    refine dp_s1w (v7 + (1 : Int32)) (fun (y3 : Int32) => (108, [some (.ref 97), some (.int v1), some (.int v2), some (.int v3), some (.int v4), some (.long y2), none, some (.int y3), some (.int v8), some (.int vs0)], [], M)) hF (i := .iinc 7 1) rfl (fun _ => rfl) (fun y3 => ?_)
    refine dp_s1 hF (i := .goto (-102)) rfl (fun _ => rfl) ?_
    exact rfl
  refine dp_s1w (v7 + (1 : Int32)) (fun (y4 : Int32) => (108, [some (.ref 97), some (.int v1), some (.int v2), some (.int v3), some (.int v4), some (.long v5), none, some (.int y4), some (.int v8), some (.int vs0)], [], M)) hF (i := .iinc 7 1) rfl (fun _ => rfl) (fun y4 => ?_)
  refine dp_s1 hF (i := .goto (-102)) rfl (fun _ => rfl) ?_
  exact rfl
set_option maxRecDepth 20000 in
theorem D_X3_sum_6_a_eq (xs : Nat → Int32) (xl d : Nat) (v1 : Int32) (v2 : Int32) (v3 : Int32) (v4 : Int32) (v5 : Int64) (v7 : Int32) (v8 : Int32) (v9 : Int32) (M : dp_M) : D_X3_sum_6_a xs xl d v1 v2 v3 v4 v5 v7 v8 v9 M = if (dp_I M 97 1) ≤ v7 then (some (.inl (some (.long v5)), M)) else (if v7 < 0 ∨ 4000 ≤ Int32.toNatClampNeg v7 then none else (dp_bi (dp_den true xs xl d 78 [.ref 97, .int (dp_I M 103 (Int32.toNatClampNeg v7)), .int (5 : Int32)] M) (fun r2 M1 => if r2 < v2 then (D_X3_sum_64_a xs xl d v1 v2 v3 v4 v5 v7 r2 v9 (0 : Int32) M1) else (if v3 < r2 then (D_X3_sum_64_a xs xl d v1 v2 v3 v4 v5 v7 r2 v9 (0 : Int32) M1) else (if v7 < 0 ∨ 4000 ≤ Int32.toNatClampNeg v7 then none else (dp_bi (dp_den true xs xl d 78 [.ref 97, .int (dp_I M1 103 (Int32.toNatClampNeg v7)), .int (6 : Int32)] M1) (fun r4 M3 => if v4 < r4 then (D_X3_sum_64_a xs xl d v1 v2 v3 v4 v5 v7 r2 v9 (0 : Int32) M3) else (D_X3_sum_64_a xs xl d v1 v2 v3 v4 v5 v7 r2 v9 (1 : Int32) M3)))))))) := by
  have hF := dp_den_grow (md := true) (xs := xs) (xl := xl) d
  unfold D_X3_sum_6_a
  refine dp_s1 hF (i := .iload 7) rfl (fun _ => rfl) ?_
  refine dp_s1 hF (i := .aload_n 0) rfl (fun _ => rfl) ?_
  refine dp_s1 hF (i := .getfield 68) rfl (fun _ => rfl) ?_
  refine dp_s2 hF (i := .if_icmp .ge 99) (a := (111, [some (.ref 97), some (.int v1), some (.int v2), some (.int v3), some (.int v4), some (.long v5), none, some (.int v7), some (.int v8), some (.int v9)], [], M)) (b := (15, [some (.ref 97), some (.int v1), some (.int v2), some (.int v3), some (.int v4), some (.long v5), none, some (.int v7), some (.int v8), some (.int v9)], [], M)) rfl (fun _ => rfl) ?_ ?_
  · refine dp_s1 hF (i := .lload 5) rfl (fun _ => rfl) ?_
    exact dp_s0 hF (i := .lreturn) rfl (fun _ => rfl)
  refine dp_s1 hF (i := .aload_n 0) rfl (fun _ => rfl) ?_
  refine dp_s1 hF (i := .aload_n 0) rfl (fun _ => rfl) ?_
  refine dp_s1 hF (i := .getfield 37) rfl (fun _ => rfl) ?_
  refine dp_s1 hF (i := .iload 7) rfl (fun _ => rfl) ?_
  refine dp_s3 hF (i := .iaload) rfl (fun _ => rfl) ?_
  refine dp_s1 hF (i := .iconst 5) rfl (fun _ => rfl) ?_
  refine dp_si (mj := dp_m_X3_fact) (i := .invokevirtual 53) rfl rfl (Or.inl rfl) rfl (fun _ => rfl) (fun r2 M1 => ?_)
  refine dp_s1 hF (i := .istore 8) rfl (fun _ => rfl) ?_
  refine dp_s1 hF (i := .iload 8) rfl (fun _ => rfl) ?_
  refine dp_s1 hF (i := .iload_n 2) rfl (fun _ => rfl) ?_
  refine dp_s2 hF (i := .if_icmp .lt 31) (a := (63, [some (.ref 97), some (.int v1), some (.int v2), some (.int v3), some (.int v4), some (.long v5), none, some (.int v7), some (.int r2), some (.int v9)], [], M1)) (b := (35, [some (.ref 97), some (.int v1), some (.int v2), some (.int v3), some (.int v4), some (.long v5), none, some (.int v7), some (.int r2), some (.int v9)], [], M1)) rfl (fun _ => rfl) ?_ ?_
  · refine dp_s1 hF (i := .iconst 0) rfl (fun _ => rfl) ?_
    exact rfl
  refine dp_s1 hF (i := .iload 8) rfl (fun _ => rfl) ?_
  refine dp_s1 hF (i := .iload_n 3) rfl (fun _ => rfl) ?_
  refine dp_s2 hF (i := .if_icmp .gt 25) (a := (63, [some (.ref 97), some (.int v1), some (.int v2), some (.int v3), some (.int v4), some (.long v5), none, some (.int v7), some (.int r2), some (.int v9)], [], M1)) (b := (41, [some (.ref 97), some (.int v1), some (.int v2), some (.int v3), some (.int v4), some (.long v5), none, some (.int v7), some (.int r2), some (.int v9)], [], M1)) rfl (fun _ => rfl) ?_ ?_
  · refine dp_s1 hF (i := .iconst 0) rfl (fun _ => rfl) ?_
    exact rfl
  refine dp_s1 hF (i := .aload_n 0) rfl (fun _ => rfl) ?_
  refine dp_s1 hF (i := .aload_n 0) rfl (fun _ => rfl) ?_
  refine dp_s1 hF (i := .getfield 37) rfl (fun _ => rfl) ?_
  refine dp_s1 hF (i := .iload 7) rfl (fun _ => rfl) ?_
  refine dp_s3 hF (i := .iaload) rfl (fun _ => rfl) ?_
  refine dp_s1 hF (i := .bipush 6) rfl (fun _ => rfl) ?_
  refine dp_si (mj := dp_m_X3_fact) (i := .invokevirtual 53) rfl rfl (Or.inl rfl) rfl (fun _ => rfl) (fun r4 M3 => ?_)
  refine dp_s1 hF (i := .iload 4) rfl (fun _ => rfl) ?_
  refine dp_s2 hF (i := .if_icmp .gt 7) (a := (63, [some (.ref 97), some (.int v1), some (.int v2), some (.int v3), some (.int v4), some (.long v5), none, some (.int v7), some (.int r2), some (.int v9)], [], M3)) (b := (59, [some (.ref 97), some (.int v1), some (.int v2), some (.int v3), some (.int v4), some (.long v5), none, some (.int v7), some (.int r2), some (.int v9)], [], M3)) rfl (fun _ => rfl) ?_ ?_
  · refine dp_s1 hF (i := .iconst 0) rfl (fun _ => rfl) ?_
    exact rfl
  refine dp_s1 hF (i := .iconst 1) rfl (fun _ => rfl) ?_
  refine dp_s1 hF (i := .goto 4) rfl (fun _ => rfl) ?_
  exact rfl
set_option maxRecDepth 20000 in
theorem D_X3_sum_64_a_eq (xs : Nat → Int32) (xl d : Nat) (v1 : Int32) (v2 : Int32) (v3 : Int32) (v4 : Int32) (v5 : Int64) (v7 : Int32) (v8 : Int32) (v9 : Int32) (vs0 : Int32) (M : dp_M) : D_X3_sum_64_a xs xl d v1 v2 v3 v4 v5 v7 v8 v9 vs0 M = if vs0 = 0 then (dp_w (v7 + (1 : Int32)) (fun y1 => D_X3_sum_6_a xs xl d v1 v2 v3 v4 v5 y1 v8 vs0 M)) else (if v7 < 0 ∨ 4000 ≤ Int32.toNatClampNeg v7 then none else (if (dp_I M 104 (Int32.toNatClampNeg v7)) < 0 ∨ 16000 ≤ Int32.toNatClampNeg (dp_I M 104 (Int32.toNatClampNeg v7)) then none else (if (dp_I M 101 (Int32.toNatClampNeg (dp_I M 104 (Int32.toNatClampNeg v7)))) = v1 then (if v7 < 0 ∨ 4000 ≤ Int32.toNatClampNeg v7 then none else (if (dp_I M 104 (Int32.toNatClampNeg v7)) < 0 ∨ 16000 ≤ Int32.toNatClampNeg (dp_I M 104 (Int32.toNatClampNeg v7)) then none else (dp_w (v5 + (Int32.toInt64 (dp_I M 102 (Int32.toNatClampNeg (dp_I M 104 (Int32.toNatClampNeg v7)))))) (fun y2 => dp_w (v7 + (1 : Int32)) (fun y3 => D_X3_sum_6_a xs xl d v1 v2 v3 v4 y2 y3 v8 vs0 M))))) else (dp_w (v7 + (1 : Int32)) (fun y4 => D_X3_sum_6_a xs xl d v1 v2 v3 v4 v5 y4 v8 vs0 M))))) := by
  have hF := dp_den_grow (md := true) (xs := xs) (xl := xl) d
  unfold D_X3_sum_64_a
  refine dp_s1 hF (i := .istore 9) rfl (fun _ => rfl) ?_
  refine dp_s1 hF (i := .iload 9) rfl (fun _ => rfl) ?_
  refine dp_s2 hF (i := .ifCond .eq 37) (a := (105, [some (.ref 97), some (.int v1), some (.int v2), some (.int v3), some (.int v4), some (.long v5), none, some (.int v7), some (.int v8), some (.int vs0)], [], M)) (b := (71, [some (.ref 97), some (.int v1), some (.int v2), some (.int v3), some (.int v4), some (.long v5), none, some (.int v7), some (.int v8), some (.int vs0)], [], M)) rfl (fun _ => rfl) ?_ ?_
  · refine dp_s1w (v7 + (1 : Int32)) (fun (y1 : Int32) => (108, [some (.ref 97), some (.int v1), some (.int v2), some (.int v3), some (.int v4), some (.long v5), none, some (.int y1), some (.int v8), some (.int vs0)], [], M)) hF (i := .iinc 7 1) rfl (fun _ => rfl) (fun y1 => ?_)
    refine dp_s1 hF (i := .goto (-102)) rfl (fun _ => rfl) ?_
    exact rfl
  refine dp_s1 hF (i := .aload_n 0) rfl (fun _ => rfl) ?_
  refine dp_s1 hF (i := .getfield 31) rfl (fun _ => rfl) ?_
  refine dp_s1 hF (i := .aload_n 0) rfl (fun _ => rfl) ?_
  refine dp_s1 hF (i := .getfield 40) rfl (fun _ => rfl) ?_
  refine dp_s1 hF (i := .iload 7) rfl (fun _ => rfl) ?_
  refine dp_s3 hF (i := .iaload) rfl (fun _ => rfl) ?_
  refine dp_s3 hF (i := .iaload) rfl (fun _ => rfl) ?_
  refine dp_s1 hF (i := .iload_n 1) rfl (fun _ => rfl) ?_
  refine dp_s2 hF (i := .if_icmp .ne 21) (a := (87, [some (.ref 97), some (.int v1), some (.int v2), some (.int v3), some (.int v4), some (.long v5), none, some (.int v7), some (.int v8), some (.int vs0)], [], M)) (b := (105, [some (.ref 97), some (.int v1), some (.int v2), some (.int v3), some (.int v4), some (.long v5), none, some (.int v7), some (.int v8), some (.int vs0)], [], M)) rfl (fun _ => rfl) ?_ ?_
  · refine dp_s1 hF (i := .lload 5) rfl (fun _ => rfl) ?_
    refine dp_s1 hF (i := .aload_n 0) rfl (fun _ => rfl) ?_
    refine dp_s1 hF (i := .getfield 34) rfl (fun _ => rfl) ?_
    refine dp_s1 hF (i := .aload_n 0) rfl (fun _ => rfl) ?_
    refine dp_s1 hF (i := .getfield 40) rfl (fun _ => rfl) ?_
    refine dp_s1 hF (i := .iload 7) rfl (fun _ => rfl) ?_
    refine dp_s3 hF (i := .iaload) rfl (fun _ => rfl) ?_
    refine dp_s3 hF (i := .iaload) rfl (fun _ => rfl) ?_
    refine dp_s1 hF (i := .i2l) rfl (fun _ => rfl) ?_
    refine dp_s1 hF (i := .ladd) rfl (fun _ => rfl) ?_
    refine dp_s1w (v5 + (Int32.toInt64 (dp_I M 102 (Int32.toNatClampNeg (dp_I M 104 (Int32.toNatClampNeg v7)))))) (fun (y2 : Int64) => (105, [some (.ref 97), some (.int v1), some (.int v2), some (.int v3), some (.int v4), some (.long y2), none, some (.int v7), some (.int v8), some (.int vs0)], [], M)) hF (i := .lstore 5) rfl (fun _ => rfl) (fun y2 => ?_)
    refine dp_s1w (v7 + (1 : Int32)) (fun (y3 : Int32) => (108, [some (.ref 97), some (.int v1), some (.int v2), some (.int v3), some (.int v4), some (.long y2), none, some (.int y3), some (.int v8), some (.int vs0)], [], M)) hF (i := .iinc 7 1) rfl (fun _ => rfl) (fun y3 => ?_)
    refine dp_s1 hF (i := .goto (-102)) rfl (fun _ => rfl) ?_
    exact rfl
  refine dp_s1w (v7 + (1 : Int32)) (fun (y4 : Int32) => (108, [some (.ref 97), some (.int v1), some (.int v2), some (.int v3), some (.int v4), some (.long v5), none, some (.int y4), some (.int v8), some (.int vs0)], [], M)) hF (i := .iinc 7 1) rfl (fun _ => rfl) (fun y4 => ?_)
  refine dp_s1 hF (i := .goto (-102)) rfl (fun _ => rfl) ?_
  exact rfl
noncomputable def D_X3_kindOf_0 (xs : Nat → Int32) (xl d : Nat) (v0 : Int32) (M : dp_M) : Option dp_Res := dp_lim true xs xl (dp_den true xs xl d) dp_m_X3_kindOf (0, [some (.int v0)], [], M)
theorem D_X3_kindOf_0_den (xs : Nat → Int32) (xl d : Nat) (a0 : Int32) (M : dp_M) : dp_den true xs xl (d + 1) 98 [.int a0] M = D_X3_kindOf_0 xs xl d a0 M := rfl
set_option maxRecDepth 20000 in
theorem D_X3_kindOf_0_eq (xs : Nat → Int32) (xl d : Nat) (v0 : Int32) (M : dp_M) : D_X3_kindOf_0 xs xl d v0 M = if (8 : Int32) ≤ v0 then (some (.inl (some (.int (if (3 : Int32) < ((v0 - (8 : Int32)) + (1 : Int32)) then (3 : Int32) else ((v0 - (8 : Int32)) + (1 : Int32))))), M)) else (some (.inl (some (.int (0 : Int32))), M)) := by
  have hF := dp_den_grow (md := true) (xs := xs) (xl := xl) d
  unfold D_X3_kindOf_0
  refine dp_s1 hF (i := .iload_n 0) rfl (fun _ => rfl) ?_
  refine dp_s1 hF (i := .bipush 8) rfl (fun _ => rfl) ?_
  refine dp_s2 hF (i := .if_icmp .ge 5) (a := (8, [some (.int v0)], [], M)) (b := (6, [some (.int v0)], [], M)) rfl (fun _ => rfl) ?_ ?_
  · refine dp_s1 hF (i := .iload_n 0) rfl (fun _ => rfl) ?_
    refine dp_s1 hF (i := .bipush 8) rfl (fun _ => rfl) ?_
    refine dp_s1 hF (i := .isub) rfl (fun _ => rfl) ?_
    refine dp_s1 hF (i := .iconst 1) rfl (fun _ => rfl) ?_
    refine dp_s1 hF (i := .iadd) rfl (fun _ => rfl) ?_
    refine dp_s1 hF (i := .iconst 3) rfl (fun _ => rfl) ?_
    refine dp_s1 hF (i := .invokestatic 117) rfl (fun _ => rfl) ?_
    exact dp_s0 hF (i := .ireturn) rfl (fun _ => rfl)
  refine dp_s1 hF (i := .iconst 0) rfl (fun _ => rfl) ?_
  exact dp_s0 hF (i := .ireturn) rfl (fun _ => rfl)
noncomputable def D_X3_sumOfKind_0 (xs : Nat → Int32) (xl d : Nat) (v1 : Int32) (v2 : Int32) (M : dp_M) : Option dp_Res := dp_lim true xs xl (dp_den true xs xl d) dp_m_X3_sumOfKind (0, [some (.ref 97), some (.int v1), some (.int v2), none, none, none], [], M)
noncomputable def D_X3_sumOfKind_5 (xs : Nat → Int32) (xl d : Nat) (v1 : Int32) (v2 : Int32) (v3 : Int64) (v5 : Int32) (M : dp_M) : Option dp_Res := dp_lim true xs xl (dp_den true xs xl d) dp_m_X3_sumOfKind (5, [some (.ref 97), some (.int v1), some (.int v2), some (.long v3), none, some (.int v5)], [], M)
theorem D_X3_sumOfKind_0_den (xs : Nat → Int32) (xl d : Nat) (a0 : Int32) (a1 : Int32) (M : dp_M) : dp_den true xs xl (d + 1) 99 [.ref 97, .int a0, .int a1] M = D_X3_sumOfKind_0 xs xl d a0 a1 M := rfl
set_option maxRecDepth 20000 in
theorem D_X3_sumOfKind_0_eq (xs : Nat → Int32) (xl d : Nat) (v1 : Int32) (v2 : Int32) (M : dp_M) : D_X3_sumOfKind_0 xs xl d v1 v2 M = dp_w (0 : Int64) (fun y1 => dp_w (0 : Int32) (fun y2 => D_X3_sumOfKind_5 xs xl d v1 v2 y1 y2 M)) := by
  have hF := dp_den_grow (md := true) (xs := xs) (xl := xl) d
  unfold D_X3_sumOfKind_0
  refine dp_s1 hF (i := .lconst 0) rfl (fun _ => rfl) ?_
  refine dp_s1w (0 : Int64) (fun (y1 : Int64) => (2, [some (.ref 97), some (.int v1), some (.int v2), some (.long y1), none, none], [], M)) hF (i := .lstore_n 3) rfl (fun _ => rfl) (fun y1 => ?_)
  refine dp_s1 hF (i := .iconst 0) rfl (fun _ => rfl) ?_
  refine dp_s1w (0 : Int32) (fun (y2 : Int32) => (5, [some (.ref 97), some (.int v1), some (.int v2), some (.long y1), none, some (.int y2)], [], M)) hF (i := .istore 5) rfl (fun _ => rfl) (fun y2 => ?_)
  exact rfl
set_option maxRecDepth 20000 in
theorem D_X3_sumOfKind_5_eq (xs : Nat → Int32) (xl d : Nat) (v1 : Int32) (v2 : Int32) (v3 : Int64) (v5 : Int32) (M : dp_M) : D_X3_sumOfKind_5 xs xl d v1 v2 v3 v5 M = if (12 : Int32) ≤ v5 then (some (.inl (some (.long (if v3 < (0 : Int64) then (0 : Int64) else v3))), M)) else (dp_bi (dp_den true xs xl d 98 [.int v5] M) (fun r2 M1 => if r2 = v1 then (dp_bl (dp_den true xs xl d 97 [.ref 97, .int v5, .int (0 : Int32), .int (100000 : Int32), .int v2] M1) (fun r4 M3 => dp_w (v3 + r4) (fun y5 => dp_w (v5 + (1 : Int32)) (fun y6 => D_X3_sumOfKind_5 xs xl d v1 v2 y5 y6 M3)))) else (dp_w (v3 + (0 : Int64)) (fun y7 => dp_w (v5 + (1 : Int32)) (fun y8 => D_X3_sumOfKind_5 xs xl d v1 v2 y7 y8 M1))))) := by
  have hF := dp_den_grow (md := true) (xs := xs) (xl := xl) d
  unfold D_X3_sumOfKind_5
  refine dp_s1 hF (i := .iload 5) rfl (fun _ => rfl) ?_
  refine dp_s1 hF (i := .bipush 12) rfl (fun _ => rfl) ?_
  refine dp_s2 hF (i := .if_icmp .ge 35) (a := (44, [some (.ref 97), some (.int v1), some (.int v2), some (.long v3), none, some (.int v5)], [], M)) (b := (12, [some (.ref 97), some (.int v1), some (.int v2), some (.long v3), none, some (.int v5)], [], M)) rfl (fun _ => rfl) ?_ ?_
  · refine dp_s1 hF (i := .lconst 0) rfl (fun _ => rfl) ?_
    refine dp_s1 hF (i := .lload_n 3) rfl (fun _ => rfl) ?_
    refine dp_s1 hF (i := .invokestatic 128) rfl (fun _ => rfl) ?_
    exact dp_s0 hF (i := .lreturn) rfl (fun _ => rfl)
  refine dp_s1 hF (i := .lload_n 3) rfl (fun _ => rfl) ?_
  refine dp_s1 hF (i := .iload 5) rfl (fun _ => rfl) ?_
  refine dp_si (mj := dp_m_X3_kindOf) (i := .invokestatic 120) rfl rfl (Or.inl rfl) rfl (fun _ => rfl) (fun r2 M1 => ?_)
  refine dp_s1 hF (i := .iload_n 1) rfl (fun _ => rfl) ?_
  refine dp_s2 hF (i := .if_icmp .ne 16) (a := (22, [some (.ref 97), some (.int v1), some (.int v2), some (.long v3), none, some (.int v5)], [.long v3], M1)) (b := (35, [some (.ref 97), some (.int v1), some (.int v2), some (.long v3), none, some (.int v5)], [.long v3], M1)) rfl (fun _ => rfl) ?_ ?_
  · refine dp_s1 hF (i := .aload_n 0) rfl (fun _ => rfl) ?_
    refine dp_s1 hF (i := .iload 5) rfl (fun _ => rfl) ?_
    refine dp_s1 hF (i := .iconst 0) rfl (fun _ => rfl) ?_
    refine dp_s1 hF (i := .ldc 123) rfl (fun _ => rfl) ?_
    refine dp_s1 hF (i := .iload_n 2) rfl (fun _ => rfl) ?_
    refine dp_sl9 (mj := dp_m_X3_sum) (i := .invokevirtual 124) rfl rfl rfl rfl (fun _ => rfl) (fun r4 M3 => ?_)
    refine dp_s1 hF (i := .goto 4) rfl (fun _ => rfl) ?_
    refine dp_s1 hF (i := .ladd) rfl (fun _ => rfl) ?_
    refine dp_s1w (v3 + r4) (fun (y5 : Int64) => (38, [some (.ref 97), some (.int v1), some (.int v2), some (.long y5), none, some (.int v5)], [], M3)) hF (i := .lstore_n 3) rfl (fun _ => rfl) (fun y5 => ?_)
    refine dp_s1w (v5 + (1 : Int32)) (fun (y6 : Int32) => (41, [some (.ref 97), some (.int v1), some (.int v2), some (.long y5), none, some (.int y6)], [], M3)) hF (i := .iinc 5 1) rfl (fun _ => rfl) (fun y6 => ?_)
    refine dp_s1 hF (i := .goto (-36)) rfl (fun _ => rfl) ?_
    exact rfl
  refine dp_s1 hF (i := .lconst 0) rfl (fun _ => rfl) ?_
  refine dp_s1 hF (i := .ladd) rfl (fun _ => rfl) ?_
  refine dp_s1w (v3 + (0 : Int64)) (fun (y7 : Int64) => (38, [some (.ref 97), some (.int v1), some (.int v2), some (.long y7), none, some (.int v5)], [], M1)) hF (i := .lstore_n 3) rfl (fun _ => rfl) (fun y7 => ?_)
  refine dp_s1w (v5 + (1 : Int32)) (fun (y8 : Int32) => (41, [some (.ref 97), some (.int v1), some (.int v2), some (.long y7), none, some (.int y8)], [], M1)) hF (i := .iinc 5 1) rfl (fun _ => rfl) (fun y8 => ?_)
  refine dp_s1 hF (i := .goto (-36)) rfl (fun _ => rfl) ?_
  exact rfl
noncomputable def D_X3_passedOn_0 (xs : Nat → Int32) (xl d : Nat) (v1 : Int32) (v2 : Int32) (v3 : Int32) (M : dp_M) : Option dp_Res := dp_lim true xs xl (dp_den true xs xl d) dp_m_X3_passedOn (0, [some (.ref 97), some (.int v1), some (.int v2), some (.int v3), none, none, none, none], [], M)
theorem D_X3_passedOn_0_den (xs : Nat → Int32) (xl d : Nat) (a0 : Int32) (a1 : Int32) (a2 : Int32) (M : dp_M) : dp_den true xs xl (d + 1) 100 [.ref 97, .int a0, .int a1, .int a2] M = D_X3_passedOn_0 xs xl d a0 a1 a2 M := rfl
set_option maxRecDepth 20000 in
theorem D_X3_passedOn_0_eq (xs : Nat → Int32) (xl d : Nat) (v1 : Int32) (v2 : Int32) (v3 : Int32) (M : dp_M) : D_X3_passedOn_0 xs xl d v1 v2 v3 M = dp_bl (dp_den true xs xl d 99 [.ref 97, .int v1, .int v3] M) (fun r2 M1 => if v1 < 0 ∨ 4 ≤ Int32.toNatClampNeg v1 then none else (dp_w ((r2 * (Int32.toInt64 (dp_I M1 99 (Int32.toNatClampNeg v1)))) / (1000 : Int64)) (fun y3 => dp_bv (dp_den true xs xl d 101 [.ref 97, .int v1, .long (r2 - y3)] M1) (fun M4 => if v2 = (4 : Int32) then (some (.inl (some (.long y3)), M4)) else if v2 = (5 : Int32) then (if (0 : Int32) < 0 ∨ 4 ≤ Int32.toNatClampNeg (0 : Int32) then none else (if (1 : Int32) < 0 ∨ 4 ≤ Int32.toNatClampNeg (1 : Int32) then none else (if (2 : Int32) < 0 ∨ 4 ≤ Int32.toNatClampNeg (2 : Int32) then none else (if (3 : Int32) < 0 ∨ 4 ≤ Int32.toNatClampNeg (3 : Int32) then none else (some (.inl (some (.long ((((r2 - (dp_J M4 106 (Int32.toNatClampNeg (0 : Int32)))) - (dp_J M4 106 (Int32.toNatClampNeg (1 : Int32)))) - (dp_J M4 106 (Int32.toNatClampNeg (2 : Int32)))) - (dp_J M4 106 (Int32.toNatClampNeg (3 : Int32)))))), M4)))))) else if v2 = (6 : Int32) then (some (.inl (some (.long r2)), M4)) else (if v2 < 0 ∨ 4 ≤ Int32.toNatClampNeg v2 then none else (some (.inl (some (.long (dp_J M4 106 (Int32.toNatClampNeg v2)))), M4))))))) := by
  have hF := dp_den_grow (md := true) (xs := xs) (xl := xl) d
  unfold D_X3_passedOn_0
  refine dp_s1 hF (i := .aload_n 0) rfl (fun _ => rfl) ?_
  refine dp_s1 hF (i := .iload_n 1) rfl (fun _ => rfl) ?_
  refine dp_s1 hF (i := .iload_n 3) rfl (fun _ => rfl) ?_
  refine dp_sl9 (mj := dp_m_X3_sumOfKind) (i := .invokevirtual 132) rfl rfl rfl rfl (fun _ => rfl) (fun r2 M1 => ?_)
  refine dp_s1 hF (i := .lstore 4) rfl (fun _ => rfl) ?_
  refine dp_s1 hF (i := .lload 4) rfl (fun _ => rfl) ?_
  refine dp_s1 hF (i := .aload_n 0) rfl (fun _ => rfl) ?_
  refine dp_s1 hF (i := .getfield 25) rfl (fun _ => rfl) ?_
  refine dp_s1 hF (i := .iload_n 1) rfl (fun _ => rfl) ?_
  refine dp_s3 hF (i := .iaload) rfl (fun _ => rfl) ?_
  refine dp_s1 hF (i := .i2l) rfl (fun _ => rfl) ?_
  refine dp_s1 hF (i := .lmul) rfl (fun _ => rfl) ?_
  refine dp_s1 hF (i := .ldc2_w 136) rfl (fun _ => rfl) ?_
  refine dp_s1 hF (i := .ldiv) rfl (fun _ => rfl) ?_
  refine dp_s1w ((r2 * (Int32.toInt64 (dp_I M1 99 (Int32.toNatClampNeg v1)))) / (1000 : Int64)) (fun (y3 : Int64) => (24, [some (.ref 97), some (.int v1), some (.int v2), some (.int v3), some (.long r2), none, some (.long y3), none], [], M1)) hF (i := .lstore 6) rfl (fun _ => rfl) (fun y3 => ?_)
  refine dp_s1 hF (i := .aload_n 0) rfl (fun _ => rfl) ?_
  refine dp_s1 hF (i := .iload_n 1) rfl (fun _ => rfl) ?_
  refine dp_s1 hF (i := .lload 4) rfl (fun _ => rfl) ?_
  refine dp_s1 hF (i := .lload 6) rfl (fun _ => rfl) ?_
  refine dp_s1 hF (i := .lsub) rfl (fun _ => rfl) ?_
  refine dp_sv (mj := dp_m_X3_deal) (i := .invokevirtual 138) rfl rfl rfl rfl (fun _ => rfl) (fun M4 => ?_)
  refine dp_s1 hF (i := .iload_n 2) rfl (fun _ => rfl) ?_
  refine (dp_s (E := fun k => if v2 = (4 : Int32) then k (60, [some (.ref 97), some (.int v1), some (.int v2), some (.int v3), some (.long r2), none, some (.long y3), none], [], M4) else if v2 = (5 : Int32) then k (63, [some (.ref 97), some (.int v1), some (.int v2), some (.int v3), some (.long r2), none, some (.long y3), none], [], M4) else if v2 = (6 : Int32) then k (94, [some (.ref 97), some (.int v1), some (.int v2), some (.int v3), some (.long r2), none, some (.long y3), none], [], M4) else k (97, [some (.ref 97), some (.int v1), some (.int v2), some (.int v3), some (.long r2), none, some (.long y3), none], [], M4)) hF (i := .tableswitch 62 4 6 #[25, 28, 59]) rfl (fun _ => rfl)).trans ?_
  refine dp_ifc ?_ ?_
  · refine dp_s1 hF (i := .lload 6) rfl (fun _ => rfl) ?_
    exact dp_s0 hF (i := .lreturn) rfl (fun _ => rfl)
  refine dp_ifc ?_ ?_
  · refine dp_s1 hF (i := .lload 4) rfl (fun _ => rfl) ?_
    refine dp_s1 hF (i := .aload_n 0) rfl (fun _ => rfl) ?_
    refine dp_s1 hF (i := .getfield 47) rfl (fun _ => rfl) ?_
    refine dp_s1 hF (i := .iconst 0) rfl (fun _ => rfl) ?_
    refine dp_s3 hF (i := .laload) rfl (fun _ => rfl) ?_
    refine dp_s1 hF (i := .lsub) rfl (fun _ => rfl) ?_
    refine dp_s1 hF (i := .aload_n 0) rfl (fun _ => rfl) ?_
    refine dp_s1 hF (i := .getfield 47) rfl (fun _ => rfl) ?_
    refine dp_s1 hF (i := .iconst 1) rfl (fun _ => rfl) ?_
    refine dp_s3 hF (i := .laload) rfl (fun _ => rfl) ?_
    refine dp_s1 hF (i := .lsub) rfl (fun _ => rfl) ?_
    refine dp_s1 hF (i := .aload_n 0) rfl (fun _ => rfl) ?_
    refine dp_s1 hF (i := .getfield 47) rfl (fun _ => rfl) ?_
    refine dp_s1 hF (i := .iconst 2) rfl (fun _ => rfl) ?_
    refine dp_s3 hF (i := .laload) rfl (fun _ => rfl) ?_
    refine dp_s1 hF (i := .lsub) rfl (fun _ => rfl) ?_
    refine dp_s1 hF (i := .aload_n 0) rfl (fun _ => rfl) ?_
    refine dp_s1 hF (i := .getfield 47) rfl (fun _ => rfl) ?_
    refine dp_s1 hF (i := .iconst 3) rfl (fun _ => rfl) ?_
    refine dp_s3 hF (i := .laload) rfl (fun _ => rfl) ?_
    refine dp_s1 hF (i := .lsub) rfl (fun _ => rfl) ?_
    exact dp_s0 hF (i := .lreturn) rfl (fun _ => rfl)
  refine dp_ifc ?_ ?_
  · refine dp_s1 hF (i := .lload 4) rfl (fun _ => rfl) ?_
    exact dp_s0 hF (i := .lreturn) rfl (fun _ => rfl)
  refine dp_s1 hF (i := .aload_n 0) rfl (fun _ => rfl) ?_
  refine dp_s1 hF (i := .getfield 47) rfl (fun _ => rfl) ?_
  refine dp_s1 hF (i := .iload_n 2) rfl (fun _ => rfl) ?_
  refine dp_s3 hF (i := .laload) rfl (fun _ => rfl) ?_
  exact dp_s0 hF (i := .lreturn) rfl (fun _ => rfl)
noncomputable def D_X3_deal_0 (xs : Nat → Int32) (xl d : Nat) (v1 : Int32) (v2 : Int64) (M : dp_M) : Option dp_Res := dp_lim true xs xl (dp_den true xs xl d) dp_m_X3_deal (0, [some (.ref 97), some (.int v1), some (.long v2), none, none, none, none, none, none, none, none], [], M)
noncomputable def D_X3_deal_6 (xs : Nat → Int32) (xl d : Nat) (v1 : Int32) (v2 : Int64) (v4 : Int64) (v6 : Int32) (M : dp_M) : Option dp_Res := dp_lim true xs xl (dp_den true xs xl d) dp_m_X3_deal (6, [some (.ref 97), some (.int v1), some (.long v2), none, some (.long v4), none, some (.int v6), none, none, none, none], [], M)
noncomputable def D_X3_deal_52 (xs : Nat → Int32) (xl d : Nat) (v1 : Int32) (v2 : Int64) (v4 : Int64) (v6 : Int64) (v8 : Int32) (M : dp_M) : Option dp_Res := dp_lim true xs xl (dp_den true xs xl d) dp_m_X3_deal (52, [some (.ref 97), some (.int v1), some (.long v2), none, some (.long v4), none, some (.long v6), none, some (.int v8), none, none], [], M)
noncomputable def D_X3_deal_141 (xs : Nat → Int32) (xl d : Nat) (v1 : Int32) (v2 : Int64) (v4 : Int64) (v6 : Int64) (v8 : Int32) (M : dp_M) : Option dp_Res := dp_lim true xs xl (dp_den true xs xl d) dp_m_X3_deal (141, [some (.ref 97), some (.int v1), some (.long v2), none, some (.long v4), none, some (.long v6), none, some (.int v8), none, none], [], M)
noncomputable def D_X3_deal_96 (xs : Nat → Int32) (xl d : Nat) (v1 : Int32) (v2 : Int64) (v4 : Int64) (v6 : Int64) (v8 : Int32) (v9 : Int64) (vs0 : Int64) (vs1 : Int32) (M : dp_M) : Option dp_Res := dp_lim true xs xl (dp_den true xs xl d) dp_m_X3_deal (96, [some (.ref 97), some (.int v1), some (.long v2), none, some (.long v4), none, some (.long v6), none, some (.int v8), some (.long v9), none], [.long vs0, .int vs1, .ref 106], M)
noncomputable def D_X3_deal_52_a (xs : Nat → Int32) (xl d : Nat) (v1 : Int32) (v2 : Int64) (v4 : Int64) (v6 : Int64) (v8 : Int32) (v9 : Int64) (M : dp_M) : Option dp_Res := dp_lim true xs xl (dp_den true xs xl d) dp_m_X3_deal (52, [some (.ref 97), some (.int v1), some (.long v2), none, some (.long v4), none, some (.long v6), none, some (.int v8), some (.long v9), none], [], M)
noncomputable def D_X3_deal_141_a (xs : Nat → Int32) (xl d : Nat) (v1 : Int32) (v2 : Int64) (v4 : Int64) (v6 : Int64) (v8 : Int32) (v9 : Int64) (M : dp_M) : Option dp_Res := dp_lim true xs xl (dp_den true xs xl d) dp_m_X3_deal (141, [some (.ref 97), some (.int v1), some (.long v2), none, some (.long v4), none, some (.long v6), none, some (.int v8), some (.long v9), none], [], M)
theorem D_X3_deal_0_den (xs : Nat → Int32) (xl d : Nat) (a0 : Int32) (a1 : Int64) (M : dp_M) : dp_den true xs xl (d + 1) 101 [.ref 97, .int a0, .long a1] M = D_X3_deal_0 xs xl d a0 a1 M := rfl
set_option maxRecDepth 20000 in
theorem D_X3_deal_0_eq (xs : Nat → Int32) (xl d : Nat) (v1 : Int32) (v2 : Int64) (M : dp_M) : D_X3_deal_0 xs xl d v1 v2 M = dp_w (0 : Int64) (fun y1 => dp_w (0 : Int32) (fun y2 => D_X3_deal_6 xs xl d v1 v2 y1 y2 M)) := by
  have hF := dp_den_grow (md := true) (xs := xs) (xl := xl) d
  unfold D_X3_deal_0
  refine dp_s1 hF (i := .lconst 0) rfl (fun _ => rfl) ?_
  refine dp_s1w (0 : Int64) (fun (y1 : Int64) => (3, [some (.ref 97), some (.int v1), some (.long v2), none, some (.long y1), none, none, none, none, none, none], [], M)) hF (i := .lstore 4) rfl (fun _ => rfl) (fun y1 => ?_)
  refine dp_s1 hF (i := .iconst 0) rfl (fun _ => rfl) ?_
  refine dp_s1w (0 : Int32) (fun (y2 : Int32) => (6, [some (.ref 97), some (.int v1), some (.long v2), none, some (.long y1), none, some (.int y2), none, none, none, none], [], M)) hF (i := .istore 6) rfl (fun _ => rfl) (fun y2 => ?_)
  exact rfl
set_option maxRecDepth 20000 in
theorem D_X3_deal_6_eq (xs : Nat → Int32) (xl d : Nat) (v1 : Int32) (v2 : Int64) (v4 : Int64) (v6 : Int32) (M : dp_M) : D_X3_deal_6 xs xl d v1 v2 v4 v6 M = if (4 : Int32) ≤ v6 then (if (lg_cmp v4 (0 : Int64)) ≤ 0 then (dp_w (0 : Int64) (fun y1 => dp_w (0 : Int32) (fun y2 => D_X3_deal_52 xs xl d v1 v2 v4 y1 y2 M))) else (dp_w (0 : Int32) (fun y3 => D_X3_deal_52 xs xl d v1 v2 v4 v2 y3 M))) else (if ((v1 * (4 : Int32)) + v6) < 0 ∨ 16 ≤ Int32.toNatClampNeg ((v1 * (4 : Int32)) + v6) then none else (dp_w (v4 + (Int32.toInt64 (dp_I M 98 (Int32.toNatClampNeg ((v1 * (4 : Int32)) + v6))))) (fun y4 => dp_w (v6 + (1 : Int32)) (fun y5 => D_X3_deal_6 xs xl d v1 v2 y4 y5 M)))) := by
  have hF := dp_den_grow (md := true) (xs := xs) (xl := xl) d
  unfold D_X3_deal_6
  refine dp_s1 hF (i := .iload 6) rfl (fun _ => rfl) ?_
  refine dp_s1 hF (i := .iconst 4) rfl (fun _ => rfl) ?_
  refine dp_s2 hF (i := .if_icmp .ge 26) (a := (35, [some (.ref 97), some (.int v1), some (.long v2), none, some (.long v4), none, some (.int v6), none, none, none, none], [], M)) (b := (12, [some (.ref 97), some (.int v1), some (.long v2), none, some (.long v4), none, some (.int v6), none, none, none, none], [], M)) rfl (fun _ => rfl) ?_ ?_
  · refine dp_s1 hF (i := .lload 4) rfl (fun _ => rfl) ?_
    refine dp_s1 hF (i := .lconst 0) rfl (fun _ => rfl) ?_
    refine dp_s1 hF (i := .lcmp) rfl (fun _ => rfl) ?_
    refine dp_s2 hF (i := .ifCond .le 7) (a := (46, [some (.ref 97), some (.int v1), some (.long v2), none, some (.long v4), none, some (.int v6), none, none, none, none], [], M)) (b := (42, [some (.ref 97), some (.int v1), some (.long v2), none, some (.long v4), none, some (.int v6), none, none, none, none], [], M)) rfl (fun _ => rfl) ?_ ?_
    · refine dp_s1 hF (i := .lconst 0) rfl (fun _ => rfl) ?_
      refine dp_s1w (0 : Int64) (fun (y1 : Int64) => (49, [some (.ref 97), some (.int v1), some (.long v2), none, some (.long v4), none, some (.long y1), none, none, none, none], [], M)) hF (i := .lstore 6) rfl (fun _ => rfl) (fun y1 => ?_)
      refine dp_s1 hF (i := .iconst 0) rfl (fun _ => rfl) ?_
      refine dp_s1w (0 : Int32) (fun (y2 : Int32) => (52, [some (.ref 97), some (.int v1), some (.long v2), none, some (.long v4), none, some (.long y1), none, some (.int y2), none, none], [], M)) hF (i := .istore 8) rfl (fun _ => rfl) (fun y2 => ?_)
      exact rfl
    refine dp_s1 hF (i := .lload_n 2) rfl (fun _ => rfl) ?_
    refine dp_s1 hF (i := .goto 4) rfl (fun _ => rfl) ?_
    refine dp_s1 hF (i := .lstore 6) rfl (fun _ => rfl) ?_
    refine dp_s1 hF (i := .iconst 0) rfl (fun _ => rfl) ?_
    refine dp_s1w (0 : Int32) (fun (y3 : Int32) => (52, [some (.ref 97), some (.int v1), some (.long v2), none, some (.long v4), none, some (.long v2), none, some (.int y3), none, none], [], M)) hF (i := .istore 8) rfl (fun _ => rfl) (fun y3 => ?_)
    exact rfl
  refine dp_s1 hF (i := .lload 4) rfl (fun _ => rfl) ?_
  refine dp_s1 hF (i := .aload_n 0) rfl (fun _ => rfl) ?_
  refine dp_s1 hF (i := .getfield 21) rfl (fun _ => rfl) ?_
  refine dp_s1 hF (i := .iload_n 1) rfl (fun _ => rfl) ?_
  refine dp_s1 hF (i := .iconst 4) rfl (fun _ => rfl) ?_
  refine dp_s1 hF (i := .imul) rfl (fun _ => rfl) ?_
  refine dp_s1 hF (i := .iload 6) rfl (fun _ => rfl) ?_
  refine dp_s1 hF (i := .iadd) rfl (fun _ => rfl) ?_
  refine dp_s3 hF (i := .iaload) rfl (fun _ => rfl) ?_
  refine dp_s1 hF (i := .i2l) rfl (fun _ => rfl) ?_
  refine dp_s1 hF (i := .ladd) rfl (fun _ => rfl) ?_
  refine dp_s1w (v4 + (Int32.toInt64 (dp_I M 98 (Int32.toNatClampNeg ((v1 * (4 : Int32)) + v6))))) (fun (y4 : Int64) => (29, [some (.ref 97), some (.int v1), some (.long v2), none, some (.long y4), none, some (.int v6), none, none, none, none], [], M)) hF (i := .lstore 4) rfl (fun _ => rfl) (fun y4 => ?_)
  refine dp_s1w (v6 + (1 : Int32)) (fun (y5 : Int32) => (32, [some (.ref 97), some (.int v1), some (.long v2), none, some (.long y4), none, some (.int y5), none, none, none, none], [], M)) hF (i := .iinc 6 1) rfl (fun _ => rfl) (fun y5 => ?_)
  refine dp_s1 hF (i := .goto (-26)) rfl (fun _ => rfl) ?_
  exact rfl
set_option maxRecDepth 20000 in
theorem D_X3_deal_52_eq (xs : Nat → Int32) (xl d : Nat) (v1 : Int32) (v2 : Int64) (v4 : Int64) (v6 : Int64) (v8 : Int32) (M : dp_M) : D_X3_deal_52 xs xl d v1 v2 v4 v6 v8 M = if (4 : Int32) ≤ v8 then (dp_w (0 : Int32) (fun y1 => D_X3_deal_141 xs xl d v1 v2 v4 v6 y1 M)) else (if ((v1 * (4 : Int32)) + v8) < 0 ∨ 16 ≤ Int32.toNatClampNeg ((v1 * (4 : Int32)) + v8) then none else (dp_w (v2 * (Int32.toInt64 (dp_I M 98 (Int32.toNatClampNeg ((v1 * (4 : Int32)) + v8))))) (fun y2 => if (lg_cmp v4 (0 : Int64)) ≤ 0 then (D_X3_deal_96 xs xl d v1 v2 v4 v6 v8 y2 (0 : Int64) v8 M) else (if v4 = 0 then none else (D_X3_deal_96 xs xl d v1 v2 v4 v6 v8 y2 (y2 / v4) v8 M))))) := by
  have hF := dp_den_grow (md := true) (xs := xs) (xl := xl) d
  unfold D_X3_deal_52
  refine dp_s1 hF (i := .iload 8) rfl (fun _ => rfl) ?_
  refine dp_s1 hF (i := .iconst 4) rfl (fun _ => rfl) ?_
  refine dp_s2 hF (i := .if_icmp .ge 83) (a := (138, [some (.ref 97), some (.int v1), some (.long v2), none, some (.long v4), none, some (.long v6), none, some (.int v8), none, none], [], M)) (b := (58, [some (.ref 97), some (.int v1), some (.long v2), none, some (.long v4), none, some (.long v6), none, some (.int v8), none, none], [], M)) rfl (fun _ => rfl) ?_ ?_
  · refine dp_s1 hF (i := .iconst 0) rfl (fun _ => rfl) ?_
    refine dp_s1w (0 : Int32) (fun (y1 : Int32) => (141, [some (.ref 97), some (.int v1), some (.long v2), none, some (.long v4), none, some (.long v6), none, some (.int y1), none, none], [], M)) hF (i := .istore 8) rfl (fun _ => rfl) (fun y1 => ?_)
    exact rfl
  refine dp_s1 hF (i := .lload_n 2) rfl (fun _ => rfl) ?_
  refine dp_s1 hF (i := .aload_n 0) rfl (fun _ => rfl) ?_
  refine dp_s1 hF (i := .getfield 21) rfl (fun _ => rfl) ?_
  refine dp_s1 hF (i := .iload_n 1) rfl (fun _ => rfl) ?_
  refine dp_s1 hF (i := .iconst 4) rfl (fun _ => rfl) ?_
  refine dp_s1 hF (i := .imul) rfl (fun _ => rfl) ?_
  refine dp_s1 hF (i := .iload 8) rfl (fun _ => rfl) ?_
  refine dp_s1 hF (i := .iadd) rfl (fun _ => rfl) ?_
  refine dp_s3 hF (i := .iaload) rfl (fun _ => rfl) ?_
  refine dp_s1 hF (i := .i2l) rfl (fun _ => rfl) ?_
  refine dp_s1 hF (i := .lmul) rfl (fun _ => rfl) ?_
  refine dp_s1w (v2 * (Int32.toInt64 (dp_I M 98 (Int32.toNatClampNeg ((v1 * (4 : Int32)) + v8))))) (fun (y2 : Int64) => (74, [some (.ref 97), some (.int v1), some (.long v2), none, some (.long v4), none, some (.long v6), none, some (.int v8), some (.long y2), none], [], M)) hF (i := .lstore 9) rfl (fun _ => rfl) (fun y2 => ?_)
  refine dp_s1 hF (i := .aload_n 0) rfl (fun _ => rfl) ?_
  refine dp_s1 hF (i := .getfield 47) rfl (fun _ => rfl) ?_
  refine dp_s1 hF (i := .iload 8) rfl (fun _ => rfl) ?_
  refine dp_s1 hF (i := .lload 4) rfl (fun _ => rfl) ?_
  refine dp_s1 hF (i := .lconst 0) rfl (fun _ => rfl) ?_
  refine dp_s1 hF (i := .lcmp) rfl (fun _ => rfl) ?_
  refine dp_s2 hF (i := .ifCond .le 11) (a := (95, [some (.ref 97), some (.int v1), some (.long v2), none, some (.long v4), none, some (.long v6), none, some (.int v8), some (.long y2), none], [.int v8, .ref 106], M)) (b := (87, [some (.ref 97), some (.int v1), some (.long v2), none, some (.long v4), none, some (.long v6), none, some (.int v8), some (.long y2), none], [.int v8, .ref 106], M)) rfl (fun _ => rfl) ?_ ?_
  · refine dp_s1 hF (i := .lconst 0) rfl (fun _ => rfl) ?_
    exact rfl
  refine dp_s1 hF (i := .lload 9) rfl (fun _ => rfl) ?_
  refine dp_s1 hF (i := .lload 4) rfl (fun _ => rfl) ?_
  refine dp_s3 hF (i := .ldiv) rfl (fun _ => rfl) ?_
  refine dp_s1 hF (i := .goto 4) rfl (fun _ => rfl) ?_
  exact rfl
set_option maxRecDepth 20000 in
theorem D_X3_deal_141_eq (xs : Nat → Int32) (xl d : Nat) (v1 : Int32) (v2 : Int64) (v4 : Int64) (v6 : Int64) (v8 : Int32) (M : dp_M) : D_X3_deal_141 xs xl d v1 v2 v4 v6 v8 M = if (4 : Int32) ≤ v8 then (some (.inl none, M)) else (if (lg_cmp v6 (0 : Int64)) ≤ 0 then (some (.inl none, M)) else (dp_bv (dp_den true xs xl d 102 [.ref 97] M) (fun M1 => dp_w (v6 - (1 : Int64)) (fun y2 => dp_w (v8 + (1 : Int32)) (fun y3 => D_X3_deal_141 xs xl d v1 v2 v4 y2 y3 M1))))) := by
  have hF := dp_den_grow (md := true) (xs := xs) (xl := xl) d
  unfold D_X3_deal_141
  refine dp_s1 hF (i := .iload 8) rfl (fun _ => rfl) ?_
  refine dp_s1 hF (i := .iconst 4) rfl (fun _ => rfl) ?_
  refine dp_s2 hF (i := .if_icmp .ge 26) (a := (170, [some (.ref 97), some (.int v1), some (.long v2), none, some (.long v4), none, some (.long v6), none, some (.int v8), none, none], [], M)) (b := (147, [some (.ref 97), some (.int v1), some (.long v2), none, some (.long v4), none, some (.long v6), none, some (.int v8), none, none], [], M)) rfl (fun _ => rfl) ?_ ?_
  · exact dp_s0 hF (i := .return_) rfl (fun _ => rfl)
  refine dp_s1 hF (i := .lload 6) rfl (fun _ => rfl) ?_
  refine dp_s1 hF (i := .lconst 0) rfl (fun _ => rfl) ?_
  refine dp_s1 hF (i := .lcmp) rfl (fun _ => rfl) ?_
  refine dp_s2 hF (i := .ifCond .le 19) (a := (170, [some (.ref 97), some (.int v1), some (.long v2), none, some (.long v4), none, some (.long v6), none, some (.int v8), none, none], [], M)) (b := (154, [some (.ref 97), some (.int v1), some (.long v2), none, some (.long v4), none, some (.long v6), none, some (.int v8), none, none], [], M)) rfl (fun _ => rfl) ?_ ?_
  · exact dp_s0 hF (i := .return_) rfl (fun _ => rfl)
  refine dp_s1 hF (i := .aload_n 0) rfl (fun _ => rfl) ?_
  refine dp_sv (mj := dp_m_X3_giveOneMore) (i := .invokevirtual 142) rfl rfl rfl rfl (fun _ => rfl) (fun M1 => ?_)
  refine dp_s1 hF (i := .lload 6) rfl (fun _ => rfl) ?_
  refine dp_s1 hF (i := .lconst 1) rfl (fun _ => rfl) ?_
  refine dp_s1 hF (i := .lsub) rfl (fun _ => rfl) ?_
  refine dp_s1w (v6 - (1 : Int64)) (fun (y2 : Int64) => (164, [some (.ref 97), some (.int v1), some (.long v2), none, some (.long v4), none, some (.long y2), none, some (.int v8), none, none], [], M1)) hF (i := .lstore 6) rfl (fun _ => rfl) (fun y2 => ?_)
  refine dp_s1w (v8 + (1 : Int32)) (fun (y3 : Int32) => (167, [some (.ref 97), some (.int v1), some (.long v2), none, some (.long v4), none, some (.long y2), none, some (.int y3), none, none], [], M1)) hF (i := .iinc 8 1) rfl (fun _ => rfl) (fun y3 => ?_)
  refine dp_s1 hF (i := .goto (-26)) rfl (fun _ => rfl) ?_
  exact rfl
set_option maxRecDepth 20000 in
theorem D_X3_deal_96_eq (xs : Nat → Int32) (xl d : Nat) (v1 : Int32) (v2 : Int64) (v4 : Int64) (v6 : Int64) (v8 : Int32) (v9 : Int64) (vs0 : Int64) (vs1 : Int32) (M : dp_M) : D_X3_deal_96 xs xl d v1 v2 v4 v6 v8 v9 vs0 vs1 M = if vs1 < 0 ∨ 4 ≤ Int32.toNatClampNeg vs1 then none else dp_w (dp_setJ M 106 (Int32.toNatClampNeg vs1) vs0) (fun M1 => if (lg_cmp v4 (0 : Int64)) ≤ 0 then (if v8 < 0 ∨ 4 ≤ Int32.toNatClampNeg v8 then none else dp_w (dp_setJ M1 107 (Int32.toNatClampNeg v8) (0 : Int64)) (fun M2 => if v8 < 0 ∨ 4 ≤ Int32.toNatClampNeg v8 then none else (dp_w (v6 - (dp_J M2 106 (Int32.toNatClampNeg v8))) (fun y3 => dp_w (v8 + (1 : Int32)) (fun y4 => D_X3_deal_52_a xs xl d v1 v2 v4 y3 y4 v9 M2))))) else (if v4 = 0 then none else (if v8 < 0 ∨ 4 ≤ Int32.toNatClampNeg v8 then none else dp_w (dp_setJ M1 107 (Int32.toNatClampNeg v8) (v9 - v9 / v4 * v4)) (fun M5 => if v8 < 0 ∨ 4 ≤ Int32.toNatClampNeg v8 then none else (dp_w (v6 - (dp_J M5 106 (Int32.toNatClampNeg v8))) (fun y6 => dp_w (v8 + (1 : Int32)) (fun y7 => D_X3_deal_52_a xs xl d v1 v2 v4 y6 y7 v9 M5))))))) := by
  have hF := dp_den_grow (md := true) (xs := xs) (xl := xl) d
  unfold D_X3_deal_96
  refine dp_s3w (dp_setJ M 106 (Int32.toNatClampNeg vs1) vs0) (fun (M1 : dp_M) => (97, [some (.ref 97), some (.int v1), some (.long v2), none, some (.long v4), none, some (.long v6), none, some (.int v8), some (.long v9), none], [], M1)) hF (i := .lastore) rfl (fun _ => rfl) (fun M1 => ?_)
  refine dp_s1 hF (i := .aload_n 0) rfl (fun _ => rfl) ?_
  refine dp_s1 hF (i := .getfield 50) rfl (fun _ => rfl) ?_
  refine dp_s1 hF (i := .iload 8) rfl (fun _ => rfl) ?_
  refine dp_s1 hF (i := .lload 4) rfl (fun _ => rfl) ?_
  refine dp_s1 hF (i := .lconst 0) rfl (fun _ => rfl) ?_
  refine dp_s1 hF (i := .lcmp) rfl (fun _ => rfl) ?_
  refine dp_s2 hF (i := .ifCond .le 11) (a := (118, [some (.ref 97), some (.int v1), some (.long v2), none, some (.long v4), none, some (.long v6), none, some (.int v8), some (.long v9), none], [.int v8, .ref 107], M1)) (b := (110, [some (.ref 97), some (.int v1), some (.long v2), none, some (.long v4), none, some (.long v6), none, some (.int v8), some (.long v9), none], [.int v8, .ref 107], M1)) rfl (fun _ => rfl) ?_ ?_
  · refine dp_s1 hF (i := .lconst 0) rfl (fun _ => rfl) ?_
    refine dp_s3w (dp_setJ M1 107 (Int32.toNatClampNeg v8) (0 : Int64)) (fun (M2 : dp_M) => (120, [some (.ref 97), some (.int v1), some (.long v2), none, some (.long v4), none, some (.long v6), none, some (.int v8), some (.long v9), none], [], M2)) hF (i := .lastore) rfl (fun _ => rfl) (fun M2 => ?_)
    refine dp_s1 hF (i := .lload 6) rfl (fun _ => rfl) ?_
    refine dp_s1 hF (i := .aload_n 0) rfl (fun _ => rfl) ?_
    refine dp_s1 hF (i := .getfield 47) rfl (fun _ => rfl) ?_
    refine dp_s1 hF (i := .iload 8) rfl (fun _ => rfl) ?_
    refine dp_s3 hF (i := .laload) rfl (fun _ => rfl) ?_
    refine dp_s1 hF (i := .lsub) rfl (fun _ => rfl) ?_
    refine dp_s1w (v6 - (dp_J M2 106 (Int32.toNatClampNeg v8))) (fun (y3 : Int64) => (132, [some (.ref 97), some (.int v1), some (.long v2), none, some (.long v4), none, some (.long y3), none, some (.int v8), some (.long v9), none], [], M2)) hF (i := .lstore 6) rfl (fun _ => rfl) (fun y3 => ?_)
    refine dp_s1w (v8 + (1 : Int32)) (fun (y4 : Int32) => (135, [some (.ref 97), some (.int v1), some (.long v2), none, some (.long v4), none, some (.long y3), none, some (.int y4), some (.long v9), none], [], M2)) hF (i := .iinc 8 1) rfl (fun _ => rfl) (fun y4 => ?_)
    refine dp_s1 hF (i := .goto (-83)) rfl (fun _ => rfl) ?_
    exact rfl
  refine dp_s1 hF (i := .lload 9) rfl (fun _ => rfl) ?_
  refine dp_s1 hF (i := .lload 4) rfl (fun _ => rfl) ?_
  refine dp_s3 hF (i := .lrem) rfl (fun _ => rfl) ?_
  refine dp_s1 hF (i := .goto 4) rfl (fun _ => rfl) ?_
  refine dp_s3w (dp_setJ M1 107 (Int32.toNatClampNeg v8) (v9 - v9 / v4 * v4)) (fun (M5 : dp_M) => (120, [some (.ref 97), some (.int v1), some (.long v2), none, some (.long v4), none, some (.long v6), none, some (.int v8), some (.long v9), none], [], M5)) hF (i := .lastore) rfl (fun _ => rfl) (fun M5 => ?_)
  refine dp_s1 hF (i := .lload 6) rfl (fun _ => rfl) ?_
  refine dp_s1 hF (i := .aload_n 0) rfl (fun _ => rfl) ?_
  refine dp_s1 hF (i := .getfield 47) rfl (fun _ => rfl) ?_
  refine dp_s1 hF (i := .iload 8) rfl (fun _ => rfl) ?_
  refine dp_s3 hF (i := .laload) rfl (fun _ => rfl) ?_
  refine dp_s1 hF (i := .lsub) rfl (fun _ => rfl) ?_
  refine dp_s1w (v6 - (dp_J M5 106 (Int32.toNatClampNeg v8))) (fun (y6 : Int64) => (132, [some (.ref 97), some (.int v1), some (.long v2), none, some (.long v4), none, some (.long y6), none, some (.int v8), some (.long v9), none], [], M5)) hF (i := .lstore 6) rfl (fun _ => rfl) (fun y6 => ?_)
  refine dp_s1w (v8 + (1 : Int32)) (fun (y7 : Int32) => (135, [some (.ref 97), some (.int v1), some (.long v2), none, some (.long v4), none, some (.long y6), none, some (.int y7), some (.long v9), none], [], M5)) hF (i := .iinc 8 1) rfl (fun _ => rfl) (fun y7 => ?_)
  refine dp_s1 hF (i := .goto (-83)) rfl (fun _ => rfl) ?_
  exact rfl
set_option maxRecDepth 20000 in
theorem D_X3_deal_52_a_eq (xs : Nat → Int32) (xl d : Nat) (v1 : Int32) (v2 : Int64) (v4 : Int64) (v6 : Int64) (v8 : Int32) (v9 : Int64) (M : dp_M) : D_X3_deal_52_a xs xl d v1 v2 v4 v6 v8 v9 M = if (4 : Int32) ≤ v8 then (dp_w (0 : Int32) (fun y1 => D_X3_deal_141_a xs xl d v1 v2 v4 v6 y1 v9 M)) else (if ((v1 * (4 : Int32)) + v8) < 0 ∨ 16 ≤ Int32.toNatClampNeg ((v1 * (4 : Int32)) + v8) then none else (dp_w (v2 * (Int32.toInt64 (dp_I M 98 (Int32.toNatClampNeg ((v1 * (4 : Int32)) + v8))))) (fun y2 => if (lg_cmp v4 (0 : Int64)) ≤ 0 then (D_X3_deal_96 xs xl d v1 v2 v4 v6 v8 y2 (0 : Int64) v8 M) else (if v4 = 0 then none else (D_X3_deal_96 xs xl d v1 v2 v4 v6 v8 y2 (y2 / v4) v8 M))))) := by
  have hF := dp_den_grow (md := true) (xs := xs) (xl := xl) d
  unfold D_X3_deal_52_a
  refine dp_s1 hF (i := .iload 8) rfl (fun _ => rfl) ?_
  refine dp_s1 hF (i := .iconst 4) rfl (fun _ => rfl) ?_
  refine dp_s2 hF (i := .if_icmp .ge 83) (a := (138, [some (.ref 97), some (.int v1), some (.long v2), none, some (.long v4), none, some (.long v6), none, some (.int v8), some (.long v9), none], [], M)) (b := (58, [some (.ref 97), some (.int v1), some (.long v2), none, some (.long v4), none, some (.long v6), none, some (.int v8), some (.long v9), none], [], M)) rfl (fun _ => rfl) ?_ ?_
  · refine dp_s1 hF (i := .iconst 0) rfl (fun _ => rfl) ?_
    refine dp_s1w (0 : Int32) (fun (y1 : Int32) => (141, [some (.ref 97), some (.int v1), some (.long v2), none, some (.long v4), none, some (.long v6), none, some (.int y1), some (.long v9), none], [], M)) hF (i := .istore 8) rfl (fun _ => rfl) (fun y1 => ?_)
    exact rfl
  refine dp_s1 hF (i := .lload_n 2) rfl (fun _ => rfl) ?_
  refine dp_s1 hF (i := .aload_n 0) rfl (fun _ => rfl) ?_
  refine dp_s1 hF (i := .getfield 21) rfl (fun _ => rfl) ?_
  refine dp_s1 hF (i := .iload_n 1) rfl (fun _ => rfl) ?_
  refine dp_s1 hF (i := .iconst 4) rfl (fun _ => rfl) ?_
  refine dp_s1 hF (i := .imul) rfl (fun _ => rfl) ?_
  refine dp_s1 hF (i := .iload 8) rfl (fun _ => rfl) ?_
  refine dp_s1 hF (i := .iadd) rfl (fun _ => rfl) ?_
  refine dp_s3 hF (i := .iaload) rfl (fun _ => rfl) ?_
  refine dp_s1 hF (i := .i2l) rfl (fun _ => rfl) ?_
  refine dp_s1 hF (i := .lmul) rfl (fun _ => rfl) ?_
  refine dp_s1w (v2 * (Int32.toInt64 (dp_I M 98 (Int32.toNatClampNeg ((v1 * (4 : Int32)) + v8))))) (fun (y2 : Int64) => (74, [some (.ref 97), some (.int v1), some (.long v2), none, some (.long v4), none, some (.long v6), none, some (.int v8), some (.long y2), none], [], M)) hF (i := .lstore 9) rfl (fun _ => rfl) (fun y2 => ?_)
  refine dp_s1 hF (i := .aload_n 0) rfl (fun _ => rfl) ?_
  refine dp_s1 hF (i := .getfield 47) rfl (fun _ => rfl) ?_
  refine dp_s1 hF (i := .iload 8) rfl (fun _ => rfl) ?_
  refine dp_s1 hF (i := .lload 4) rfl (fun _ => rfl) ?_
  refine dp_s1 hF (i := .lconst 0) rfl (fun _ => rfl) ?_
  refine dp_s1 hF (i := .lcmp) rfl (fun _ => rfl) ?_
  refine dp_s2 hF (i := .ifCond .le 11) (a := (95, [some (.ref 97), some (.int v1), some (.long v2), none, some (.long v4), none, some (.long v6), none, some (.int v8), some (.long y2), none], [.int v8, .ref 106], M)) (b := (87, [some (.ref 97), some (.int v1), some (.long v2), none, some (.long v4), none, some (.long v6), none, some (.int v8), some (.long y2), none], [.int v8, .ref 106], M)) rfl (fun _ => rfl) ?_ ?_
  · refine dp_s1 hF (i := .lconst 0) rfl (fun _ => rfl) ?_
    exact rfl
  refine dp_s1 hF (i := .lload 9) rfl (fun _ => rfl) ?_
  refine dp_s1 hF (i := .lload 4) rfl (fun _ => rfl) ?_
  refine dp_s3 hF (i := .ldiv) rfl (fun _ => rfl) ?_
  refine dp_s1 hF (i := .goto 4) rfl (fun _ => rfl) ?_
  exact rfl
set_option maxRecDepth 20000 in
theorem D_X3_deal_141_a_eq (xs : Nat → Int32) (xl d : Nat) (v1 : Int32) (v2 : Int64) (v4 : Int64) (v6 : Int64) (v8 : Int32) (v9 : Int64) (M : dp_M) : D_X3_deal_141_a xs xl d v1 v2 v4 v6 v8 v9 M = if (4 : Int32) ≤ v8 then (some (.inl none, M)) else (if (lg_cmp v6 (0 : Int64)) ≤ 0 then (some (.inl none, M)) else (dp_bv (dp_den true xs xl d 102 [.ref 97] M) (fun M1 => dp_w (v6 - (1 : Int64)) (fun y2 => dp_w (v8 + (1 : Int32)) (fun y3 => D_X3_deal_141_a xs xl d v1 v2 v4 y2 y3 v9 M1))))) := by
  have hF := dp_den_grow (md := true) (xs := xs) (xl := xl) d
  unfold D_X3_deal_141_a
  refine dp_s1 hF (i := .iload 8) rfl (fun _ => rfl) ?_
  refine dp_s1 hF (i := .iconst 4) rfl (fun _ => rfl) ?_
  refine dp_s2 hF (i := .if_icmp .ge 26) (a := (170, [some (.ref 97), some (.int v1), some (.long v2), none, some (.long v4), none, some (.long v6), none, some (.int v8), some (.long v9), none], [], M)) (b := (147, [some (.ref 97), some (.int v1), some (.long v2), none, some (.long v4), none, some (.long v6), none, some (.int v8), some (.long v9), none], [], M)) rfl (fun _ => rfl) ?_ ?_
  · exact dp_s0 hF (i := .return_) rfl (fun _ => rfl)
  refine dp_s1 hF (i := .lload 6) rfl (fun _ => rfl) ?_
  refine dp_s1 hF (i := .lconst 0) rfl (fun _ => rfl) ?_
  refine dp_s1 hF (i := .lcmp) rfl (fun _ => rfl) ?_
  refine dp_s2 hF (i := .ifCond .le 19) (a := (170, [some (.ref 97), some (.int v1), some (.long v2), none, some (.long v4), none, some (.long v6), none, some (.int v8), some (.long v9), none], [], M)) (b := (154, [some (.ref 97), some (.int v1), some (.long v2), none, some (.long v4), none, some (.long v6), none, some (.int v8), some (.long v9), none], [], M)) rfl (fun _ => rfl) ?_ ?_
  · exact dp_s0 hF (i := .return_) rfl (fun _ => rfl)
  refine dp_s1 hF (i := .aload_n 0) rfl (fun _ => rfl) ?_
  refine dp_sv (mj := dp_m_X3_giveOneMore) (i := .invokevirtual 142) rfl rfl rfl rfl (fun _ => rfl) (fun M1 => ?_)
  refine dp_s1 hF (i := .lload 6) rfl (fun _ => rfl) ?_
  refine dp_s1 hF (i := .lconst 1) rfl (fun _ => rfl) ?_
  refine dp_s1 hF (i := .lsub) rfl (fun _ => rfl) ?_
  refine dp_s1w (v6 - (1 : Int64)) (fun (y2 : Int64) => (164, [some (.ref 97), some (.int v1), some (.long v2), none, some (.long v4), none, some (.long y2), none, some (.int v8), some (.long v9), none], [], M1)) hF (i := .lstore 6) rfl (fun _ => rfl) (fun y2 => ?_)
  refine dp_s1w (v8 + (1 : Int32)) (fun (y3 : Int32) => (167, [some (.ref 97), some (.int v1), some (.long v2), none, some (.long v4), none, some (.long y2), none, some (.int y3), some (.long v9), none], [], M1)) hF (i := .iinc 8 1) rfl (fun _ => rfl) (fun y3 => ?_)
  refine dp_s1 hF (i := .goto (-26)) rfl (fun _ => rfl) ?_
  exact rfl
noncomputable def D_X3_giveOneMore_0 (xs : Nat → Int32) (xl d : Nat)  (M : dp_M) : Option dp_Res := dp_lim true xs xl (dp_den true xs xl d) dp_m_X3_giveOneMore (0, [some (.ref 97), none, none], [], M)
noncomputable def D_X3_giveOneMore_4 (xs : Nat → Int32) (xl d : Nat) (v1 : Int32) (v2 : Int32) (M : dp_M) : Option dp_Res := dp_lim true xs xl (dp_den true xs xl d) dp_m_X3_giveOneMore (4, [some (.ref 97), some (.int v1), some (.int v2)], [], M)
theorem D_X3_giveOneMore_0_den (xs : Nat → Int32) (xl d : Nat)  (M : dp_M) : dp_den true xs xl (d + 1) 102 [.ref 97] M = D_X3_giveOneMore_0 xs xl d  M := rfl
set_option maxRecDepth 20000 in
theorem D_X3_giveOneMore_0_eq (xs : Nat → Int32) (xl d : Nat)  (M : dp_M) : D_X3_giveOneMore_0 xs xl d  M = dp_w (0 : Int32) (fun y1 => dp_w (1 : Int32) (fun y2 => D_X3_giveOneMore_4 xs xl d y1 y2 M)) := by
  have hF := dp_den_grow (md := true) (xs := xs) (xl := xl) d
  unfold D_X3_giveOneMore_0
  refine dp_s1 hF (i := .iconst 0) rfl (fun _ => rfl) ?_
  refine dp_s1w (0 : Int32) (fun (y1 : Int32) => (2, [some (.ref 97), some (.int y1), none], [], M)) hF (i := .istore_n 1) rfl (fun _ => rfl) (fun y1 => ?_)
  refine dp_s1 hF (i := .iconst 1) rfl (fun _ => rfl) ?_
  refine dp_s1w (1 : Int32) (fun (y2 : Int32) => (4, [some (.ref 97), some (.int y1), some (.int y2)], [], M)) hF (i := .istore_n 2) rfl (fun _ => rfl) (fun y2 => ?_)
  exact rfl
set_option maxRecDepth 20000 in
theorem D_X3_giveOneMore_4_eq (xs : Nat → Int32) (xl d : Nat) (v1 : Int32) (v2 : Int32) (M : dp_M) : D_X3_giveOneMore_4 xs xl d v1 v2 M = if (4 : Int32) ≤ v2 then (if v1 < 0 ∨ 4 ≤ Int32.toNatClampNeg v1 then none else (if v1 < 0 ∨ 4 ≤ Int32.toNatClampNeg v1 then none else dp_w (dp_setJ M 106 (Int32.toNatClampNeg v1) ((dp_J M 106 (Int32.toNatClampNeg v1)) + (1 : Int64))) (fun M1 => if v1 < 0 ∨ 4 ≤ Int32.toNatClampNeg v1 then none else dp_w (dp_setJ M1 107 (Int32.toNatClampNeg v1) (-1 : Int64)) (fun M2 => some (.inl none, M2))))) else (if v2 < 0 ∨ 4 ≤ Int32.toNatClampNeg v2 then none else (if v1 < 0 ∨ 4 ≤ Int32.toNatClampNeg v1 then none else (if (lg_cmp (dp_J M 107 (Int32.toNatClampNeg v2)) (dp_J M 107 (Int32.toNatClampNeg v1))) ≤ 0 then (dp_w (v2 + (1 : Int32)) (fun y3 => D_X3_giveOneMore_4 xs xl d v1 y3 M)) else (dp_w (v2 + (1 : Int32)) (fun y4 => D_X3_giveOneMore_4 xs xl d v2 y4 M))))) := by
  have hF := dp_den_grow (md := true) (xs := xs) (xl := xl) d
  unfold D_X3_giveOneMore_4
  refine dp_s1 hF (i := .iload_n 2) rfl (fun _ => rfl) ?_
  refine dp_s1 hF (i := .iconst 4) rfl (fun _ => rfl) ?_
  refine dp_s2 hF (i := .if_icmp .ge 27) (a := (33, [some (.ref 97), some (.int v1), some (.int v2)], [], M)) (b := (9, [some (.ref 97), some (.int v1), some (.int v2)], [], M)) rfl (fun _ => rfl) ?_ ?_
  · refine dp_s1 hF (i := .aload_n 0) rfl (fun _ => rfl) ?_
    refine dp_s1 hF (i := .getfield 47) rfl (fun _ => rfl) ?_
    refine dp_s1 hF (i := .iload_n 1) rfl (fun _ => rfl) ?_
    refine dp_s1 hF (i := .dup2) rfl (fun _ => rfl) ?_
    refine dp_s3 hF (i := .laload) rfl (fun _ => rfl) ?_
    refine dp_s1 hF (i := .lconst 1) rfl (fun _ => rfl) ?_
    refine dp_s1 hF (i := .ladd) rfl (fun _ => rfl) ?_
    refine dp_s3w (dp_setJ M 106 (Int32.toNatClampNeg v1) ((dp_J M 106 (Int32.toNatClampNeg v1)) + (1 : Int64))) (fun (M1 : dp_M) => (43, [some (.ref 97), some (.int v1), some (.int v2)], [], M1)) hF (i := .lastore) rfl (fun _ => rfl) (fun M1 => ?_)
    refine dp_s1 hF (i := .aload_n 0) rfl (fun _ => rfl) ?_
    refine dp_s1 hF (i := .getfield 50) rfl (fun _ => rfl) ?_
    refine dp_s1 hF (i := .iload_n 1) rfl (fun _ => rfl) ?_
    refine dp_s1 hF (i := .ldc2_w 145) rfl (fun _ => rfl) ?_
    refine dp_s3w (dp_setJ M1 107 (Int32.toNatClampNeg v1) (-1 : Int64)) (fun (M2 : dp_M) => (52, [some (.ref 97), some (.int v1), some (.int v2)], [], M2)) hF (i := .lastore) rfl (fun _ => rfl) (fun M2 => ?_)
    exact dp_s0 hF (i := .return_) rfl (fun _ => rfl)
  refine dp_s1 hF (i := .aload_n 0) rfl (fun _ => rfl) ?_
  refine dp_s1 hF (i := .getfield 50) rfl (fun _ => rfl) ?_
  refine dp_s1 hF (i := .iload_n 2) rfl (fun _ => rfl) ?_
  refine dp_s3 hF (i := .laload) rfl (fun _ => rfl) ?_
  refine dp_s1 hF (i := .aload_n 0) rfl (fun _ => rfl) ?_
  refine dp_s1 hF (i := .getfield 50) rfl (fun _ => rfl) ?_
  refine dp_s1 hF (i := .iload_n 1) rfl (fun _ => rfl) ?_
  refine dp_s3 hF (i := .laload) rfl (fun _ => rfl) ?_
  refine dp_s1 hF (i := .lcmp) rfl (fun _ => rfl) ?_
  refine dp_s2 hF (i := .ifCond .le 5) (a := (27, [some (.ref 97), some (.int v1), some (.int v2)], [], M)) (b := (25, [some (.ref 97), some (.int v1), some (.int v2)], [], M)) rfl (fun _ => rfl) ?_ ?_
  · refine dp_s1w (v2 + (1 : Int32)) (fun (y3 : Int32) => (30, [some (.ref 97), some (.int v1), some (.int y3)], [], M)) hF (i := .iinc 2 1) rfl (fun _ => rfl) (fun y3 => ?_)
    refine dp_s1 hF (i := .goto (-26)) rfl (fun _ => rfl) ?_
    exact rfl
  refine dp_s1 hF (i := .iload_n 2) rfl (fun _ => rfl) ?_
  refine dp_s1 hF (i := .istore_n 1) rfl (fun _ => rfl) ?_
  refine dp_s1w (v2 + (1 : Int32)) (fun (y4 : Int32) => (30, [some (.ref 97), some (.int v2), some (.int y4)], [], M)) hF (i := .iinc 2 1) rfl (fun _ => rfl) (fun y4 => ?_)
  refine dp_s1 hF (i := .goto (-26)) rfl (fun _ => rfl) ?_
  exact rfl
