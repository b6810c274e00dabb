noncomputable def D_X12_reckonsDuty_0 (xs : Nat → Int32) (xl d : Nat) (v1 : Int32) (v2 : Int32) (M : dp_M) : Option dp_Res := dp_lim true xs xl (dp_den true xs xl d) dp_m_X12_reckonsDuty (0, [some (.ref 114), some (.int v1), some (.int v2), none, none, none, none, none, none, none, none, none, none, none, none, none], [], M)
noncomputable def D_X12_reckonsDuty_20 (xs : Nat → Int32) (xl d : Nat) (v1 : Int32) (v2 : Int32) (v3 : Int32) (vs0 : Int64) (M : dp_M) : Option dp_Res := dp_lim true xs xl (dp_den true xs xl d) dp_m_X12_reckonsDuty (20, [some (.ref 114), some (.int v1), some (.int v2), some (.int v3), none, none, none, none, none, none, none, none, none, none, none, none], [.long vs0], M)
noncomputable def D_X12_reckonsDuty_61 (xs : Nat → Int32) (xl d : Nat) (v1 : Int32) (v2 : Int32) (v3 : Int32) (v4 : Int64) (vs0 : Int64) (M : dp_M) : Option dp_Res := dp_lim true xs xl (dp_den true xs xl d) dp_m_X12_reckonsDuty (61, [some (.ref 114), some (.int v1), some (.int v2), some (.int v3), some (.long v4), none, none, none, none, none, none, none, none, none, none, none], [.long vs0], M)
noncomputable def D_X12_reckonsDuty_92 (xs : Nat → Int32) (xl d : Nat) (v1 : Int32) (v2 : Int32) (v3 : Int32) (v4 : Int64) (v6 : Int64) (v8 : Int64) (v10 : Int32) (M : dp_M) : Option dp_Res := dp_lim true xs xl (dp_den true xs xl d) dp_m_X12_reckonsDuty (92, [some (.ref 114), some (.int v1), some (.int v2), some (.int v3), some (.long v4), none, some (.long v6), none, some (.long v8), none, some (.int v10), none, none, none, none, none], [], M)
noncomputable def D_X12_reckonsDuty_172 (xs : Nat → Int32) (xl d : Nat) (v1 : Int32) (v2 : Int32) (v3 : Int32) (v4 : Int64) (v6 : Int64) (v8 : Int64) (v10 : Int32) (v11 : Int32) (vs0 : Int32) (M : dp_M) : Option dp_Res := dp_lim true xs xl (dp_den true xs xl d) dp_m_X12_reckonsDuty (172, [some (.ref 114), some (.int v1), some (.int v2), some (.int v3), some (.long v4), none, some (.long v6), none, some (.long v8), none, some (.int v10), some (.int v11), none, none, none, none], [.int vs0], M)
noncomputable def D_X12_reckonsDuty_92_a (xs : Nat → Int32) (xl d : Nat) (v1 : Int32) (v2 : Int32) (v3 : Int32) (v4 : Int64) (v6 : Int64) (v8 : Int64) (v10 : Int32) (v11 : Int32) (v12 : Int32) (M : dp_M) : Option dp_Res := dp_lim true xs xl (dp_den true xs xl d) dp_m_X12_reckonsDuty (92, [some (.ref 114), some (.int v1), some (.int v2), some (.int v3), some (.long v4), none, some (.long v6), none, some (.long v8), none, some (.int v10), some (.int v11), some (.int v12), none, none, none], [], M)
noncomputable def D_X12_reckonsDuty_221 (xs : Nat → Int32) (xl d : Nat) (v1 : Int32) (v2 : Int32) (v3 : Int32) (v4 : Int64) (v6 : Int64) (v8 : Int64) (v10 : Int32) (v11 : Int32) (v12 : Int32) (v13 : Int32) (M : dp_M) : Option dp_Res := dp_lim true xs xl (dp_den true xs xl d) dp_m_X12_reckonsDuty (221, [some (.ref 114), some (.int v1), some (.int v2), some (.int v3), some (.long v4), none, some (.long v6), none, some (.long v8), none, some (.int v10), some (.int v11), some (.int v12), some (.int v13), none, none], [], M)
noncomputable def D_X12_reckonsDuty_172_a (xs : Nat → Int32) (xl d : Nat) (v1 : Int32) (v2 : Int32) (v3 : Int32) (v4 : Int64) (v6 : Int64) (v8 : Int64) (v10 : Int32) (v11 : Int32) (v12 : Int32) (vs0 : Int32) (M : dp_M) : Option dp_Res := dp_lim true xs xl (dp_den true xs xl d) dp_m_X12_reckonsDuty (172, [some (.ref 114), some (.int v1), some (.int v2), some (.int v3), some (.long v4), none, some (.long v6), none, some (.long v8), none, some (.int v10), some (.int v11), some (.int v12), none, none, none], [.int vs0], M)
noncomputable def D_X12_reckonsDuty_92_b (xs : Nat → Int32) (xl d : Nat) (v1 : Int32) (v2 : Int32) (v3 : Int32) (v4 : Int64) (v6 : Int64) (v8 : Int64) (v10 : Int32) (v11 : Int32) (v12 : Int32) (v13 : Int64) (M : dp_M) : Option dp_Res := dp_lim true xs xl (dp_den true xs xl d) dp_m_X12_reckonsDuty (92, [some (.ref 114), some (.int v1), some (.int v2), some (.int v3), some (.long v4), none, some (.long v6), none, some (.long v8), none, some (.int v10), some (.int v11), some (.int v12), some (.long v13), none, none], [], M)
noncomputable def D_X12_reckonsDuty_221_a (xs : Nat → Int32) (xl d : Nat) (v1 : Int32) (v2 : Int32) (v3 : Int32) (v4 : Int64) (v6 : Int64) (v8 : Int64) (v10 : Int32) (v11 : Int32) (v12 : Int32) (v13 : Int32) (v14 : Int64) (M : dp_M) : Option dp_Res := dp_lim true xs xl (dp_den true xs xl d) dp_m_X12_reckonsDuty (221, [some (.ref 114), some (.int v1), some (.int v2), some (.int v3), some (.long v4), none, some (.long v6), none, some (.long v8), none, some (.int v10), some (.int v11), some (.int v12), some (.int v13), some (.long v14), none], [], M)
noncomputable def D_X12_reckonsDuty_172_b (xs : Nat → Int32) (xl d : Nat) (v1 : Int32) (v2 : Int32) (v3 : Int32) (v4 : Int64) (v6 : Int64) (v8 : Int64) (v10 : Int32) (v11 : Int32) (v12 : Int32) (v13 : Int64) (vs0 : Int32) (M : dp_M) : Option dp_Res := dp_lim true xs xl (dp_den true xs xl d) dp_m_X12_reckonsDuty (172, [some (.ref 114), some (.int v1), some (.int v2), some (.int v3), some (.long v4), none, some (.long v6), none, some (.long v8), none, some (.int v10), some (.int v11), some (.int v12), some (.long v13), none, none], [.int vs0], M)
set_option maxRecDepth 20000 in
theorem D_X12_reckonsDuty_0_eq (xs : Nat → Int32) (xl d : Nat) (v1 : Int32) (v2 : Int32) (M : dp_M) : D_X12_reckonsDuty_0 xs xl d v1 v2 M = dp_bi (dp_den true xs xl d 570 [.ref 114, .int v1] M) (fun r2 M1 => if 0 ≤ r2 then (if r2 < 0 ∨ 400 ≤ Int32.toNatClampNeg r2 then none else (D_X12_reckonsDuty_20 xs xl d v1 v2 r2 (dp_J M1 198 (Int32.toNatClampNeg r2)) M1)) else (D_X12_reckonsDuty_20 xs xl d v1 v2 r2 (0 : Int64) M1)) := by
  have hF := dp_den_grow (md := true) (xs := xs) (xl := xl) d
  unfold D_X12_reckonsDuty_0
  refine dp_s1 hF (i := .aload_n 0) rfl (fun _ => rfl) ?_
  refine dp_s1 hF (i := .iload_n 1) rfl (fun _ => rfl) ?_
  refine dp_si (mj := dp_m_X12_askFor) (i := .invokevirtual 1038) rfl (Or.inl rfl) rfl (fun _ => rfl) (fun r2 M1 => ?_)
  refine dp_s1 hF (i := .istore_n 3) rfl (fun _ => rfl) ?_
  refine dp_s1 hF (i := .iload_n 3) rfl (fun _ => rfl) ?_
  refine dp_s2 hF (i := .ifCond .ge 7) (a := (14, [some (.ref 114), some (.int v1), some (.int v2), some (.int r2), none, none, none, none, none, none, none, none, none, none, none, none], [], M1)) (b := (10, [some (.ref 114), some (.int v1), some (.int v2), some (.int r2), none, none, none, none, none, none, none, none, none, none, none, none], [], M1)) rfl (fun _ => rfl) ?_ ?_
  · refine dp_s1 hF (i := .aload_n 0) rfl (fun _ => rfl) ?_
    refine dp_s1 hF (i := .getfield 266) rfl (fun _ => rfl) ?_
    refine dp_s1 hF (i := .iload_n 3) rfl (fun _ => rfl) ?_
    refine dp_s3 hF (i := .laload) rfl (fun _ => rfl) ?_
    exact rfl
  refine dp_s1 hF (i := .lconst 0) rfl (fun _ => rfl) ?_
  refine dp_s1 hF (i := .goto 9) rfl (fun _ => rfl) ?_
  exact rfl
set_option maxRecDepth 20000 in
theorem D_X12_reckonsDuty_20_eq (xs : Nat → Int32) (xl d : Nat) (v1 : Int32) (v2 : Int32) (v3 : Int32) (vs0 : Int64) (M : dp_M) : D_X12_reckonsDuty_20 xs xl d v1 v2 v3 vs0 M = if v3 < 0 then (if 0 ≤ v3 then (if v3 < 0 ∨ 400 ≤ Int32.toNatClampNeg v3 then none else (D_X12_reckonsDuty_61 xs xl d v1 v2 v3 vs0 (dp_J M 200 (Int32.toNatClampNeg v3)) M)) else (D_X12_reckonsDuty_61 xs xl d v1 v2 v3 vs0 (0 : Int64) M)) else (if v3 < 0 ∨ 400 ≤ Int32.toNatClampNeg v3 then none else (if v3 < 0 ∨ 400 ≤ Int32.toNatClampNeg v3 then none else (if (dp_I M 197 (Int32.toNatClampNeg v3)) < 0 ∨ 16 ≤ Int32.toNatClampNeg (dp_I M 197 (Int32.toNatClampNeg v3)) then none else (dp_bv (dp_den true xs xl d 508 [.ref 114, .int (dp_I M 197 (Int32.toNatClampNeg v3)), .int (dp_I M 194 (Int32.toNatClampNeg (dp_I M 197 (Int32.toNatClampNeg v3))))] M) (fun M1 => if 0 ≤ v3 then (if v3 < 0 ∨ 400 ≤ Int32.toNatClampNeg v3 then none else (D_X12_reckonsDuty_61 xs xl d v1 v2 v3 vs0 (dp_J M1 200 (Int32.toNatClampNeg v3)) M1)) else (D_X12_reckonsDuty_61 xs xl d v1 v2 v3 vs0 (0 : Int64) M1)))))) := by
  have hF := dp_den_grow (md := true) (xs := xs) (xl := xl) d
  unfold D_X12_reckonsDuty_20
  refine dp_s1 hF (i := .lstore 4) rfl (fun _ => rfl) ?_
  refine dp_s1 hF (i := .iload_n 3) rfl (fun _ => rfl) ?_
  refine dp_s2 hF (i := .ifCond .lt 24) (a := (47, [some (.ref 114), some (.int v1), some (.int v2), some (.int v3), some (.long vs0), none, none, none, none, none, none, none, none, none, none, none], [], M)) (b := (26, [some (.ref 114), some (.int v1), some (.int v2), some (.int v3), some (.long vs0), none, none, none, none, none, none, none, none, none, none, none], [], M)) rfl (fun _ => rfl) ?_ ?_
  · refine dp_s1 hF (i := .iload_n 3) rfl (fun _ => rfl) ?_
    refine dp_s2 hF (i := .ifCond .ge 7) (a := (55, [some (.ref 114), some (.int v1), some (.int v2), some (.int v3), some (.long vs0), none, none, none, none, none, none, none, none, none, none, none], [], M)) (b := (51, [some (.ref 114), some (.int v1), some (.int v2), some (.int v3), some (.long vs0), none, none, none, none, none, none, none, none, none, none, none], [], M)) rfl (fun _ => rfl) ?_ ?_
    · refine dp_s1 hF (i := .aload_n 0) rfl (fun _ => rfl) ?_
      refine dp_s1 hF (i := .getfield 272) rfl (fun _ => rfl) ?_
      refine dp_s1 hF (i := .iload_n 3) rfl (fun _ => rfl) ?_
      refine dp_s3 hF (i := .laload) rfl (fun _ => rfl) ?_
      exact rfl
    refine dp_s1 hF (i := .lconst 0) rfl (fun _ => rfl) ?_
    refine dp_s1 hF (i := .goto 9) rfl (fun _ => rfl) ?_
    exact rfl
  refine dp_s1 hF (i := .aload_n 0) rfl (fun _ => rfl) ?_
  refine dp_s1 hF (i := .aload_n 0) rfl (fun _ => rfl) ?_
  refine dp_s1 hF (i := .getfield 263) rfl (fun _ => rfl) ?_
  refine dp_s1 hF (i := .iload_n 3) rfl (fun _ => rfl) ?_
  refine dp_s3 hF (i := .iaload) rfl (fun _ => rfl) ?_
  refine dp_s1 hF (i := .aload_n 0) rfl (fun _ => rfl) ?_
  refine dp_s1 hF (i := .getfield 254) rfl (fun _ => rfl) ?_
  refine dp_s1 hF (i := .aload_n 0) rfl (fun _ => rfl) ?_
  refine dp_s1 hF (i := .getfield 263) rfl (fun _ => rfl) ?_
  refine dp_s1 hF (i := .iload_n 3) rfl (fun _ => rfl) ?_
  refine dp_s3 hF (i := .iaload) rfl (fun _ => rfl) ?_
  refine dp_s3 hF (i := .iaload) rfl (fun _ => rfl) ?_
  refine dp_sv (mj := dp_m_X12_course) (i := .invokevirtual 908) rfl rfl rfl (fun _ => rfl) (fun M1 => ?_)
  refine dp_s1 hF (i := .iload_n 3) rfl (fun _ => rfl) ?_
  refine dp_s2 hF (i := .ifCond .ge 7) (a := (55, [some (.ref 114), some (.int v1), some (.int v2), some (.int v3), some (.long vs0), none, none, none, none, none, none, none, none, none, none, none], [], M1)) (b := (51, [some (.ref 114), some (.int v1), some (.int v2), some (.int v3), some (.long vs0), none, none, none, none, none, none, none, none, none, none, none], [], M1)) rfl (fun _ => rfl) ?_ ?_
  · refine dp_s1 hF (i := .aload_n 0) rfl (fun _ => rfl) ?_
    refine dp_s1 hF (i := .getfield 272) rfl (fun _ => rfl) ?_
    refine dp_s1 hF (i := .iload_n 3) rfl (fun _ => rfl) ?_
    refine dp_s3 hF (i := .laload) rfl (fun _ => rfl) ?_
    exact rfl
  refine dp_s1 hF (i := .lconst 0) rfl (fun _ => rfl) ?_
  refine dp_s1 hF (i := .goto 9) rfl (fun _ => rfl) ?_
  exact rfl
set_option maxRecDepth 20000 in
theorem D_X12_reckonsDuty_61_eq (xs : Nat → Int32) (xl d : Nat) (v1 : Int32) (v2 : Int32) (v3 : Int32) (v4 : Int64) (vs0 : Int64) (M : dp_M) : D_X12_reckonsDuty_61 xs xl d v1 v2 v3 v4 vs0 M = if v1 < 0 ∨ 400 ≤ Int32.toNatClampNeg v1 then none else (if v1 < 0 ∨ 400 ≤ Int32.toNatClampNeg v1 then none else (if v1 < 0 ∨ 400 ≤ Int32.toNatClampNeg v1 then none else (dp_bv (dp_den true xs xl d 461 [.ref 114, .int (dp_I M 236 (Int32.toNatClampNeg v1)), .int (dp_I M 237 (Int32.toNatClampNeg v1)), .int (dp_I M 238 (Int32.toNatClampNeg v1)), .int v2] M) (fun M1 => dp_w (0 : Int64) (fun y2 => dp_w (0 : Int32) (fun y3 => D_X12_reckonsDuty_92 xs xl d v1 v2 v3 v4 vs0 y2 y3 M1)))))) := by
  have hF := dp_den_grow (md := true) (xs := xs) (xl := xl) d
  unfold D_X12_reckonsDuty_61
  refine dp_s1 hF (i := .lstore 6) rfl (fun _ => rfl) ?_
  refine dp_s1 hF (i := .aload_n 0) rfl (fun _ => rfl) ?_
  refine dp_s1 hF (i := .aload_n 0) rfl (fun _ => rfl) ?_
  refine dp_s1 hF (i := .getfield 389) rfl (fun _ => rfl) ?_
  refine dp_s1 hF (i := .iload_n 1) rfl (fun _ => rfl) ?_
  refine dp_s3 hF (i := .iaload) rfl (fun _ => rfl) ?_
  refine dp_s1 hF (i := .aload_n 0) rfl (fun _ => rfl) ?_
  refine dp_s1 hF (i := .getfield 392) rfl (fun _ => rfl) ?_
  refine dp_s1 hF (i := .iload_n 1) rfl (fun _ => rfl) ?_
  refine dp_s3 hF (i := .iaload) rfl (fun _ => rfl) ?_
  refine dp_s1 hF (i := .aload_n 0) rfl (fun _ => rfl) ?_
  refine dp_s1 hF (i := .getfield 395) rfl (fun _ => rfl) ?_
  refine dp_s1 hF (i := .iload_n 1) rfl (fun _ => rfl) ?_
  refine dp_s3 hF (i := .iaload) rfl (fun _ => rfl) ?_
  refine dp_s1 hF (i := .iload_n 2) rfl (fun _ => rfl) ?_
  refine dp_sv (mj := dp_m_X12_finds) (i := .invokevirtual 710) rfl rfl rfl (fun _ => rfl) (fun M1 => ?_)
  refine dp_s1 hF (i := .lconst 0) rfl (fun _ => rfl) ?_
  refine dp_s1w (0 : Int64) (fun (y2 : Int64) => (89, [some (.ref 114), some (.int v1), some (.int v2), some (.int v3), some (.long v4), none, some (.long vs0), none, some (.long y2), none, none, none, none, none, none, none], [], M1)) hF (i := .lstore 8) rfl (fun _ => rfl) (fun y2 => ?_)
  refine dp_s1 hF (i := .iconst 0) rfl (fun _ => rfl) ?_
  refine dp_s1w (0 : Int32) (fun (y3 : Int32) => (92, [some (.ref 114), some (.int v1), some (.int v2), some (.int v3), some (.long v4), none, some (.long vs0), none, some (.long y2), none, some (.int y3), none, none, none, none, none], [], M1)) hF (i := .istore 10) rfl (fun _ => rfl) (fun y3 => ?_)
  exact rfl
set_option maxRecDepth 20000 in
theorem D_X12_reckonsDuty_92_eq (xs : Nat → Int32) (xl d : Nat) (v1 : Int32) (v2 : Int32) (v3 : Int32) (v4 : Int64) (v6 : Int64) (v8 : Int64) (v10 : Int32) (M : dp_M) : D_X12_reckonsDuty_92 xs xl d v1 v2 v3 v4 v6 v8 v10 M = if (dp_I M 114 70) ≤ v10 then (if (lg_cmp v8 (1000000000 : Int64)) ≤ 0 then (some (.inl (some (.long v8)), M)) else (some (.inl (some (.long (-1 : Int64))), M))) else (if v10 < 0 ∨ 300 ≤ Int32.toNatClampNeg v10 then none else (dp_w (dp_I M 167 (Int32.toNatClampNeg v10)) (fun y1 => if y1 < 0 ∨ 301 ≤ Int32.toNatClampNeg y1 then none else (if (dp_I M 159 (Int32.toNatClampNeg y1)) ≤ (1 : Int32) then (if y1 < 0 ∨ 301 ≤ Int32.toNatClampNeg y1 then none else (if (dp_I M 159 (Int32.toNatClampNeg y1)) = (1 : Int32) then (if (lg_cmp v6 (0 : Int64)) ≤ 0 then (D_X12_reckonsDuty_172 xs xl d v1 v2 v3 v4 v6 v8 v10 y1 (3 : Int32) M) else (D_X12_reckonsDuty_172 xs xl d v1 v2 v3 v4 v6 v8 v10 y1 (1 : Int32) M)) else (if 0 ≤ v3 then (if 0 ≤ (lg_cmp v6 v4) then (D_X12_reckonsDuty_172 xs xl d v1 v2 v3 v4 v6 v8 v10 y1 (3 : Int32) M) else (D_X12_reckonsDuty_172 xs xl d v1 v2 v3 v4 v6 v8 v10 y1 (2 : Int32) M)) else (D_X12_reckonsDuty_172 xs xl d v1 v2 v3 v4 v6 v8 v10 y1 (0 : Int32) M)))) else (D_X12_reckonsDuty_172 xs xl d v1 v2 v3 v4 v6 v8 v10 y1 (0 : Int32) M))))) := by
  have hF := dp_den_grow (md := true) (xs := xs) (xl := xl) d
  unfold D_X12_reckonsDuty_92
  refine dp_s1 hF (i := .iload 10) rfl (fun _ => rfl) ?_
  refine dp_s1 hF (i := .aload_n 0) rfl (fun _ => rfl) ?_
  refine dp_s1 hF (i := .getfield 701) rfl (fun _ => rfl) ?_
  refine dp_s2 hF (i := .if_icmp .ge 221) (a := (319, [some (.ref 114), some (.int v1), some (.int v2), some (.int v3), some (.long v4), none, some (.long v6), none, some (.long v8), none, some (.int v10), none, none, none, none, none], [], M)) (b := (101, [some (.ref 114), some (.int v1), some (.int v2), some (.int v3), some (.long v4), none, some (.long v6), none, some (.long v8), none, some (.int v10), none, none, none, none, none], [], M)) rfl (fun _ => rfl) ?_ ?_
  · refine dp_s1 hF (i := .lload 8) rfl (fun _ => rfl) ?_
    refine dp_s1 hF (i := .ldc2_w 900) rfl (fun _ => rfl) ?_
    refine dp_s1 hF (i := .lcmp) rfl (fun _ => rfl) ?_
    refine dp_s2 hF (i := .ifCond .le 9) (a := (334, [some (.ref 114), some (.int v1), some (.int v2), some (.int v3), some (.long v4), none, some (.long v6), none, some (.long v8), none, some (.int v10), none, none, none, none, none], [], M)) (b := (328, [some (.ref 114), some (.int v1), some (.int v2), some (.int v3), some (.long v4), none, some (.long v6), none, some (.long v8), none, some (.int v10), none, none, none, none, none], [], M)) rfl (fun _ => rfl) ?_ ?_
    · refine dp_s1 hF (i := .lload 8) rfl (fun _ => rfl) ?_
      exact dp_s0 hF (i := .lreturn) rfl (fun _ => rfl)
    refine dp_s1 hF (i := .ldc2_w 435) rfl (fun _ => rfl) ?_
    refine dp_s1 hF (i := .goto 5) rfl (fun _ => rfl) ?_
    exact dp_s0 hF (i := .lreturn) rfl (fun _ => rfl)
  refine dp_s1 hF (i := .aload_n 0) rfl (fun _ => rfl) ?_
  refine dp_s1 hF (i := .getfield 172) rfl (fun _ => rfl) ?_
  refine dp_s1 hF (i := .iload 10) rfl (fun _ => rfl) ?_
  refine dp_s3 hF (i := .iaload) rfl (fun _ => rfl) ?_
  refine dp_s1w (dp_I M 167 (Int32.toNatClampNeg v10)) (fun (y1 : Int32) => (110, [some (.ref 114), some (.int v1), some (.int v2), some (.int v3), some (.long v4), none, some (.long v6), none, some (.long v8), none, some (.int v10), some (.int y1), none, none, none, none], [], M)) hF (i := .istore 11) rfl (fun _ => rfl) (fun y1 => ?_)
  refine dp_s1 hF (i := .aload_n 0) rfl (fun _ => rfl) ?_
  refine dp_s1 hF (i := .getfield 148) rfl (fun _ => rfl) ?_
  refine dp_s1 hF (i := .iload 11) rfl (fun _ => rfl) ?_
  refine dp_s3 hF (i := .iaload) rfl (fun _ => rfl) ?_
  refine dp_s1 hF (i := .iconst 1) rfl (fun _ => rfl) ?_
  refine dp_s2 hF (i := .if_icmp .le 7) (a := (125, [some (.ref 114), some (.int v1), some (.int v2), some (.int v3), some (.long v4), none, some (.long v6), none, some (.long v8), none, some (.int v10), some (.int y1), none, none, none, none], [], M)) (b := (121, [some (.ref 114), some (.int v1), some (.int v2), some (.int v3), some (.long v4), none, some (.long v6), none, some (.long v8), none, some (.int v10), some (.int y1), none, none, none, none], [], M)) rfl (fun _ => rfl) ?_ ?_
  · refine dp_s1 hF (i := .aload_n 0) rfl (fun _ => rfl) ?_
    refine dp_s1 hF (i := .getfield 148) rfl (fun _ => rfl) ?_
    refine dp_s1 hF (i := .iload 11) rfl (fun _ => rfl) ?_
    refine dp_s3 hF (i := .iaload) rfl (fun _ => rfl) ?_
    refine dp_s1 hF (i := .iconst 1) rfl (fun _ => rfl) ?_
    refine dp_s2 hF (i := .if_icmp .ne 18) (a := (136, [some (.ref 114), some (.int v1), some (.int v2), some (.int v3), some (.long v4), none, some (.long v6), none, some (.long v8), none, some (.int v10), some (.int y1), none, none, none, none], [], M)) (b := (151, [some (.ref 114), some (.int v1), some (.int v2), some (.int v3), some (.long v4), none, some (.long v6), none, some (.long v8), none, some (.int v10), some (.int y1), none, none, none, none], [], M)) rfl (fun _ => rfl) ?_ ?_
    · refine dp_s1 hF (i := .lload 6) rfl (fun _ => rfl) ?_
      refine dp_s1 hF (i := .lconst 0) rfl (fun _ => rfl) ?_
      refine dp_s1 hF (i := .lcmp) rfl (fun _ => rfl) ?_
      refine dp_s2 hF (i := .ifCond .le 7) (a := (147, [some (.ref 114), some (.int v1), some (.int v2), some (.int v3), some (.long v4), none, some (.long v6), none, some (.long v8), none, some (.int v10), some (.int y1), none, none, none, none], [], M)) (b := (143, [some (.ref 114), some (.int v1), some (.int v2), some (.int v3), some (.long v4), none, some (.long v6), none, some (.long v8), none, some (.int v10), some (.int y1), none, none, none, none], [], M)) rfl (fun _ => rfl) ?_ ?_
      · refine dp_s1 hF (i := .iconst 3) rfl (fun _ => rfl) ?_
        refine dp_s1 hF (i := .goto 24) rfl (fun _ => rfl) ?_
        exact rfl
      refine dp_s1 hF (i := .iconst 1) rfl (fun _ => rfl) ?_
      refine dp_s1 hF (i := .goto 28) rfl (fun _ => rfl) ?_
      exact rfl
    refine dp_s1 hF (i := .iload_n 3) rfl (fun _ => rfl) ?_
    refine dp_s2 hF (i := .ifCond .ge 7) (a := (159, [some (.ref 114), some (.int v1), some (.int v2), some (.int v3), some (.long v4), none, some (.long v6), none, some (.long v8), none, some (.int v10), some (.int y1), none, none, none, none], [], M)) (b := (155, [some (.ref 114), some (.int v1), some (.int v2), some (.int v3), some (.long v4), none, some (.long v6), none, some (.long v8), none, some (.int v10), some (.int y1), none, none, none, none], [], M)) rfl (fun _ => rfl) ?_ ?_
    · refine dp_s1 hF (i := .lload 6) rfl (fun _ => rfl) ?_
      refine dp_s1 hF (i := .lload 4) rfl (fun _ => rfl) ?_
      refine dp_s1 hF (i := .lcmp) rfl (fun _ => rfl) ?_
      refine dp_s2 hF (i := .ifCond .ge 7) (a := (171, [some (.ref 114), some (.int v1), some (.int v2), some (.int v3), some (.long v4), none, some (.long v6), none, some (.long v8), none, some (.int v10), some (.int y1), none, none, none, none], [], M)) (b := (167, [some (.ref 114), some (.int v1), some (.int v2), some (.int v3), some (.long v4), none, some (.long v6), none, some (.long v8), none, some (.int v10), some (.int y1), none, none, none, none], [], M)) rfl (fun _ => rfl) ?_ ?_
      · refine dp_s1 hF (i := .iconst 3) rfl (fun _ => rfl) ?_
        exact rfl
      refine dp_s1 hF (i := .iconst 2) rfl (fun _ => rfl) ?_
      refine dp_s1 hF (i := .goto 4) rfl (fun _ => rfl) ?_
      exact rfl
    refine dp_s1 hF (i := .iconst 0) rfl (fun _ => rfl) ?_
    refine dp_s1 hF (i := .goto 16) rfl (fun _ => rfl) ?_
    exact rfl
  refine dp_s1 hF (i := .iconst 0) rfl (fun _ => rfl) ?_
  refine dp_s1 hF (i := .goto 50) rfl (fun _ => rfl) ?_
  exact rfl
set_option maxRecDepth 20000 in
theorem D_X12_reckonsDuty_172_eq (xs : Nat → Int32) (xl d : Nat) (v1 : Int32) (v2 : Int32) (v3 : Int32) (v4 : Int64) (v6 : Int64) (v8 : Int64) (v10 : Int32) (v11 : Int32) (vs0 : Int32) (M : dp_M) : D_X12_reckonsDuty_172 xs xl d v1 v2 v3 v4 v6 v8 v10 v11 vs0 M = if v11 < 0 ∨ 301 ≤ Int32.toNatClampNeg v11 then none else (if (dp_I M 172 (Int32.toNatClampNeg v11)) = 0 then (dp_w (v10 + (1 : Int32)) (fun y1 => D_X12_reckonsDuty_92_a xs xl d v1 v2 v3 v4 v6 v8 y1 v11 vs0 M)) else (if vs0 = (3 : Int32) then (dp_w (v10 + (1 : Int32)) (fun y2 => D_X12_reckonsDuty_92_a xs xl d v1 v2 v3 v4 v6 v8 y2 v11 vs0 M)) else (dp_bv (dp_den true xs xl d 489 [.ref 114, .int v11] M) (fun M3 => if v1 < 0 ∨ 400 ≤ Int32.toNatClampNeg v1 then none else (dp_bl (dp_den true xs xl d 574 [.long (dp_J M3 239 (Int32.toNatClampNeg v1)), .int vs0, .long v6, .long v4] M3) (fun r5 M4 => dp_w (dp_setJ M4 114 100 r5) (fun M6 => dp_w (0 : Int32) (fun y7 => D_X12_reckonsDuty_221 xs xl d v1 v2 v3 v4 v6 v8 v10 v11 vs0 y7 M6)))))))) := by
  have hF := dp_den_grow (md := true) (xs := xs) (xl := xl) d
  unfold D_X12_reckonsDuty_172
  refine dp_s1 hF (i := .istore 12) rfl (fun _ => rfl) ?_
  refine dp_s1 hF (i := .aload_n 0) rfl (fun _ => rfl) ?_
  refine dp_s1 hF (i := .getfield 188) rfl (fun _ => rfl) ?_
  refine dp_s1 hF (i := .iload 11) rfl (fun _ => rfl) ?_
  refine dp_s3 hF (i := .iaload) rfl (fun _ => rfl) ?_
  refine dp_s2 hF (i := .ifCond .eq 132) (a := (313, [some (.ref 114), some (.int v1), some (.int v2), some (.int v3), some (.long v4), none, some (.long v6), none, some (.long v8), none, some (.int v10), some (.int v11), some (.int vs0), none, none, none], [], M)) (b := (184, [some (.ref 114), some (.int v1), some (.int v2), some (.int v3), some (.long v4), none, some (.long v6), none, some (.long v8), none, some (.int v10), some (.int v11), some (.int vs0), none, none, none], [], M)) rfl (fun _ => rfl) ?_ ?_
  · refine dp_s1w (v10 + (1 : Int32)) (fun (y1 : Int32) => (316, [some (.ref 114), some (.int v1), some (.int v2), some (.int v3), some (.long v4), none, some (.long v6), none, some (.long v8), none, some (.int y1), some (.int v11), some (.int vs0), none, none, none], [], M)) hF (i := .iinc 10 1) rfl (fun _ => rfl) (fun y1 => ?_)
    refine dp_s1 hF (i := .goto (-224)) rfl (fun _ => rfl) ?_
    exact rfl
  refine dp_s1 hF (i := .iload 12) rfl (fun _ => rfl) ?_
  refine dp_s1 hF (i := .iconst 3) rfl (fun _ => rfl) ?_
  refine dp_s2 hF (i := .if_icmp .ne 6) (a := (190, [some (.ref 114), some (.int v1), some (.int v2), some (.int v3), some (.long v4), none, some (.long v6), none, some (.long v8), none, some (.int v10), some (.int v11), some (.int vs0), none, none, none], [], M)) (b := (193, [some (.ref 114), some (.int v1), some (.int v2), some (.int v3), some (.long v4), none, some (.long v6), none, some (.long v8), none, some (.int v10), some (.int v11), some (.int vs0), none, none, none], [], M)) rfl (fun _ => rfl) ?_ ?_
  · refine dp_s1 hF (i := .goto 123) rfl (fun _ => rfl) ?_
    refine dp_s1w (v10 + (1 : Int32)) (fun (y2 : Int32) => (316, [some (.ref 114), some (.int v1), some (.int v2), some (.int v3), some (.long v4), none, some (.long v6), none, some (.long v8), none, some (.int y2), some (.int v11), some (.int vs0), none, none, none], [], M)) hF (i := .iinc 10 1) rfl (fun _ => rfl) (fun y2 => ?_)
    refine dp_s1 hF (i := .goto (-224)) rfl (fun _ => rfl) ?_
    exact rfl
  refine dp_s1 hF (i := .aload_n 0) rfl (fun _ => rfl) ?_
  refine dp_s1 hF (i := .iload 11) rfl (fun _ => rfl) ?_
  refine dp_sv (mj := dp_m_X12_readsRate) (i := .invokevirtual 825) rfl rfl rfl (fun _ => rfl) (fun M3 => ?_)
  refine dp_s1 hF (i := .aload_n 0) rfl (fun _ => rfl) ?_
  refine dp_s1 hF (i := .aload_n 0) rfl (fun _ => rfl) ?_
  refine dp_s1 hF (i := .getfield 398) rfl (fun _ => rfl) ?_
  refine dp_s1 hF (i := .iload_n 1) rfl (fun _ => rfl) ?_
  refine dp_s3 hF (i := .laload) rfl (fun _ => rfl) ?_
  refine dp_s1 hF (i := .iload 12) rfl (fun _ => rfl) ?_
  refine dp_s1 hF (i := .lload 6) rfl (fun _ => rfl) ?_
  refine dp_s1 hF (i := .lload 4) rfl (fun _ => rfl) ?_
  refine dp_sl9 (mj := dp_m_X12_partOfSum) (i := .invokestatic 1041) rfl rfl rfl (fun _ => rfl) (fun r5 M4 => ?_)
  refine dp_s1w (dp_setJ M4 114 100 r5) (fun (M6 : dp_M) => (218, [some (.ref 114), some (.int v1), some (.int v2), some (.int v3), some (.long v4), none, some (.long v6), none, some (.long v8), none, some (.int v10), some (.int v11), some (.int vs0), none, none, none], [], M6)) hF (i := .putfield 828) rfl (fun _ => rfl) (fun M6 => ?_)
  refine dp_s1 hF (i := .iconst 0) rfl (fun _ => rfl) ?_
  refine dp_s1w (0 : Int32) (fun (y7 : Int32) => (221, [some (.ref 114), some (.int v1), some (.int v2), some (.int v3), some (.long v4), none, some (.long v6), none, some (.long v8), none, some (.int v10), some (.int v11), some (.int vs0), some (.int y7), none, none], [], M6)) hF (i := .istore 13) rfl (fun _ => rfl) (fun y7 => ?_)
  exact rfl
set_option maxRecDepth 20000 in
theorem D_X12_reckonsDuty_92_a_eq (xs : Nat → Int32) (xl d : Nat) (v1 : Int32) (v2 : Int32) (v3 : Int32) (v4 : Int64) (v6 : Int64) (v8 : Int64) (v10 : Int32) (v11 : Int32) (v12 : Int32) (M : dp_M) : D_X12_reckonsDuty_92_a xs xl d v1 v2 v3 v4 v6 v8 v10 v11 v12 M = if (dp_I M 114 70) ≤ v10 then (if (lg_cmp v8 (1000000000 : Int64)) ≤ 0 then (some (.inl (some (.long v8)), M)) else (some (.inl (some (.long (-1 : Int64))), M))) else (if v10 < 0 ∨ 300 ≤ Int32.toNatClampNeg v10 then none else (dp_w (dp_I M 167 (Int32.toNatClampNeg v10)) (fun y1 => if y1 < 0 ∨ 301 ≤ Int32.toNatClampNeg y1 then none else (if (dp_I M 159 (Int32.toNatClampNeg y1)) ≤ (1 : Int32) then (if y1 < 0 ∨ 301 ≤ Int32.toNatClampNeg y1 then none else (if (dp_I M 159 (Int32.toNatClampNeg y1)) = (1 : Int32) then (if (lg_cmp v6 (0 : Int64)) ≤ 0 then (D_X12_reckonsDuty_172_a xs xl d v1 v2 v3 v4 v6 v8 v10 y1 v12 (3 : Int32) M) else (D_X12_reckonsDuty_172_a xs xl d v1 v2 v3 v4 v6 v8 v10 y1 v12 (1 : Int32) M)) else (if 0 ≤ v3 then (if 0 ≤ (lg_cmp v6 v4) then (D_X12_reckonsDuty_172_a xs xl d v1 v2 v3 v4 v6 v8 v10 y1 v12 (3 : Int32) M) else (D_X12_reckonsDuty_172_a xs xl d v1 v2 v3 v4 v6 v8 v10 y1 v12 (2 : Int32) M)) else (D_X12_reckonsDuty_172_a xs xl d v1 v2 v3 v4 v6 v8 v10 y1 v12 (0 : Int32) M)))) else (D_X12_reckonsDuty_172_a xs xl d v1 v2 v3 v4 v6 v8 v10 y1 v12 (0 : Int32) M))))) := by
  have hF := dp_den_grow (md := true) (xs := xs) (xl := xl) d
  unfold D_X12_reckonsDuty_92_a
  refine dp_s1 hF (i := .iload 10) rfl (fun _ => rfl) ?_
  refine dp_s1 hF (i := .aload_n 0) rfl (fun _ => rfl) ?_
  refine dp_s1 hF (i := .getfield 701) rfl (fun _ => rfl) ?_
  refine dp_s2 hF (i := .if_icmp .ge 221) (a := (319, [some (.ref 114), some (.int v1), some (.int v2), some (.int v3), some (.long v4), none, some (.long v6), none, some (.long v8), none, some (.int v10), some (.int v11), some (.int v12), none, none, none], [], M)) (b := (101, [some (.ref 114), some (.int v1), some (.int v2), some (.int v3), some (.long v4), none, some (.long v6), none, some (.long v8), none, some (.int v10), some (.int v11), some (.int v12), none, none, none], [], M)) rfl (fun _ => rfl) ?_ ?_
  · refine dp_s1 hF (i := .lload 8) rfl (fun _ => rfl) ?_
    refine dp_s1 hF (i := .ldc2_w 900) rfl (fun _ => rfl) ?_
    refine dp_s1 hF (i := .lcmp) rfl (fun _ => rfl) ?_
    refine dp_s2 hF (i := .ifCond .le 9) (a := (334, [some (.ref 114), some (.int v1), some (.int v2), some (.int v3), some (.long v4), none, some (.long v6), none, some (.long v8), none, some (.int v10), some (.int v11), some (.int v12), none, none, none], [], M)) (b := (328, [some (.ref 114), some (.int v1), some (.int v2), some (.int v3), some (.long v4), none, some (.long v6), none, some (.long v8), none, some (.int v10), some (.int v11), some (.int v12), none, none, none], [], M)) rfl (fun _ => rfl) ?_ ?_
    · refine dp_s1 hF (i := .lload 8) rfl (fun _ => rfl) ?_
      exact dp_s0 hF (i := .lreturn) rfl (fun _ => rfl)
    refine dp_s1 hF (i := .ldc2_w 435) rfl (fun _ => rfl) ?_
    refine dp_s1 hF (i := .goto 5) rfl (fun _ => rfl) ?_
    exact dp_s0 hF (i := .lreturn) rfl (fun _ => rfl)
  refine dp_s1 hF (i := .aload_n 0) rfl (fun _ => rfl) ?_
  refine dp_s1 hF (i := .getfield 172) rfl (fun _ => rfl) ?_
  refine dp_s1 hF (i := .iload 10) rfl (fun _ => rfl) ?_
  refine dp_s3 hF (i := .iaload) rfl (fun _ => rfl) ?_
  refine dp_s1w (dp_I M 167 (Int32.toNatClampNeg v10)) (fun (y1 : Int32) => (110, [some (.ref 114), some (.int v1), some (.int v2), some (.int v3), some (.long v4), none, some (.long v6), none, some (.long v8), none, some (.int v10), some (.int y1), some (.int v12), none, none, none], [], M)) hF (i := .istore 11) rfl (fun _ => rfl) (fun y1 => ?_)
  refine dp_s1 hF (i := .aload_n 0) rfl (fun _ => rfl) ?_
  refine dp_s1 hF (i := .getfield 148) rfl (fun _ => rfl) ?_
  refine dp_s1 hF (i := .iload 11) rfl (fun _ => rfl) ?_
  refine dp_s3 hF (i := .iaload) rfl (fun _ => rfl) ?_
  refine dp_s1 hF (i := .iconst 1) rfl (fun _ => rfl) ?_
  refine dp_s2 hF (i := .if_icmp .le 7) (a := (125, [some (.ref 114), some (.int v1), some (.int v2), some (.int v3), some (.long v4), none, some (.long v6), none, some (.long v8), none, some (.int v10), some (.int y1), some (.int v12), none, none, none], [], M)) (b := (121, [some (.ref 114), some (.int v1), some (.int v2), some (.int v3), some (.long v4), none, some (.long v6), none, some (.long v8), none, some (.int v10), some (.int y1), some (.int v12), none, none, none], [], M)) rfl (fun _ => rfl) ?_ ?_
  · refine dp_s1 hF (i := .aload_n 0) rfl (fun _ => rfl) ?_
    refine dp_s1 hF (i := .getfield 148) rfl (fun _ => rfl) ?_
    refine dp_s1 hF (i := .iload 11) rfl (fun _ => rfl) ?_
    refine dp_s3 hF (i := .iaload) rfl (fun _ => rfl) ?_
    refine dp_s1 hF (i := .iconst 1) rfl (fun _ => rfl) ?_
    refine dp_s2 hF (i := .if_icmp .ne 18) (a := (136, [some (.ref 114), some (.int v1), some (.int v2), some (.int v3), some (.long v4), none, some (.long v6), none, some (.long v8), none, some (.int v10), some (.int y1), some (.int v12), none, none, none], [], M)) (b := (151, [some (.ref 114), some (.int v1), some (.int v2), some (.int v3), some (.long v4), none, some (.long v6), none, some (.long v8), none, some (.int v10), some (.int y1), some (.int v12), none, none, none], [], M)) rfl (fun _ => rfl) ?_ ?_
    · refine dp_s1 hF (i := .lload 6) rfl (fun _ => rfl) ?_
      refine dp_s1 hF (i := .lconst 0) rfl (fun _ => rfl) ?_
      refine dp_s1 hF (i := .lcmp) rfl (fun _ => rfl) ?_
      refine dp_s2 hF (i := .ifCond .le 7) (a := (147, [some (.ref 114), some (.int v1), some (.int v2), some (.int v3), some (.long v4), none, some (.long v6), none, some (.long v8), none, some (.int v10), some (.int y1), some (.int v12), none, none, none], [], M)) (b := (143, [some (.ref 114), some (.int v1), some (.int v2), some (.int v3), some (.long v4), none, some (.long v6), none, some (.long v8), none, some (.int v10), some (.int y1), some (.int v12), none, none, none], [], M)) rfl (fun _ => rfl) ?_ ?_
      · refine dp_s1 hF (i := .iconst 3) rfl (fun _ => rfl) ?_
        refine dp_s1 hF (i := .goto 24) rfl (fun _ => rfl) ?_
        exact rfl
      refine dp_s1 hF (i := .iconst 1) rfl (fun _ => rfl) ?_
      refine dp_s1 hF (i := .goto 28) rfl (fun _ => rfl) ?_
      exact rfl
    refine dp_s1 hF (i := .iload_n 3) rfl (fun _ => rfl) ?_
    refine dp_s2 hF (i := .ifCond .ge 7) (a := (159, [some (.ref 114), some (.int v1), some (.int v2), some (.int v3), some (.long v4), none, some (.long v6), none, some (.long v8), none, some (.int v10), some (.int y1), some (.int v12), none, none, none], [], M)) (b := (155, [some (.ref 114), some (.int v1), some (.int v2), some (.int v3), some (.long v4), none, some (.long v6), none, some (.long v8), none, some (.int v10), some (.int y1), some (.int v12), none, none, none], [], M)) rfl (fun _ => rfl) ?_ ?_
    · refine dp_s1 hF (i := .lload 6) rfl (fun _ => rfl) ?_
      refine dp_s1 hF (i := .lload 4) rfl (fun _ => rfl) ?_
      refine dp_s1 hF (i := .lcmp) rfl (fun _ => rfl) ?_
      refine dp_s2 hF (i := .ifCond .ge 7) (a := (171, [some (.ref 114), some (.int v1), some (.int v2), some (.int v3), some (.long v4), none, some (.long v6), none, some (.long v8), none, some (.int v10), some (.int y1), some (.int v12), none, none, none], [], M)) (b := (167, [some (.ref 114), some (.int v1), some (.int v2), some (.int v3), some (.long v4), none, some (.long v6), none, some (.long v8), none, some (.int v10), some (.int y1), some (.int v12), none, none, none], [], M)) rfl (fun _ => rfl) ?_ ?_
      · refine dp_s1 hF (i := .iconst 3) rfl (fun _ => rfl) ?_
        exact rfl
      refine dp_s1 hF (i := .iconst 2) rfl (fun _ => rfl) ?_
      refine dp_s1 hF (i := .goto 4) rfl (fun _ => rfl) ?_
      exact rfl
    refine dp_s1 hF (i := .iconst 0) rfl (fun _ => rfl) ?_
    refine dp_s1 hF (i := .goto 16) rfl (fun _ => rfl) ?_
    exact rfl
  refine dp_s1 hF (i := .iconst 0) rfl (fun _ => rfl) ?_
  refine dp_s1 hF (i := .goto 50) rfl (fun _ => rfl) ?_
  exact rfl
set_option maxRecDepth 20000 in
theorem D_X12_reckonsDuty_221_eq (xs : Nat → Int32) (xl d : Nat) (v1 : Int32) (v2 : Int32) (v3 : Int32) (v4 : Int64) (v6 : Int64) (v8 : Int64) (v10 : Int32) (v11 : Int32) (v12 : Int32) (v13 : Int32) (M : dp_M) : D_X12_reckonsDuty_221 xs xl d v1 v2 v3 v4 v6 v8 v10 v11 v12 v13 M = if (8 : Int32) ≤ v13 then (dp_bl (dp_den true xs xl d 492 [.ref 114] M) (fun r2 M1 => if 0 ≤ (lg_cmp r2 (0 : Int64)) then (dp_w (v8 + ((r2 + (500000 : Int64)) / (1000000 : Int64))) (fun y3 => dp_w (v10 + (1 : Int32)) (fun y4 => D_X12_reckonsDuty_92_b xs xl d v1 v2 v3 v4 v6 y3 y4 v11 v12 r2 M1))) else (some (.inl (some (.long (-1 : Int64))), M1)))) else (if (((8 : Int32) * v1) + v13) < 0 ∨ 3200 ≤ Int32.toNatClampNeg (((8 : Int32) * v1) + v13) then none else (dp_w (dp_J M 240 (Int32.toNatClampNeg (((8 : Int32) * v1) + v13))) (fun y5 => if (lg_cmp y5 (-1 : Int64)) = 0 then (if v13 < 0 ∨ 8 ≤ Int32.toNatClampNeg v13 then none else dp_w (dp_setJ M 188 (Int32.toNatClampNeg v13) (-1 : Int64)) (fun M6 => dp_w (v13 + (1 : Int32)) (fun y7 => D_X12_reckonsDuty_221_a xs xl d v1 v2 v3 v4 v6 v8 v10 v11 v12 y7 y5 M6))) else (dp_bl (dp_den true xs xl d 574 [.long y5, .int v12, .long v6, .long v4] M) (fun r9 M8 => if v13 < 0 ∨ 8 ≤ Int32.toNatClampNeg v13 then none else dp_w (dp_setJ M8 188 (Int32.toNatClampNeg v13) r9) (fun M10 => dp_w (v13 + (1 : Int32)) (fun y11 => D_X12_reckonsDuty_221_a xs xl d v1 v2 v3 v4 v6 v8 v10 v11 v12 y11 y5 M10))))))) := by
  have hF := dp_den_grow (md := true) (xs := xs) (xl := xl) d
  unfold D_X12_reckonsDuty_221
  refine dp_s1 hF (i := .iload 13) rfl (fun _ => rfl) ?_
  refine dp_s1 hF (i := .bipush 8) rfl (fun _ => rfl) ?_
  refine dp_s2 hF (i := .if_icmp .ge 56) (a := (281, [some (.ref 114), some (.int v1), some (.int v2), some (.int v3), some (.long v4), none, some (.long v6), none, some (.long v8), none, some (.int v10), some (.int v11), some (.int v12), some (.int v13), none, none], [], M)) (b := (228, [some (.ref 114), some (.int v1), some (.int v2), some (.int v3), some (.long v4), none, some (.long v6), none, some (.long v8), none, some (.int v10), some (.int v11), some (.int v12), some (.int v13), none, none], [], M)) rfl (fun _ => rfl) ?_ ?_
  · refine dp_s1 hF (i := .aload_n 0) rfl (fun _ => rfl) ?_
    refine dp_sl9 (mj := dp_m_X12_reckons) (i := .invokevirtual 844) rfl rfl rfl (fun _ => rfl) (fun r2 M1 => ?_)
    refine dp_s1 hF (i := .lstore 13) rfl (fun _ => rfl) ?_
    refine dp_s1 hF (i := .lload 13) rfl (fun _ => rfl) ?_
    refine dp_s1 hF (i := .lconst 0) rfl (fun _ => rfl) ?_
    refine dp_s1 hF (i := .lcmp) rfl (fun _ => rfl) ?_
    refine dp_s2 hF (i := .ifCond .ge 7) (a := (298, [some (.ref 114), some (.int v1), some (.int v2), some (.int v3), some (.long v4), none, some (.long v6), none, some (.long v8), none, some (.int v10), some (.int v11), some (.int v12), some (.long r2), none, none], [], M1)) (b := (294, [some (.ref 114), some (.int v1), some (.int v2), some (.int v3), some (.long v4), none, some (.long v6), none, some (.long v8), none, some (.int v10), some (.int v11), some (.int v12), some (.long r2), none, none], [], M1)) rfl (fun _ => rfl) ?_ ?_
    · refine dp_s1 hF (i := .lload 8) rfl (fun _ => rfl) ?_
      refine dp_s1 hF (i := .lload 13) rfl (fun _ => rfl) ?_
      refine dp_s1 hF (i := .ldc2_w 1045) rfl (fun _ => rfl) ?_
      refine dp_s1 hF (i := .ladd) rfl (fun _ => rfl) ?_
      refine dp_s1 hF (i := .ldc2_w 834) rfl (fun _ => rfl) ?_
      refine dp_s1 hF (i := .ldiv) rfl (fun _ => rfl) ?_
      refine dp_s1 hF (i := .ladd) rfl (fun _ => rfl) ?_
      refine dp_s1w (v8 + ((r2 + (500000 : Int64)) / (1000000 : Int64))) (fun (y3 : Int64) => (313, [some (.ref 114), some (.int v1), some (.int v2), some (.int v3), some (.long v4), none, some (.long v6), none, some (.long y3), none, some (.int v10), some (.int v11), some (.int v12), some (.long r2), none, none], [], M1)) hF (i := .lstore 8) rfl (fun _ => rfl) (fun y3 => ?_)
      refine dp_s1w (v10 + (1 : Int32)) (fun (y4 : Int32) => (316, [some (.ref 114), some (.int v1), some (.int v2), some (.int v3), some (.long v4), none, some (.long v6), none, some (.long y3), none, some (.int y4), some (.int v11), some (.int v12), some (.long r2), none, none], [], M1)) hF (i := .iinc 10 1) rfl (fun _ => rfl) (fun y4 => ?_)
      refine dp_s1 hF (i := .goto (-224)) rfl (fun _ => rfl) ?_
      exact rfl
    refine dp_s1 hF (i := .ldc2_w 435) rfl (fun _ => rfl) ?_
    exact dp_s0 hF (i := .lreturn) rfl (fun _ => rfl)
  refine dp_s1 hF (i := .aload_n 0) rfl (fun _ => rfl) ?_
  refine dp_s1 hF (i := .getfield 401) rfl (fun _ => rfl) ?_
  refine dp_s1 hF (i := .bipush 8) rfl (fun _ => rfl) ?_
  refine dp_s1 hF (i := .iload_n 1) rfl (fun _ => rfl) ?_
  refine dp_s1 hF (i := .imul) rfl (fun _ => rfl) ?_
  refine dp_s1 hF (i := .iload 13) rfl (fun _ => rfl) ?_
  refine dp_s1 hF (i := .iadd) rfl (fun _ => rfl) ?_
  refine dp_s3 hF (i := .laload) rfl (fun _ => rfl) ?_
  refine dp_s1w (dp_J M 240 (Int32.toNatClampNeg (((8 : Int32) * v1) + v13))) (fun (y5 : Int64) => (242, [some (.ref 114), some (.int v1), some (.int v2), some (.int v3), some (.long v4), none, some (.long v6), none, some (.long v8), none, some (.int v10), some (.int v11), some (.int v12), some (.int v13), some (.long y5), none], [], M)) hF (i := .lstore 14) rfl (fun _ => rfl) (fun y5 => ?_)
  refine dp_s1 hF (i := .aload_n 0) rfl (fun _ => rfl) ?_
  refine dp_s1 hF (i := .getfield 236) rfl (fun _ => rfl) ?_
  refine dp_s1 hF (i := .iload 13) rfl (fun _ => rfl) ?_
  refine dp_s1 hF (i := .lload 14) rfl (fun _ => rfl) ?_
  refine dp_s1 hF (i := .ldc2_w 435) rfl (fun _ => rfl) ?_
  refine dp_s1 hF (i := .lcmp) rfl (fun _ => rfl) ?_
  refine dp_s2 hF (i := .ifCond .ne 9) (a := (257, [some (.ref 114), some (.int v1), some (.int v2), some (.int v3), some (.long v4), none, some (.long v6), none, some (.long v8), none, some (.int v10), some (.int v11), some (.int v12), some (.int v13), some (.long y5), none], [.int v13, .ref 188], M)) (b := (263, [some (.ref 114), some (.int v1), some (.int v2), some (.int v3), some (.long v4), none, some (.long v6), none, some (.long v8), none, some (.int v10), some (.int v11), some (.int v12), some (.int v13), some (.long y5), none], [.int v13, .ref 188], M)) rfl (fun _ => rfl) ?_ ?_
  · refine dp_s1 hF (i := .ldc2_w 435) rfl (fun _ => rfl) ?_
    refine dp_s1 hF (i := .goto 14) rfl (fun _ => rfl) ?_
    refine dp_s3w (dp_setJ M 188 (Int32.toNatClampNeg v13) (-1 : Int64)) (fun (M6 : dp_M) => (275, [some (.ref 114), some (.int v1), some (.int v2), some (.int v3), some (.long v4), none, some (.long v6), none, some (.long v8), none, some (.int v10), some (.int v11), some (.int v12), some (.int v13), some (.long y5), none], [], M6)) hF (i := .lastore) rfl (fun _ => rfl) (fun M6 => ?_)
    refine dp_s1w (v13 + (1 : Int32)) (fun (y7 : Int32) => (278, [some (.ref 114), some (.int v1), some (.int v2), some (.int v3), some (.long v4), none, some (.long v6), none, some (.long v8), none, some (.int v10), some (.int v11), some (.int v12), some (.int y7), some (.long y5), none], [], M6)) hF (i := .iinc 13 1) rfl (fun _ => rfl) (fun y7 => ?_)
    refine dp_s1 hF (i := .goto (-57)) rfl (fun _ => rfl) ?_
    exact rfl
  refine dp_s1 hF (i := .lload 14) rfl (fun _ => rfl) ?_
  refine dp_s1 hF (i := .iload 12) rfl (fun _ => rfl) ?_
  refine dp_s1 hF (i := .lload 6) rfl (fun _ => rfl) ?_
  refine dp_s1 hF (i := .lload 4) rfl (fun _ => rfl) ?_
  refine dp_sl9 (mj := dp_m_X12_partOfSum) (i := .invokestatic 1041) rfl rfl rfl (fun _ => rfl) (fun r9 M8 => ?_)
  refine dp_s3w (dp_setJ M8 188 (Int32.toNatClampNeg v13) r9) (fun (M10 : dp_M) => (275, [some (.ref 114), some (.int v1), some (.int v2), some (.int v3), some (.long v4), none, some (.long v6), none, some (.long v8), none, some (.int v10), some (.int v11), some (.int v12), some (.int v13), some (.long y5), none], [], M10)) hF (i := .lastore) rfl (fun _ => rfl) (fun M10 => ?_)
  refine dp_s1w (v13 + (1 : Int32)) (fun (y11 : Int32) => (278, [some (.ref 114), some (.int v1), some (.int v2), some (.int v3), some (.long v4), none, some (.long v6), none, some (.long v8), none, some (.int v10), some (.int v11), some (.int v12), some (.int y11), some (.long y5), none], [], M10)) hF (i := .iinc 13 1) rfl (fun _ => rfl) (fun y11 => ?_)
  refine dp_s1 hF (i := .goto (-57)) rfl (fun _ => rfl) ?_
  exact rfl
set_option maxRecDepth 20000 in
theorem D_X12_reckonsDuty_172_a_eq (xs : Nat → Int32) (xl d : Nat) (v1 : Int32) (v2 : Int32) (v3 : Int32) (v4 : Int64) (v6 : Int64) (v8 : Int64) (v10 : Int32) (v11 : Int32) (v12 : Int32) (vs0 : Int32) (M : dp_M) : D_X12_reckonsDuty_172_a xs xl d v1 v2 v3 v4 v6 v8 v10 v11 v12 vs0 M = if v11 < 0 ∨ 301 ≤ Int32.toNatClampNeg v11 then none else (if (dp_I M 172 (Int32.toNatClampNeg v11)) = 0 then (dp_w (v10 + (1 : Int32)) (fun y1 => D_X12_reckonsDuty_92_a xs xl d v1 v2 v3 v4 v6 v8 y1 v11 vs0 M)) else (if vs0 = (3 : Int32) then (dp_w (v10 + (1 : Int32)) (fun y2 => D_X12_reckonsDuty_92_a xs xl d v1 v2 v3 v4 v6 v8 y2 v11 vs0 M)) else (dp_bv (dp_den true xs xl d 489 [.ref 114, .int v11] M) (fun M3 => if v1 < 0 ∨ 400 ≤ Int32.toNatClampNeg v1 then none else (dp_bl (dp_den true xs xl d 574 [.long (dp_J M3 239 (Int32.toNatClampNeg v1)), .int vs0, .long v6, .long v4] M3) (fun r5 M4 => dp_w (dp_setJ M4 114 100 r5) (fun M6 => dp_w (0 : Int32) (fun y7 => D_X12_reckonsDuty_221 xs xl d v1 v2 v3 v4 v6 v8 v10 v11 vs0 y7 M6)))))))) := by
  have hF := dp_den_grow (md := true) (xs := xs) (xl := xl) d
  unfold D_X12_reckonsDuty_172_a
  refine dp_s1 hF (i := .istore 12) rfl (fun _ => rfl) ?_
  refine dp_s1 hF (i := .aload_n 0) rfl (fun _ => rfl) ?_
  refine dp_s1 hF (i := .getfield 188) rfl (fun _ => rfl) ?_
  refine dp_s1 hF (i := .iload 11) rfl (fun _ => rfl) ?_
  refine dp_s3 hF (i := .iaload) rfl (fun _ => rfl) ?_
  refine dp_s2 hF (i := .ifCond .eq 132) (a := (313, [some (.ref 114), some (.int v1), some (.int v2), some (.int v3), some (.long v4), none, some (.long v6), none, some (.long v8), none, some (.int v10), some (.int v11), some (.int vs0), none, none, none], [], M)) (b := (184, [some (.ref 114), some (.int v1), some (.int v2), some (.int v3), some (.long v4), none, some (.long v6), none, some (.long v8), none, some (.int v10), some (.int v11), some (.int vs0), none, none, none], [], M)) rfl (fun _ => rfl) ?_ ?_
  · refine dp_s1w (v10 + (1 : Int32)) (fun (y1 : Int32) => (316, [some (.ref 114), some (.int v1), some (.int v2), some (.int v3), some (.long v4), none, some (.long v6), none, some (.long v8), none, some (.int y1), some (.int v11), some (.int vs0), none, none, none], [], M)) hF (i := .iinc 10 1) rfl (fun _ => rfl) (fun y1 => ?_)
    refine dp_s1 hF (i := .goto (-224)) rfl (fun _ => rfl) ?_
    exact rfl
  refine dp_s1 hF (i := .iload 12) rfl (fun _ => rfl) ?_
  refine dp_s1 hF (i := .iconst 3) rfl (fun _ => rfl) ?_
  refine dp_s2 hF (i := .if_icmp .ne 6) (a := (190, [some (.ref 114), some (.int v1), some (.int v2), some (.int v3), some (.long v4), none, some (.long v6), none, some (.long v8), none, some (.int v10), some (.int v11), some (.int vs0), none, none, none], [], M)) (b := (193, [some (.ref 114), some (.int v1), some (.int v2), some (.int v3), some (.long v4), none, some (.long v6), none, some (.long v8), none, some (.int v10), some (.int v11), some (.int vs0), none, none, none], [], M)) rfl (fun _ => rfl) ?_ ?_
  · refine dp_s1 hF (i := .goto 123) rfl (fun _ => rfl) ?_
    refine dp_s1w (v10 + (1 : Int32)) (fun (y2 : Int32) => (316, [some (.ref 114), some (.int v1), some (.int v2), some (.int v3), some (.long v4), none, some (.long v6), none, some (.long v8), none, some (.int y2), some (.int v11), some (.int vs0), none, none, none], [], M)) hF (i := .iinc 10 1) rfl (fun _ => rfl) (fun y2 => ?_)
    refine dp_s1 hF (i := .goto (-224)) rfl (fun _ => rfl) ?_
    exact rfl
  refine dp_s1 hF (i := .aload_n 0) rfl (fun _ => rfl) ?_
  refine dp_s1 hF (i := .iload 11) rfl (fun _ => rfl) ?_
  refine dp_sv (mj := dp_m_X12_readsRate) (i := .invokevirtual 825) rfl rfl rfl (fun _ => rfl) (fun M3 => ?_)
  refine dp_s1 hF (i := .aload_n 0) rfl (fun _ => rfl) ?_
  refine dp_s1 hF (i := .aload_n 0) rfl (fun _ => rfl) ?_
  refine dp_s1 hF (i := .getfield 398) rfl (fun _ => rfl) ?_
  refine dp_s1 hF (i := .iload_n 1) rfl (fun _ => rfl) ?_
  refine dp_s3 hF (i := .laload) rfl (fun _ => rfl) ?_
  refine dp_s1 hF (i := .iload 12) rfl (fun _ => rfl) ?_
  refine dp_s1 hF (i := .lload 6) rfl (fun _ => rfl) ?_
  refine dp_s1 hF (i := .lload 4) rfl (fun _ => rfl) ?_
  refine dp_sl9 (mj := dp_m_X12_partOfSum) (i := .invokestatic 1041) rfl rfl rfl (fun _ => rfl) (fun r5 M4 => ?_)
  refine dp_s1w (dp_setJ M4 114 100 r5) (fun (M6 : dp_M) => (218, [some (.ref 114), some (.int v1), some (.int v2), some (.int v3), some (.long v4), none, some (.long v6), none, some (.long v8), none, some (.int v10), some (.int v11), some (.int vs0), none, none, none], [], M6)) hF (i := .putfield 828) rfl (fun _ => rfl) (fun M6 => ?_)
  refine dp_s1 hF (i := .iconst 0) rfl (fun _ => rfl) ?_
  refine dp_s1w (0 : Int32) (fun (y7 : Int32) => (221, [some (.ref 114), some (.int v1), some (.int v2), some (.int v3), some (.long v4), none, some (.long v6), none, some (.long v8), none, some (.int v10), some (.int v11), some (.int vs0), some (.int y7), none, none], [], M6)) hF (i := .istore 13) rfl (fun _ => rfl) (fun y7 => ?_)
  exact rfl
set_option maxRecDepth 20000 in
theorem D_X12_reckonsDuty_92_b_eq (xs : Nat → Int32) (xl d : Nat) (v1 : Int32) (v2 : Int32) (v3 : Int32) (v4 : Int64) (v6 : Int64) (v8 : Int64) (v10 : Int32) (v11 : Int32) (v12 : Int32) (v13 : Int64) (M : dp_M) : D_X12_reckonsDuty_92_b xs xl d v1 v2 v3 v4 v6 v8 v10 v11 v12 v13 M = if (dp_I M 114 70) ≤ v10 then (if (lg_cmp v8 (1000000000 : Int64)) ≤ 0 then (some (.inl (some (.long v8)), M)) else (some (.inl (some (.long (-1 : Int64))), M))) else (if v10 < 0 ∨ 300 ≤ Int32.toNatClampNeg v10 then none else (dp_w (dp_I M 167 (Int32.toNatClampNeg v10)) (fun y1 => if y1 < 0 ∨ 301 ≤ Int32.toNatClampNeg y1 then none else (if (dp_I M 159 (Int32.toNatClampNeg y1)) ≤ (1 : Int32) then (if y1 < 0 ∨ 301 ≤ Int32.toNatClampNeg y1 then none else (if (dp_I M 159 (Int32.toNatClampNeg y1)) = (1 : Int32) then (if (lg_cmp v6 (0 : Int64)) ≤ 0 then (D_X12_reckonsDuty_172_b xs xl d v1 v2 v3 v4 v6 v8 v10 y1 v12 v13 (3 : Int32) M) else (D_X12_reckonsDuty_172_b xs xl d v1 v2 v3 v4 v6 v8 v10 y1 v12 v13 (1 : Int32) M)) else (if 0 ≤ v3 then (if 0 ≤ (lg_cmp v6 v4) then (D_X12_reckonsDuty_172_b xs xl d v1 v2 v3 v4 v6 v8 v10 y1 v12 v13 (3 : Int32) M) else (D_X12_reckonsDuty_172_b xs xl d v1 v2 v3 v4 v6 v8 v10 y1 v12 v13 (2 : Int32) M)) else (D_X12_reckonsDuty_172_b xs xl d v1 v2 v3 v4 v6 v8 v10 y1 v12 v13 (0 : Int32) M)))) else (D_X12_reckonsDuty_172_b xs xl d v1 v2 v3 v4 v6 v8 v10 y1 v12 v13 (0 : Int32) M))))) := by
  have hF := dp_den_grow (md := true) (xs := xs) (xl := xl) d
  unfold D_X12_reckonsDuty_92_b
  refine dp_s1 hF (i := .iload 10) rfl (fun _ => rfl) ?_
  refine dp_s1 hF (i := .aload_n 0) rfl (fun _ => rfl) ?_
  refine dp_s1 hF (i := .getfield 701) rfl (fun _ => rfl) ?_
  refine dp_s2 hF (i := .if_icmp .ge 221) (a := (319, [some (.ref 114), some (.int v1), some (.int v2), some (.int v3), some (.long v4), none, some (.long v6), none, some (.long v8), none, some (.int v10), some (.int v11), some (.int v12), some (.long v13), none, none], [], M)) (b := (101, [some (.ref 114), some (.int v1), some (.int v2), some (.int v3), some (.long v4), none, some (.long v6), none, some (.long v8), none, some (.int v10), some (.int v11), some (.int v12), some (.long v13), none, none], [], M)) rfl (fun _ => rfl) ?_ ?_
  · refine dp_s1 hF (i := .lload 8) rfl (fun _ => rfl) ?_
    refine dp_s1 hF (i := .ldc2_w 900) rfl (fun _ => rfl) ?_
    refine dp_s1 hF (i := .lcmp) rfl (fun _ => rfl) ?_
    refine dp_s2 hF (i := .ifCond .le 9) (a := (334, [some (.ref 114), some (.int v1), some (.int v2), some (.int v3), some (.long v4), none, some (.long v6), none, some (.long v8), none, some (.int v10), some (.int v11), some (.int v12), some (.long v13), none, none], [], M)) (b := (328, [some (.ref 114), some (.int v1), some (.int v2), some (.int v3), some (.long v4), none, some (.long v6), none, some (.long v8), none, some (.int v10), some (.int v11), some (.int v12), some (.long v13), none, none], [], M)) rfl (fun _ => rfl) ?_ ?_
    · refine dp_s1 hF (i := .lload 8) rfl (fun _ => rfl) ?_
      exact dp_s0 hF (i := .lreturn) rfl (fun _ => rfl)
    refine dp_s1 hF (i := .ldc2_w 435) rfl (fun _ => rfl) ?_
    refine dp_s1 hF (i := .goto 5) rfl (fun _ => rfl) ?_
    exact dp_s0 hF (i := .lreturn) rfl (fun _ => rfl)
  refine dp_s1 hF (i := .aload_n 0) rfl (fun _ => rfl) ?_
  refine dp_s1 hF (i := .getfield 172) rfl (fun _ => rfl) ?_
  refine dp_s1 hF (i := .iload 10) rfl (fun _ => rfl) ?_
  refine dp_s3 hF (i := .iaload) rfl (fun _ => rfl) ?_
  refine dp_s1w (dp_I M 167 (Int32.toNatClampNeg v10)) (fun (y1 : Int32) => (110, [some (.ref 114), some (.int v1), some (.int v2), some (.int v3), some (.long v4), none, some (.long v6), none, some (.long v8), none, some (.int v10), some (.int y1), some (.int v12), some (.long v13), none, none], [], M)) hF (i := .istore 11) rfl (fun _ => rfl) (fun y1 => ?_)
  refine dp_s1 hF (i := .aload_n 0) rfl (fun _ => rfl) ?_
  refine dp_s1 hF (i := .getfield 148) rfl (fun _ => rfl) ?_
  refine dp_s1 hF (i := .iload 11) rfl (fun _ => rfl) ?_
  refine dp_s3 hF (i := .iaload) rfl (fun _ => rfl) ?_
  refine dp_s1 hF (i := .iconst 1) rfl (fun _ => rfl) ?_
  refine dp_s2 hF (i := .if_icmp .le 7) (a := (125, [some (.ref 114), some (.int v1), some (.int v2), some (.int v3), some (.long v4), none, some (.long v6), none, some (.long v8), none, some (.int v10), some (.int y1), some (.int v12), some (.long v13), none, none], [], M)) (b := (121, [some (.ref 114), some (.int v1), some (.int v2), some (.int v3), some (.long v4), none, some (.long v6), none, some (.long v8), none, some (.int v10), some (.int y1), some (.int v12), some (.long v13), none, none], [], M)) rfl (fun _ => rfl) ?_ ?_
  · refine dp_s1 hF (i := .aload_n 0) rfl (fun _ => rfl) ?_
    refine dp_s1 hF (i := .getfield 148) rfl (fun _ => rfl) ?_
    refine dp_s1 hF (i := .iload 11) rfl (fun _ => rfl) ?_
    refine dp_s3 hF (i := .iaload) rfl (fun _ => rfl) ?_
    refine dp_s1 hF (i := .iconst 1) rfl (fun _ => rfl) ?_
    refine dp_s2 hF (i := .if_icmp .ne 18) (a := (136, [some (.ref 114), some (.int v1), some (.int v2), some (.int v3), some (.long v4), none, some (.long v6), none, some (.long v8), none, some (.int v10), some (.int y1), some (.int v12), some (.long v13), none, none], [], M)) (b := (151, [some (.ref 114), some (.int v1), some (.int v2), some (.int v3), some (.long v4), none, some (.long v6), none, some (.long v8), none, some (.int v10), some (.int y1), some (.int v12), some (.long v13), none, none], [], M)) rfl (fun _ => rfl) ?_ ?_
    · refine dp_s1 hF (i := .lload 6) rfl (fun _ => rfl) ?_
      refine dp_s1 hF (i := .lconst 0) rfl (fun _ => rfl) ?_
      refine dp_s1 hF (i := .lcmp) rfl (fun _ => rfl) ?_
      refine dp_s2 hF (i := .ifCond .le 7) (a := (147, [some (.ref 114), some (.int v1), some (.int v2), some (.int v3), some (.long v4), none, some (.long v6), none, some (.long v8), none, some (.int v10), some (.int y1), some (.int v12), some (.long v13), none, none], [], M)) (b := (143, [some (.ref 114), some (.int v1), some (.int v2), some (.int v3), some (.long v4), none, some (.long v6), none, some (.long v8), none, some (.int v10), some (.int y1), some (.int v12), some (.long v13), none, none], [], M)) rfl (fun _ => rfl) ?_ ?_
      · refine dp_s1 hF (i := .iconst 3) rfl (fun _ => rfl) ?_
        refine dp_s1 hF (i := .goto 24) rfl (fun _ => rfl) ?_
        exact rfl
      refine dp_s1 hF (i := .iconst 1) rfl (fun _ => rfl) ?_
      refine dp_s1 hF (i := .goto 28) rfl (fun _ => rfl) ?_
      exact rfl
    refine dp_s1 hF (i := .iload_n 3) rfl (fun _ => rfl) ?_
    refine dp_s2 hF (i := .ifCond .ge 7) (a := (159, [some (.ref 114), some (.int v1), some (.int v2), some (.int v3), some (.long v4), none, some (.long v6), none, some (.long v8), none, some (.int v10), some (.int y1), some (.int v12), some (.long v13), none, none], [], M)) (b := (155, [some (.ref 114), some (.int v1), some (.int v2), some (.int v3), some (.long v4), none, some (.long v6), none, some (.long v8), none, some (.int v10), some (.int y1), some (.int v12), some (.long v13), none, none], [], M)) rfl (fun _ => rfl) ?_ ?_
    · refine dp_s1 hF (i := .lload 6) rfl (fun _ => rfl) ?_
      refine dp_s1 hF (i := .lload 4) rfl (fun _ => rfl) ?_
      refine dp_s1 hF (i := .lcmp) rfl (fun _ => rfl) ?_
      refine dp_s2 hF (i := .ifCond .ge 7) (a := (171, [some (.ref 114), some (.int v1), some (.int v2), some (.int v3), some (.long v4), none, some (.long v6), none, some (.long v8), none, some (.int v10), some (.int y1), some (.int v12), some (.long v13), none, none], [], M)) (b := (167, [some (.ref 114), some (.int v1), some (.int v2), some (.int v3), some (.long v4), none, some (.long v6), none, some (.long v8), none, some (.int v10), some (.int y1), some (.int v12), some (.long v13), none, none], [], M)) rfl (fun _ => rfl) ?_ ?_
      · refine dp_s1 hF (i := .iconst 3) rfl (fun _ => rfl) ?_
        exact rfl
      refine dp_s1 hF (i := .iconst 2) rfl (fun _ => rfl) ?_
      refine dp_s1 hF (i := .goto 4) rfl (fun _ => rfl) ?_
      exact rfl
    refine dp_s1 hF (i := .iconst 0) rfl (fun _ => rfl) ?_
    refine dp_s1 hF (i := .goto 16) rfl (fun _ => rfl) ?_
    exact rfl
  refine dp_s1 hF (i := .iconst 0) rfl (fun _ => rfl) ?_
  refine dp_s1 hF (i := .goto 50) rfl (fun _ => rfl) ?_
  exact rfl
set_option maxRecDepth 20000 in
theorem D_X12_reckonsDuty_221_a_eq (xs : Nat → Int32) (xl d : Nat) (v1 : Int32) (v2 : Int32) (v3 : Int32) (v4 : Int64) (v6 : Int64) (v8 : Int64) (v10 : Int32) (v11 : Int32) (v12 : Int32) (v13 : Int32) (v14 : Int64) (M : dp_M) : D_X12_reckonsDuty_221_a xs xl d v1 v2 v3 v4 v6 v8 v10 v11 v12 v13 v14 M = if (8 : Int32) ≤ v13 then (dp_bl (dp_den true xs xl d 492 [.ref 114] M) (fun r2 M1 => if 0 ≤ (lg_cmp r2 (0 : Int64)) then (dp_w (v8 + ((r2 + (500000 : Int64)) / (1000000 : Int64))) (fun y3 => dp_w (v10 + (1 : Int32)) (fun y4 => D_X12_reckonsDuty_92_b xs xl d v1 v2 v3 v4 v6 y3 y4 v11 v12 r2 M1))) else (some (.inl (some (.long (-1 : Int64))), M1)))) else (if (((8 : Int32) * v1) + v13) < 0 ∨ 3200 ≤ Int32.toNatClampNeg (((8 : Int32) * v1) + v13) then none else (dp_w (dp_J M 240 (Int32.toNatClampNeg (((8 : Int32) * v1) + v13))) (fun y5 => if (lg_cmp y5 (-1 : Int64)) = 0 then (if v13 < 0 ∨ 8 ≤ Int32.toNatClampNeg v13 then none else dp_w (dp_setJ M 188 (Int32.toNatClampNeg v13) (-1 : Int64)) (fun M6 => dp_w (v13 + (1 : Int32)) (fun y7 => D_X12_reckonsDuty_221_a xs xl d v1 v2 v3 v4 v6 v8 v10 v11 v12 y7 y5 M6))) else (dp_bl (dp_den true xs xl d 574 [.long y5, .int v12, .long v6, .long v4] M) (fun r9 M8 => if v13 < 0 ∨ 8 ≤ Int32.toNatClampNeg v13 then none else dp_w (dp_setJ M8 188 (Int32.toNatClampNeg v13) r9) (fun M10 => dp_w (v13 + (1 : Int32)) (fun y11 => D_X12_reckonsDuty_221_a xs xl d v1 v2 v3 v4 v6 v8 v10 v11 v12 y11 y5 M10))))))) := by
  have hF := dp_den_grow (md := true) (xs := xs) (xl := xl) d
  unfold D_X12_reckonsDuty_221_a
  refine dp_s1 hF (i := .iload 13) rfl (fun _ => rfl) ?_
  refine dp_s1 hF (i := .bipush 8) rfl (fun _ => rfl) ?_
  refine dp_s2 hF (i := .if_icmp .ge 56) (a := (281, [some (.ref 114), some (.int v1), some (.int v2), some (.int v3), some (.long v4), none, some (.long v6), none, some (.long v8), none, some (.int v10), some (.int v11), some (.int v12), some (.int v13), some (.long v14), none], [], M)) (b := (228, [some (.ref 114), some (.int v1), some (.int v2), some (.int v3), some (.long v4), none, some (.long v6), none, some (.long v8), none, some (.int v10), some (.int v11), some (.int v12), some (.int v13), some (.long v14), none], [], M)) rfl (fun _ => rfl) ?_ ?_
  · refine dp_s1 hF (i := .aload_n 0) rfl (fun _ => rfl) ?_
    refine dp_sl9 (mj := dp_m_X12_reckons) (i := .invokevirtual 844) rfl rfl rfl (fun _ => rfl) (fun r2 M1 => ?_)
    refine dp_s1 hF (i := .lstore 13) rfl (fun _ => rfl) ?_
    refine dp_s1 hF (i := .lload 13) rfl (fun _ => rfl) ?_
    refine dp_s1 hF (i := .lconst 0) rfl (fun _ => rfl) ?_
    refine dp_s1 hF (i := .lcmp) rfl (fun _ => rfl) ?_
    refine dp_s2 hF (i := .ifCond .ge 7) (a := (298, [some (.ref 114), some (.int v1), some (.int v2), some (.int v3), some (.long v4), none, some (.long v6), none, some (.long v8), none, some (.int v10), some (.int v11), some (.int v12), some (.long r2), none, none], [], M1)) (b := (294, [some (.ref 114), some (.int v1), some (.int v2), some (.int v3), some (.long v4), none, some (.long v6), none, some (.long v8), none, some (.int v10), some (.int v11), some (.int v12), some (.long r2), none, none], [], M1)) rfl (fun _ => rfl) ?_ ?_
    · refine dp_s1 hF (i := .lload 8) rfl (fun _ => rfl) ?_
      refine dp_s1 hF (i := .lload 13) rfl (fun _ => rfl) ?_
      refine dp_s1 hF (i := .ldc2_w 1045) rfl (fun _ => rfl) ?_
      refine dp_s1 hF (i := .ladd) rfl (fun _ => rfl) ?_
      refine dp_s1 hF (i := .ldc2_w 834) rfl (fun _ => rfl) ?_
      refine dp_s1 hF (i := .ldiv) rfl (fun _ => rfl) ?_
      refine dp_s1 hF (i := .ladd) rfl (fun _ => rfl) ?_
      refine dp_s1w (v8 + ((r2 + (500000 : Int64)) / (1000000 : Int64))) (fun (y3 : Int64) => (313, [some (.ref 114), some (.int v1), some (.int v2), some (.int v3), some (.long v4), none, some (.long v6), none, some (.long y3), none, some (.int v10), some (.int v11), some (.int v12), some (.long r2), none, none], [], M1)) hF (i := .lstore 8) rfl (fun _ => rfl) (fun y3 => ?_)
      refine dp_s1w (v10 + (1 : Int32)) (fun (y4 : Int32) => (316, [some (.ref 114), some (.int v1), some (.int v2), some (.int v3), some (.long v4), none, some (.long v6), none, some (.long y3), none, some (.int y4), some (.int v11), some (.int v12), some (.long r2), none, none], [], M1)) hF (i := .iinc 10 1) rfl (fun _ => rfl) (fun y4 => ?_)
      refine dp_s1 hF (i := .goto (-224)) rfl (fun _ => rfl) ?_
      exact rfl
    refine dp_s1 hF (i := .ldc2_w 435) rfl (fun _ => rfl) ?_
    exact dp_s0 hF (i := .lreturn) rfl (fun _ => rfl)
  refine dp_s1 hF (i := .aload_n 0) rfl (fun _ => rfl) ?_
  refine dp_s1 hF (i := .getfield 401) rfl (fun _ => rfl) ?_
  refine dp_s1 hF (i := .bipush 8) rfl (fun _ => rfl) ?_
  refine dp_s1 hF (i := .iload_n 1) rfl (fun _ => rfl) ?_
  refine dp_s1 hF (i := .imul) rfl (fun _ => rfl) ?_
  refine dp_s1 hF (i := .iload 13) rfl (fun _ => rfl) ?_
  refine dp_s1 hF (i := .iadd) rfl (fun _ => rfl) ?_
  refine dp_s3 hF (i := .laload) rfl (fun _ => rfl) ?_
  refine dp_s1w (dp_J M 240 (Int32.toNatClampNeg (((8 : Int32) * v1) + v13))) (fun (y5 : Int64) => (242, [some (.ref 114), some (.int v1), some (.int v2), some (.int v3), some (.long v4), none, some (.long v6), none, some (.long v8), none, some (.int v10), some (.int v11), some (.int v12), some (.int v13), some (.long y5), none], [], M)) hF (i := .lstore 14) rfl (fun _ => rfl) (fun y5 => ?_)
  refine dp_s1 hF (i := .aload_n 0) rfl (fun _ => rfl) ?_
  refine dp_s1 hF (i := .getfield 236) rfl (fun _ => rfl) ?_
  refine dp_s1 hF (i := .iload 13) rfl (fun _ => rfl) ?_
  refine dp_s1 hF (i := .lload 14) rfl (fun _ => rfl) ?_
  refine dp_s1 hF (i := .ldc2_w 435) rfl (fun _ => rfl) ?_
  refine dp_s1 hF (i := .lcmp) rfl (fun _ => rfl) ?_
  refine dp_s2 hF (i := .ifCond .ne 9) (a := (257, [some (.ref 114), some (.int v1), some (.int v2), some (.int v3), some (.long v4), none, some (.long v6), none, some (.long v8), none, some (.int v10), some (.int v11), some (.int v12), some (.int v13), some (.long y5), none], [.int v13, .ref 188], M)) (b := (263, [some (.ref 114), some (.int v1), some (.int v2), some (.int v3), some (.long v4), none, some (.long v6), none, some (.long v8), none, some (.int v10), some (.int v11), some (.int v12), some (.int v13), some (.long y5), none], [.int v13, .ref 188], M)) rfl (fun _ => rfl) ?_ ?_
  · refine dp_s1 hF (i := .ldc2_w 435) rfl (fun _ => rfl) ?_
    refine dp_s1 hF (i := .goto 14) rfl (fun _ => rfl) ?_
    refine dp_s3w (dp_setJ M 188 (Int32.toNatClampNeg v13) (-1 : Int64)) (fun (M6 : dp_M) => (275, [some (.ref 114), some (.int v1), some (.int v2), some (.int v3), some (.long v4), none, some (.long v6), none, some (.long v8), none, some (.int v10), some (.int v11), some (.int v12), some (.int v13), some (.long y5), none], [], M6)) hF (i := .lastore) rfl (fun _ => rfl) (fun M6 => ?_)
    refine dp_s1w (v13 + (1 : Int32)) (fun (y7 : Int32) => (278, [some (.ref 114), some (.int v1), some (.int v2), some (.int v3), some (.long v4), none, some (.long v6), none, some (.long v8), none, some (.int v10), some (.int v11), some (.int v12), some (.int y7), some (.long y5), none], [], M6)) hF (i := .iinc 13 1) rfl (fun _ => rfl) (fun y7 => ?_)
    refine dp_s1 hF (i := .goto (-57)) rfl (fun _ => rfl) ?_
    exact rfl
  refine dp_s1 hF (i := .lload 14) rfl (fun _ => rfl) ?_
  refine dp_s1 hF (i := .iload 12) rfl (fun _ => rfl) ?_
  refine dp_s1 hF (i := .lload 6) rfl (fun _ => rfl) ?_
  refine dp_s1 hF (i := .lload 4) rfl (fun _ => rfl) ?_
  refine dp_sl9 (mj := dp_m_X12_partOfSum) (i := .invokestatic 1041) rfl rfl rfl (fun _ => rfl) (fun r9 M8 => ?_)
  refine dp_s3w (dp_setJ M8 188 (Int32.toNatClampNeg v13) r9) (fun (M10 : dp_M) => (275, [some (.ref 114), some (.int v1), some (.int v2), some (.int v3), some (.long v4), none, some (.long v6), none, some (.long v8), none, some (.int v10), some (.int v11), some (.int v12), some (.int v13), some (.long y5), none], [], M10)) hF (i := .lastore) rfl (fun _ => rfl) (fun M10 => ?_)
  refine dp_s1w (v13 + (1 : Int32)) (fun (y11 : Int32) => (278, [some (.ref 114), some (.int v1), some (.int v2), some (.int v3), some (.long v4), none, some (.long v6), none, some (.long v8), none, some (.int v10), some (.int v11), some (.int v12), some (.int y11), some (.long y5), none], [], M10)) hF (i := .iinc 13 1) rfl (fun _ => rfl) (fun y11 => ?_)
  refine dp_s1 hF (i := .goto (-57)) rfl (fun _ => rfl) ?_
  exact rfl
set_option maxRecDepth 20000 in
theorem D_X12_reckonsDuty_172_b_eq (xs : Nat → Int32) (xl d : Nat) (v1 : Int32) (v2 : Int32) (v3 : Int32) (v4 : Int64) (v6 : Int64) (v8 : Int64) (v10 : Int32) (v11 : Int32) (v12 : Int32) (v13 : Int64) (vs0 : Int32) (M : dp_M) : D_X12_reckonsDuty_172_b xs xl d v1 v2 v3 v4 v6 v8 v10 v11 v12 v13 vs0 M = if v11 < 0 ∨ 301 ≤ Int32.toNatClampNeg v11 then none else (if (dp_I M 172 (Int32.toNatClampNeg v11)) = 0 then (dp_w (v10 + (1 : Int32)) (fun y1 => D_X12_reckonsDuty_92_b xs xl d v1 v2 v3 v4 v6 v8 y1 v11 vs0 v13 M)) else (if vs0 = (3 : Int32) then (dp_w (v10 + (1 : Int32)) (fun y2 => D_X12_reckonsDuty_92_b xs xl d v1 v2 v3 v4 v6 v8 y2 v11 vs0 v13 M)) else (dp_bv (dp_den true xs xl d 489 [.ref 114, .int v11] M) (fun M3 => if v1 < 0 ∨ 400 ≤ Int32.toNatClampNeg v1 then none else (dp_bl (dp_den true xs xl d 574 [.long (dp_J M3 239 (Int32.toNatClampNeg v1)), .int vs0, .long v6, .long v4] M3) (fun r5 M4 => dp_w (dp_setJ M4 114 100 r5) (fun M6 => dp_w (0 : Int32) (fun y7 => D_X12_reckonsDuty_221 xs xl d v1 v2 v3 v4 v6 v8 v10 v11 vs0 y7 M6)))))))) := by
  have hF := dp_den_grow (md := true) (xs := xs) (xl := xl) d
  unfold D_X12_reckonsDuty_172_b
  refine dp_s1 hF (i := .istore 12) rfl (fun _ => rfl) ?_
  refine dp_s1 hF (i := .aload_n 0) rfl (fun _ => rfl) ?_
  refine dp_s1 hF (i := .getfield 188) rfl (fun _ => rfl) ?_
  refine dp_s1 hF (i := .iload 11) rfl (fun _ => rfl) ?_
  refine dp_s3 hF (i := .iaload) rfl (fun _ => rfl) ?_
  refine dp_s2 hF (i := .ifCond .eq 132) (a := (313, [some (.ref 114), some (.int v1), some (.int v2), some (.int v3), some (.long v4), none, some (.long v6), none, some (.long v8), none, some (.int v10), some (.int v11), some (.int vs0), some (.long v13), none, none], [], M)) (b := (184, [some (.ref 114), some (.int v1), some (.int v2), some (.int v3), some (.long v4), none, some (.long v6), none, some (.long v8), none, some (.int v10), some (.int v11), some (.int vs0), some (.long v13), none, none], [], M)) rfl (fun _ => rfl) ?_ ?_
  · refine dp_s1w (v10 + (1 : Int32)) (fun (y1 : Int32) => (316, [some (.ref 114), some (.int v1), some (.int v2), some (.int v3), some (.long v4), none, some (.long v6), none, some (.long v8), none, some (.int y1), some (.int v11), some (.int vs0), some (.long v13), none, none], [], M)) hF (i := .iinc 10 1) rfl (fun _ => rfl) (fun y1 => ?_)
    refine dp_s1 hF (i := .goto (-224)) rfl (fun _ => rfl) ?_
    exact rfl
  refine dp_s1 hF (i := .iload 12) rfl (fun _ => rfl) ?_
  refine dp_s1 hF (i := .iconst 3) rfl (fun _ => rfl) ?_
  refine dp_s2 hF (i := .if_icmp .ne 6) (a := (190, [some (.ref 114), some (.int v1), some (.int v2), some (.int v3), some (.long v4), none, some (.long v6), none, some (.long v8), none, some (.int v10), some (.int v11), some (.int vs0), some (.long v13), none, none], [], M)) (b := (193, [some (.ref 114), some (.int v1), some (.int v2), some (.int v3), some (.long v4), none, some (.long v6), none, some (.long v8), none, some (.int v10), some (.int v11), some (.int vs0), some (.long v13), none, none], [], M)) rfl (fun _ => rfl) ?_ ?_
  · refine dp_s1 hF (i := .goto 123) rfl (fun _ => rfl) ?_
    refine dp_s1w (v10 + (1 : Int32)) (fun (y2 : Int32) => (316, [some (.ref 114), some (.int v1), some (.int v2), some (.int v3), some (.long v4), none, some (.long v6), none, some (.long v8), none, some (.int y2), some (.int v11), some (.int vs0), some (.long v13), none, none], [], M)) hF (i := .iinc 10 1) rfl (fun _ => rfl) (fun y2 => ?_)
    refine dp_s1 hF (i := .goto (-224)) rfl (fun _ => rfl) ?_
    exact rfl
  refine dp_s1 hF (i := .aload_n 0) rfl (fun _ => rfl) ?_
  refine dp_s1 hF (i := .iload 11) rfl (fun _ => rfl) ?_
  refine dp_sv (mj := dp_m_X12_readsRate) (i := .invokevirtual 825) rfl rfl rfl (fun _ => rfl) (fun M3 => ?_)
  refine dp_s1 hF (i := .aload_n 0) rfl (fun _ => rfl) ?_
  refine dp_s1 hF (i := .aload_n 0) rfl (fun _ => rfl) ?_
  refine dp_s1 hF (i := .getfield 398) rfl (fun _ => rfl) ?_
  refine dp_s1 hF (i := .iload_n 1) rfl (fun _ => rfl) ?_
  refine dp_s3 hF (i := .laload) rfl (fun _ => rfl) ?_
  refine dp_s1 hF (i := .iload 12) rfl (fun _ => rfl) ?_
  refine dp_s1 hF (i := .lload 6) rfl (fun _ => rfl) ?_
  refine dp_s1 hF (i := .lload 4) rfl (fun _ => rfl) ?_
  refine dp_sl9 (mj := dp_m_X12_partOfSum) (i := .invokestatic 1041) rfl rfl rfl (fun _ => rfl) (fun r5 M4 => ?_)
  refine dp_s1w (dp_setJ M4 114 100 r5) (fun (M6 : dp_M) => (218, [some (.ref 114), some (.int v1), some (.int v2), some (.int v3), some (.long v4), none, some (.long v6), none, some (.long v8), none, some (.int v10), some (.int v11), some (.int vs0), some (.long v13), none, none], [], M6)) hF (i := .putfield 828) rfl (fun _ => rfl) (fun M6 => ?_)
  refine dp_s1 hF (i := .iconst 0) rfl (fun _ => rfl) ?_
  refine dp_s1w (0 : Int32) (fun (y7 : Int32) => (221, [some (.ref 114), some (.int v1), some (.int v2), some (.int v3), some (.long v4), none, some (.long v6), none, some (.long v8), none, some (.int v10), some (.int v11), some (.int vs0), some (.int y7), none, none], [], M6)) hF (i := .istore 13) rfl (fun _ => rfl) (fun y7 => ?_)
  exact rfl
noncomputable def D_X12_duty_0 (xs : Nat → Int32) (xl d : Nat) (v1 : Int32) (v2 : Int32) (M : dp_M) : Option dp_Res := dp_lim true xs xl (dp_den true xs xl d) dp_m_X12_duty (0, [some (.ref 114), some (.int v1), some (.int v2), none, none], [], M)
set_option maxRecDepth 20000 in
theorem D_X12_duty_0_eq (xs : Nat → Int32) (xl d : Nat) (v1 : Int32) (v2 : Int32) (M : dp_M) : D_X12_duty_0 xs xl d v1 v2 M = dp_bi (dp_den true xs xl d 566 [.ref 114, .int v1] M) (fun r2 M1 => if r2 = 0 then (dp_bi (dp_den true xs xl d 366 [.ref 114, .int (1 : Int32)] M1) (fun r4 M3 => some (.inl (some (.long (Int32.toInt64 r4))), M3))) else (dp_bi (dp_den true xs xl d 445 [.int v2] M1) (fun r6 M5 => if r6 = 0 then (dp_bi (dp_den true xs xl d 366 [.ref 114, .int (1 : Int32)] M5) (fun r8 M7 => some (.inl (some (.long (Int32.toInt64 r8))), M7))) else (dp_bl (dp_den true xs xl d 575 [.ref 114, .int v1, .int v2] M5) (fun r10 M9 => if 0 ≤ (lg_cmp r10 (0 : Int64)) then (dp_w (dp_setI M9 114 0 (0 : Int32)) (fun M11 => if 0 ≤ (lg_cmp r10 (0 : Int64)) then (some (.inl (some (.long r10)), M11)) else (some (.inl (some (.long (0 : Int64))), M11)))) else (dp_w (dp_setI M9 114 0 (2 : Int32)) (fun M12 => if 0 ≤ (lg_cmp r10 (0 : Int64)) then (some (.inl (some (.long r10)), M12)) else (some (.inl (some (.long (0 : Int64))), M12))))))))) := by
  have hF := dp_den_grow (md := true) (xs := xs) (xl := xl) d
  unfold D_X12_duty_0
  refine dp_s1 hF (i := .aload_n 0) rfl (fun _ => rfl) ?_
  refine dp_s1 hF (i := .iload_n 1) rfl (fun _ => rfl) ?_
  refine dp_si (mj := dp_m_X12_isDeclaration) (i := .invokevirtual 1029) rfl (Or.inr rfl) rfl (fun _ => rfl) (fun r2 M1 => ?_)
  refine dp_s2 hF (i := .ifCond .eq 10) (a := (15, [some (.ref 114), some (.int v1), some (.int v2), none, none], [], M1)) (b := (8, [some (.ref 114), some (.int v1), some (.int v2), none, none], [], M1)) rfl (fun _ => rfl) ?_ ?_
  · refine dp_s1 hF (i := .aload_n 0) rfl (fun _ => rfl) ?_
    refine dp_s1 hF (i := .iconst 1) rfl (fun _ => rfl) ?_
    refine dp_si (mj := dp_m_X12_refuse) (i := .invokevirtual 460) rfl (Or.inl rfl) rfl (fun _ => rfl) (fun r4 M3 => ?_)
    refine dp_s1 hF (i := .i2l) rfl (fun _ => rfl) ?_
    exact dp_s0 hF (i := .lreturn) rfl (fun _ => rfl)
  refine dp_s1 hF (i := .iload_n 2) rfl (fun _ => rfl) ?_
  refine dp_si (mj := dp_m_X12_isDay) (i := .invokestatic 672) rfl (Or.inr rfl) rfl (fun _ => rfl) (fun r6 M5 => ?_)
  refine dp_s2 hF (i := .ifCond .ne 10) (a := (15, [some (.ref 114), some (.int v1), some (.int v2), none, none], [], M5)) (b := (22, [some (.ref 114), some (.int v1), some (.int v2), none, none], [], M5)) rfl (fun _ => rfl) ?_ ?_
  · refine dp_s1 hF (i := .aload_n 0) rfl (fun _ => rfl) ?_
    refine dp_s1 hF (i := .iconst 1) rfl (fun _ => rfl) ?_
    refine dp_si (mj := dp_m_X12_refuse) (i := .invokevirtual 460) rfl (Or.inl rfl) rfl (fun _ => rfl) (fun r8 M7 => ?_)
    refine dp_s1 hF (i := .i2l) rfl (fun _ => rfl) ?_
    exact dp_s0 hF (i := .lreturn) rfl (fun _ => rfl)
  refine dp_s1 hF (i := .aload_n 0) rfl (fun _ => rfl) ?_
  refine dp_s1 hF (i := .iload_n 1) rfl (fun _ => rfl) ?_
  refine dp_s1 hF (i := .iload_n 2) rfl (fun _ => rfl) ?_
  refine dp_sl9 (mj := dp_m_X12_reckonsDuty) (i := .invokevirtual 1047) rfl rfl rfl (fun _ => rfl) (fun r10 M9 => ?_)
  refine dp_s1 hF (i := .lstore_n 3) rfl (fun _ => rfl) ?_
  refine dp_s1 hF (i := .aload_n 0) rfl (fun _ => rfl) ?_
  refine dp_s1 hF (i := .lload_n 3) rfl (fun _ => rfl) ?_
  refine dp_s1 hF (i := .lconst 0) rfl (fun _ => rfl) ?_
  refine dp_s1 hF (i := .lcmp) rfl (fun _ => rfl) ?_
  refine dp_s2 hF (i := .ifCond .ge 7) (a := (40, [some (.ref 114), some (.int v1), some (.int v2), some (.long r10), none], [.ref 114], M9)) (b := (36, [some (.ref 114), some (.int v1), some (.int v2), some (.long r10), none], [.ref 114], M9)) rfl (fun _ => rfl) ?_ ?_
  · refine dp_s1 hF (i := .iconst 0) rfl (fun _ => rfl) ?_
    refine dp_s1w (dp_setI M9 114 0 (0 : Int32)) (fun (M11 : dp_M) => (44, [some (.ref 114), some (.int v1), some (.int v2), some (.long r10), none], [], M11)) hF (i := .putfield 1) rfl (fun _ => rfl) (fun M11 => ?_)
    refine dp_s1 hF (i := .lload_n 3) rfl (fun _ => rfl) ?_
    refine dp_s1 hF (i := .lconst 0) rfl (fun _ => rfl) ?_
    refine dp_s1 hF (i := .lcmp) rfl (fun _ => rfl) ?_
    refine dp_s2 hF (i := .ifCond .ge 7) (a := (54, [some (.ref 114), some (.int v1), some (.int v2), some (.long r10), none], [], M11)) (b := (50, [some (.ref 114), some (.int v1), some (.int v2), some (.long r10), none], [], M11)) rfl (fun _ => rfl) ?_ ?_
    · refine dp_s1 hF (i := .lload_n 3) rfl (fun _ => rfl) ?_
      exact dp_s0 hF (i := .lreturn) rfl (fun _ => rfl)
    refine dp_s1 hF (i := .lconst 0) rfl (fun _ => rfl) ?_
    refine dp_s1 hF (i := .goto 4) rfl (fun _ => rfl) ?_
    exact dp_s0 hF (i := .lreturn) rfl (fun _ => rfl)
  refine dp_s1 hF (i := .iconst 2) rfl (fun _ => rfl) ?_
  refine dp_s1 hF (i := .goto 4) rfl (fun _ => rfl) ?_
  refine dp_s1w (dp_setI M9 114 0 (2 : Int32)) (fun (M12 : dp_M) => (44, [some (.ref 114), some (.int v1), some (.int v2), some (.long r10), none], [], M12)) hF (i := .putfield 1) rfl (fun _ => rfl) (fun M12 => ?_)
  refine dp_s1 hF (i := .lload_n 3) rfl (fun _ => rfl) ?_
  refine dp_s1 hF (i := .lconst 0) rfl (fun _ => rfl) ?_
  refine dp_s1 hF (i := .lcmp) rfl (fun _ => rfl) ?_
  refine dp_s2 hF (i := .ifCond .ge 7) (a := (54, [some (.ref 114), some (.int v1), some (.int v2), some (.long r10), none], [], M12)) (b := (50, [some (.ref 114), some (.int v1), some (.int v2), some (.long r10), none], [], M12)) rfl (fun _ => rfl) ?_ ?_
  · refine dp_s1 hF (i := .lload_n 3) rfl (fun _ => rfl) ?_
    exact dp_s0 hF (i := .lreturn) rfl (fun _ => rfl)
  refine dp_s1 hF (i := .lconst 0) rfl (fun _ => rfl) ?_
  refine dp_s1 hF (i := .goto 4) rfl (fun _ => rfl) ?_
  exact dp_s0 hF (i := .lreturn) rfl (fun _ => rfl)
noncomputable def D_X12_assess_0 (xs : Nat → Int32) (xl d : Nat) (v1 : Int32) (v2 : Int32) (M : dp_M) : Option dp_Res := dp_lim true xs xl (dp_den true xs xl d) dp_m_X12_assess (0, [some (.ref 114), some (.int v1), some (.int v2), none, none, none, none], [], M)
noncomputable def D_X12_assess_75 (xs : Nat → Int32) (xl d : Nat) (v1 : Int32) (v2 : Int32) (v3 : Int64) (vs0 : Int64) (M : dp_M) : Option dp_Res := dp_lim true xs xl (dp_den true xs xl d) dp_m_X12_assess (75, [some (.ref 114), some (.int v1), some (.int v2), some (.long v3), none, none, none], [.long vs0], M)
set_option maxRecDepth 20000 in
theorem D_X12_assess_0_eq (xs : Nat → Int32) (xl d : Nat) (v1 : Int32) (v2 : Int32) (M : dp_M) : D_X12_assess_0 xs xl d v1 v2 M = dp_bi (dp_den true xs xl d 567 [.ref 114, .int v1, .int (0 : Int32)] M) (fun r2 M1 => if r2 = 0 then (dp_bi (dp_den true xs xl d 366 [.ref 114, .int (1 : Int32)] M1) (fun r4 M3 => some (.inl (some (.long (Int32.toInt64 r4))), M3))) else (dp_bi (dp_den true xs xl d 445 [.int v2] M1) (fun r6 M5 => if r6 = 0 then (dp_bi (dp_den true xs xl d 366 [.ref 114, .int (1 : Int32)] M5) (fun r8 M7 => some (.inl (some (.long (Int32.toInt64 r8))), M7))) else (dp_bl (dp_den true xs xl d 575 [.ref 114, .int v1, .int v2] M5) (fun r10 M9 => if 0 ≤ (lg_cmp r10 (0 : Int64)) then (dp_w (dp_setI M9 114 0 (0 : Int32)) (fun M11 => if (lg_cmp r10 (0 : Int64)) = 0 then (D_X12_assess_75 xs xl d v1 v2 r10 (0 : Int64) M11) else (if v1 < 0 ∨ 400 ≤ Int32.toNatClampNeg v1 then none else (if v1 < 0 ∨ 400 ≤ Int32.toNatClampNeg v1 then none else (dp_bl (dp_den true xs xl d 529 [.ref 114, .int (dp_I M11 235 (Int32.toNatClampNeg v1)), .int (dp_I M11 234 (Int32.toNatClampNeg v1)), .long r10] M11) (fun r13 M12 => D_X12_assess_75 xs xl d v1 v2 r10 r13 M12)))))) else (dp_bi (dp_den true xs xl d 366 [.ref 114, .int (2 : Int32)] M9) (fun r15 M14 => some (.inl (some (.long (Int32.toInt64 r15))), M14)))))))) := by
  have hF := dp_den_grow (md := true) (xs := xs) (xl := xl) d
  unfold D_X12_assess_0
  refine dp_s1 hF (i := .aload_n 0) rfl (fun _ => rfl) ?_
  refine dp_s1 hF (i := .iload_n 1) rfl (fun _ => rfl) ?_
  refine dp_s1 hF (i := .iconst 0) rfl (fun _ => rfl) ?_
  refine dp_si (mj := dp_m_X12_isState) (i := .invokevirtual 1032) rfl (Or.inr rfl) rfl (fun _ => rfl) (fun r2 M1 => ?_)
  refine dp_s2 hF (i := .ifCond .eq 10) (a := (16, [some (.ref 114), some (.int v1), some (.int v2), none, none, none, none], [], M1)) (b := (9, [some (.ref 114), some (.int v1), some (.int v2), none, none, none, none], [], M1)) rfl (fun _ => rfl) ?_ ?_
  · refine dp_s1 hF (i := .aload_n 0) rfl (fun _ => rfl) ?_
    refine dp_s1 hF (i := .iconst 1) rfl (fun _ => rfl) ?_
    refine dp_si (mj := dp_m_X12_refuse) (i := .invokevirtual 460) rfl (Or.inl rfl) rfl (fun _ => rfl) (fun r4 M3 => ?_)
    refine dp_s1 hF (i := .i2l) rfl (fun _ => rfl) ?_
    exact dp_s0 hF (i := .lreturn) rfl (fun _ => rfl)
  refine dp_s1 hF (i := .iload_n 2) rfl (fun _ => rfl) ?_
  refine dp_si (mj := dp_m_X12_isDay) (i := .invokestatic 672) rfl (Or.inr rfl) rfl (fun _ => rfl) (fun r6 M5 => ?_)
  refine dp_s2 hF (i := .ifCond .ne 10) (a := (16, [some (.ref 114), some (.int v1), some (.int v2), none, none, none, none], [], M5)) (b := (23, [some (.ref 114), some (.int v1), some (.int v2), none, none, none, none], [], M5)) rfl (fun _ => rfl) ?_ ?_
  · refine dp_s1 hF (i := .aload_n 0) rfl (fun _ => rfl) ?_
    refine dp_s1 hF (i := .iconst 1) rfl (fun _ => rfl) ?_
    refine dp_si (mj := dp_m_X12_refuse) (i := .invokevirtual 460) rfl (Or.inl rfl) rfl (fun _ => rfl) (fun r8 M7 => ?_)
    refine dp_s1 hF (i := .i2l) rfl (fun _ => rfl) ?_
    exact dp_s0 hF (i := .lreturn) rfl (fun _ => rfl)
  refine dp_s1 hF (i := .aload_n 0) rfl (fun _ => rfl) ?_
  refine dp_s1 hF (i := .iload_n 1) rfl (fun _ => rfl) ?_
  refine dp_s1 hF (i := .iload_n 2) rfl (fun _ => rfl) ?_
  refine dp_sl9 (mj := dp_m_X12_reckonsDuty) (i := .invokevirtual 1047) rfl rfl rfl (fun _ => rfl) (fun r10 M9 => ?_)
  refine dp_s1 hF (i := .lstore_n 3) rfl (fun _ => rfl) ?_
  refine dp_s1 hF (i := .lload_n 3) rfl (fun _ => rfl) ?_
  refine dp_s1 hF (i := .lconst 0) rfl (fun _ => rfl) ?_
  refine dp_s1 hF (i := .lcmp) rfl (fun _ => rfl) ?_
  refine dp_s2 hF (i := .ifCond .ge 10) (a := (43, [some (.ref 114), some (.int v1), some (.int v2), some (.long r10), none, none, none], [], M9)) (b := (36, [some (.ref 114), some (.int v1), some (.int v2), some (.long r10), none, none, none], [], M9)) rfl (fun _ => rfl) ?_ ?_
  · refine dp_s1 hF (i := .aload_n 0) rfl (fun _ => rfl) ?_
    refine dp_s1 hF (i := .iconst 0) rfl (fun _ => rfl) ?_
    refine dp_s1w (dp_setI M9 114 0 (0 : Int32)) (fun (M11 : dp_M) => (48, [some (.ref 114), some (.int v1), some (.int v2), some (.long r10), none, none, none], [], M11)) hF (i := .putfield 1) rfl (fun _ => rfl) (fun M11 => ?_)
    refine dp_s1 hF (i := .lload_n 3) rfl (fun _ => rfl) ?_
    refine dp_s1 hF (i := .lconst 0) rfl (fun _ => rfl) ?_
    refine dp_s1 hF (i := .lcmp) rfl (fun _ => rfl) ?_
    refine dp_s2 hF (i := .ifCond .ne 7) (a := (54, [some (.ref 114), some (.int v1), some (.int v2), some (.long r10), none, none, none], [], M11)) (b := (58, [some (.ref 114), some (.int v1), some (.int v2), some (.long r10), none, none, none], [], M11)) rfl (fun _ => rfl) ?_ ?_
    · refine dp_s1 hF (i := .lconst 0) rfl (fun _ => rfl) ?_
      refine dp_s1 hF (i := .goto 20) rfl (fun _ => rfl) ?_
      exact rfl
    refine dp_s1 hF (i := .aload_n 0) rfl (fun _ => rfl) ?_
    refine dp_s1 hF (i := .aload_n 0) rfl (fun _ => rfl) ?_
    refine dp_s1 hF (i := .getfield 386) rfl (fun _ => rfl) ?_
    refine dp_s1 hF (i := .iload_n 1) rfl (fun _ => rfl) ?_
    refine dp_s3 hF (i := .iaload) rfl (fun _ => rfl) ?_
    refine dp_s1 hF (i := .aload_n 0) rfl (fun _ => rfl) ?_
    refine dp_s1 hF (i := .getfield 383) rfl (fun _ => rfl) ?_
    refine dp_s1 hF (i := .iload_n 1) rfl (fun _ => rfl) ?_
    refine dp_s3 hF (i := .iaload) rfl (fun _ => rfl) ?_
    refine dp_s1 hF (i := .lload_n 3) rfl (fun _ => rfl) ?_
    refine dp_sl9 (mj := dp_m_X12_reservesAt) (i := .invokevirtual 1050) rfl rfl rfl (fun _ => rfl) (fun r13 M12 => ?_)
    exact rfl
  refine dp_s1 hF (i := .aload_n 0) rfl (fun _ => rfl) ?_
  refine dp_s1 hF (i := .iconst 2) rfl (fun _ => rfl) ?_
  refine dp_si (mj := dp_m_X12_refuse) (i := .invokevirtual 460) rfl (Or.inl rfl) rfl (fun _ => rfl) (fun r15 M14 => ?_)
  refine dp_s1 hF (i := .i2l) rfl (fun _ => rfl) ?_
  exact dp_s0 hF (i := .lreturn) rfl (fun _ => rfl)
set_option maxRecDepth 20000 in
theorem D_X12_assess_75_eq (xs : Nat → Int32) (xl d : Nat) (v1 : Int32) (v2 : Int32) (v3 : Int64) (vs0 : Int64) (M : dp_M) : D_X12_assess_75 xs xl d v1 v2 v3 vs0 M = if 0 ≤ (lg_cmp vs0 (0 : Int64)) then (if v1 < 0 ∨ 400 ≤ Int32.toNatClampNeg v1 then none else dp_w (dp_setI M 243 (Int32.toNatClampNeg v1) (Int64.toInt32 vs0)) (fun M1 => if v1 < 0 ∨ 400 ≤ Int32.toNatClampNeg v1 then none else dp_w (dp_setJ M1 242 (Int32.toNatClampNeg v1) v3) (fun M2 => if v1 < 0 ∨ 400 ≤ Int32.toNatClampNeg v1 then none else dp_w (dp_setI M2 241 (Int32.toNatClampNeg v1) (1 : Int32)) (fun M3 => some (.inl (some (.long v3)), M3))))) else (some (.inl (some (.long vs0)), M)) := by
  have hF := dp_den_grow (md := true) (xs := xs) (xl := xl) d
  unfold D_X12_assess_75
  refine dp_s1 hF (i := .lstore 5) rfl (fun _ => rfl) ?_
  refine dp_s1 hF (i := .lload 5) rfl (fun _ => rfl) ?_
  refine dp_s1 hF (i := .lconst 0) rfl (fun _ => rfl) ?_
  refine dp_s1 hF (i := .lcmp) rfl (fun _ => rfl) ?_
  refine dp_s2 hF (i := .ifCond .ge 6) (a := (87, [some (.ref 114), some (.int v1), some (.int v2), some (.long v3), none, some (.long vs0), none], [], M)) (b := (84, [some (.ref 114), some (.int v1), some (.int v2), some (.long v3), none, some (.long vs0), none], [], M)) rfl (fun _ => rfl) ?_ ?_
  · refine dp_s1 hF (i := .aload_n 0) rfl (fun _ => rfl) ?_
    refine dp_s1 hF (i := .getfield 410) rfl (fun _ => rfl) ?_
    refine dp_s1 hF (i := .iload_n 1) rfl (fun _ => rfl) ?_
    refine dp_s1 hF (i := .lload 5) rfl (fun _ => rfl) ?_
    refine dp_s1 hF (i := .l2i) rfl (fun _ => rfl) ?_
    refine dp_s3w (dp_setI M 243 (Int32.toNatClampNeg v1) (Int64.toInt32 vs0)) (fun (M1 : dp_M) => (96, [some (.ref 114), some (.int v1), some (.int v2), some (.long v3), none, some (.long vs0), none], [], M1)) hF (i := .iastore) rfl (fun _ => rfl) (fun M1 => ?_)
    refine dp_s1 hF (i := .aload_n 0) rfl (fun _ => rfl) ?_
    refine dp_s1 hF (i := .getfield 407) rfl (fun _ => rfl) ?_
    refine dp_s1 hF (i := .iload_n 1) rfl (fun _ => rfl) ?_
    refine dp_s1 hF (i := .lload_n 3) rfl (fun _ => rfl) ?_
    refine dp_s3w (dp_setJ M1 242 (Int32.toNatClampNeg v1) v3) (fun (M2 : dp_M) => (103, [some (.ref 114), some (.int v1), some (.int v2), some (.long v3), none, some (.long vs0), none], [], M2)) hF (i := .lastore) rfl (fun _ => rfl) (fun M2 => ?_)
    refine dp_s1 hF (i := .aload_n 0) rfl (fun _ => rfl) ?_
    refine dp_s1 hF (i := .getfield 404) rfl (fun _ => rfl) ?_
    refine dp_s1 hF (i := .iload_n 1) rfl (fun _ => rfl) ?_
    refine dp_s1 hF (i := .iconst 1) rfl (fun _ => rfl) ?_
    refine dp_s3w (dp_setI M2 241 (Int32.toNatClampNeg v1) (1 : Int32)) (fun (M3 : dp_M) => (110, [some (.ref 114), some (.int v1), some (.int v2), some (.long v3), none, some (.long vs0), none], [], M3)) hF (i := .iastore) rfl (fun _ => rfl) (fun M3 => ?_)
    refine dp_s1 hF (i := .lload_n 3) rfl (fun _ => rfl) ?_
    exact dp_s0 hF (i := .lreturn) rfl (fun _ => rfl)
  refine dp_s1 hF (i := .lload 5) rfl (fun _ => rfl) ?_
  exact dp_s0 hF (i := .lreturn) rfl (fun _ => rfl)
noncomputable def D_X12_beginsFor_0 (xs : Nat → Int32) (xl d : Nat) (v1 : Int32) (v2 : Int32) (M : dp_M) : Option dp_Res := dp_lim true xs xl (dp_den true xs xl d) dp_m_X12_beginsFor (0, [some (.ref 114), some (.int v1), some (.int v2), none], [], M)
noncomputable def D_X12_beginsFor_15 (xs : Nat → Int32) (xl d : Nat) (v1 : Int32) (v2 : Int32) (vs0 : Int32) (M : dp_M) : Option dp_Res := dp_lim true xs xl (dp_den true xs xl d) dp_m_X12_beginsFor (15, [some (.ref 114), some (.int v1), some (.int v2), none], [.int vs0], M)
set_option maxRecDepth 20000 in
theorem D_X12_beginsFor_0_eq (xs : Nat → Int32) (xl d : Nat) (v1 : Int32) (v2 : Int32) (M : dp_M) : D_X12_beginsFor_0 xs xl d v1 v2 M = if (800 : Int32) ≤ (dp_I M 114 141) then (D_X12_beginsFor_15 xs xl d v1 v2 (0 : Int32) M) else (D_X12_beginsFor_15 xs xl d v1 v2 (1 : Int32) M) := by
  have hF := dp_den_grow (md := true) (xs := xs) (xl := xl) d
  unfold D_X12_beginsFor_0
  refine dp_s1 hF (i := .aload_n 0) rfl (fun _ => rfl) ?_
  refine dp_s1 hF (i := .getfield 966) rfl (fun _ => rfl) ?_
  refine dp_s1 hF (i := .sipush 800) rfl (fun _ => rfl) ?_
  refine dp_s2 hF (i := .if_icmp .ge 7) (a := (14, [some (.ref 114), some (.int v1), some (.int v2), none], [], M)) (b := (10, [some (.ref 114), some (.int v1), some (.int v2), none], [], M)) rfl (fun _ => rfl) ?_ ?_
  · refine dp_s1 hF (i := .iconst 0) rfl (fun _ => rfl) ?_
    exact rfl
  refine dp_s1 hF (i := .iconst 1) rfl (fun _ => rfl) ?_
  refine dp_s1 hF (i := .goto 4) rfl (fun _ => rfl) ?_
  exact rfl
set_option maxRecDepth 20000 in
theorem D_X12_beginsFor_15_eq (xs : Nat → Int32) (xl d : Nat) (v1 : Int32) (v2 : Int32) (vs0 : Int32) (M : dp_M) : D_X12_beginsFor_15 xs xl d v1 v2 vs0 M = if vs0 = 0 then (if vs0 = 0 ∨ vs0 = 1 then some (.inl (some (.int vs0)), M) else none) else (if v1 < 0 ∨ 400 ≤ Int32.toNatClampNeg v1 then none else (dp_bv (dp_den true xs xl d 544 [.ref 114, .int (dp_I M 114 141), .int (dp_I M 238 (Int32.toNatClampNeg v1)), .int v2] M) (fun M1 => if vs0 = 0 ∨ vs0 = 1 then some (.inl (some (.int vs0)), M1) else none))) := by
  have hF := dp_den_grow (md := true) (xs := xs) (xl := xl) d
  unfold D_X12_beginsFor_15
  refine dp_s1 hF (i := .istore_n 3) rfl (fun _ => rfl) ?_
  refine dp_s1 hF (i := .iload_n 3) rfl (fun _ => rfl) ?_
  refine dp_s2 hF (i := .ifCond .eq 18) (a := (35, [some (.ref 114), some (.int v1), some (.int v2), some (.int vs0)], [], M)) (b := (20, [some (.ref 114), some (.int v1), some (.int v2), some (.int vs0)], [], M)) rfl (fun _ => rfl) ?_ ?_
  · refine dp_s1 hF (i := .iload_n 3) rfl (fun _ => rfl) ?_
    exact dp_s0 hF (i := .ireturn) rfl (fun _ => rfl)
  refine dp_s1 hF (i := .aload_n 0) rfl (fun _ => rfl) ?_
  refine dp_s1 hF (i := .aload_n 0) rfl (fun _ => rfl) ?_
  refine dp_s1 hF (i := .getfield 966) rfl (fun _ => rfl) ?_
  refine dp_s1 hF (i := .aload_n 0) rfl (fun _ => rfl) ?_
  refine dp_s1 hF (i := .getfield 395) rfl (fun _ => rfl) ?_
  refine dp_s1 hF (i := .iload_n 1) rfl (fun _ => rfl) ?_
  refine dp_s3 hF (i := .iaload) rfl (fun _ => rfl) ?_
  refine dp_s1 hF (i := .iload_n 2) rfl (fun _ => rfl) ?_
  refine dp_sv (mj := dp_m_X12_beginsBatch) (i := .invokevirtual 972) rfl rfl rfl (fun _ => rfl) (fun M1 => ?_)
  refine dp_s1 hF (i := .iload_n 3) rfl (fun _ => rfl) ?_
  exact dp_s0 hF (i := .ireturn) rfl (fun _ => rfl)
noncomputable def D_X12_postsFor_0 (xs : Nat → Int32) (xl d : Nat) (v1 : Int32) (M : dp_M) : Option dp_Res := dp_lim true xs xl (dp_den true xs xl d) dp_m_X12_postsFor (0, [some (.ref 114), some (.int v1)], [], M)
set_option maxRecDepth 20000 in
theorem D_X12_postsFor_0_eq (xs : Nat → Int32) (xl d : Nat) (v1 : Int32) (M : dp_M) : D_X12_postsFor_0 xs xl d v1 M = dp_bi (dp_den true xs xl d 550 [.ref 114, .int (dp_I M 114 141)] M) (fun r2 M1 => if r2 ≤ 0 then (dp_bv (dp_den true xs xl d 551 [.ref 114, .int (dp_I M1 114 141)] M1) (fun M3 => if v1 < 0 ∨ 400 ≤ Int32.toNatClampNeg v1 then none else dp_w (dp_setI M3 244 (Int32.toNatClampNeg v1) (dp_I M3 114 141)) (fun M4 => dp_w (dp_setI M4 114 141 ((dp_I M4 114 141) + (1 : Int32))) (fun M5 => some (.inl (some (.int (1 : Int32))), M5))))) else (some (.inl (some (.int (0 : Int32))), M1))) := by
  have hF := dp_den_grow (md := true) (xs := xs) (xl := xl) d
  unfold D_X12_postsFor_0
  refine dp_s1 hF (i := .aload_n 0) rfl (fun _ => rfl) ?_
  refine dp_s1 hF (i := .aload_n 0) rfl (fun _ => rfl) ?_
  refine dp_s1 hF (i := .getfield 966) rfl (fun _ => rfl) ?_
  refine dp_si (mj := dp_m_X12_wrongWith) (i := .invokevirtual 995) rfl (Or.inl rfl) rfl (fun _ => rfl) (fun r2 M1 => ?_)
  refine dp_s2 hF (i := .ifCond .le 5) (a := (13, [some (.ref 114), some (.int v1)], [], M1)) (b := (11, [some (.ref 114), some (.int v1)], [], M1)) rfl (fun _ => rfl) ?_ ?_
  · refine dp_s1 hF (i := .aload_n 0) rfl (fun _ => rfl) ?_
    refine dp_s1 hF (i := .aload_n 0) rfl (fun _ => rfl) ?_
    refine dp_s1 hF (i := .getfield 966) rfl (fun _ => rfl) ?_
    refine dp_sv (mj := dp_m_X12_posts) (i := .invokevirtual 1007) rfl rfl rfl (fun _ => rfl) (fun M3 => ?_)
    refine dp_s1 hF (i := .aload_n 0) rfl (fun _ => rfl) ?_
    refine dp_s1 hF (i := .getfield 413) rfl (fun _ => rfl) ?_
    refine dp_s1 hF (i := .iload_n 1) rfl (fun _ => rfl) ?_
    refine dp_s1 hF (i := .aload_n 0) rfl (fun _ => rfl) ?_
    refine dp_s1 hF (i := .getfield 966) rfl (fun _ => rfl) ?_
    refine dp_s3w (dp_setI M3 244 (Int32.toNatClampNeg v1) (dp_I M3 114 141)) (fun (M4 : dp_M) => (31, [some (.ref 114), some (.int v1)], [], M4)) hF (i := .iastore) rfl (fun _ => rfl) (fun M4 => ?_)
    refine dp_s1 hF (i := .aload_n 0) rfl (fun _ => rfl) ?_
    refine dp_s1 hF (i := .dup) rfl (fun _ => rfl) ?_
    refine dp_s1 hF (i := .getfield 966) rfl (fun _ => rfl) ?_
    refine dp_s1 hF (i := .iconst 1) rfl (fun _ => rfl) ?_
    refine dp_s1 hF (i := .iadd) rfl (fun _ => rfl) ?_
    refine dp_s1w (dp_setI M4 114 141 ((dp_I M4 114 141) + (1 : Int32))) (fun (M5 : dp_M) => (41, [some (.ref 114), some (.int v1)], [], M5)) hF (i := .putfield 966) rfl (fun _ => rfl) (fun M5 => ?_)
    refine dp_s1 hF (i := .iconst 1) rfl (fun _ => rfl) ?_
    exact dp_s0 hF (i := .ireturn) rfl (fun _ => rfl)
  refine dp_s1 hF (i := .iconst 0) rfl (fun _ => rfl) ?_
  exact dp_s0 hF (i := .ireturn) rfl (fun _ => rfl)
noncomputable def D_X12_pay_0 (xs : Nat → Int32) (xl d : Nat) (v1 : Int32) (v2 : Int32) (M : dp_M) : Option dp_Res := dp_lim true xs xl (dp_den true xs xl d) dp_m_X12_pay (0, [some (.ref 114), some (.int v1), some (.int v2)], [], M)
set_option maxRecDepth 20000 in
theorem D_X12_pay_0_eq (xs : Nat → Int32) (xl d : Nat) (v1 : Int32) (v2 : Int32) (M : dp_M) : D_X12_pay_0 xs xl d v1 v2 M = dp_bi (dp_den true xs xl d 567 [.ref 114, .int v1, .int (1 : Int32)] M) (fun r2 M1 => if r2 = 0 then (dp_bi (dp_den true xs xl d 366 [.ref 114, .int (1 : Int32)] M1) (fun r4 M3 => some (.inl (some (.int r4)), M3))) else (dp_bi (dp_den true xs xl d 540 [.int v2] M1) (fun r6 M5 => if r6 = 0 then (dp_bi (dp_den true xs xl d 366 [.ref 114, .int (1 : Int32)] M5) (fun r8 M7 => some (.inl (some (.int r8)), M7))) else (if v1 < 0 ∨ 400 ≤ Int32.toNatClampNeg v1 then none else (if (lg_cmp (dp_J M5 242 (Int32.toNatClampNeg v1)) (0 : Int64)) ≤ 0 then (dp_w (dp_setI M5 114 0 (0 : Int32)) (fun M9 => if v1 < 0 ∨ 400 ≤ Int32.toNatClampNeg v1 then none else dp_w (dp_setI M9 241 (Int32.toNatClampNeg v1) (2 : Int32)) (fun M10 => if v1 < 0 ∨ 400 ≤ Int32.toNatClampNeg v1 then none else (some (.inl (some (.int (dp_I M10 244 (Int32.toNatClampNeg v1)))), M10))))) else (dp_bi (dp_den true xs xl d 578 [.ref 114, .int v1, .int v2] M5) (fun r12 M11 => if r12 = 0 then (dp_bi (dp_den true xs xl d 366 [.ref 114, .int (2 : Int32)] M11) (fun r14 M13 => some (.inl (some (.int r14)), M13))) else (if v1 < 0 ∨ 400 ≤ Int32.toNatClampNeg v1 then none else (if v1 < 0 ∨ 400 ≤ Int32.toNatClampNeg v1 then none else (dp_bv (dp_den true xs xl d 545 [.ref 114, .int (dp_I M11 114 141), .int (dp_I M11 234 (Int32.toNatClampNeg v1)), .long (-(dp_J M11 242 (Int32.toNatClampNeg v1)))] M11) (fun M15 => if v1 < 0 ∨ 400 ≤ Int32.toNatClampNeg v1 then none else (dp_bv (dp_den true xs xl d 545 [.ref 114, .int (dp_I M15 114 141), .int (8 : Int32), .long (dp_J M15 242 (Int32.toNatClampNeg v1))] M15) (fun M16 => dp_bi (dp_den true xs xl d 579 [.ref 114, .int v1] M16) (fun r18 M17 => if r18 = 0 then (dp_bi (dp_den true xs xl d 366 [.ref 114, .int (2 : Int32)] M17) (fun r20 M19 => some (.inl (some (.int r20)), M19))) else (if v1 < 0 ∨ 400 ≤ Int32.toNatClampNeg v1 then none else (dp_bv (dp_den true xs xl d 530 [.ref 114, .int (dp_I M17 243 (Int32.toNatClampNeg v1)), .int (2 : Int32)] M17) (fun M21 => dp_w (dp_setI M21 114 0 (0 : Int32)) (fun M22 => if v1 < 0 ∨ 400 ≤ Int32.toNatClampNeg v1 then none else dp_w (dp_setI M22 241 (Int32.toNatClampNeg v1) (2 : Int32)) (fun M23 => if v1 < 0 ∨ 400 ≤ Int32.toNatClampNeg v1 then none else (some (.inl (some (.int (dp_I M23 244 (Int32.toNatClampNeg v1)))), M23))))))))))))))))))))) := by
  have hF := dp_den_grow (md := true) (xs := xs) (xl := xl) d
  unfold D_X12_pay_0
  refine dp_s1 hF (i := .aload_n 0) rfl (fun _ => rfl) ?_
  refine dp_s1 hF (i := .iload_n 1) rfl (fun _ => rfl) ?_
  refine dp_s1 hF (i := .iconst 1) rfl (fun _ => rfl) ?_
  refine dp_si (mj := dp_m_X12_isState) (i := .invokevirtual 1032) rfl (Or.inr rfl) rfl (fun _ => rfl) (fun r2 M1 => ?_)
  refine dp_s2 hF (i := .ifCond .eq 10) (a := (16, [some (.ref 114), some (.int v1), some (.int v2)], [], M1)) (b := (9, [some (.ref 114), some (.int v1), some (.int v2)], [], M1)) rfl (fun _ => rfl) ?_ ?_
  · refine dp_s1 hF (i := .aload_n 0) rfl (fun _ => rfl) ?_
    refine dp_s1 hF (i := .iconst 1) rfl (fun _ => rfl) ?_
    refine dp_si (mj := dp_m_X12_refuse) (i := .invokevirtual 460) rfl (Or.inl rfl) rfl (fun _ => rfl) (fun r4 M3 => ?_)
    exact dp_s0 hF (i := .ireturn) rfl (fun _ => rfl)
  refine dp_s1 hF (i := .iload_n 2) rfl (fun _ => rfl) ?_
  refine dp_si (mj := dp_m_X12_isLedgerDay) (i := .invokestatic 969) rfl (Or.inr rfl) rfl (fun _ => rfl) (fun r6 M5 => ?_)
  refine dp_s2 hF (i := .ifCond .ne 9) (a := (16, [some (.ref 114), some (.int v1), some (.int v2)], [], M5)) (b := (22, [some (.ref 114), some (.int v1), some (.int v2)], [], M5)) rfl (fun _ => rfl) ?_ ?_
  · refine dp_s1 hF (i := .aload_n 0) rfl (fun _ => rfl) ?_
    refine dp_s1 hF (i := .iconst 1) rfl (fun _ => rfl) ?_
    refine dp_si (mj := dp_m_X12_refuse) (i := .invokevirtual 460) rfl (Or.inl rfl) rfl (fun _ => rfl) (fun r8 M7 => ?_)
    exact dp_s0 hF (i := .ireturn) rfl (fun _ => rfl)
  refine dp_s1 hF (i := .aload_n 0) rfl (fun _ => rfl) ?_
  refine dp_s1 hF (i := .getfield 407) rfl (fun _ => rfl) ?_
  refine dp_s1 hF (i := .iload_n 1) rfl (fun _ => rfl) ?_
  refine dp_s3 hF (i := .laload) rfl (fun _ => rfl) ?_
  refine dp_s1 hF (i := .lconst 0) rfl (fun _ => rfl) ?_
  refine dp_s1 hF (i := .lcmp) rfl (fun _ => rfl) ?_
  refine dp_s2 hF (i := .ifCond .le 80) (a := (110, [some (.ref 114), some (.int v1), some (.int v2)], [], M5)) (b := (33, [some (.ref 114), some (.int v1), some (.int v2)], [], M5)) rfl (fun _ => rfl) ?_ ?_
  · refine dp_s1 hF (i := .aload_n 0) rfl (fun _ => rfl) ?_
    refine dp_s1 hF (i := .iconst 0) rfl (fun _ => rfl) ?_
    refine dp_s1w (dp_setI M5 114 0 (0 : Int32)) (fun (M9 : dp_M) => (115, [some (.ref 114), some (.int v1), some (.int v2)], [], M9)) hF (i := .putfield 1) rfl (fun _ => rfl) (fun M9 => ?_)
    refine dp_s1 hF (i := .aload_n 0) rfl (fun _ => rfl) ?_
    refine dp_s1 hF (i := .getfield 404) rfl (fun _ => rfl) ?_
    refine dp_s1 hF (i := .iload_n 1) rfl (fun _ => rfl) ?_
    refine dp_s1 hF (i := .iconst 2) rfl (fun _ => rfl) ?_
    refine dp_s3w (dp_setI M9 241 (Int32.toNatClampNeg v1) (2 : Int32)) (fun (M10 : dp_M) => (122, [some (.ref 114), some (.int v1), some (.int v2)], [], M10)) hF (i := .iastore) rfl (fun _ => rfl) (fun M10 => ?_)
    refine dp_s1 hF (i := .aload_n 0) rfl (fun _ => rfl) ?_
    refine dp_s1 hF (i := .getfield 413) rfl (fun _ => rfl) ?_
    refine dp_s1 hF (i := .iload_n 1) rfl (fun _ => rfl) ?_
    refine dp_s3 hF (i := .iaload) rfl (fun _ => rfl) ?_
    exact dp_s0 hF (i := .ireturn) rfl (fun _ => rfl)
  refine dp_s1 hF (i := .aload_n 0) rfl (fun _ => rfl) ?_
  refine dp_s1 hF (i := .iload_n 1) rfl (fun _ => rfl) ?_
  refine dp_s1 hF (i := .iload_n 2) rfl (fun _ => rfl) ?_
  refine dp_si (mj := dp_m_X12_beginsFor) (i := .invokevirtual 1053) rfl (Or.inr rfl) rfl (fun _ => rfl) (fun r12 M11 => ?_)
  refine dp_s2 hF (i := .ifCond .ne 9) (a := (42, [some (.ref 114), some (.int v1), some (.int v2)], [], M11)) (b := (48, [some (.ref 114), some (.int v1), some (.int v2)], [], M11)) rfl (fun _ => rfl) ?_ ?_
  · refine dp_s1 hF (i := .aload_n 0) rfl (fun _ => rfl) ?_
    refine dp_s1 hF (i := .iconst 2) rfl (fun _ => rfl) ?_
    refine dp_si (mj := dp_m_X12_refuse) (i := .invokevirtual 460) rfl (Or.inl rfl) rfl (fun _ => rfl) (fun r14 M13 => ?_)
    exact dp_s0 hF (i := .ireturn) rfl (fun _ => rfl)
  refine dp_s1 hF (i := .aload_n 0) rfl (fun _ => rfl) ?_
  refine dp_s1 hF (i := .aload_n 0) rfl (fun _ => rfl) ?_
  refine dp_s1 hF (i := .getfield 966) rfl (fun _ => rfl) ?_
  refine dp_s1 hF (i := .aload_n 0) rfl (fun _ => rfl) ?_
  refine dp_s1 hF (i := .getfield 383) rfl (fun _ => rfl) ?_
  refine dp_s1 hF (i := .iload_n 1) rfl (fun _ => rfl) ?_
  refine dp_s3 hF (i := .iaload) rfl (fun _ => rfl) ?_
  refine dp_s1 hF (i := .aload_n 0) rfl (fun _ => rfl) ?_
  refine dp_s1 hF (i := .getfield 407) rfl (fun _ => rfl) ?_
  refine dp_s1 hF (i := .iload_n 1) rfl (fun _ => rfl) ?_
  refine dp_s3 hF (i := .laload) rfl (fun _ => rfl) ?_
  refine dp_s1 hF (i := .lneg) rfl (fun _ => rfl) ?_
  refine dp_sv (mj := dp_m_X12_enters) (i := .invokevirtual 984) rfl rfl rfl (fun _ => rfl) (fun M15 => ?_)
  refine dp_s1 hF (i := .aload_n 0) rfl (fun _ => rfl) ?_
  refine dp_s1 hF (i := .aload_n 0) rfl (fun _ => rfl) ?_
  refine dp_s1 hF (i := .getfield 966) rfl (fun _ => rfl) ?_
  refine dp_s1 hF (i := .bipush 8) rfl (fun _ => rfl) ?_
  refine dp_s1 hF (i := .aload_n 0) rfl (fun _ => rfl) ?_
  refine dp_s1 hF (i := .getfield 407) rfl (fun _ => rfl) ?_
  refine dp_s1 hF (i := .iload_n 1) rfl (fun _ => rfl) ?_
  refine dp_s3 hF (i := .laload) rfl (fun _ => rfl) ?_
  refine dp_sv (mj := dp_m_X12_enters) (i := .invokevirtual 984) rfl rfl rfl (fun _ => rfl) (fun M16 => ?_)
  refine dp_s1 hF (i := .aload_n 0) rfl (fun _ => rfl) ?_
  refine dp_s1 hF (i := .iload_n 1) rfl (fun _ => rfl) ?_
  refine dp_si (mj := dp_m_X12_postsFor) (i := .invokevirtual 1056) rfl (Or.inr rfl) rfl (fun _ => rfl) (fun r18 M17 => ?_)
  refine dp_s2 hF (i := .ifCond .ne 9) (a := (93, [some (.ref 114), some (.int v1), some (.int v2)], [], M17)) (b := (99, [some (.ref 114), some (.int v1), some (.int v2)], [], M17)) rfl (fun _ => rfl) ?_ ?_
  · refine dp_s1 hF (i := .aload_n 0) rfl (fun _ => rfl) ?_
    refine dp_s1 hF (i := .iconst 2) rfl (fun _ => rfl) ?_
    refine dp_si (mj := dp_m_X12_refuse) (i := .invokevirtual 460) rfl (Or.inl rfl) rfl (fun _ => rfl) (fun r20 M19 => ?_)
    exact dp_s0 hF (i := .ireturn) rfl (fun _ => rfl)
  refine dp_s1 hF (i := .aload_n 0) rfl (fun _ => rfl) ?_
  refine dp_s1 hF (i := .aload_n 0) rfl (fun _ => rfl) ?_
  refine dp_s1 hF (i := .getfield 410) rfl (fun _ => rfl) ?_
  refine dp_s1 hF (i := .iload_n 1) rfl (fun _ => rfl) ?_
  refine dp_s3 hF (i := .iaload) rfl (fun _ => rfl) ?_
  refine dp_s1 hF (i := .iconst 2) rfl (fun _ => rfl) ?_
  refine dp_sv (mj := dp_m_X12_endsAs) (i := .invokevirtual 961) rfl rfl rfl (fun _ => rfl) (fun M21 => ?_)
  refine dp_s1 hF (i := .aload_n 0) rfl (fun _ => rfl) ?_
  refine dp_s1 hF (i := .iconst 0) rfl (fun _ => rfl) ?_
  refine dp_s1w (dp_setI M21 114 0 (0 : Int32)) (fun (M22 : dp_M) => (115, [some (.ref 114), some (.int v1), some (.int v2)], [], M22)) hF (i := .putfield 1) rfl (fun _ => rfl) (fun M22 => ?_)
  refine dp_s1 hF (i := .aload_n 0) rfl (fun _ => rfl) ?_
  refine dp_s1 hF (i := .getfield 404) rfl (fun _ => rfl) ?_
  refine dp_s1 hF (i := .iload_n 1) rfl (fun _ => rfl) ?_
  refine dp_s1 hF (i := .iconst 2) rfl (fun _ => rfl) ?_
  refine dp_s3w (dp_setI M22 241 (Int32.toNatClampNeg v1) (2 : Int32)) (fun (M23 : dp_M) => (122, [some (.ref 114), some (.int v1), some (.int v2)], [], M23)) hF (i := .iastore) rfl (fun _ => rfl) (fun M23 => ?_)
  refine dp_s1 hF (i := .aload_n 0) rfl (fun _ => rfl) ?_
  refine dp_s1 hF (i := .getfield 413) rfl (fun _ => rfl) ?_
  refine dp_s1 hF (i := .iload_n 1) rfl (fun _ => rfl) ?_
  refine dp_s3 hF (i := .iaload) rfl (fun _ => rfl) ?_
  exact dp_s0 hF (i := .ireturn) rfl (fun _ => rfl)
noncomputable def D_X12_claim_0 (xs : Nat → Int32) (xl d : Nat) (v1 : Int32) (v2 : Int32) (M : dp_M) : Option dp_Res := dp_lim true xs xl (dp_den true xs xl d) dp_m_X12_claim (0, [some (.ref 114), some (.int v1), some (.int v2), none, none], [], M)
noncomputable def D_X12_claim_26 (xs : Nat → Int32) (xl d : Nat) (v1 : Int32) (v2 : Int32) (vs0 : Int32) (M : dp_M) : Option dp_Res := dp_lim true xs xl (dp_den true xs xl d) dp_m_X12_claim (26, [some (.ref 114), some (.int v1), some (.int v2), none, none], [.int vs0, .ref 242], M)
set_option maxRecDepth 20000 in
theorem D_X12_claim_0_eq (xs : Nat → Int32) (xl d : Nat) (v1 : Int32) (v2 : Int32) (M : dp_M) : D_X12_claim_0 xs xl d v1 v2 M = dp_bi (dp_den true xs xl d 567 [.ref 114, .int v1, .int (1 : Int32)] M) (fun r2 M1 => if r2 = 0 then (dp_bi (dp_den true xs xl d 366 [.ref 114, .int (1 : Int32)] M1) (fun r4 M3 => some (.inl (some (.long (Int32.toInt64 r4))), M3))) else (dp_bi (dp_den true xs xl d 566 [.ref 114, .int v1] M1) (fun r6 M5 => if r6 = 0 then (D_X12_claim_26 xs xl d v1 v2 (0 : Int32) M5) else (D_X12_claim_26 xs xl d v1 v2 v1 M5)))) := by
  have hF := dp_den_grow (md := true) (xs := xs) (xl := xl) d
  unfold D_X12_claim_0
  refine dp_s1 hF (i := .aload_n 0) rfl (fun _ => rfl) ?_
  refine dp_s1 hF (i := .iload_n 1) rfl (fun _ => rfl) ?_
  refine dp_s1 hF (i := .iconst 1) rfl (fun _ => rfl) ?_
  refine dp_si (mj := dp_m_X12_isState) (i := .invokevirtual 1032) rfl (Or.inr rfl) rfl (fun _ => rfl) (fun r2 M1 => ?_)
  refine dp_s2 hF (i := .ifCond .eq 33) (a := (39, [some (.ref 114), some (.int v1), some (.int v2), none, none], [], M1)) (b := (9, [some (.ref 114), some (.int v1), some (.int v2), none, none], [], M1)) rfl (fun _ => rfl) ?_ ?_
  · refine dp_s1 hF (i := .aload_n 0) rfl (fun _ => rfl) ?_
    refine dp_s1 hF (i := .iconst 1) rfl (fun _ => rfl) ?_
    refine dp_si (mj := dp_m_X12_refuse) (i := .invokevirtual 460) rfl (Or.inl rfl) rfl (fun _ => rfl) (fun r4 M3 => ?_)
    refine dp_s1 hF (i := .i2l) rfl (fun _ => rfl) ?_
    exact dp_s0 hF (i := .lreturn) rfl (fun _ => rfl)
  refine dp_s1 hF (i := .aload_n 0) rfl (fun _ => rfl) ?_
  refine dp_s1 hF (i := .getfield 407) rfl (fun _ => rfl) ?_
  refine dp_s1 hF (i := .aload_n 0) rfl (fun _ => rfl) ?_
  refine dp_s1 hF (i := .iload_n 1) rfl (fun _ => rfl) ?_
  refine dp_si (mj := dp_m_X12_isDeclaration) (i := .invokevirtual 1029) rfl (Or.inr rfl) rfl (fun _ => rfl) (fun r6 M5 => ?_)
  refine dp_s2 hF (i := .ifCond .eq 7) (a := (25, [some (.ref 114), some (.int v1), some (.int v2), none, none], [.ref 242], M5)) (b := (21, [some (.ref 114), some (.int v1), some (.int v2), none, none], [.ref 242], M5)) rfl (fun _ => rfl) ?_ ?_
  · refine dp_s1 hF (i := .iconst 0) rfl (fun _ => rfl) ?_
    exact rfl
  refine dp_s1 hF (i := .iload_n 1) rfl (fun _ => rfl) ?_
  refine dp_s1 hF (i := .goto 4) rfl (fun _ => rfl) ?_
  exact rfl
set_option maxRecDepth 20000 in
theorem D_X12_claim_26_eq (xs : Nat → Int32) (xl d : Nat) (v1 : Int32) (v2 : Int32) (vs0 : Int32) (M : dp_M) : D_X12_claim_26 xs xl d v1 v2 vs0 M = if vs0 < 0 ∨ 400 ≤ Int32.toNatClampNeg vs0 then none else (if (lg_cmp (dp_J M 242 (Int32.toNatClampNeg vs0)) (0 : Int64)) = 0 then (dp_bi (dp_den true xs xl d 366 [.ref 114, .int (1 : Int32)] M) (fun r2 M1 => some (.inl (some (.long (Int32.toInt64 r2))), M1))) else (dp_bi (dp_den true xs xl d 540 [.int v2] M) (fun r4 M3 => if r4 = 0 then (dp_bi (dp_den true xs xl d 366 [.ref 114, .int (1 : Int32)] M3) (fun r6 M5 => some (.inl (some (.long (Int32.toInt64 r6))), M5))) else (dp_bi (dp_den true xs xl d 578 [.ref 114, .int v1, .int v2] M3) (fun r8 M7 => if r8 = 0 then (dp_bi (dp_den true xs xl d 366 [.ref 114, .int (2 : Int32)] M7) (fun r10 M9 => some (.inl (some (.long (Int32.toInt64 r10))), M9))) else (if v1 < 0 ∨ 400 ≤ Int32.toNatClampNeg v1 then none else (dp_bl (dp_den true xs xl d 532 [.ref 114, .int (dp_I M7 243 (Int32.toNatClampNeg v1))] M7) (fun r12 M11 => dp_bv (dp_den true xs xl d 545 [.ref 114, .int (dp_I M11 114 141), .int (9 : Int32), .long (-r12)] M11) (fun M13 => if v1 < 0 ∨ 400 ≤ Int32.toNatClampNeg v1 then none else (if v1 < 0 ∨ 400 ≤ Int32.toNatClampNeg v1 then none else (dp_bv (dp_den true xs xl d 545 [.ref 114, .int (dp_I M13 114 141), .int (dp_I M13 234 (Int32.toNatClampNeg v1)), .long (r12 - (dp_J M13 242 (Int32.toNatClampNeg v1)))] M13) (fun M14 => if v1 < 0 ∨ 400 ≤ Int32.toNatClampNeg v1 then none else (dp_bv (dp_den true xs xl d 545 [.ref 114, .int (dp_I M14 114 141), .int (8 : Int32), .long (dp_J M14 242 (Int32.toNatClampNeg v1))] M14) (fun M15 => dp_bi (dp_den true xs xl d 579 [.ref 114, .int v1] M15) (fun r17 M16 => if r17 = 0 then (dp_bi (dp_den true xs xl d 366 [.ref 114, .int (2 : Int32)] M16) (fun r19 M18 => some (.inl (some (.long (Int32.toInt64 r19))), M18))) else (dp_w (dp_setI M16 114 0 (0 : Int32)) (fun M20 => if v1 < 0 ∨ 400 ≤ Int32.toNatClampNeg v1 then none else (dp_bv (dp_den true xs xl d 533 [.ref 114, .int (dp_I M20 243 (Int32.toNatClampNeg v1))] M20) (fun M21 => if v1 < 0 ∨ 400 ≤ Int32.toNatClampNeg v1 then none else dp_w (dp_setI M21 241 (Int32.toNatClampNeg v1) (3 : Int32)) (fun M22 => some (.inl (some (.long r12)), M22))))))))))))))))))))) := by
  have hF := dp_den_grow (md := true) (xs := xs) (xl := xl) d
  unfold D_X12_claim_26
  refine dp_s3 hF (i := .laload) rfl (fun _ => rfl) ?_
  refine dp_s1 hF (i := .lconst 0) rfl (fun _ => rfl) ?_
  refine dp_s1 hF (i := .lcmp) rfl (fun _ => rfl) ?_
  refine dp_s2 hF (i := .ifCond .eq 10) (a := (39, [some (.ref 114), some (.int v1), some (.int v2), none, none], [], M)) (b := (32, [some (.ref 114), some (.int v1), some (.int v2), none, none], [], M)) rfl (fun _ => rfl) ?_ ?_
  · refine dp_s1 hF (i := .aload_n 0) rfl (fun _ => rfl) ?_
    refine dp_s1 hF (i := .iconst 1) rfl (fun _ => rfl) ?_
    refine dp_si (mj := dp_m_X12_refuse) (i := .invokevirtual 460) rfl (Or.inl rfl) rfl (fun _ => rfl) (fun r2 M1 => ?_)
    refine dp_s1 hF (i := .i2l) rfl (fun _ => rfl) ?_
    exact dp_s0 hF (i := .lreturn) rfl (fun _ => rfl)
  refine dp_s1 hF (i := .iload_n 2) rfl (fun _ => rfl) ?_
  refine dp_si (mj := dp_m_X12_isLedgerDay) (i := .invokestatic 969) rfl (Or.inr rfl) rfl (fun _ => rfl) (fun r4 M3 => ?_)
  refine dp_s2 hF (i := .ifCond .ne 10) (a := (39, [some (.ref 114), some (.int v1), some (.int v2), none, none], [], M3)) (b := (46, [some (.ref 114), some (.int v1), some (.int v2), none, none], [], M3)) rfl (fun _ => rfl) ?_ ?_
  · refine dp_s1 hF (i := .aload_n 0) rfl (fun _ => rfl) ?_
    refine dp_s1 hF (i := .iconst 1) rfl (fun _ => rfl) ?_
    refine dp_si (mj := dp_m_X12_refuse) (i := .invokevirtual 460) rfl (Or.inl rfl) rfl (fun _ => rfl) (fun r6 M5 => ?_)
    refine dp_s1 hF (i := .i2l) rfl (fun _ => rfl) ?_
    exact dp_s0 hF (i := .lreturn) rfl (fun _ => rfl)
  refine dp_s1 hF (i := .aload_n 0) rfl (fun _ => rfl) ?_
  refine dp_s1 hF (i := .iload_n 1) rfl (fun _ => rfl) ?_
  refine dp_s1 hF (i := .iload_n 2) rfl (fun _ => rfl) ?_
  refine dp_si (mj := dp_m_X12_beginsFor) (i := .invokevirtual 1053) rfl (Or.inr rfl) rfl (fun _ => rfl) (fun r8 M7 => ?_)
  refine dp_s2 hF (i := .ifCond .ne 10) (a := (55, [some (.ref 114), some (.int v1), some (.int v2), none, none], [], M7)) (b := (62, [some (.ref 114), some (.int v1), some (.int v2), none, none], [], M7)) rfl (fun _ => rfl) ?_ ?_
  · refine dp_s1 hF (i := .aload_n 0) rfl (fun _ => rfl) ?_
    refine dp_s1 hF (i := .iconst 2) rfl (fun _ => rfl) ?_
    refine dp_si (mj := dp_m_X12_refuse) (i := .invokevirtual 460) rfl (Or.inl rfl) rfl (fun _ => rfl) (fun r10 M9 => ?_)
    refine dp_s1 hF (i := .i2l) rfl (fun _ => rfl) ?_
    exact dp_s0 hF (i := .lreturn) rfl (fun _ => rfl)
  refine dp_s1 hF (i := .aload_n 0) rfl (fun _ => rfl) ?_
  refine dp_s1 hF (i := .aload_n 0) rfl (fun _ => rfl) ?_
  refine dp_s1 hF (i := .getfield 410) rfl (fun _ => rfl) ?_
  refine dp_s1 hF (i := .iload_n 1) rfl (fun _ => rfl) ?_
  refine dp_s3 hF (i := .iaload) rfl (fun _ => rfl) ?_
  refine dp_sl9 (mj := dp_m_X12_wouldTake) (i := .invokevirtual 1059) rfl rfl rfl (fun _ => rfl) (fun r12 M11 => ?_)
  refine dp_s1 hF (i := .lstore_n 3) rfl (fun _ => rfl) ?_
  refine dp_s1 hF (i := .aload_n 0) rfl (fun _ => rfl) ?_
  refine dp_s1 hF (i := .aload_n 0) rfl (fun _ => rfl) ?_
  refine dp_s1 hF (i := .getfield 966) rfl (fun _ => rfl) ?_
  refine dp_s1 hF (i := .bipush 9) rfl (fun _ => rfl) ?_
  refine dp_s1 hF (i := .lload_n 3) rfl (fun _ => rfl) ?_
  refine dp_s1 hF (i := .lneg) rfl (fun _ => rfl) ?_
  refine dp_sv (mj := dp_m_X12_enters) (i := .invokevirtual 984) rfl rfl rfl (fun _ => rfl) (fun M13 => ?_)
  refine dp_s1 hF (i := .aload_n 0) rfl (fun _ => rfl) ?_
  refine dp_s1 hF (i := .aload_n 0) rfl (fun _ => rfl) ?_
  refine dp_s1 hF (i := .getfield 966) rfl (fun _ => rfl) ?_
  refine dp_s1 hF (i := .aload_n 0) rfl (fun _ => rfl) ?_
  refine dp_s1 hF (i := .getfield 383) rfl (fun _ => rfl) ?_
  refine dp_s1 hF (i := .iload_n 1) rfl (fun _ => rfl) ?_
  refine dp_s3 hF (i := .iaload) rfl (fun _ => rfl) ?_
  refine dp_s1 hF (i := .lload_n 3) rfl (fun _ => rfl) ?_
  refine dp_s1 hF (i := .aload_n 0) rfl (fun _ => rfl) ?_
  refine dp_s1 hF (i := .getfield 407) rfl (fun _ => rfl) ?_
  refine dp_s1 hF (i := .iload_n 1) rfl (fun _ => rfl) ?_
  refine dp_s3 hF (i := .laload) rfl (fun _ => rfl) ?_
  refine dp_s1 hF (i := .lsub) rfl (fun _ => rfl) ?_
  refine dp_sv (mj := dp_m_X12_enters) (i := .invokevirtual 984) rfl rfl rfl (fun _ => rfl) (fun M14 => ?_)
  refine dp_s1 hF (i := .aload_n 0) rfl (fun _ => rfl) ?_
  refine dp_s1 hF (i := .aload_n 0) rfl (fun _ => rfl) ?_
  refine dp_s1 hF (i := .getfield 966) rfl (fun _ => rfl) ?_
  refine dp_s1 hF (i := .bipush 8) rfl (fun _ => rfl) ?_
  refine dp_s1 hF (i := .aload_n 0) rfl (fun _ => rfl) ?_
  refine dp_s1 hF (i := .getfield 407) rfl (fun _ => rfl) ?_
  refine dp_s1 hF (i := .iload_n 1) rfl (fun _ => rfl) ?_
  refine dp_s3 hF (i := .laload) rfl (fun _ => rfl) ?_
  refine dp_sv (mj := dp_m_X12_enters) (i := .invokevirtual 984) rfl rfl rfl (fun _ => rfl) (fun M15 => ?_)
  refine dp_s1 hF (i := .aload_n 0) rfl (fun _ => rfl) ?_
  refine dp_s1 hF (i := .iload_n 1) rfl (fun _ => rfl) ?_
  refine dp_si (mj := dp_m_X12_postsFor) (i := .invokevirtual 1056) rfl (Or.inr rfl) rfl (fun _ => rfl) (fun r17 M16 => ?_)
  refine dp_s2 hF (i := .ifCond .ne 10) (a := (131, [some (.ref 114), some (.int v1), some (.int v2), some (.long r12), none], [], M16)) (b := (138, [some (.ref 114), some (.int v1), some (.int v2), some (.long r12), none], [], M16)) rfl (fun _ => rfl) ?_ ?_
  · refine dp_s1 hF (i := .aload_n 0) rfl (fun _ => rfl) ?_
    refine dp_s1 hF (i := .iconst 2) rfl (fun _ => rfl) ?_
    refine dp_si (mj := dp_m_X12_refuse) (i := .invokevirtual 460) rfl (Or.inl rfl) rfl (fun _ => rfl) (fun r19 M18 => ?_)
    refine dp_s1 hF (i := .i2l) rfl (fun _ => rfl) ?_
    exact dp_s0 hF (i := .lreturn) rfl (fun _ => rfl)
  refine dp_s1 hF (i := .aload_n 0) rfl (fun _ => rfl) ?_
  refine dp_s1 hF (i := .iconst 0) rfl (fun _ => rfl) ?_
  refine dp_s1w (dp_setI M16 114 0 (0 : Int32)) (fun (M20 : dp_M) => (143, [some (.ref 114), some (.int v1), some (.int v2), some (.long r12), none], [], M20)) hF (i := .putfield 1) rfl (fun _ => rfl) (fun M20 => ?_)
  refine dp_s1 hF (i := .aload_n 0) rfl (fun _ => rfl) ?_
  refine dp_s1 hF (i := .aload_n 0) rfl (fun _ => rfl) ?_
  refine dp_s1 hF (i := .getfield 410) rfl (fun _ => rfl) ?_
  refine dp_s1 hF (i := .iload_n 1) rfl (fun _ => rfl) ?_
  refine dp_s3 hF (i := .iaload) rfl (fun _ => rfl) ?_
  refine dp_sv (mj := dp_m_X12_claimsAll) (i := .invokevirtual 1062) rfl rfl rfl (fun _ => rfl) (fun M21 => ?_)
  refine dp_s1 hF (i := .aload_n 0) rfl (fun _ => rfl) ?_
  refine dp_s1 hF (i := .getfield 404) rfl (fun _ => rfl) ?_
  refine dp_s1 hF (i := .iload_n 1) rfl (fun _ => rfl) ?_
  refine dp_s1 hF (i := .iconst 3) rfl (fun _ => rfl) ?_
  refine dp_s3w (dp_setI M21 241 (Int32.toNatClampNeg v1) (3 : Int32)) (fun (M22 : dp_M) => (160, [some (.ref 114), some (.int v1), some (.int v2), some (.long r12), none], [], M22)) hF (i := .iastore) rfl (fun _ => rfl) (fun M22 => ?_)
  refine dp_s1 hF (i := .lload_n 3) rfl (fun _ => rfl) ?_
  exact dp_s0 hF (i := .lreturn) rfl (fun _ => rfl)
noncomputable def D_X12_correct_0 (xs : Nat → Int32) (xl d : Nat) (v1 : Int32) (v2 : Int32) (M : dp_M) : Option dp_Res := dp_lim true xs xl (dp_den true xs xl d) dp_m_X12_correct (0, [some (.ref 114), some (.int v1), some (.int v2), none, none, none, none], [], M)
noncomputable def D_X12_correct_18 (xs : Nat → Int32) (xl d : Nat) (v1 : Int32) (v2 : Int32) (M : dp_M) : Option dp_Res := dp_lim true xs xl (dp_den true xs xl d) dp_m_X12_correct (18, [some (.ref 114), some (.int v1), some (.int v2), none, none, none, none], [], M)
set_option maxRecDepth 20000 in
theorem D_X12_correct_0_eq (xs : Nat → Int32) (xl d : Nat) (v1 : Int32) (v2 : Int32) (M : dp_M) : D_X12_correct_0 xs xl d v1 v2 M = dp_bi (dp_den true xs xl d 567 [.ref 114, .int v1, .int (2 : Int32)] M) (fun r2 M1 => if r2 = 0 then (dp_bi (dp_den true xs xl d 567 [.ref 114, .int v1, .int (3 : Int32)] M1) (fun r4 M3 => if r4 = 0 then (dp_bi (dp_den true xs xl d 366 [.ref 114, .int (1 : Int32)] M3) (fun r6 M5 => some (.inl (some (.long (Int32.toInt64 r6))), M5))) else (D_X12_correct_18 xs xl d v1 v2 M3))) else (D_X12_correct_18 xs xl d v1 v2 M1)) := by
  have hF := dp_den_grow (md := true) (xs := xs) (xl := xl) d
  unfold D_X12_correct_0
  refine dp_s1 hF (i := .aload_n 0) rfl (fun _ => rfl) ?_
  refine dp_s1 hF (i := .iload_n 1) rfl (fun _ => rfl) ?_
  refine dp_s1 hF (i := .iconst 2) rfl (fun _ => rfl) ?_
  refine dp_si (mj := dp_m_X12_isState) (i := .invokevirtual 1032) rfl (Or.inr rfl) rfl (fun _ => rfl) (fun r2 M1 => ?_)
  refine dp_s2 hF (i := .ifCond .ne 12) (a := (9, [some (.ref 114), some (.int v1), some (.int v2), none, none, none, none], [], M1)) (b := (18, [some (.ref 114), some (.int v1), some (.int v2), none, none, none, none], [], M1)) rfl (fun _ => rfl) ?_ ?_
  · refine dp_s1 hF (i := .aload_n 0) rfl (fun _ => rfl) ?_
    refine dp_s1 hF (i := .iload_n 1) rfl (fun _ => rfl) ?_
    refine dp_s1 hF (i := .iconst 3) rfl (fun _ => rfl) ?_
    refine dp_si (mj := dp_m_X12_isState) (i := .invokevirtual 1032) rfl (Or.inr rfl) rfl (fun _ => rfl) (fun r4 M3 => ?_)
    refine dp_s2 hF (i := .ifCond .eq 10) (a := (25, [some (.ref 114), some (.int v1), some (.int v2), none, none, none, none], [], M3)) (b := (18, [some (.ref 114), some (.int v1), some (.int v2), none, none, none, none], [], M3)) rfl (fun _ => rfl) ?_ ?_
    · refine dp_s1 hF (i := .aload_n 0) rfl (fun _ => rfl) ?_
      refine dp_s1 hF (i := .iconst 1) rfl (fun _ => rfl) ?_
      refine dp_si (mj := dp_m_X12_refuse) (i := .invokevirtual 460) rfl (Or.inl rfl) rfl (fun _ => rfl) (fun r6 M5 => ?_)
      refine dp_s1 hF (i := .i2l) rfl (fun _ => rfl) ?_
      exact dp_s0 hF (i := .lreturn) rfl (fun _ => rfl)
    exact rfl
  exact rfl
set_option maxRecDepth 20000 in
theorem D_X12_correct_18_eq (xs : Nat → Int32) (xl d : Nat) (v1 : Int32) (v2 : Int32) (M : dp_M) : D_X12_correct_18 xs xl d v1 v2 M = dp_bi (dp_den true xs xl d 445 [.int v2] M) (fun r2 M1 => if r2 = 0 then (dp_bi (dp_den true xs xl d 366 [.ref 114, .int (1 : Int32)] M1) (fun r4 M3 => some (.inl (some (.long (Int32.toInt64 r4))), M3))) else (dp_bl (dp_den true xs xl d 575 [.ref 114, .int v1, .int v2] M1) (fun r6 M5 => if 0 ≤ (lg_cmp r6 (0 : Int64)) then (if v1 < 0 ∨ 400 ≤ Int32.toNatClampNeg v1 then none else (dp_w (r6 - (dp_J M5 242 (Int32.toNatClampNeg v1))) (fun y7 => if (lg_cmp y7 (0 : Int64)) = 0 then (dp_w (dp_setI M5 114 0 (0 : Int32)) (fun M8 => some (.inl (some (.long y7)), M8))) else (dp_bi (dp_den true xs xl d 578 [.ref 114, .int v1, .int v2] M5) (fun r10 M9 => if r10 = 0 then (dp_bi (dp_den true xs xl d 366 [.ref 114, .int (3 : Int32)] M9) (fun r12 M11 => some (.inl (some (.long (Int32.toInt64 r12))), M11))) else (if v1 < 0 ∨ 400 ≤ Int32.toNatClampNeg v1 then none else (dp_bv (dp_den true xs xl d 545 [.ref 114, .int (dp_I M9 114 141), .int (dp_I M9 234 (Int32.toNatClampNeg v1)), .long (-y7)] M9) (fun M13 => dp_bv (dp_den true xs xl d 545 [.ref 114, .int (dp_I M13 114 141), .int (8 : Int32), .long y7] M13) (fun M14 => dp_bi (dp_den true xs xl d 579 [.ref 114, .int v1] M14) (fun r16 M15 => if r16 = 0 then (dp_bi (dp_den true xs xl d 366 [.ref 114, .int (3 : Int32)] M15) (fun r18 M17 => some (.inl (some (.long (Int32.toInt64 r18))), M17))) else (if v1 < 0 ∨ 400 ≤ Int32.toNatClampNeg v1 then none else dp_w (dp_setJ M15 242 (Int32.toNatClampNeg v1) r6) (fun M19 => dp_w (dp_setI M19 114 0 (0 : Int32)) (fun M20 => some (.inl (some (.long y7)), M20)))))))))))))) else (dp_bi (dp_den true xs xl d 366 [.ref 114, .int (2 : Int32)] M5) (fun r22 M21 => some (.inl (some (.long (Int32.toInt64 r22))), M21)))))) := by
  have hF := dp_den_grow (md := true) (xs := xs) (xl := xl) d
  unfold D_X12_correct_18
  refine dp_s1 hF (i := .iload_n 2) rfl (fun _ => rfl) ?_
  refine dp_si (mj := dp_m_X12_isDay) (i := .invokestatic 672) rfl (Or.inr rfl) rfl (fun _ => rfl) (fun r2 M1 => ?_)
  refine dp_s2 hF (i := .ifCond .ne 10) (a := (25, [some (.ref 114), some (.int v1), some (.int v2), none, none, none, none], [], M1)) (b := (32, [some (.ref 114), some (.int v1), some (.int v2), none, none, none, none], [], M1)) rfl (fun _ => rfl) ?_ ?_
  · refine dp_s1 hF (i := .aload_n 0) rfl (fun _ => rfl) ?_
    refine dp_s1 hF (i := .iconst 1) rfl (fun _ => rfl) ?_
    refine dp_si (mj := dp_m_X12_refuse) (i := .invokevirtual 460) rfl (Or.inl rfl) rfl (fun _ => rfl) (fun r4 M3 => ?_)
    refine dp_s1 hF (i := .i2l) rfl (fun _ => rfl) ?_
    exact dp_s0 hF (i := .lreturn) rfl (fun _ => rfl)
  refine dp_s1 hF (i := .aload_n 0) rfl (fun _ => rfl) ?_
  refine dp_s1 hF (i := .iload_n 1) rfl (fun _ => rfl) ?_
  refine dp_s1 hF (i := .iload_n 2) rfl (fun _ => rfl) ?_
  refine dp_sl9 (mj := dp_m_X12_reckonsDuty) (i := .invokevirtual 1047) rfl rfl rfl (fun _ => rfl) (fun r6 M5 => ?_)
  refine dp_s1 hF (i := .lstore_n 3) rfl (fun _ => rfl) ?_
  refine dp_s1 hF (i := .lload_n 3) rfl (fun _ => rfl) ?_
  refine dp_s1 hF (i := .lconst 0) rfl (fun _ => rfl) ?_
  refine dp_s1 hF (i := .lcmp) rfl (fun _ => rfl) ?_
  refine dp_s2 hF (i := .ifCond .ge 10) (a := (52, [some (.ref 114), some (.int v1), some (.int v2), some (.long r6), none, none, none], [], M5)) (b := (45, [some (.ref 114), some (.int v1), some (.int v2), some (.long r6), none, none, none], [], M5)) rfl (fun _ => rfl) ?_ ?_
  · refine dp_s1 hF (i := .lload_n 3) rfl (fun _ => rfl) ?_
    refine dp_s1 hF (i := .aload_n 0) rfl (fun _ => rfl) ?_
    refine dp_s1 hF (i := .getfield 407) rfl (fun _ => rfl) ?_
    refine dp_s1 hF (i := .iload_n 1) rfl (fun _ => rfl) ?_
    refine dp_s3 hF (i := .laload) rfl (fun _ => rfl) ?_
    refine dp_s1 hF (i := .lsub) rfl (fun _ => rfl) ?_
    refine dp_s1w (r6 - (dp_J M5 242 (Int32.toNatClampNeg v1))) (fun (y7 : Int64) => (62, [some (.ref 114), some (.int v1), some (.int v2), some (.long r6), none, some (.long y7), none], [], M5)) hF (i := .lstore 5) rfl (fun _ => rfl) (fun y7 => ?_)
    refine dp_s1 hF (i := .lload 5) rfl (fun _ => rfl) ?_
    refine dp_s1 hF (i := .lconst 0) rfl (fun _ => rfl) ?_
    refine dp_s1 hF (i := .lcmp) rfl (fun _ => rfl) ?_
    refine dp_s2 hF (i := .ifCond .eq 70) (a := (136, [some (.ref 114), some (.int v1), some (.int v2), some (.long r6), none, some (.long y7), none], [], M5)) (b := (69, [some (.ref 114), some (.int v1), some (.int v2), some (.long r6), none, some (.long y7), none], [], M5)) rfl (fun _ => rfl) ?_ ?_
    · refine dp_s1 hF (i := .aload_n 0) rfl (fun _ => rfl) ?_
      refine dp_s1 hF (i := .iconst 0) rfl (fun _ => rfl) ?_
      refine dp_s1w (dp_setI M5 114 0 (0 : Int32)) (fun (M8 : dp_M) => (141, [some (.ref 114), some (.int v1), some (.int v2), some (.long r6), none, some (.long y7), none], [], M8)) hF (i := .putfield 1) rfl (fun _ => rfl) (fun M8 => ?_)
      refine dp_s1 hF (i := .lload 5) rfl (fun _ => rfl) ?_
      exact dp_s0 hF (i := .lreturn) rfl (fun _ => rfl)
    refine dp_s1 hF (i := .aload_n 0) rfl (fun _ => rfl) ?_
    refine dp_s1 hF (i := .iload_n 1) rfl (fun _ => rfl) ?_
    refine dp_s1 hF (i := .iload_n 2) rfl (fun _ => rfl) ?_
    refine dp_si (mj := dp_m_X12_beginsFor) (i := .invokevirtual 1053) rfl (Or.inr rfl) rfl (fun _ => rfl) (fun r10 M9 => ?_)
    refine dp_s2 hF (i := .ifCond .ne 10) (a := (78, [some (.ref 114), some (.int v1), some (.int v2), some (.long r6), none, some (.long y7), none], [], M9)) (b := (85, [some (.ref 114), some (.int v1), some (.int v2), some (.long r6), none, some (.long y7), none], [], M9)) rfl (fun _ => rfl) ?_ ?_
    · refine dp_s1 hF (i := .aload_n 0) rfl (fun _ => rfl) ?_
      refine dp_s1 hF (i := .iconst 3) rfl (fun _ => rfl) ?_
      refine dp_si (mj := dp_m_X12_refuse) (i := .invokevirtual 460) rfl (Or.inl rfl) rfl (fun _ => rfl) (fun r12 M11 => ?_)
      refine dp_s1 hF (i := .i2l) rfl (fun _ => rfl) ?_
      exact dp_s0 hF (i := .lreturn) rfl (fun _ => rfl)
    refine dp_s1 hF (i := .aload_n 0) rfl (fun _ => rfl) ?_
    refine dp_s1 hF (i := .aload_n 0) rfl (fun _ => rfl) ?_
    refine dp_s1 hF (i := .getfield 966) rfl (fun _ => rfl) ?_
    refine dp_s1 hF (i := .aload_n 0) rfl (fun _ => rfl) ?_
    refine dp_s1 hF (i := .getfield 383) rfl (fun _ => rfl) ?_
    refine dp_s1 hF (i := .iload_n 1) rfl (fun _ => rfl) ?_
    refine dp_s3 hF (i := .iaload) rfl (fun _ => rfl) ?_
    refine dp_s1 hF (i := .lload 5) rfl (fun _ => rfl) ?_
    refine dp_s1 hF (i := .lneg) rfl (fun _ => rfl) ?_
    refine dp_sv (mj := dp_m_X12_enters) (i := .invokevirtual 984) rfl rfl rfl (fun _ => rfl) (fun M13 => ?_)
    refine dp_s1 hF (i := .aload_n 0) rfl (fun _ => rfl) ?_
    refine dp_s1 hF (i := .aload_n 0) rfl (fun _ => rfl) ?_
    refine dp_s1 hF (i := .getfield 966) rfl (fun _ => rfl) ?_
    refine dp_s1 hF (i := .bipush 8) rfl (fun _ => rfl) ?_
    refine dp_s1 hF (i := .lload 5) rfl (fun _ => rfl) ?_
    refine dp_sv (mj := dp_m_X12_enters) (i := .invokevirtual 984) rfl rfl rfl (fun _ => rfl) (fun M14 => ?_)
    refine dp_s1 hF (i := .aload_n 0) rfl (fun _ => rfl) ?_
    refine dp_s1 hF (i := .iload_n 1) rfl (fun _ => rfl) ?_
    refine dp_si (mj := dp_m_X12_postsFor) (i := .invokevirtual 1056) rfl (Or.inr rfl) rfl (fun _ => rfl) (fun r16 M15 => ?_)
    refine dp_s2 hF (i := .ifCond .ne 10) (a := (122, [some (.ref 114), some (.int v1), some (.int v2), some (.long r6), none, some (.long y7), none], [], M15)) (b := (129, [some (.ref 114), some (.int v1), some (.int v2), some (.long r6), none, some (.long y7), none], [], M15)) rfl (fun _ => rfl) ?_ ?_
    · refine dp_s1 hF (i := .aload_n 0) rfl (fun _ => rfl) ?_
      refine dp_s1 hF (i := .iconst 3) rfl (fun _ => rfl) ?_
      refine dp_si (mj := dp_m_X12_refuse) (i := .invokevirtual 460) rfl (Or.inl rfl) rfl (fun _ => rfl) (fun r18 M17 => ?_)
      refine dp_s1 hF (i := .i2l) rfl (fun _ => rfl) ?_
      exact dp_s0 hF (i := .lreturn) rfl (fun _ => rfl)
    refine dp_s1 hF (i := .aload_n 0) rfl (fun _ => rfl) ?_
    refine dp_s1 hF (i := .getfield 407) rfl (fun _ => rfl) ?_
    refine dp_s1 hF (i := .iload_n 1) rfl (fun _ => rfl) ?_
    refine dp_s1 hF (i := .lload_n 3) rfl (fun _ => rfl) ?_
    refine dp_s3w (dp_setJ M15 242 (Int32.toNatClampNeg v1) r6) (fun (M19 : dp_M) => (136, [some (.ref 114), some (.int v1), some (.int v2), some (.long r6), none, some (.long y7), none], [], M19)) hF (i := .lastore) rfl (fun _ => rfl) (fun M19 => ?_)
    refine dp_s1 hF (i := .aload_n 0) rfl (fun _ => rfl) ?_
    refine dp_s1 hF (i := .iconst 0) rfl (fun _ => rfl) ?_
    refine dp_s1w (dp_setI M19 114 0 (0 : Int32)) (fun (M20 : dp_M) => (141, [some (.ref 114), some (.int v1), some (.int v2), some (.long r6), none, some (.long y7), none], [], M20)) hF (i := .putfield 1) rfl (fun _ => rfl) (fun M20 => ?_)
    refine dp_s1 hF (i := .lload 5) rfl (fun _ => rfl) ?_
    exact dp_s0 hF (i := .lreturn) rfl (fun _ => rfl)
  refine dp_s1 hF (i := .aload_n 0) rfl (fun _ => rfl) ?_
  refine dp_s1 hF (i := .iconst 2) rfl (fun _ => rfl) ?_
  refine dp_si (mj := dp_m_X12_refuse) (i := .invokevirtual 460) rfl (Or.inl rfl) rfl (fun _ => rfl) (fun r22 M21 => ?_)
  refine dp_s1 hF (i := .i2l) rfl (fun _ => rfl) ?_
  exact dp_s0 hF (i := .lreturn) rfl (fun _ => rfl)
noncomputable def D_X12_cancel_0 (xs : Nat → Int32) (xl d : Nat) (v1 : Int32) (M : dp_M) : Option dp_Res := dp_lim true xs xl (dp_den true xs xl d) dp_m_X12_cancel (0, [some (.ref 114), some (.int v1), none], [], M)
noncomputable def D_X12_cancel_71 (xs : Nat → Int32) (xl d : Nat) (v1 : Int32) (M : dp_M) : Option dp_Res := dp_lim true xs xl (dp_den true xs xl d) dp_m_X12_cancel (71, [some (.ref 114), some (.int v1), none], [], M)
set_option maxRecDepth 20000 in
theorem D_X12_cancel_0_eq (xs : Nat → Int32) (xl d : Nat) (v1 : Int32) (M : dp_M) : D_X12_cancel_0 xs xl d v1 M = dp_bi (dp_den true xs xl d 566 [.ref 114, .int v1] M) (fun r2 M1 => if r2 = 0 then (dp_bi (dp_den true xs xl d 366 [.ref 114, .int (1 : Int32)] M1) (fun r4 M3 => some (.inl (some (.int r4)), M3))) else (dp_w (dp_setI M1 114 0 (0 : Int32)) (fun M5 => if v1 < 0 ∨ 400 ≤ Int32.toNatClampNeg v1 then none else (if (1 : Int32) < (dp_I M5 241 (Int32.toNatClampNeg v1)) then (some (.inl (some (.int (0 : Int32))), M5)) else (if v1 < 0 ∨ 400 ≤ Int32.toNatClampNeg v1 then none else (if (dp_I M5 233 (Int32.toNatClampNeg v1)) < 0 ∨ 300 ≤ Int32.toNatClampNeg (dp_I M5 233 (Int32.toNatClampNeg v1)) then none else (if (dp_I M5 147 (Int32.toNatClampNeg (dp_I M5 233 (Int32.toNatClampNeg v1)))) < 0 ∨ 100 ≤ Int32.toNatClampNeg (dp_I M5 147 (Int32.toNatClampNeg (dp_I M5 233 (Int32.toNatClampNeg v1)))) then none else (if (dp_I M5 144 (Int32.toNatClampNeg (dp_I M5 147 (Int32.toNatClampNeg (dp_I M5 233 (Int32.toNatClampNeg v1)))))) = (1 : Int32) then (some (.inl (some (.int (0 : Int32))), M5)) else (if v1 < 0 ∨ 400 ≤ Int32.toNatClampNeg v1 then none else (if (dp_I M5 243 (Int32.toNatClampNeg v1)) ≤ 0 then (D_X12_cancel_71 xs xl d v1 M5) else (if v1 < 0 ∨ 400 ≤ Int32.toNatClampNeg v1 then none else (dp_bv (dp_den true xs xl d 530 [.ref 114, .int (dp_I M5 243 (Int32.toNatClampNeg v1)), .int (1 : Int32)] M5) (fun M6 => D_X12_cancel_71 xs xl d v1 M6))))))))))))) := by
  have hF := dp_den_grow (md := true) (xs := xs) (xl := xl) d
  unfold D_X12_cancel_0
  refine dp_s1 hF (i := .aload_n 0) rfl (fun _ => rfl) ?_
  refine dp_s1 hF (i := .iload_n 1) rfl (fun _ => rfl) ?_
  refine dp_si (mj := dp_m_X12_isDeclaration) (i := .invokevirtual 1029) rfl (Or.inr rfl) rfl (fun _ => rfl) (fun r2 M1 => ?_)
  refine dp_s2 hF (i := .ifCond .ne 9) (a := (8, [some (.ref 114), some (.int v1), none], [], M1)) (b := (14, [some (.ref 114), some (.int v1), none], [], M1)) rfl (fun _ => rfl) ?_ ?_
  · refine dp_s1 hF (i := .aload_n 0) rfl (fun _ => rfl) ?_
    refine dp_s1 hF (i := .iconst 1) rfl (fun _ => rfl) ?_
    refine dp_si (mj := dp_m_X12_refuse) (i := .invokevirtual 460) rfl (Or.inl rfl) rfl (fun _ => rfl) (fun r4 M3 => ?_)
    exact dp_s0 hF (i := .ireturn) rfl (fun _ => rfl)
  refine dp_s1 hF (i := .aload_n 0) rfl (fun _ => rfl) ?_
  refine dp_s1 hF (i := .iconst 0) rfl (fun _ => rfl) ?_
  refine dp_s1w (dp_setI M1 114 0 (0 : Int32)) (fun (M5 : dp_M) => (19, [some (.ref 114), some (.int v1), none], [], M5)) hF (i := .putfield 1) rfl (fun _ => rfl) (fun M5 => ?_)
  refine dp_s1 hF (i := .aload_n 0) rfl (fun _ => rfl) ?_
  refine dp_s1 hF (i := .getfield 404) rfl (fun _ => rfl) ?_
  refine dp_s1 hF (i := .iload_n 1) rfl (fun _ => rfl) ?_
  refine dp_s3 hF (i := .iaload) rfl (fun _ => rfl) ?_
  refine dp_s1 hF (i := .iconst 1) rfl (fun _ => rfl) ?_
  refine dp_s2 hF (i := .if_icmp .gt 23) (a := (49, [some (.ref 114), some (.int v1), none], [], M5)) (b := (29, [some (.ref 114), some (.int v1), none], [], M5)) rfl (fun _ => rfl) ?_ ?_
  · refine dp_s1 hF (i := .iconst 0) rfl (fun _ => rfl) ?_
    exact dp_s0 hF (i := .ireturn) rfl (fun _ => rfl)
  refine dp_s1 hF (i := .aload_n 0) rfl (fun _ => rfl) ?_
  refine dp_s1 hF (i := .getfield 103) rfl (fun _ => rfl) ?_
  refine dp_s1 hF (i := .aload_n 0) rfl (fun _ => rfl) ?_
  refine dp_s1 hF (i := .getfield 112) rfl (fun _ => rfl) ?_
  refine dp_s1 hF (i := .aload_n 0) rfl (fun _ => rfl) ?_
  refine dp_s1 hF (i := .getfield 380) rfl (fun _ => rfl) ?_
  refine dp_s1 hF (i := .iload_n 1) rfl (fun _ => rfl) ?_
  refine dp_s3 hF (i := .iaload) rfl (fun _ => rfl) ?_
  refine dp_s3 hF (i := .iaload) rfl (fun _ => rfl) ?_
  refine dp_s3 hF (i := .iaload) rfl (fun _ => rfl) ?_
  refine dp_s1 hF (i := .iconst 1) rfl (fun _ => rfl) ?_
  refine dp_s2 hF (i := .if_icmp .ne 5) (a := (49, [some (.ref 114), some (.int v1), none], [], M5)) (b := (51, [some (.ref 114), some (.int v1), none], [], M5)) rfl (fun _ => rfl) ?_ ?_
  · refine dp_s1 hF (i := .iconst 0) rfl (fun _ => rfl) ?_
    exact dp_s0 hF (i := .ireturn) rfl (fun _ => rfl)
  refine dp_s1 hF (i := .aload_n 0) rfl (fun _ => rfl) ?_
  refine dp_s1 hF (i := .getfield 410) rfl (fun _ => rfl) ?_
  refine dp_s1 hF (i := .iload_n 1) rfl (fun _ => rfl) ?_
  refine dp_s3 hF (i := .iaload) rfl (fun _ => rfl) ?_
  refine dp_s2 hF (i := .ifCond .le 14) (a := (71, [some (.ref 114), some (.int v1), none], [], M5)) (b := (60, [some (.ref 114), some (.int v1), none], [], M5)) rfl (fun _ => rfl) ?_ ?_
  · exact rfl
  refine dp_s1 hF (i := .aload_n 0) rfl (fun _ => rfl) ?_
  refine dp_s1 hF (i := .aload_n 0) rfl (fun _ => rfl) ?_
  refine dp_s1 hF (i := .getfield 410) rfl (fun _ => rfl) ?_
  refine dp_s1 hF (i := .iload_n 1) rfl (fun _ => rfl) ?_
  refine dp_s3 hF (i := .iaload) rfl (fun _ => rfl) ?_
  refine dp_s1 hF (i := .iconst 1) rfl (fun _ => rfl) ?_
  refine dp_sv (mj := dp_m_X12_endsAs) (i := .invokevirtual 961) rfl rfl rfl (fun _ => rfl) (fun M6 => ?_)
  exact rfl
set_option maxRecDepth 20000 in
theorem D_X12_cancel_71_eq (xs : Nat → Int32) (xl d : Nat) (v1 : Int32) (M : dp_M) : D_X12_cancel_71 xs xl d v1 M = dp_bi (dp_den true xs xl d 570 [.ref 114, .int v1] M) (fun r2 M1 => if r2 < 0 then (if v1 < 0 ∨ 400 ≤ Int32.toNatClampNeg v1 then none else dp_w (dp_setI M1 241 (Int32.toNatClampNeg v1) (4 : Int32)) (fun M3 => some (.inl (some (.int (1 : Int32))), M3))) else (if r2 < 0 ∨ 400 ≤ Int32.toNatClampNeg r2 then none else dp_w (dp_setJ M1 198 (Int32.toNatClampNeg r2) (0 : Int64)) (fun M4 => if v1 < 0 ∨ 400 ≤ Int32.toNatClampNeg v1 then none else dp_w (dp_setI M4 241 (Int32.toNatClampNeg v1) (4 : Int32)) (fun M5 => some (.inl (some (.int (1 : Int32))), M5))))) := by
  have hF := dp_den_grow (md := true) (xs := xs) (xl := xl) d
  unfold D_X12_cancel_71
  refine dp_s1 hF (i := .aload_n 0) rfl (fun _ => rfl) ?_
  refine dp_s1 hF (i := .iload_n 1) rfl (fun _ => rfl) ?_
  refine dp_si (mj := dp_m_X12_askFor) (i := .invokevirtual 1038) rfl (Or.inl rfl) rfl (fun _ => rfl) (fun r2 M1 => ?_)
  refine dp_s1 hF (i := .istore_n 2) rfl (fun _ => rfl) ?_
  refine dp_s1 hF (i := .iload_n 2) rfl (fun _ => rfl) ?_
  refine dp_s2 hF (i := .ifCond .lt 10) (a := (88, [some (.ref 114), some (.int v1), some (.int r2)], [], M1)) (b := (81, [some (.ref 114), some (.int v1), some (.int r2)], [], M1)) rfl (fun _ => rfl) ?_ ?_
  · refine dp_s1 hF (i := .aload_n 0) rfl (fun _ => rfl) ?_
    refine dp_s1 hF (i := .getfield 404) rfl (fun _ => rfl) ?_
    refine dp_s1 hF (i := .iload_n 1) rfl (fun _ => rfl) ?_
    refine dp_s1 hF (i := .iconst 4) rfl (fun _ => rfl) ?_
    refine dp_s3w (dp_setI M1 241 (Int32.toNatClampNeg v1) (4 : Int32)) (fun (M3 : dp_M) => (95, [some (.ref 114), some (.int v1), some (.int r2)], [], M3)) hF (i := .iastore) rfl (fun _ => rfl) (fun M3 => ?_)
    refine dp_s1 hF (i := .iconst 1) rfl (fun _ => rfl) ?_
    exact dp_s0 hF (i := .ireturn) rfl (fun _ => rfl)
  refine dp_s1 hF (i := .aload_n 0) rfl (fun _ => rfl) ?_
  refine dp_s1 hF (i := .getfield 266) rfl (fun _ => rfl) ?_
  refine dp_s1 hF (i := .iload_n 2) rfl (fun _ => rfl) ?_
  refine dp_s1 hF (i := .lconst 0) rfl (fun _ => rfl) ?_
  refine dp_s3w (dp_setJ M1 198 (Int32.toNatClampNeg r2) (0 : Int64)) (fun (M4 : dp_M) => (88, [some (.ref 114), some (.int v1), some (.int r2)], [], M4)) hF (i := .lastore) rfl (fun _ => rfl) (fun M4 => ?_)
  refine dp_s1 hF (i := .aload_n 0) rfl (fun _ => rfl) ?_
  refine dp_s1 hF (i := .getfield 404) rfl (fun _ => rfl) ?_
  refine dp_s1 hF (i := .iload_n 1) rfl (fun _ => rfl) ?_
  refine dp_s1 hF (i := .iconst 4) rfl (fun _ => rfl) ?_
  refine dp_s3w (dp_setI M4 241 (Int32.toNatClampNeg v1) (4 : Int32)) (fun (M5 : dp_M) => (95, [some (.ref 114), some (.int v1), some (.int r2)], [], M5)) hF (i := .iastore) rfl (fun _ => rfl) (fun M5 => ?_)
  refine dp_s1 hF (i := .iconst 1) rfl (fun _ => rfl) ?_
  exact dp_s0 hF (i := .ireturn) rfl (fun _ => rfl)
noncomputable def D_X12_manyBoxes_0 (xs : Nat → Int32) (xl d : Nat) (v1 : Int32) (M : dp_M) : Option dp_Res := dp_lim true xs xl (dp_den true xs xl d) dp_m_X12_manyBoxes (0, [some (.ref 114), some (.int v1), none, none, none], [], M)
noncomputable def D_X12_manyBoxes_4 (xs : Nat → Int32) (xl d : Nat) (v1 : Int32) (v2 : Int32) (v3 : Int32) (M : dp_M) : Option dp_Res := dp_lim true xs xl (dp_den true xs xl d) dp_m_X12_manyBoxes (4, [some (.ref 114), some (.int v1), some (.int v2), some (.int v3), none], [], M)
noncomputable def D_X12_manyBoxes_109 (xs : Nat → Int32) (xl d : Nat) (v1 : Int32) (v2 : Int32) (v3 : Int32) (vs0 : Int32) (M : dp_M) : Option dp_Res := dp_lim true xs xl (dp_den true xs xl d) dp_m_X12_manyBoxes (109, [some (.ref 114), some (.int v1), some (.int v2), some (.int v3), none], [.int vs0], M)
noncomputable def D_X12_manyBoxes_4_a (xs : Nat → Int32) (xl d : Nat) (v1 : Int32) (v2 : Int32) (v3 : Int32) (v4 : Int32) (M : dp_M) : Option dp_Res := dp_lim true xs xl (dp_den true xs xl d) dp_m_X12_manyBoxes (4, [some (.ref 114), some (.int v1), some (.int v2), some (.int v3), some (.int v4)], [], M)
noncomputable def D_X12_manyBoxes_109_a (xs : Nat → Int32) (xl d : Nat) (v1 : Int32) (v2 : Int32) (v3 : Int32) (v4 : Int32) (vs0 : Int32) (M : dp_M) : Option dp_Res := dp_lim true xs xl (dp_den true xs xl d) dp_m_X12_manyBoxes (109, [some (.ref 114), some (.int v1), some (.int v2), some (.int v3), some (.int v4)], [.int vs0], M)
set_option maxRecDepth 20000 in
theorem D_X12_manyBoxes_0_eq (xs : Nat → Int32) (xl d : Nat) (v1 : Int32) (M : dp_M) : D_X12_manyBoxes_0 xs xl d v1 M = dp_w (0 : Int32) (fun y1 => dp_w (0 : Int32) (fun y2 => D_X12_manyBoxes_4 xs xl d v1 y1 y2 M)) := by
  have hF := dp_den_grow (md := true) (xs := xs) (xl := xl) d
  unfold D_X12_manyBoxes_0
  refine dp_s1 hF (i := .iconst 0) rfl (fun _ => rfl) ?_
  refine dp_s1w (0 : Int32) (fun (y1 : Int32) => (2, [some (.ref 114), some (.int v1), some (.int y1), none, none], [], M)) hF (i := .istore_n 2) rfl (fun _ => rfl) (fun y1 => ?_)
  refine dp_s1 hF (i := .iconst 0) rfl (fun _ => rfl) ?_
  refine dp_s1w (0 : Int32) (fun (y2 : Int32) => (4, [some (.ref 114), some (.int v1), some (.int y1), some (.int y2), none], [], M)) hF (i := .istore_n 3) rfl (fun _ => rfl) (fun y2 => ?_)
  exact rfl
set_option maxRecDepth 20000 in
theorem D_X12_manyBoxes_4_eq (xs : Nat → Int32) (xl d : Nat) (v1 : Int32) (v2 : Int32) (v3 : Int32) (M : dp_M) : D_X12_manyBoxes_4 xs xl d v1 v2 v3 M = if (dp_I M 114 3) ≤ v3 then (some (.inl (some (.int v2)), M)) else (if v1 = (1 : Int32) then (if v3 < 0 ∨ 100 ≤ Int32.toNatClampNeg v3 then none else (if (dp_I M 117 (Int32.toNatClampNeg v3)) = (3 : Int32) then (D_X12_manyBoxes_109 xs xl d v1 v2 v3 (1 : Int32) M) else (D_X12_manyBoxes_109 xs xl d v1 v2 v3 (0 : Int32) M))) else (if v1 = (2 : Int32) then (if v3 < 0 ∨ 100 ≤ Int32.toNatClampNeg v3 then none else (if (dp_I M 117 (Int32.toNatClampNeg v3)) = (4 : Int32) then (D_X12_manyBoxes_109 xs xl d v1 v2 v3 (1 : Int32) M) else (D_X12_manyBoxes_109 xs xl d v1 v2 v3 (0 : Int32) M))) else (if v1 = (4 : Int32) then (if v3 < 0 ∨ 100 ≤ Int32.toNatClampNeg v3 then none else (if (dp_I M 140 (Int32.toNatClampNeg v3)) < 0 then (D_X12_manyBoxes_109 xs xl d v1 v2 v3 (0 : Int32) M) else (D_X12_manyBoxes_109 xs xl d v1 v2 v3 (1 : Int32) M))) else (if v1 = (7 : Int32) then (dp_bi (dp_den true xs xl d 418 [.ref 114, .int v3] M) (fun r2 M1 => D_X12_manyBoxes_109 xs xl d v1 v2 v3 r2 M1)) else (if v3 < 0 ∨ 100 ≤ Int32.toNatClampNeg v3 then none else (if (dp_I M 144 (Int32.toNatClampNeg v3)) = (1 : Int32) then (D_X12_manyBoxes_109 xs xl d v1 v2 v3 (1 : Int32) M) else (D_X12_manyBoxes_109 xs xl d v1 v2 v3 (0 : Int32) M))))))) := by
  have hF := dp_den_grow (md := true) (xs := xs) (xl := xl) d
  unfold D_X12_manyBoxes_4
  refine dp_s1 hF (i := .iload_n 3) rfl (fun _ => rfl) ?_
  refine dp_s1 hF (i := .aload_n 0) rfl (fun _ => rfl) ?_
  refine dp_s1 hF (i := .getfield 437) rfl (fun _ => rfl) ?_
  refine dp_s2 hF (i := .if_icmp .ge 121) (a := (130, [some (.ref 114), some (.int v1), some (.int v2), some (.int v3), none], [], M)) (b := (12, [some (.ref 114), some (.int v1), some (.int v2), some (.int v3), none], [], M)) rfl (fun _ => rfl) ?_ ?_
  · refine dp_s1 hF (i := .iload_n 2) rfl (fun _ => rfl) ?_
    exact dp_s0 hF (i := .ireturn) rfl (fun _ => rfl)
  refine dp_s1 hF (i := .iload_n 1) rfl (fun _ => rfl) ?_
  refine dp_s1 hF (i := .iconst 1) rfl (fun _ => rfl) ?_
  refine dp_s2 hF (i := .if_icmp .ne 21) (a := (17, [some (.ref 114), some (.int v1), some (.int v2), some (.int v3), none], [], M)) (b := (35, [some (.ref 114), some (.int v1), some (.int v2), some (.int v3), none], [], M)) rfl (fun _ => rfl) ?_ ?_
  · refine dp_s1 hF (i := .aload_n 0) rfl (fun _ => rfl) ?_
    refine dp_s1 hF (i := .getfield 20) rfl (fun _ => rfl) ?_
    refine dp_s1 hF (i := .iload_n 3) rfl (fun _ => rfl) ?_
    refine dp_s3 hF (i := .iaload) rfl (fun _ => rfl) ?_
    refine dp_s1 hF (i := .iconst 3) rfl (fun _ => rfl) ?_
    refine dp_s2 hF (i := .if_icmp .ne 7) (a := (27, [some (.ref 114), some (.int v1), some (.int v2), some (.int v3), none], [], M)) (b := (31, [some (.ref 114), some (.int v1), some (.int v2), some (.int v3), none], [], M)) rfl (fun _ => rfl) ?_ ?_
    · refine dp_s1 hF (i := .iconst 1) rfl (fun _ => rfl) ?_
      refine dp_s1 hF (i := .goto 81) rfl (fun _ => rfl) ?_
      exact rfl
    refine dp_s1 hF (i := .iconst 0) rfl (fun _ => rfl) ?_
    refine dp_s1 hF (i := .goto 77) rfl (fun _ => rfl) ?_
    exact rfl
  refine dp_s1 hF (i := .iload_n 1) rfl (fun _ => rfl) ?_
  refine dp_s1 hF (i := .iconst 2) rfl (fun _ => rfl) ?_
  refine dp_s2 hF (i := .if_icmp .ne 21) (a := (40, [some (.ref 114), some (.int v1), some (.int v2), some (.int v3), none], [], M)) (b := (58, [some (.ref 114), some (.int v1), some (.int v2), some (.int v3), none], [], M)) rfl (fun _ => rfl) ?_ ?_
  · refine dp_s1 hF (i := .aload_n 0) rfl (fun _ => rfl) ?_
    refine dp_s1 hF (i := .getfield 20) rfl (fun _ => rfl) ?_
    refine dp_s1 hF (i := .iload_n 3) rfl (fun _ => rfl) ?_
    refine dp_s3 hF (i := .iaload) rfl (fun _ => rfl) ?_
    refine dp_s1 hF (i := .iconst 4) rfl (fun _ => rfl) ?_
    refine dp_s2 hF (i := .if_icmp .ne 7) (a := (50, [some (.ref 114), some (.int v1), some (.int v2), some (.int v3), none], [], M)) (b := (54, [some (.ref 114), some (.int v1), some (.int v2), some (.int v3), none], [], M)) rfl (fun _ => rfl) ?_ ?_
    · refine dp_s1 hF (i := .iconst 1) rfl (fun _ => rfl) ?_
      refine dp_s1 hF (i := .goto 58) rfl (fun _ => rfl) ?_
      exact rfl
    refine dp_s1 hF (i := .iconst 0) rfl (fun _ => rfl) ?_
    refine dp_s1 hF (i := .goto 54) rfl (fun _ => rfl) ?_
    exact rfl
  refine dp_s1 hF (i := .iload_n 1) rfl (fun _ => rfl) ?_
  refine dp_s1 hF (i := .iconst 4) rfl (fun _ => rfl) ?_
  refine dp_s2 hF (i := .if_icmp .ne 20) (a := (63, [some (.ref 114), some (.int v1), some (.int v2), some (.int v3), none], [], M)) (b := (80, [some (.ref 114), some (.int v1), some (.int v2), some (.int v3), none], [], M)) rfl (fun _ => rfl) ?_ ?_
  · refine dp_s1 hF (i := .aload_n 0) rfl (fun _ => rfl) ?_
    refine dp_s1 hF (i := .getfield 91) rfl (fun _ => rfl) ?_
    refine dp_s1 hF (i := .iload_n 3) rfl (fun _ => rfl) ?_
    refine dp_s3 hF (i := .iaload) rfl (fun _ => rfl) ?_
    refine dp_s2 hF (i := .ifCond .lt 7) (a := (76, [some (.ref 114), some (.int v1), some (.int v2), some (.int v3), none], [], M)) (b := (72, [some (.ref 114), some (.int v1), some (.int v2), some (.int v3), none], [], M)) rfl (fun _ => rfl) ?_ ?_
    · refine dp_s1 hF (i := .iconst 0) rfl (fun _ => rfl) ?_
      refine dp_s1 hF (i := .goto 32) rfl (fun _ => rfl) ?_
      exact rfl
    refine dp_s1 hF (i := .iconst 1) rfl (fun _ => rfl) ?_
    refine dp_s1 hF (i := .goto 36) rfl (fun _ => rfl) ?_
    exact rfl
  refine dp_s1 hF (i := .iload_n 1) rfl (fun _ => rfl) ?_
  refine dp_s1 hF (i := .bipush 7) rfl (fun _ => rfl) ?_
  refine dp_s2 hF (i := .if_icmp .ne 11) (a := (86, [some (.ref 114), some (.int v1), some (.int v2), some (.int v3), none], [], M)) (b := (94, [some (.ref 114), some (.int v1), some (.int v2), some (.int v3), none], [], M)) rfl (fun _ => rfl) ?_ ?_
  · refine dp_s1 hF (i := .aload_n 0) rfl (fun _ => rfl) ?_
    refine dp_s1 hF (i := .iload_n 3) rfl (fun _ => rfl) ?_
    refine dp_si (mj := dp_m_X12_isInTheWay) (i := .invokevirtual 596) rfl (Or.inr rfl) rfl (fun _ => rfl) (fun r2 M1 => ?_)
    refine dp_s1 hF (i := .goto 18) rfl (fun _ => rfl) ?_
    exact rfl
  refine dp_s1 hF (i := .aload_n 0) rfl (fun _ => rfl) ?_
  refine dp_s1 hF (i := .getfield 103) rfl (fun _ => rfl) ?_
  refine dp_s1 hF (i := .iload_n 3) rfl (fun _ => rfl) ?_
  refine dp_s3 hF (i := .iaload) rfl (fun _ => rfl) ?_
  refine dp_s1 hF (i := .iconst 1) rfl (fun _ => rfl) ?_
  refine dp_s2 hF (i := .if_icmp .ne 7) (a := (104, [some (.ref 114), some (.int v1), some (.int v2), some (.int v3), none], [], M)) (b := (108, [some (.ref 114), some (.int v1), some (.int v2), some (.int v3), none], [], M)) rfl (fun _ => rfl) ?_ ?_
  · refine dp_s1 hF (i := .iconst 1) rfl (fun _ => rfl) ?_
    refine dp_s1 hF (i := .goto 4) rfl (fun _ => rfl) ?_
    exact rfl
  refine dp_s1 hF (i := .iconst 0) rfl (fun _ => rfl) ?_
  exact rfl
set_option maxRecDepth 20000 in
theorem D_X12_manyBoxes_109_eq (xs : Nat → Int32) (xl d : Nat) (v1 : Int32) (v2 : Int32) (v3 : Int32) (vs0 : Int32) (M : dp_M) : D_X12_manyBoxes_109 xs xl d v1 v2 v3 vs0 M = if vs0 = 0 then (dp_w (v2 + (0 : Int32)) (fun y1 => dp_w (v3 + (1 : Int32)) (fun y2 => D_X12_manyBoxes_4_a xs xl d v1 y1 y2 vs0 M))) else (dp_w (v2 + (1 : Int32)) (fun y3 => dp_w (v3 + (1 : Int32)) (fun y4 => D_X12_manyBoxes_4_a xs xl d v1 y3 y4 vs0 M))) := by
  have hF := dp_den_grow (md := true) (xs := xs) (xl := xl) d
  unfold D_X12_manyBoxes_109
  refine dp_s1 hF (i := .istore 4) rfl (fun _ => rfl) ?_
  refine dp_s1 hF (i := .iload_n 2) rfl (fun _ => rfl) ?_
  refine dp_s1 hF (i := .iload 4) rfl (fun _ => rfl) ?_
  refine dp_s2 hF (i := .ifCond .eq 7) (a := (121, [some (.ref 114), some (.int v1), some (.int v2), some (.int v3), some (.int vs0)], [.int v2], M)) (b := (117, [some (.ref 114), some (.int v1), some (.int v2), some (.int v3), some (.int vs0)], [.int v2], M)) rfl (fun _ => rfl) ?_ ?_
  · refine dp_s1 hF (i := .iconst 0) rfl (fun _ => rfl) ?_
    refine dp_s1 hF (i := .iadd) rfl (fun _ => rfl) ?_
    refine dp_s1w (v2 + (0 : Int32)) (fun (y1 : Int32) => (124, [some (.ref 114), some (.int v1), some (.int y1), some (.int v3), some (.int vs0)], [], M)) hF (i := .istore_n 2) rfl (fun _ => rfl) (fun y1 => ?_)
    refine dp_s1w (v3 + (1 : Int32)) (fun (y2 : Int32) => (127, [some (.ref 114), some (.int v1), some (.int y1), some (.int y2), some (.int vs0)], [], M)) hF (i := .iinc 3 1) rfl (fun _ => rfl) (fun y2 => ?_)
    refine dp_s1 hF (i := .goto (-123)) rfl (fun _ => rfl) ?_
    exact rfl
  refine dp_s1 hF (i := .iconst 1) rfl (fun _ => rfl) ?_
  refine dp_s1 hF (i := .goto 4) rfl (fun _ => rfl) ?_
  refine dp_s1 hF (i := .iadd) rfl (fun _ => rfl) ?_
  refine dp_s1w (v2 + (1 : Int32)) (fun (y3 : Int32) => (124, [some (.ref 114), some (.int v1), some (.int y3), some (.int v3), some (.int vs0)], [], M)) hF (i := .istore_n 2) rfl (fun _ => rfl) (fun y3 => ?_)
  refine dp_s1w (v3 + (1 : Int32)) (fun (y4 : Int32) => (127, [some (.ref 114), some (.int v1), some (.int y3), some (.int y4), some (.int vs0)], [], M)) hF (i := .iinc 3 1) rfl (fun _ => rfl) (fun y4 => ?_)
  refine dp_s1 hF (i := .goto (-123)) rfl (fun _ => rfl) ?_
  exact rfl
set_option maxRecDepth 20000 in
theorem D_X12_manyBoxes_4_a_eq (xs : Nat → Int32) (xl d : Nat) (v1 : Int32) (v2 : Int32) (v3 : Int32) (v4 : Int32) (M : dp_M) : D_X12_manyBoxes_4_a xs xl d v1 v2 v3 v4 M = if (dp_I M 114 3) ≤ v3 then (some (.inl (some (.int v2)), M)) else (if v1 = (1 : Int32) then (if v3 < 0 ∨ 100 ≤ Int32.toNatClampNeg v3 then none else (if (dp_I M 117 (Int32.toNatClampNeg v3)) = (3 : Int32) then (D_X12_manyBoxes_109_a xs xl d v1 v2 v3 v4 (1 : Int32) M) else (D_X12_manyBoxes_109_a xs xl d v1 v2 v3 v4 (0 : Int32) M))) else (if v1 = (2 : Int32) then (if v3 < 0 ∨ 100 ≤ Int32.toNatClampNeg v3 then none else (if (dp_I M 117 (Int32.toNatClampNeg v3)) = (4 : Int32) then (D_X12_manyBoxes_109_a xs xl d v1 v2 v3 v4 (1 : Int32) M) else (D_X12_manyBoxes_109_a xs xl d v1 v2 v3 v4 (0 : Int32) M))) else (if v1 = (4 : Int32) then (if v3 < 0 ∨ 100 ≤ Int32.toNatClampNeg v3 then none else (if (dp_I M 140 (Int32.toNatClampNeg v3)) < 0 then (D_X12_manyBoxes_109_a xs xl d v1 v2 v3 v4 (0 : Int32) M) else (D_X12_manyBoxes_109_a xs xl d v1 v2 v3 v4 (1 : Int32) M))) else (if v1 = (7 : Int32) then (dp_bi (dp_den true xs xl d 418 [.ref 114, .int v3] M) (fun r2 M1 => D_X12_manyBoxes_109_a xs xl d v1 v2 v3 v4 r2 M1)) else (if v3 < 0 ∨ 100 ≤ Int32.toNatClampNeg v3 then none else (if (dp_I M 144 (Int32.toNatClampNeg v3)) = (1 : Int32) then (D_X12_manyBoxes_109_a xs xl d v1 v2 v3 v4 (1 : Int32) M) else (D_X12_manyBoxes_109_a xs xl d v1 v2 v3 v4 (0 : Int32) M))))))) := by
  have hF := dp_den_grow (md := true) (xs := xs) (xl := xl) d
  unfold D_X12_manyBoxes_4_a
  refine dp_s1 hF (i := .iload_n 3) rfl (fun _ => rfl) ?_
  refine dp_s1 hF (i := .aload_n 0) rfl (fun _ => rfl) ?_
  refine dp_s1 hF (i := .getfield 437) rfl (fun _ => rfl) ?_
  refine dp_s2 hF (i := .if_icmp .ge 121) (a := (130, [some (.ref 114), some (.int v1), some (.int v2), some (.int v3), some (.int v4)], [], M)) (b := (12, [some (.ref 114), some (.int v1), some (.int v2), some (.int v3), some (.int v4)], [], M)) rfl (fun _ => rfl) ?_ ?_
  · refine dp_s1 hF (i := .iload_n 2) rfl (fun _ => rfl) ?_
    exact dp_s0 hF (i := .ireturn) rfl (fun _ => rfl)
  refine dp_s1 hF (i := .iload_n 1) rfl (fun _ => rfl) ?_
  refine dp_s1 hF (i := .iconst 1) rfl (fun _ => rfl) ?_
  refine dp_s2 hF (i := .if_icmp .ne 21) (a := (17, [some (.ref 114), some (.int v1), some (.int v2), some (.int v3), some (.int v4)], [], M)) (b := (35, [some (.ref 114), some (.int v1), some (.int v2), some (.int v3), some (.int v4)], [], M)) rfl (fun _ => rfl) ?_ ?_
  · refine dp_s1 hF (i := .aload_n 0) rfl (fun _ => rfl) ?_
    refine dp_s1 hF (i := .getfield 20) rfl (fun _ => rfl) ?_
    refine dp_s1 hF (i := .iload_n 3) rfl (fun _ => rfl) ?_
    refine dp_s3 hF (i := .iaload) rfl (fun _ => rfl) ?_
    refine dp_s1 hF (i := .iconst 3) rfl (fun _ => rfl) ?_
    refine dp_s2 hF (i := .if_icmp .ne 7) (a := (27, [some (.ref 114), some (.int v1), some (.int v2), some (.int v3), some (.int v4)], [], M)) (b := (31, [some (.ref 114), some (.int v1), some (.int v2), some (.int v3), some (.int v4)], [], M)) rfl (fun _ => rfl) ?_ ?_
    · refine dp_s1 hF (i := .iconst 1) rfl (fun _ => rfl) ?_
      refine dp_s1 hF (i := .goto 81) rfl (fun _ => rfl) ?_
      exact rfl
    refine dp_s1 hF (i := .iconst 0) rfl (fun _ => rfl) ?_
    refine dp_s1 hF (i := .goto 77) rfl (fun _ => rfl) ?_
    exact rfl
  refine dp_s1 hF (i := .iload_n 1) rfl (fun _ => rfl) ?_
  refine dp_s1 hF (i := .iconst 2) rfl (fun _ => rfl) ?_
  refine dp_s2 hF (i := .if_icmp .ne 21) (a := (40, [some (.ref 114), some (.int v1), some (.int v2), some (.int v3), some (.int v4)], [], M)) (b := (58, [some (.ref 114), some (.int v1), some (.int v2), some (.int v3), some (.int v4)], [], M)) rfl (fun _ => rfl) ?_ ?_
  · refine dp_s1 hF (i := .aload_n 0) rfl (fun _ => rfl) ?_
    refine dp_s1 hF (i := .getfield 20) rfl (fun _ => rfl) ?_
    refine dp_s1 hF (i := .iload_n 3) rfl (fun _ => rfl) ?_
    refine dp_s3 hF (i := .iaload) rfl (fun _ => rfl) ?_
    refine dp_s1 hF (i := .iconst 4) rfl (fun _ => rfl) ?_
    refine dp_s2 hF (i := .if_icmp .ne 7) (a := (50, [some (.ref 114), some (.int v1), some (.int v2), some (.int v3), some (.int v4)], [], M)) (b := (54, [some (.ref 114), some (.int v1), some (.int v2), some (.int v3), some (.int v4)], [], M)) rfl (fun _ => rfl) ?_ ?_
    · refine dp_s1 hF (i := .iconst 1) rfl (fun _ => rfl) ?_
      refine dp_s1 hF (i := .goto 58) rfl (fun _ => rfl) ?_
      exact rfl
    refine dp_s1 hF (i := .iconst 0) rfl (fun _ => rfl) ?_
    refine dp_s1 hF (i := .goto 54) rfl (fun _ => rfl) ?_
    exact rfl
  refine dp_s1 hF (i := .iload_n 1) rfl (fun _ => rfl) ?_
  refine dp_s1 hF (i := .iconst 4) rfl (fun _ => rfl) ?_
  refine dp_s2 hF (i := .if_icmp .ne 20) (a := (63, [some (.ref 114), some (.int v1), some (.int v2), some (.int v3), some (.int v4)], [], M)) (b := (80, [some (.ref 114), some (.int v1), some (.int v2), some (.int v3), some (.int v4)], [], M)) rfl (fun _ => rfl) ?_ ?_
  · refine dp_s1 hF (i := .aload_n 0) rfl (fun _ => rfl) ?_
    refine dp_s1 hF (i := .getfield 91) rfl (fun _ => rfl) ?_
    refine dp_s1 hF (i := .iload_n 3) rfl (fun _ => rfl) ?_
    refine dp_s3 hF (i := .iaload) rfl (fun _ => rfl) ?_
    refine dp_s2 hF (i := .ifCond .lt 7) (a := (76, [some (.ref 114), some (.int v1), some (.int v2), some (.int v3), some (.int v4)], [], M)) (b := (72, [some (.ref 114), some (.int v1), some (.int v2), some (.int v3), some (.int v4)], [], M)) rfl (fun _ => rfl) ?_ ?_
    · refine dp_s1 hF (i := .iconst 0) rfl (fun _ => rfl) ?_
      refine dp_s1 hF (i := .goto 32) rfl (fun _ => rfl) ?_
      exact rfl
    refine dp_s1 hF (i := .iconst 1) rfl (fun _ => rfl) ?_
    refine dp_s1 hF (i := .goto 36) rfl (fun _ => rfl) ?_
    exact rfl
  refine dp_s1 hF (i := .iload_n 1) rfl (fun _ => rfl) ?_
  refine dp_s1 hF (i := .bipush 7) rfl (fun _ => rfl) ?_
  refine dp_s2 hF (i := .if_icmp .ne 11) (a := (86, [some (.ref 114), some (.int v1), some (.int v2), some (.int v3), some (.int v4)], [], M)) (b := (94, [some (.ref 114), some (.int v1), some (.int v2), some (.int v3), some (.int v4)], [], M)) rfl (fun _ => rfl) ?_ ?_
  · refine dp_s1 hF (i := .aload_n 0) rfl (fun _ => rfl) ?_
    refine dp_s1 hF (i := .iload_n 3) rfl (fun _ => rfl) ?_
    refine dp_si (mj := dp_m_X12_isInTheWay) (i := .invokevirtual 596) rfl (Or.inr rfl) rfl (fun _ => rfl) (fun r2 M1 => ?_)
    refine dp_s1 hF (i := .goto 18) rfl (fun _ => rfl) ?_
    exact rfl
  refine dp_s1 hF (i := .aload_n 0) rfl (fun _ => rfl) ?_
  refine dp_s1 hF (i := .getfield 103) rfl (fun _ => rfl) ?_
  refine dp_s1 hF (i := .iload_n 3) rfl (fun _ => rfl) ?_
  refine dp_s3 hF (i := .iaload) rfl (fun _ => rfl) ?_
  refine dp_s1 hF (i := .iconst 1) rfl (fun _ => rfl) ?_
  refine dp_s2 hF (i := .if_icmp .ne 7) (a := (104, [some (.ref 114), some (.int v1), some (.int v2), some (.int v3), some (.int v4)], [], M)) (b := (108, [some (.ref 114), some (.int v1), some (.int v2), some (.int v3), some (.int v4)], [], M)) rfl (fun _ => rfl) ?_ ?_
  · refine dp_s1 hF (i := .iconst 1) rfl (fun _ => rfl) ?_
    refine dp_s1 hF (i := .goto 4) rfl (fun _ => rfl) ?_
    exact rfl
  refine dp_s1 hF (i := .iconst 0) rfl (fun _ => rfl) ?_
  exact rfl
set_option maxRecDepth 20000 in
theorem D_X12_manyBoxes_109_a_eq (xs : Nat → Int32) (xl d : Nat) (v1 : Int32) (v2 : Int32) (v3 : Int32) (v4 : Int32) (vs0 : Int32) (M : dp_M) : D_X12_manyBoxes_109_a xs xl d v1 v2 v3 v4 vs0 M = if vs0 = 0 then (dp_w (v2 + (0 : Int32)) (fun y1 => dp_w (v3 + (1 : Int32)) (fun y2 => D_X12_manyBoxes_4_a xs xl d v1 y1 y2 vs0 M))) else (dp_w (v2 + (1 : Int32)) (fun y3 => dp_w (v3 + (1 : Int32)) (fun y4 => D_X12_manyBoxes_4_a xs xl d v1 y3 y4 vs0 M))) := by
  have hF := dp_den_grow (md := true) (xs := xs) (xl := xl) d
  unfold D_X12_manyBoxes_109_a
  refine dp_s1 hF (i := .istore 4) rfl (fun _ => rfl) ?_
  refine dp_s1 hF (i := .iload_n 2) rfl (fun _ => rfl) ?_
  refine dp_s1 hF (i := .iload 4) rfl (fun _ => rfl) ?_
  refine dp_s2 hF (i := .ifCond .eq 7) (a := (121, [some (.ref 114), some (.int v1), some (.int v2), some (.int v3), some (.int vs0)], [.int v2], M)) (b := (117, [some (.ref 114), some (.int v1), some (.int v2), some (.int v3), some (.int vs0)], [.int v2], M)) rfl (fun _ => rfl) ?_ ?_
  · refine dp_s1 hF (i := .iconst 0) rfl (fun _ => rfl) ?_
    refine dp_s1 hF (i := .iadd) rfl (fun _ => rfl) ?_
    refine dp_s1w (v2 + (0 : Int32)) (fun (y1 : Int32) => (124, [some (.ref 114), some (.int v1), some (.int y1), some (.int v3), some (.int vs0)], [], M)) hF (i := .istore_n 2) rfl (fun _ => rfl) (fun y1 => ?_)
    refine dp_s1w (v3 + (1 : Int32)) (fun (y2 : Int32) => (127, [some (.ref 114), some (.int v1), some (.int y1), some (.int y2), some (.int vs0)], [], M)) hF (i := .iinc 3 1) rfl (fun _ => rfl) (fun y2 => ?_)
    refine dp_s1 hF (i := .goto (-123)) rfl (fun _ => rfl) ?_
    exact rfl
  refine dp_s1 hF (i := .iconst 1) rfl (fun _ => rfl) ?_
  refine dp_s1 hF (i := .goto 4) rfl (fun _ => rfl) ?_
  refine dp_s1 hF (i := .iadd) rfl (fun _ => rfl) ?_
  refine dp_s1w (v2 + (1 : Int32)) (fun (y3 : Int32) => (124, [some (.ref 114), some (.int v1), some (.int y3), some (.int v3), some (.int vs0)], [], M)) hF (i := .istore_n 2) rfl (fun _ => rfl) (fun y3 => ?_)
  refine dp_s1w (v3 + (1 : Int32)) (fun (y4 : Int32) => (127, [some (.ref 114), some (.int v1), some (.int y3), some (.int y4), some (.int vs0)], [], M)) hF (i := .iinc 3 1) rfl (fun _ => rfl) (fun y4 => ?_)
  refine dp_s1 hF (i := .goto (-123)) rfl (fun _ => rfl) ?_
  exact rfl
noncomputable def D_X12_liveOnes_0 (xs : Nat → Int32) (xl d : Nat)  (M : dp_M) : Option dp_Res := dp_lim true xs xl (dp_den true xs xl d) dp_m_X12_liveOnes (0, [some (.ref 114), none, none], [], M)
noncomputable def D_X12_liveOnes_4 (xs : Nat → Int32) (xl d : Nat) (v1 : Int32) (v2 : Int32) (M : dp_M) : Option dp_Res := dp_lim true xs xl (dp_den true xs xl d) dp_m_X12_liveOnes (4, [some (.ref 114), some (.int v1), some (.int v2)], [], M)
set_option maxRecDepth 20000 in
theorem D_X12_liveOnes_0_eq (xs : Nat → Int32) (xl d : Nat)  (M : dp_M) : D_X12_liveOnes_0 xs xl d  M = dp_w (0 : Int32) (fun y1 => dp_w (1 : Int32) (fun y2 => D_X12_liveOnes_4 xs xl d y1 y2 M)) := by
  have hF := dp_den_grow (md := true) (xs := xs) (xl := xl) d
  unfold D_X12_liveOnes_0
  refine dp_s1 hF (i := .iconst 0) rfl (fun _ => rfl) ?_
  refine dp_s1w (0 : Int32) (fun (y1 : Int32) => (2, [some (.ref 114), some (.int y1), none], [], M)) hF (i := .istore_n 1) rfl (fun _ => rfl) (fun y1 => ?_)
  refine dp_s1 hF (i := .iconst 1) rfl (fun _ => rfl) ?_
  refine dp_s1w (1 : Int32) (fun (y2 : Int32) => (4, [some (.ref 114), some (.int y1), some (.int y2)], [], M)) hF (i := .istore_n 2) rfl (fun _ => rfl) (fun y2 => ?_)
  exact rfl
set_option maxRecDepth 20000 in
theorem D_X12_liveOnes_4_eq (xs : Nat → Int32) (xl d : Nat) (v1 : Int32) (v2 : Int32) (M : dp_M) : D_X12_liveOnes_4 xs xl d v1 v2 M = if (dp_I M 114 133) < v2 then (some (.inl (some (.int v1)), M)) else (if v2 < 0 ∨ 402 ≤ Int32.toNatClampNeg v2 then none else (if (dp_I M 215 (Int32.toNatClampNeg v2)) = 0 then (dp_w (v1 + (1 : Int32)) (fun y1 => dp_w (v2 + (1 : Int32)) (fun y2 => D_X12_liveOnes_4 xs xl d y1 y2 M))) else (dp_w (v1 + (0 : Int32)) (fun y3 => dp_w (v2 + (1 : Int32)) (fun y4 => D_X12_liveOnes_4 xs xl d y3 y4 M))))) := by
  have hF := dp_den_grow (md := true) (xs := xs) (xl := xl) d
  unfold D_X12_liveOnes_4
  refine dp_s1 hF (i := .iload_n 2) rfl (fun _ => rfl) ?_
  refine dp_s1 hF (i := .aload_n 0) rfl (fun _ => rfl) ?_
  refine dp_s1 hF (i := .getfield 923) rfl (fun _ => rfl) ?_
  refine dp_s2 hF (i := .if_icmp .gt 26) (a := (35, [some (.ref 114), some (.int v1), some (.int v2)], [], M)) (b := (12, [some (.ref 114), some (.int v1), some (.int v2)], [], M)) rfl (fun _ => rfl) ?_ ?_
  · refine dp_s1 hF (i := .iload_n 1) rfl (fun _ => rfl) ?_
    exact dp_s0 hF (i := .ireturn) rfl (fun _ => rfl)
  refine dp_s1 hF (i := .iload_n 1) rfl (fun _ => rfl) ?_
  refine dp_s1 hF (i := .aload_n 0) rfl (fun _ => rfl) ?_
  refine dp_s1 hF (i := .getfield 317) rfl (fun _ => rfl) ?_
  refine dp_s1 hF (i := .iload_n 2) rfl (fun _ => rfl) ?_
  refine dp_s3 hF (i := .iaload) rfl (fun _ => rfl) ?_
  refine dp_s2 hF (i := .ifCond .ne 7) (a := (22, [some (.ref 114), some (.int v1), some (.int v2)], [.int v1], M)) (b := (26, [some (.ref 114), some (.int v1), some (.int v2)], [.int v1], M)) rfl (fun _ => rfl) ?_ ?_
  · refine dp_s1 hF (i := .iconst 1) rfl (fun _ => rfl) ?_
    refine dp_s1 hF (i := .goto 4) rfl (fun _ => rfl) ?_
    refine dp_s1 hF (i := .iadd) rfl (fun _ => rfl) ?_
    refine dp_s1w (v1 + (1 : Int32)) (fun (y1 : Int32) => (29, [some (.ref 114), some (.int y1), some (.int v2)], [], M)) hF (i := .istore_n 1) rfl (fun _ => rfl) (fun y1 => ?_)
    refine dp_s1w (v2 + (1 : Int32)) (fun (y2 : Int32) => (32, [some (.ref 114), some (.int y1), some (.int y2)], [], M)) hF (i := .iinc 2 1) rfl (fun _ => rfl) (fun y2 => ?_)
    refine dp_s1 hF (i := .goto (-28)) rfl (fun _ => rfl) ?_
    exact rfl
  refine dp_s1 hF (i := .iconst 0) rfl (fun _ => rfl) ?_
  refine dp_s1 hF (i := .iadd) rfl (fun _ => rfl) ?_
  refine dp_s1w (v1 + (0 : Int32)) (fun (y3 : Int32) => (29, [some (.ref 114), some (.int y3), some (.int v2)], [], M)) hF (i := .istore_n 1) rfl (fun _ => rfl) (fun y3 => ?_)
  refine dp_s1w (v2 + (1 : Int32)) (fun (y4 : Int32) => (32, [some (.ref 114), some (.int y3), some (.int y4)], [], M)) hF (i := .iinc 2 1) rfl (fun _ => rfl) (fun y4 => ?_)
  refine dp_s1 hF (i := .goto (-28)) rfl (fun _ => rfl) ?_
  exact rfl
noncomputable def D_X12_ofState_0 (xs : Nat → Int32) (xl d : Nat) (v1 : Int32) (M : dp_M) : Option dp_Res := dp_lim true xs xl (dp_den true xs xl d) dp_m_X12_ofState (0, [some (.ref 114), some (.int v1), none, none], [], M)
noncomputable def D_X12_ofState_4 (xs : Nat → Int32) (xl d : Nat) (v1 : Int32) (v2 : Int32) (v3 : Int32) (M : dp_M) : Option dp_Res := dp_lim true xs xl (dp_den true xs xl d) dp_m_X12_ofState (4, [some (.ref 114), some (.int v1), some (.int v2), some (.int v3)], [], M)
set_option maxRecDepth 20000 in
theorem D_X12_ofState_0_eq (xs : Nat → Int32) (xl d : Nat) (v1 : Int32) (M : dp_M) : D_X12_ofState_0 xs xl d v1 M = dp_w (0 : Int32) (fun y1 => dp_w (0 : Int32) (fun y2 => D_X12_ofState_4 xs xl d v1 y1 y2 M)) := by
  have hF := dp_den_grow (md := true) (xs := xs) (xl := xl) d
  unfold D_X12_ofState_0
  refine dp_s1 hF (i := .iconst 0) rfl (fun _ => rfl) ?_
  refine dp_s1w (0 : Int32) (fun (y1 : Int32) => (2, [some (.ref 114), some (.int v1), some (.int y1), none], [], M)) hF (i := .istore_n 2) rfl (fun _ => rfl) (fun y1 => ?_)
  refine dp_s1 hF (i := .iconst 0) rfl (fun _ => rfl) ?_
  refine dp_s1w (0 : Int32) (fun (y2 : Int32) => (4, [some (.ref 114), some (.int v1), some (.int y1), some (.int y2)], [], M)) hF (i := .istore_n 3) rfl (fun _ => rfl) (fun y2 => ?_)
  exact rfl
set_option maxRecDepth 20000 in
theorem D_X12_ofState_4_eq (xs : Nat → Int32) (xl d : Nat) (v1 : Int32) (v2 : Int32) (v3 : Int32) (M : dp_M) : D_X12_ofState_4 xs xl d v1 v2 v3 M = if (dp_I M 114 160) ≤ v3 then (some (.inl (some (.int v2)), M)) else (if v3 < 0 ∨ 400 ≤ Int32.toNatClampNeg v3 then none else (if (dp_I M 241 (Int32.toNatClampNeg v3)) = v1 then (dp_w (v2 + (1 : Int32)) (fun y1 => dp_w (v3 + (1 : Int32)) (fun y2 => D_X12_ofState_4 xs xl d v1 y1 y2 M))) else (dp_w (v2 + (0 : Int32)) (fun y3 => dp_w (v3 + (1 : Int32)) (fun y4 => D_X12_ofState_4 xs xl d v1 y3 y4 M))))) := by
  have hF := dp_den_grow (md := true) (xs := xs) (xl := xl) d
  unfold D_X12_ofState_4
  refine dp_s1 hF (i := .iload_n 3) rfl (fun _ => rfl) ?_
  refine dp_s1 hF (i := .aload_n 0) rfl (fun _ => rfl) ?_
  refine dp_s1 hF (i := .getfield 611) rfl (fun _ => rfl) ?_
  refine dp_s2 hF (i := .if_icmp .ge 27) (a := (36, [some (.ref 114), some (.int v1), some (.int v2), some (.int v3)], [], M)) (b := (12, [some (.ref 114), some (.int v1), some (.int v2), some (.int v3)], [], M)) rfl (fun _ => rfl) ?_ ?_
  · refine dp_s1 hF (i := .iload_n 2) rfl (fun _ => rfl) ?_
    exact dp_s0 hF (i := .ireturn) rfl (fun _ => rfl)
  refine dp_s1 hF (i := .iload_n 2) rfl (fun _ => rfl) ?_
  refine dp_s1 hF (i := .aload_n 0) rfl (fun _ => rfl) ?_
  refine dp_s1 hF (i := .getfield 404) rfl (fun _ => rfl) ?_
  refine dp_s1 hF (i := .iload_n 3) rfl (fun _ => rfl) ?_
  refine dp_s3 hF (i := .iaload) rfl (fun _ => rfl) ?_
  refine dp_s1 hF (i := .iload_n 1) rfl (fun _ => rfl) ?_
  refine dp_s2 hF (i := .if_icmp .ne 7) (a := (23, [some (.ref 114), some (.int v1), some (.int v2), some (.int v3)], [.int v2], M)) (b := (27, [some (.ref 114), some (.int v1), some (.int v2), some (.int v3)], [.int v2], M)) rfl (fun _ => rfl) ?_ ?_
  · refine dp_s1 hF (i := .iconst 1) rfl (fun _ => rfl) ?_
    refine dp_s1 hF (i := .goto 4) rfl (fun _ => rfl) ?_
    refine dp_s1 hF (i := .iadd) rfl (fun _ => rfl) ?_
    refine dp_s1w (v2 + (1 : Int32)) (fun (y1 : Int32) => (30, [some (.ref 114), some (.int v1), some (.int y1), some (.int v3)], [], M)) hF (i := .istore_n 2) rfl (fun _ => rfl) (fun y1 => ?_)
    refine dp_s1w (v3 + (1 : Int32)) (fun (y2 : Int32) => (33, [some (.ref 114), some (.int v1), some (.int y1), some (.int y2)], [], M)) hF (i := .iinc 3 1) rfl (fun _ => rfl) (fun y2 => ?_)
    refine dp_s1 hF (i := .goto (-29)) rfl (fun _ => rfl) ?_
    exact rfl
  refine dp_s1 hF (i := .iconst 0) rfl (fun _ => rfl) ?_
  refine dp_s1 hF (i := .iadd) rfl (fun _ => rfl) ?_
  refine dp_s1w (v2 + (0 : Int32)) (fun (y3 : Int32) => (30, [some (.ref 114), some (.int v1), some (.int y3), some (.int v3)], [], M)) hF (i := .istore_n 2) rfl (fun _ => rfl) (fun y3 => ?_)
  refine dp_s1w (v3 + (1 : Int32)) (fun (y4 : Int32) => (33, [some (.ref 114), some (.int v1), some (.int y3), some (.int y4)], [], M)) hF (i := .iinc 3 1) rfl (fun _ => rfl) (fun y4 => ?_)
  refine dp_s1 hF (i := .goto (-29)) rfl (fun _ => rfl) ?_
  exact rfl
