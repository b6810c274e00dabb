noncomputable def D_X12_thrown_0 (xs : Nat → Int32) (xl d : Nat)  (M : dp_M) : Option dp_Res := dp_lim true xs xl (dp_den true xs xl d) dp_m_X12_thrown (0, [some (.ref 114)], [], M)
theorem D_X12_thrown_0_den (xs : Nat → Int32) (xl d : Nat)  (M : dp_M) : dp_den true xs xl (d + 1) 365 [.ref 114] M = D_X12_thrown_0 xs xl d  M := rfl
set_option maxRecDepth 20000 in
theorem D_X12_thrown_0_eq (xs : Nat → Int32) (xl d : Nat)  (M : dp_M) : D_X12_thrown_0 xs xl d  M = some (.inl (some (.int (dp_I M 114 0))), M) := by
  have hF := dp_den_grow (md := true) (xs := xs) (xl := xl) d
  unfold D_X12_thrown_0
  refine dp_s1 hF (i := .aload_n 0) rfl (fun _ => rfl) ?_
  refine dp_s1 hF (i := .getfield 1) rfl (fun _ => rfl) ?_
  exact dp_s0 hF (i := .ireturn) rfl (fun _ => rfl)
noncomputable def D_X12_refuse_0 (xs : Nat → Int32) (xl d : Nat) (v1 : Int32) (M : dp_M) : Option dp_Res := dp_lim true xs xl (dp_den true xs xl d) dp_m_X12_refuse (0, [some (.ref 114), some (.int v1)], [], M)
theorem D_X12_refuse_0_den (xs : Nat → Int32) (xl d : Nat) (a0 : Int32) (M : dp_M) : dp_den true xs xl (d + 1) 366 [.ref 114, .int a0] M = D_X12_refuse_0 xs xl d a0 M := rfl
set_option maxRecDepth 20000 in
theorem D_X12_refuse_0_eq (xs : Nat → Int32) (xl d : Nat) (v1 : Int32) (M : dp_M) : D_X12_refuse_0 xs xl d v1 M = dp_w (dp_setI M 114 0 v1) (fun M1 => some (.inl (some (.int (0 : Int32))), M1)) := by
  have hF := dp_den_grow (md := true) (xs := xs) (xl := xl) d
  unfold D_X12_refuse_0
  refine dp_s1 hF (i := .aload_n 0) rfl (fun _ => rfl) ?_
  refine dp_s1 hF (i := .iload_n 1) rfl (fun _ => rfl) ?_
  refine dp_s1w (dp_setI M 114 0 v1) (fun (M1 : dp_M) => (5, [some (.ref 114), some (.int v1)], [], M1)) hF (i := .putfield 1) rfl (fun _ => rfl) (fun M1 => ?_)
  refine dp_s1 hF (i := .iconst 0) rfl (fun _ => rfl) ?_
  exact dp_s0 hF (i := .ireturn) rfl (fun _ => rfl)
noncomputable def D_X12_in_0 (xs : Nat → Int32) (xl d : Nat) (v0 : Int64) (v2 : Int64) (v4 : Int64) (M : dp_M) : Option dp_Res := dp_lim true xs xl (dp_den true xs xl d) dp_m_X12_in (0, [some (.long v0), none, some (.long v2), none, some (.long v4), none], [], M)
theorem D_X12_in_0_den (xs : Nat → Int32) (xl d : Nat) (a0 : Int64) (a1 : Int64) (a2 : Int64) (M : dp_M) : dp_den true xs xl (d + 1) 367 [.long a0, .long a1, .long a2] M = D_X12_in_0 xs xl d a0 a1 a2 M := rfl
set_option maxRecDepth 20000 in
theorem D_X12_in_0_eq (xs : Nat → Int32) (xl d : Nat) (v0 : Int64) (v2 : Int64) (v4 : Int64) (M : dp_M) : D_X12_in_0 xs xl d v0 v2 v4 M = if (lg_cmp v0 v2) < 0 then (some (.inl (some (.int (0 : Int32))), M)) else (if 0 < (lg_cmp v0 v4) then (some (.inl (some (.int (0 : Int32))), M)) else (some (.inl (some (.int (1 : Int32))), M))) := by
  have hF := dp_den_grow (md := true) (xs := xs) (xl := xl) d
  unfold D_X12_in_0
  refine dp_s1 hF (i := .lload_n 0) rfl (fun _ => rfl) ?_
  refine dp_s1 hF (i := .lload_n 2) rfl (fun _ => rfl) ?_
  refine dp_s1 hF (i := .lcmp) rfl (fun _ => rfl) ?_
  refine dp_s2 hF (i := .ifCond .lt 14) (a := (17, [some (.long v0), none, some (.long v2), none, some (.long v4), none], [], M)) (b := (6, [some (.long v0), none, some (.long v2), none, some (.long v4), none], [], M)) rfl (fun _ => rfl) ?_ ?_
  · refine dp_s1 hF (i := .iconst 0) rfl (fun _ => rfl) ?_
    exact dp_s0 hF (i := .ireturn) rfl (fun _ => rfl)
  refine dp_s1 hF (i := .lload_n 0) rfl (fun _ => rfl) ?_
  refine dp_s1 hF (i := .lload 4) rfl (fun _ => rfl) ?_
  refine dp_s1 hF (i := .lcmp) rfl (fun _ => rfl) ?_
  refine dp_s2 hF (i := .ifCond .gt 7) (a := (17, [some (.long v0), none, some (.long v2), none, some (.long v4), none], [], M)) (b := (13, [some (.long v0), none, some (.long v2), none, some (.long v4), none], [], M)) rfl (fun _ => rfl) ?_ ?_
  · refine dp_s1 hF (i := .iconst 0) rfl (fun _ => rfl) ?_
    exact dp_s0 hF (i := .ireturn) rfl (fun _ => rfl)
  refine dp_s1 hF (i := .iconst 1) rfl (fun _ => rfl) ?_
  refine dp_s1 hF (i := .goto 4) rfl (fun _ => rfl) ?_
  exact dp_s0 hF (i := .ireturn) rfl (fun _ => rfl)
noncomputable def D_X12_held_0 (xs : Nat → Int32) (xl d : Nat) (v0 : Int32) (v1 : Int32) (M : dp_M) : Option dp_Res := dp_lim true xs xl (dp_den true xs xl d) dp_m_X12_held (0, [some (.int v0), some (.int v1)], [], M)
theorem D_X12_held_0_den (xs : Nat → Int32) (xl d : Nat) (a0 : Int32) (a1 : Int32) (M : dp_M) : dp_den true xs xl (d + 1) 368 [.int a0, .int a1] M = D_X12_held_0 xs xl d a0 a1 M := rfl
set_option maxRecDepth 20000 in
theorem D_X12_held_0_eq (xs : Nat → Int32) (xl d : Nat) (v0 : Int32) (v1 : Int32) (M : dp_M) : D_X12_held_0 xs xl d v0 v1 M = if (1 : Int32) ≤ v0 then (if v0 ≤ v1 then (some (.inl (some (.int v0)), M)) else (some (.inl (some (.int v1)), M))) else (some (.inl (some (.int (1 : Int32))), M)) := by
  have hF := dp_den_grow (md := true) (xs := xs) (xl := xl) d
  unfold D_X12_held_0
  refine dp_s1 hF (i := .iload_n 0) rfl (fun _ => rfl) ?_
  refine dp_s1 hF (i := .iconst 1) rfl (fun _ => rfl) ?_
  refine dp_s2 hF (i := .if_icmp .ge 7) (a := (9, [some (.int v0), some (.int v1)], [], M)) (b := (5, [some (.int v0), some (.int v1)], [], M)) rfl (fun _ => rfl) ?_ ?_
  · refine dp_s1 hF (i := .iload_n 0) rfl (fun _ => rfl) ?_
    refine dp_s1 hF (i := .iload_n 1) rfl (fun _ => rfl) ?_
    refine dp_s2 hF (i := .if_icmp .le 7) (a := (18, [some (.int v0), some (.int v1)], [], M)) (b := (14, [some (.int v0), some (.int v1)], [], M)) rfl (fun _ => rfl) ?_ ?_
    · refine dp_s1 hF (i := .iload_n 0) rfl (fun _ => rfl) ?_
      exact dp_s0 hF (i := .ireturn) rfl (fun _ => rfl)
    refine dp_s1 hF (i := .iload_n 1) rfl (fun _ => rfl) ?_
    refine dp_s1 hF (i := .goto 4) rfl (fun _ => rfl) ?_
    exact dp_s0 hF (i := .ireturn) rfl (fun _ => rfl)
  refine dp_s1 hF (i := .iconst 1) rfl (fun _ => rfl) ?_
  refine dp_s1 hF (i := .goto 13) rfl (fun _ => rfl) ?_
  exact dp_s0 hF (i := .ireturn) rfl (fun _ => rfl)
noncomputable def D_X12_isBay_0 (xs : Nat → Int32) (xl d : Nat) (v1 : Int32) (M : dp_M) : Option dp_Res := dp_lim true xs xl (dp_den true xs xl d) dp_m_X12_isBay (0, [some (.ref 114), some (.int v1)], [], M)
theorem D_X12_isBay_0_den (xs : Nat → Int32) (xl d : Nat) (a0 : Int32) (M : dp_M) : dp_den true xs xl (d + 1) 370 [.ref 114, .int a0] M = D_X12_isBay_0 xs xl d a0 M := rfl
set_option maxRecDepth 20000 in
theorem D_X12_isBay_0_eq (xs : Nat → Int32) (xl d : Nat) (v1 : Int32) (M : dp_M) : D_X12_isBay_0 xs xl d v1 M = if v1 < 0 then (some (.inl (some (.int (0 : Int32))), M)) else (if (dp_I M 114 1) ≤ v1 then (some (.inl (some (.int (0 : Int32))), M)) else (some (.inl (some (.int (1 : Int32))), M))) := by
  have hF := dp_den_grow (md := true) (xs := xs) (xl := xl) d
  unfold D_X12_isBay_0
  refine dp_s1 hF (i := .iload_n 1) rfl (fun _ => rfl) ?_
  refine dp_s2 hF (i := .ifCond .lt 15) (a := (16, [some (.ref 114), some (.int v1)], [], M)) (b := (4, [some (.ref 114), some (.int v1)], [], M)) rfl (fun _ => rfl) ?_ ?_
  · refine dp_s1 hF (i := .iconst 0) rfl (fun _ => rfl) ?_
    exact dp_s0 hF (i := .ireturn) rfl (fun _ => rfl)
  refine dp_s1 hF (i := .iload_n 1) rfl (fun _ => rfl) ?_
  refine dp_s1 hF (i := .aload_n 0) rfl (fun _ => rfl) ?_
  refine dp_s1 hF (i := .getfield 420) rfl (fun _ => rfl) ?_
  refine dp_s2 hF (i := .if_icmp .ge 7) (a := (16, [some (.ref 114), some (.int v1)], [], M)) (b := (12, [some (.ref 114), some (.int v1)], [], M)) rfl (fun _ => rfl) ?_ ?_
  · refine dp_s1 hF (i := .iconst 0) rfl (fun _ => rfl) ?_
    exact dp_s0 hF (i := .ireturn) rfl (fun _ => rfl)
  refine dp_s1 hF (i := .iconst 1) rfl (fun _ => rfl) ?_
  refine dp_s1 hF (i := .goto 4) rfl (fun _ => rfl) ?_
  exact dp_s0 hF (i := .ireturn) rfl (fun _ => rfl)
noncomputable def D_X12_isBox_0 (xs : Nat → Int32) (xl d : Nat) (v1 : Int32) (M : dp_M) : Option dp_Res := dp_lim true xs xl (dp_den true xs xl d) dp_m_X12_isBox (0, [some (.ref 114), some (.int v1)], [], M)
theorem D_X12_isBox_0_den (xs : Nat → Int32) (xl d : Nat) (a0 : Int32) (M : dp_M) : dp_den true xs xl (d + 1) 371 [.ref 114, .int a0] M = D_X12_isBox_0 xs xl d a0 M := rfl
set_option maxRecDepth 20000 in
theorem D_X12_isBox_0_eq (xs : Nat → Int32) (xl d : Nat) (v1 : Int32) (M : dp_M) : D_X12_isBox_0 xs xl d v1 M = if v1 < 0 then (some (.inl (some (.int (0 : Int32))), M)) else (if (dp_I M 114 3) ≤ v1 then (some (.inl (some (.int (0 : Int32))), M)) else (some (.inl (some (.int (1 : Int32))), M))) := by
  have hF := dp_den_grow (md := true) (xs := xs) (xl := xl) d
  unfold D_X12_isBox_0
  refine dp_s1 hF (i := .iload_n 1) rfl (fun _ => rfl) ?_
  refine dp_s2 hF (i := .ifCond .lt 15) (a := (16, [some (.ref 114), some (.int v1)], [], M)) (b := (4, [some (.ref 114), some (.int v1)], [], M)) rfl (fun _ => rfl) ?_ ?_
  · refine dp_s1 hF (i := .iconst 0) rfl (fun _ => rfl) ?_
    exact dp_s0 hF (i := .ireturn) rfl (fun _ => rfl)
  refine dp_s1 hF (i := .iload_n 1) rfl (fun _ => rfl) ?_
  refine dp_s1 hF (i := .aload_n 0) rfl (fun _ => rfl) ?_
  refine dp_s1 hF (i := .getfield 437) rfl (fun _ => rfl) ?_
  refine dp_s2 hF (i := .if_icmp .ge 7) (a := (16, [some (.ref 114), some (.int v1)], [], M)) (b := (12, [some (.ref 114), some (.int v1)], [], M)) rfl (fun _ => rfl) ?_ ?_
  · refine dp_s1 hF (i := .iconst 0) rfl (fun _ => rfl) ?_
    exact dp_s0 hF (i := .ireturn) rfl (fun _ => rfl)
  refine dp_s1 hF (i := .iconst 1) rfl (fun _ => rfl) ?_
  refine dp_s1 hF (i := .goto 4) rfl (fun _ => rfl) ?_
  exact dp_s0 hF (i := .ireturn) rfl (fun _ => rfl)
noncomputable def D_X12_deckHeight_0 (xs : Nat → Int32) (xl d : Nat) (v1 : Int32) (v2 : Int32) (M : dp_M) : Option dp_Res := dp_lim true xs xl (dp_den true xs xl d) dp_m_X12_deckHeight (0, [some (.ref 114), some (.int v1), some (.int v2), none, none], [], M)
noncomputable def D_X12_deckHeight_5 (xs : Nat → Int32) (xl d : Nat) (v1 : Int32) (v2 : Int32) (v3 : Int32) (v4 : Int32) (M : dp_M) : Option dp_Res := dp_lim true xs xl (dp_den true xs xl d) dp_m_X12_deckHeight (5, [some (.ref 114), some (.int v1), some (.int v2), some (.int v3), some (.int v4)], [], M)
theorem D_X12_deckHeight_0_den (xs : Nat → Int32) (xl d : Nat) (a0 : Int32) (a1 : Int32) (M : dp_M) : dp_den true xs xl (d + 1) 372 [.ref 114, .int a0, .int a1] M = D_X12_deckHeight_0 xs xl d a0 a1 M := rfl
set_option maxRecDepth 20000 in
theorem D_X12_deckHeight_0_eq (xs : Nat → Int32) (xl d : Nat) (v1 : Int32) (v2 : Int32) (M : dp_M) : D_X12_deckHeight_0 xs xl d v1 v2 M = dp_w (0 : Int32) (fun y1 => dp_w (0 : Int32) (fun y2 => D_X12_deckHeight_5 xs xl d v1 v2 y1 y2 M)) := by
  have hF := dp_den_grow (md := true) (xs := xs) (xl := xl) d
  unfold D_X12_deckHeight_0
  refine dp_s1 hF (i := .iconst 0) rfl (fun _ => rfl) ?_
  refine dp_s1w (0 : Int32) (fun (y1 : Int32) => (2, [some (.ref 114), some (.int v1), some (.int v2), some (.int y1), none], [], M)) hF (i := .istore_n 3) rfl (fun _ => rfl) (fun y1 => ?_)
  refine dp_s1 hF (i := .iconst 0) rfl (fun _ => rfl) ?_
  refine dp_s1w (0 : Int32) (fun (y2 : Int32) => (5, [some (.ref 114), some (.int v1), some (.int v2), some (.int y1), some (.int y2)], [], M)) hF (i := .istore 4) rfl (fun _ => rfl) (fun y2 => ?_)
  exact rfl
set_option maxRecDepth 20000 in
theorem D_X12_deckHeight_5_eq (xs : Nat → Int32) (xl d : Nat) (v1 : Int32) (v2 : Int32) (v3 : Int32) (v4 : Int32) (M : dp_M) : D_X12_deckHeight_5 xs xl d v1 v2 v3 v4 M = if (dp_I M 114 3) ≤ v4 then (some (.inl (some (.int v3)), M)) else (if v4 < 0 ∨ 100 ≤ Int32.toNatClampNeg v4 then none else (if (dp_I M 116 (Int32.toNatClampNeg v4)) = v1 then (if v4 < 0 ∨ 100 ≤ Int32.toNatClampNeg v4 then none else (if (dp_I M 117 (Int32.toNatClampNeg v4)) = v2 then (dp_w (v3 + (1 : Int32)) (fun y1 => dp_w (v4 + (1 : Int32)) (fun y2 => D_X12_deckHeight_5 xs xl d v1 v2 y1 y2 M))) else (dp_w (v3 + (0 : Int32)) (fun y3 => dp_w (v4 + (1 : Int32)) (fun y4 => D_X12_deckHeight_5 xs xl d v1 v2 y3 y4 M))))) else (dp_w (v3 + (0 : Int32)) (fun y5 => dp_w (v4 + (1 : Int32)) (fun y6 => D_X12_deckHeight_5 xs xl d v1 v2 y5 y6 M))))) := by
  have hF := dp_den_grow (md := true) (xs := xs) (xl := xl) d
  unfold D_X12_deckHeight_5
  refine dp_s1 hF (i := .iload 4) rfl (fun _ => rfl) ?_
  refine dp_s1 hF (i := .aload_n 0) rfl (fun _ => rfl) ?_
  refine dp_s1 hF (i := .getfield 437) rfl (fun _ => rfl) ?_
  refine dp_s2 hF (i := .if_icmp .ge 39) (a := (50, [some (.ref 114), some (.int v1), some (.int v2), some (.int v3), some (.int v4)], [], M)) (b := (14, [some (.ref 114), some (.int v1), some (.int v2), some (.int v3), some (.int v4)], [], M)) rfl (fun _ => rfl) ?_ ?_
  · refine dp_s1 hF (i := .iload_n 3) rfl (fun _ => rfl) ?_
    exact dp_s0 hF (i := .ireturn) rfl (fun _ => rfl)
  refine dp_s1 hF (i := .iload_n 3) rfl (fun _ => rfl) ?_
  refine dp_s1 hF (i := .aload_n 0) rfl (fun _ => rfl) ?_
  refine dp_s1 hF (i := .getfield 17) rfl (fun _ => rfl) ?_
  refine dp_s1 hF (i := .iload 4) rfl (fun _ => rfl) ?_
  refine dp_s3 hF (i := .iaload) rfl (fun _ => rfl) ?_
  refine dp_s1 hF (i := .iload_n 1) rfl (fun _ => rfl) ?_
  refine dp_s2 hF (i := .if_icmp .ne 18) (a := (26, [some (.ref 114), some (.int v1), some (.int v2), some (.int v3), some (.int v4)], [.int v3], M)) (b := (41, [some (.ref 114), some (.int v1), some (.int v2), some (.int v3), some (.int v4)], [.int v3], M)) rfl (fun _ => rfl) ?_ ?_
  · refine dp_s1 hF (i := .aload_n 0) rfl (fun _ => rfl) ?_
    refine dp_s1 hF (i := .getfield 20) rfl (fun _ => rfl) ?_
    refine dp_s1 hF (i := .iload 4) rfl (fun _ => rfl) ?_
    refine dp_s3 hF (i := .iaload) rfl (fun _ => rfl) ?_
    refine dp_s1 hF (i := .iload_n 2) rfl (fun _ => rfl) ?_
    refine dp_s2 hF (i := .if_icmp .ne 7) (a := (37, [some (.ref 114), some (.int v1), some (.int v2), some (.int v3), some (.int v4)], [.int v3], M)) (b := (41, [some (.ref 114), some (.int v1), some (.int v2), some (.int v3), some (.int v4)], [.int v3], M)) rfl (fun _ => rfl) ?_ ?_
    · refine dp_s1 hF (i := .iconst 1) rfl (fun _ => rfl) ?_
      refine dp_s1 hF (i := .goto 4) rfl (fun _ => rfl) ?_
      refine dp_s1 hF (i := .iadd) rfl (fun _ => rfl) ?_
      refine dp_s1w (v3 + (1 : Int32)) (fun (y1 : Int32) => (44, [some (.ref 114), some (.int v1), some (.int v2), some (.int y1), some (.int v4)], [], M)) hF (i := .istore_n 3) rfl (fun _ => rfl) (fun y1 => ?_)
      refine dp_s1w (v4 + (1 : Int32)) (fun (y2 : Int32) => (47, [some (.ref 114), some (.int v1), some (.int v2), some (.int y1), some (.int y2)], [], M)) hF (i := .iinc 4 1) rfl (fun _ => rfl) (fun y2 => ?_)
      refine dp_s1 hF (i := .goto (-42)) rfl (fun _ => rfl) ?_
      exact rfl
    refine dp_s1 hF (i := .iconst 0) rfl (fun _ => rfl) ?_
    refine dp_s1 hF (i := .iadd) rfl (fun _ => rfl) ?_
    refine dp_s1w (v3 + (0 : Int32)) (fun (y3 : Int32) => (44, [some (.ref 114), some (.int v1), some (.int v2), some (.int y3), some (.int v4)], [], M)) hF (i := .istore_n 3) rfl (fun _ => rfl) (fun y3 => ?_)
    refine dp_s1w (v4 + (1 : Int32)) (fun (y4 : Int32) => (47, [some (.ref 114), some (.int v1), some (.int v2), some (.int y3), some (.int y4)], [], M)) hF (i := .iinc 4 1) rfl (fun _ => rfl) (fun y4 => ?_)
    refine dp_s1 hF (i := .goto (-42)) rfl (fun _ => rfl) ?_
    exact rfl
  refine dp_s1 hF (i := .iconst 0) rfl (fun _ => rfl) ?_
  refine dp_s1 hF (i := .iadd) rfl (fun _ => rfl) ?_
  refine dp_s1w (v3 + (0 : Int32)) (fun (y5 : Int32) => (44, [some (.ref 114), some (.int v1), some (.int v2), some (.int y5), some (.int v4)], [], M)) hF (i := .istore_n 3) rfl (fun _ => rfl) (fun y5 => ?_)
  refine dp_s1w (v4 + (1 : Int32)) (fun (y6 : Int32) => (47, [some (.ref 114), some (.int v1), some (.int v2), some (.int y5), some (.int y6)], [], M)) hF (i := .iinc 4 1) rfl (fun _ => rfl) (fun y6 => ?_)
  refine dp_s1 hF (i := .goto (-42)) rfl (fun _ => rfl) ?_
  exact rfl
noncomputable def D_X12_lyingIn_0 (xs : Nat → Int32) (xl d : Nat) (v1 : Int32) (M : dp_M) : Option dp_Res := dp_lim true xs xl (dp_den true xs xl d) dp_m_X12_lyingIn (0, [some (.ref 114), some (.int v1), none, none], [], M)
noncomputable def D_X12_lyingIn_4 (xs : Nat → Int32) (xl d : Nat) (v1 : Int32) (v2 : Int32) (v3 : Int32) (M : dp_M) : Option dp_Res := dp_lim true xs xl (dp_den true xs xl d) dp_m_X12_lyingIn (4, [some (.ref 114), some (.int v1), some (.int v2), some (.int v3)], [], M)
theorem D_X12_lyingIn_0_den (xs : Nat → Int32) (xl d : Nat) (a0 : Int32) (M : dp_M) : dp_den true xs xl (d + 1) 373 [.ref 114, .int a0] M = D_X12_lyingIn_0 xs xl d a0 M := rfl
set_option maxRecDepth 20000 in
theorem D_X12_lyingIn_0_eq (xs : Nat → Int32) (xl d : Nat) (v1 : Int32) (M : dp_M) : D_X12_lyingIn_0 xs xl d v1 M = dp_w (0 : Int32) (fun y1 => dp_w (0 : Int32) (fun y2 => D_X12_lyingIn_4 xs xl d v1 y1 y2 M)) := by
  have hF := dp_den_grow (md := true) (xs := xs) (xl := xl) d
  unfold D_X12_lyingIn_0
  refine dp_s1 hF (i := .iconst 0) rfl (fun _ => rfl) ?_
  refine dp_s1w (0 : Int32) (fun (y1 : Int32) => (2, [some (.ref 114), some (.int v1), some (.int y1), none], [], M)) hF (i := .istore_n 2) rfl (fun _ => rfl) (fun y1 => ?_)
  refine dp_s1 hF (i := .iconst 0) rfl (fun _ => rfl) ?_
  refine dp_s1w (0 : Int32) (fun (y2 : Int32) => (4, [some (.ref 114), some (.int v1), some (.int y1), some (.int y2)], [], M)) hF (i := .istore_n 3) rfl (fun _ => rfl) (fun y2 => ?_)
  exact rfl
set_option maxRecDepth 20000 in
theorem D_X12_lyingIn_4_eq (xs : Nat → Int32) (xl d : Nat) (v1 : Int32) (v2 : Int32) (v3 : Int32) (M : dp_M) : D_X12_lyingIn_4 xs xl d v1 v2 v3 M = if (dp_I M 114 3) ≤ v3 then (some (.inl (some (.int v2)), M)) else (if v3 < 0 ∨ 100 ≤ Int32.toNatClampNeg v3 then none else (if (dp_I M 116 (Int32.toNatClampNeg v3)) = v1 then (if v3 < 0 ∨ 100 ≤ Int32.toNatClampNeg v3 then none else (if (dp_I M 117 (Int32.toNatClampNeg v3)) = (3 : Int32) then (dp_w (v2 + (0 : Int32)) (fun y1 => dp_w (v3 + (1 : Int32)) (fun y2 => D_X12_lyingIn_4 xs xl d v1 y1 y2 M))) else (dp_w (v2 + (1 : Int32)) (fun y3 => dp_w (v3 + (1 : Int32)) (fun y4 => D_X12_lyingIn_4 xs xl d v1 y3 y4 M))))) else (dp_w (v2 + (0 : Int32)) (fun y5 => dp_w (v3 + (1 : Int32)) (fun y6 => D_X12_lyingIn_4 xs xl d v1 y5 y6 M))))) := by
  have hF := dp_den_grow (md := true) (xs := xs) (xl := xl) d
  unfold D_X12_lyingIn_4
  refine dp_s1 hF (i := .iload_n 3) rfl (fun _ => rfl) ?_
  refine dp_s1 hF (i := .aload_n 0) rfl (fun _ => rfl) ?_
  refine dp_s1 hF (i := .getfield 437) rfl (fun _ => rfl) ?_
  refine dp_s2 hF (i := .if_icmp .ge 37) (a := (46, [some (.ref 114), some (.int v1), some (.int v2), some (.int v3)], [], M)) (b := (12, [some (.ref 114), some (.int v1), some (.int v2), some (.int v3)], [], M)) rfl (fun _ => rfl) ?_ ?_
  · refine dp_s1 hF (i := .iload_n 2) rfl (fun _ => rfl) ?_
    exact dp_s0 hF (i := .ireturn) rfl (fun _ => rfl)
  refine dp_s1 hF (i := .iload_n 2) rfl (fun _ => rfl) ?_
  refine dp_s1 hF (i := .aload_n 0) rfl (fun _ => rfl) ?_
  refine dp_s1 hF (i := .getfield 17) rfl (fun _ => rfl) ?_
  refine dp_s1 hF (i := .iload_n 3) rfl (fun _ => rfl) ?_
  refine dp_s3 hF (i := .iaload) rfl (fun _ => rfl) ?_
  refine dp_s1 hF (i := .iload_n 1) rfl (fun _ => rfl) ?_
  refine dp_s2 hF (i := .if_icmp .ne 17) (a := (23, [some (.ref 114), some (.int v1), some (.int v2), some (.int v3)], [.int v2], M)) (b := (37, [some (.ref 114), some (.int v1), some (.int v2), some (.int v3)], [.int v2], M)) rfl (fun _ => rfl) ?_ ?_
  · refine dp_s1 hF (i := .aload_n 0) rfl (fun _ => rfl) ?_
    refine dp_s1 hF (i := .getfield 20) rfl (fun _ => rfl) ?_
    refine dp_s1 hF (i := .iload_n 3) rfl (fun _ => rfl) ?_
    refine dp_s3 hF (i := .iaload) rfl (fun _ => rfl) ?_
    refine dp_s1 hF (i := .iconst 3) rfl (fun _ => rfl) ?_
    refine dp_s2 hF (i := .if_icmp .eq 7) (a := (37, [some (.ref 114), some (.int v1), some (.int v2), some (.int v3)], [.int v2], M)) (b := (33, [some (.ref 114), some (.int v1), some (.int v2), some (.int v3)], [.int v2], M)) rfl (fun _ => rfl) ?_ ?_
    · refine dp_s1 hF (i := .iconst 0) rfl (fun _ => rfl) ?_
      refine dp_s1 hF (i := .iadd) rfl (fun _ => rfl) ?_
      refine dp_s1w (v2 + (0 : Int32)) (fun (y1 : Int32) => (40, [some (.ref 114), some (.int v1), some (.int y1), some (.int v3)], [], M)) hF (i := .istore_n 2) rfl (fun _ => rfl) (fun y1 => ?_)
      refine dp_s1w (v3 + (1 : Int32)) (fun (y2 : Int32) => (43, [some (.ref 114), some (.int v1), some (.int y1), some (.int y2)], [], M)) hF (i := .iinc 3 1) rfl (fun _ => rfl) (fun y2 => ?_)
      refine dp_s1 hF (i := .goto (-39)) rfl (fun _ => rfl) ?_
      exact rfl
    refine dp_s1 hF (i := .iconst 1) rfl (fun _ => rfl) ?_
    refine dp_s1 hF (i := .goto 4) rfl (fun _ => rfl) ?_
    refine dp_s1 hF (i := .iadd) rfl (fun _ => rfl) ?_
    refine dp_s1w (v2 + (1 : Int32)) (fun (y3 : Int32) => (40, [some (.ref 114), some (.int v1), some (.int y3), some (.int v3)], [], M)) hF (i := .istore_n 2) rfl (fun _ => rfl) (fun y3 => ?_)
    refine dp_s1w (v3 + (1 : Int32)) (fun (y4 : Int32) => (43, [some (.ref 114), some (.int v1), some (.int y3), some (.int y4)], [], M)) hF (i := .iinc 3 1) rfl (fun _ => rfl) (fun y4 => ?_)
    refine dp_s1 hF (i := .goto (-39)) rfl (fun _ => rfl) ?_
    exact rfl
  refine dp_s1 hF (i := .iconst 0) rfl (fun _ => rfl) ?_
  refine dp_s1 hF (i := .iadd) rfl (fun _ => rfl) ?_
  refine dp_s1w (v2 + (0 : Int32)) (fun (y5 : Int32) => (40, [some (.ref 114), some (.int v1), some (.int y5), some (.int v3)], [], M)) hF (i := .istore_n 2) rfl (fun _ => rfl) (fun y5 => ?_)
  refine dp_s1w (v3 + (1 : Int32)) (fun (y6 : Int32) => (43, [some (.ref 114), some (.int v1), some (.int y5), some (.int y6)], [], M)) hF (i := .iinc 3 1) rfl (fun _ => rfl) (fun y6 => ?_)
  refine dp_s1 hF (i := .goto (-39)) rfl (fun _ => rfl) ?_
  exact rfl
noncomputable def D_X12_box_0 (xs : Nat → Int32) (xl d : Nat) (v1 : Int32) (v2 : Int32) (v3 : Int32) (v4 : Int32) (v5 : Int32) (v6 : Int32) (v7 : Int32) (M : dp_M) : Option dp_Res := dp_lim true xs xl (dp_den true xs xl d) dp_m_X12_box (0, [some (.ref 114), some (.int v1), some (.int v2), some (.int v3), some (.int v4), some (.int v5), some (.int v6), some (.int v7), none], [], M)
theorem D_X12_box_0_den (xs : Nat → Int32) (xl d : Nat) (a0 : Int32) (a1 : Int32) (a2 : Int32) (a3 : Int32) (a4 : Int32) (a5 : Int32) (a6 : Int32) (M : dp_M) : dp_den true xs xl (d + 1) 374 [.ref 114, .int a0, .int a1, .int a2, .int a3, .int a4, .int a5, .int a6] M = D_X12_box_0 xs xl d a0 a1 a2 a3 a4 a5 a6 M := rfl
set_option maxRecDepth 20000 in
theorem D_X12_box_0_eq (xs : Nat → Int32) (xl d : Nat) (v1 : Int32) (v2 : Int32) (v3 : Int32) (v4 : Int32) (v5 : Int32) (v6 : Int32) (v7 : Int32) (M : dp_M) : D_X12_box_0 xs xl d v1 v2 v3 v4 v5 v6 v7 M = dp_bi (dp_den true xs xl d 370 [.ref 114, .int v1] M) (fun r2 M1 => if r2 = 0 then (dp_bi (dp_den true xs xl d 366 [.ref 114, .int (1 : Int32)] M1) (fun r4 M3 => some (.inl (some (.int r4)), M3))) else (dp_bi (dp_den true xs xl d 367 [.long (Int32.toInt64 v2), .long (0 : Int64), .long (2 : Int64)] M1) (fun r6 M5 => if r6 = 0 then (dp_bi (dp_den true xs xl d 366 [.ref 114, .int (1 : Int32)] M5) (fun r8 M7 => some (.inl (some (.int r8)), M7))) else (dp_bi (dp_den true xs xl d 367 [.long (Int32.toInt64 v3), .long (0 : Int64), .long (5 : Int64)] M5) (fun r10 M9 => if r10 = 0 then (dp_bi (dp_den true xs xl d 366 [.ref 114, .int (1 : Int32)] M9) (fun r12 M11 => some (.inl (some (.int r12)), M11))) else (dp_bi (dp_den true xs xl d 367 [.long (Int32.toInt64 v4), .long (0 : Int64), .long (8 : Int64)] M9) (fun r14 M13 => if r14 = 0 then (dp_bi (dp_den true xs xl d 366 [.ref 114, .int (1 : Int32)] M13) (fun r16 M15 => some (.inl (some (.int r16)), M15))) else (dp_bi (dp_den true xs xl d 367 [.long (Int32.toInt64 v5), .long (1 : Int64), .long (40 : Int64)] M13) (fun r18 M17 => if r18 = 0 then (dp_bi (dp_den true xs xl d 366 [.ref 114, .int (1 : Int32)] M17) (fun r20 M19 => some (.inl (some (.int r20)), M19))) else (dp_bi (dp_den true xs xl d 367 [.long (Int32.toInt64 v6), .long (0 : Int64), .long (1000 : Int64)] M17) (fun r22 M21 => if r22 = 0 then (dp_bi (dp_den true xs xl d 366 [.ref 114, .int (1 : Int32)] M21) (fun r24 M23 => some (.inl (some (.int r24)), M23))) else (dp_bi (dp_den true xs xl d 367 [.long (Int32.toInt64 v7), .long (1 : Int64), .long (9 : Int64)] M21) (fun r26 M25 => if r26 = 0 then (dp_bi (dp_den true xs xl d 366 [.ref 114, .int (1 : Int32)] M25) (fun r28 M27 => some (.inl (some (.int r28)), M27))) else (if (dp_I M25 114 3) = (100 : Int32) then (dp_bi (dp_den true xs xl d 366 [.ref 114, .int (2 : Int32)] M25) (fun r30 M29 => some (.inl (some (.int r30)), M29))) else (dp_bi (dp_den true xs xl d 373 [.ref 114, .int v1] M25) (fun r32 M31 => if r32 = (4 : Int32) then (dp_bi (dp_den true xs xl d 366 [.ref 114, .int (2 : Int32)] M31) (fun r34 M33 => some (.inl (some (.int r34)), M33))) else (dp_bi (dp_den true xs xl d 372 [.ref 114, .int v1, .int v2] M31) (fun r36 M35 => if r36 = (dp_I M35 114 2) then (dp_bi (dp_den true xs xl d 366 [.ref 114, .int (2 : Int32)] M35) (fun r38 M37 => some (.inl (some (.int r38)), M37))) else (dp_w (dp_setI M35 114 0 (0 : Int32)) (fun M39 => dp_w (dp_I M39 114 3) (fun y40 => if y40 < 0 ∨ 100 ≤ Int32.toNatClampNeg y40 then none else dp_w (dp_setI M39 115 (Int32.toNatClampNeg y40) v3) (fun M41 => if y40 < 0 ∨ 100 ≤ Int32.toNatClampNeg y40 then none else dp_w (dp_setI M41 116 (Int32.toNatClampNeg y40) v1) (fun M42 => dp_bi (dp_den true xs xl d 372 [.ref 114, .int v1, .int v2] M42) (fun r44 M43 => if y40 < 0 ∨ 100 ≤ Int32.toNatClampNeg y40 then none else dp_w (dp_setI M43 118 (Int32.toNatClampNeg y40) r44) (fun M45 => if y40 < 0 ∨ 100 ≤ Int32.toNatClampNeg y40 then none else dp_w (dp_setI M45 117 (Int32.toNatClampNeg y40) v2) (fun M46 => if y40 < 0 ∨ 100 ≤ Int32.toNatClampNeg y40 then none else dp_w (dp_setI M46 135 (Int32.toNatClampNeg y40) ((v4 - v4 / (3 : Int32) * (3 : Int32)) + (1 : Int32))) (fun M47 => if y40 < 0 ∨ 100 ≤ Int32.toNatClampNeg y40 then none else dp_w (dp_setI M47 136 (Int32.toNatClampNeg y40) (v4 / (3 : Int32))) (fun M48 => if y40 < 0 ∨ 100 ≤ Int32.toNatClampNeg y40 then none else dp_w (dp_setI M48 137 (Int32.toNatClampNeg y40) v5) (fun M49 => if y40 < 0 ∨ 100 ≤ Int32.toNatClampNeg y40 then none else dp_w (dp_setI M49 138 (Int32.toNatClampNeg y40) v6) (fun M50 => if y40 < 0 ∨ 100 ≤ Int32.toNatClampNeg y40 then none else dp_w (dp_setI M50 139 (Int32.toNatClampNeg y40) v7) (fun M51 => if y40 < 0 ∨ 100 ≤ Int32.toNatClampNeg y40 then none else dp_w (dp_setI M51 140 (Int32.toNatClampNeg y40) (-1 : Int32)) (fun M52 => if y40 < 0 ∨ 100 ≤ Int32.toNatClampNeg y40 then none else dp_w (dp_setI M52 141 (Int32.toNatClampNeg y40) (-1 : Int32)) (fun M53 => if y40 < 0 ∨ 100 ≤ Int32.toNatClampNeg y40 then none else dp_w (dp_setI M53 146 (Int32.toNatClampNeg y40) y40) (fun M54 => dp_w (dp_setI M54 114 3 ((dp_I M54 114 3) + (1 : Int32))) (fun M55 => if v1 < 0 ∨ 12 ≤ Int32.toNatClampNeg v1 then none else dp_w (dp_setI M55 120 (Int32.toNatClampNeg v1) ((0 : Int32) &&& 1)) (fun M56 => some (.inl (some (.int y40)), M56))))))))))))))))))))))))))))))))))))) := by
  have hF := dp_den_grow (md := true) (xs := xs) (xl := xl) d
  unfold D_X12_box_0
  refine dp_s1 hF (i := .aload_n 0) rfl (fun _ => rfl) ?_
  refine dp_s1 hF (i := .iload_n 1) rfl (fun _ => rfl) ?_
  refine dp_si (mj := dp_m_X12_isBay) (i := .invokevirtual 440) rfl rfl (Or.inr rfl) rfl (fun _ => rfl) (fun r2 M1 => ?_)
  refine dp_s2 hF (i := .ifCond .eq 79) (a := (84, [some (.ref 114), some (.int v1), some (.int v2), some (.int v3), some (.int v4), some (.int v5), some (.int v6), some (.int v7), none], [], M1)) (b := (8, [some (.ref 114), some (.int v1), some (.int v2), some (.int v3), some (.int v4), some (.int v5), some (.int v6), some (.int v7), none], [], M1)) rfl (fun _ => rfl) ?_ ?_
  · refine dp_s1 hF (i := .aload_n 0) rfl (fun _ => rfl) ?_
    refine dp_s1 hF (i := .iconst 1) rfl (fun _ => rfl) ?_
    refine dp_si (mj := dp_m_X12_refuse) (i := .invokevirtual 460) rfl rfl (Or.inl rfl) rfl (fun _ => rfl) (fun r4 M3 => ?_)
    exact dp_s0 hF (i := .ireturn) rfl (fun _ => rfl)
  refine dp_s1 hF (i := .iload_n 2) rfl (fun _ => rfl) ?_
  refine dp_s1 hF (i := .i2l) rfl (fun _ => rfl) ?_
  refine dp_s1 hF (i := .lconst 0) rfl (fun _ => rfl) ?_
  refine dp_s1 hF (i := .ldc2_w 444) rfl (fun _ => rfl) ?_
  refine dp_si (mj := dp_m_X12_in) (i := .invokestatic 446) rfl rfl (Or.inr rfl) rfl (fun _ => rfl) (fun r6 M5 => ?_)
  refine dp_s2 hF (i := .ifCond .eq 67) (a := (84, [some (.ref 114), some (.int v1), some (.int v2), some (.int v3), some (.int v4), some (.int v5), some (.int v6), some (.int v7), none], [], M5)) (b := (20, [some (.ref 114), some (.int v1), some (.int v2), some (.int v3), some (.int v4), some (.int v5), some (.int v6), some (.int v7), none], [], M5)) rfl (fun _ => rfl) ?_ ?_
  · refine dp_s1 hF (i := .aload_n 0) rfl (fun _ => rfl) ?_
    refine dp_s1 hF (i := .iconst 1) rfl (fun _ => rfl) ?_
    refine dp_si (mj := dp_m_X12_refuse) (i := .invokevirtual 460) rfl rfl (Or.inl rfl) rfl (fun _ => rfl) (fun r8 M7 => ?_)
    exact dp_s0 hF (i := .ireturn) rfl (fun _ => rfl)
  refine dp_s1 hF (i := .iload_n 3) rfl (fun _ => rfl) ?_
  refine dp_s1 hF (i := .i2l) rfl (fun _ => rfl) ?_
  refine dp_s1 hF (i := .lconst 0) rfl (fun _ => rfl) ?_
  refine dp_s1 hF (i := .ldc2_w 450) rfl (fun _ => rfl) ?_
  refine dp_si (mj := dp_m_X12_in) (i := .invokestatic 446) rfl rfl (Or.inr rfl) rfl (fun _ => rfl) (fun r10 M9 => ?_)
  refine dp_s2 hF (i := .ifCond .eq 55) (a := (84, [some (.ref 114), some (.int v1), some (.int v2), some (.int v3), some (.int v4), some (.int v5), some (.int v6), some (.int v7), none], [], M9)) (b := (32, [some (.ref 114), some (.int v1), some (.int v2), some (.int v3), some (.int v4), some (.int v5), some (.int v6), some (.int v7), none], [], M9)) rfl (fun _ => rfl) ?_ ?_
  · refine dp_s1 hF (i := .aload_n 0) rfl (fun _ => rfl) ?_
    refine dp_s1 hF (i := .iconst 1) rfl (fun _ => rfl) ?_
    refine dp_si (mj := dp_m_X12_refuse) (i := .invokevirtual 460) rfl rfl (Or.inl rfl) rfl (fun _ => rfl) (fun r12 M11 => ?_)
    exact dp_s0 hF (i := .ireturn) rfl (fun _ => rfl)
  refine dp_s1 hF (i := .iload 4) rfl (fun _ => rfl) ?_
  refine dp_s1 hF (i := .i2l) rfl (fun _ => rfl) ?_
  refine dp_s1 hF (i := .lconst 0) rfl (fun _ => rfl) ?_
  refine dp_s1 hF (i := .ldc2_w 452) rfl (fun _ => rfl) ?_
  refine dp_si (mj := dp_m_X12_in) (i := .invokestatic 446) rfl rfl (Or.inr rfl) rfl (fun _ => rfl) (fun r14 M13 => ?_)
  refine dp_s2 hF (i := .ifCond .eq 42) (a := (84, [some (.ref 114), some (.int v1), some (.int v2), some (.int v3), some (.int v4), some (.int v5), some (.int v6), some (.int v7), none], [], M13)) (b := (45, [some (.ref 114), some (.int v1), some (.int v2), some (.int v3), some (.int v4), some (.int v5), some (.int v6), some (.int v7), none], [], M13)) rfl (fun _ => rfl) ?_ ?_
  · refine dp_s1 hF (i := .aload_n 0) rfl (fun _ => rfl) ?_
    refine dp_s1 hF (i := .iconst 1) rfl (fun _ => rfl) ?_
    refine dp_si (mj := dp_m_X12_refuse) (i := .invokevirtual 460) rfl rfl (Or.inl rfl) rfl (fun _ => rfl) (fun r16 M15 => ?_)
    exact dp_s0 hF (i := .ireturn) rfl (fun _ => rfl)
  refine dp_s1 hF (i := .iload 5) rfl (fun _ => rfl) ?_
  refine dp_s1 hF (i := .i2l) rfl (fun _ => rfl) ?_
  refine dp_s1 hF (i := .lconst 1) rfl (fun _ => rfl) ?_
  refine dp_s1 hF (i := .ldc2_w 454) rfl (fun _ => rfl) ?_
  refine dp_si (mj := dp_m_X12_in) (i := .invokestatic 446) rfl rfl (Or.inr rfl) rfl (fun _ => rfl) (fun r18 M17 => ?_)
  refine dp_s2 hF (i := .ifCond .eq 29) (a := (84, [some (.ref 114), some (.int v1), some (.int v2), some (.int v3), some (.int v4), some (.int v5), some (.int v6), some (.int v7), none], [], M17)) (b := (58, [some (.ref 114), some (.int v1), some (.int v2), some (.int v3), some (.int v4), some (.int v5), some (.int v6), some (.int v7), none], [], M17)) rfl (fun _ => rfl) ?_ ?_
  · refine dp_s1 hF (i := .aload_n 0) rfl (fun _ => rfl) ?_
    refine dp_s1 hF (i := .iconst 1) rfl (fun _ => rfl) ?_
    refine dp_si (mj := dp_m_X12_refuse) (i := .invokevirtual 460) rfl rfl (Or.inl rfl) rfl (fun _ => rfl) (fun r20 M19 => ?_)
    exact dp_s0 hF (i := .ireturn) rfl (fun _ => rfl)
  refine dp_s1 hF (i := .iload 6) rfl (fun _ => rfl) ?_
  refine dp_s1 hF (i := .i2l) rfl (fun _ => rfl) ?_
  refine dp_s1 hF (i := .lconst 0) rfl (fun _ => rfl) ?_
  refine dp_s1 hF (i := .ldc2_w 456) rfl (fun _ => rfl) ?_
  refine dp_si (mj := dp_m_X12_in) (i := .invokestatic 446) rfl rfl (Or.inr rfl) rfl (fun _ => rfl) (fun r22 M21 => ?_)
  refine dp_s2 hF (i := .ifCond .eq 16) (a := (84, [some (.ref 114), some (.int v1), some (.int v2), some (.int v3), some (.int v4), some (.int v5), some (.int v6), some (.int v7), none], [], M21)) (b := (71, [some (.ref 114), some (.int v1), some (.int v2), some (.int v3), some (.int v4), some (.int v5), some (.int v6), some (.int v7), none], [], M21)) rfl (fun _ => rfl) ?_ ?_
  · refine dp_s1 hF (i := .aload_n 0) rfl (fun _ => rfl) ?_
    refine dp_s1 hF (i := .iconst 1) rfl (fun _ => rfl) ?_
    refine dp_si (mj := dp_m_X12_refuse) (i := .invokevirtual 460) rfl rfl (Or.inl rfl) rfl (fun _ => rfl) (fun r24 M23 => ?_)
    exact dp_s0 hF (i := .ireturn) rfl (fun _ => rfl)
  refine dp_s1 hF (i := .iload 7) rfl (fun _ => rfl) ?_
  refine dp_s1 hF (i := .i2l) rfl (fun _ => rfl) ?_
  refine dp_s1 hF (i := .lconst 1) rfl (fun _ => rfl) ?_
  refine dp_s1 hF (i := .ldc2_w 458) rfl (fun _ => rfl) ?_
  refine dp_si (mj := dp_m_X12_in) (i := .invokestatic 446) rfl rfl (Or.inr rfl) rfl (fun _ => rfl) (fun r26 M25 => ?_)
  refine dp_s2 hF (i := .ifCond .ne 9) (a := (84, [some (.ref 114), some (.int v1), some (.int v2), some (.int v3), some (.int v4), some (.int v5), some (.int v6), some (.int v7), none], [], M25)) (b := (90, [some (.ref 114), some (.int v1), some (.int v2), some (.int v3), some (.int v4), some (.int v5), some (.int v6), some (.int v7), none], [], M25)) rfl (fun _ => rfl) ?_ ?_
  · refine dp_s1 hF (i := .aload_n 0) rfl (fun _ => rfl) ?_
    refine dp_s1 hF (i := .iconst 1) rfl (fun _ => rfl) ?_
    refine dp_si (mj := dp_m_X12_refuse) (i := .invokevirtual 460) rfl rfl (Or.inl rfl) rfl (fun _ => rfl) (fun r28 M27 => ?_)
    exact dp_s0 hF (i := .ireturn) rfl (fun _ => rfl)
  refine dp_s1 hF (i := .aload_n 0) rfl (fun _ => rfl) ?_
  refine dp_s1 hF (i := .getfield 437) rfl (fun _ => rfl) ?_
  refine dp_s1 hF (i := .bipush 100) rfl (fun _ => rfl) ?_
  refine dp_s2 hF (i := .if_icmp .eq 25) (a := (121, [some (.ref 114), some (.int v1), some (.int v2), some (.int v3), some (.int v4), some (.int v5), some (.int v6), some (.int v7), none], [], M25)) (b := (99, [some (.ref 114), some (.int v1), some (.int v2), some (.int v3), some (.int v4), some (.int v5), some (.int v6), some (.int v7), none], [], M25)) rfl (fun _ => rfl) ?_ ?_
  · refine dp_s1 hF (i := .aload_n 0) rfl (fun _ => rfl) ?_
    refine dp_s1 hF (i := .iconst 2) rfl (fun _ => rfl) ?_
    refine dp_si (mj := dp_m_X12_refuse) (i := .invokevirtual 460) rfl rfl (Or.inl rfl) rfl (fun _ => rfl) (fun r30 M29 => ?_)
    exact dp_s0 hF (i := .ireturn) rfl (fun _ => rfl)
  refine dp_s1 hF (i := .aload_n 0) rfl (fun _ => rfl) ?_
  refine dp_s1 hF (i := .iload_n 1) rfl (fun _ => rfl) ?_
  refine dp_si (mj := dp_m_X12_lyingIn) (i := .invokevirtual 464) rfl rfl (Or.inl rfl) rfl (fun _ => rfl) (fun r32 M31 => ?_)
  refine dp_s1 hF (i := .iconst 4) rfl (fun _ => rfl) ?_
  refine dp_s2 hF (i := .if_icmp .eq 16) (a := (121, [some (.ref 114), some (.int v1), some (.int v2), some (.int v3), some (.int v4), some (.int v5), some (.int v6), some (.int v7), none], [], M31)) (b := (108, [some (.ref 114), some (.int v1), some (.int v2), some (.int v3), some (.int v4), some (.int v5), some (.int v6), some (.int v7), none], [], M31)) rfl (fun _ => rfl) ?_ ?_
  · refine dp_s1 hF (i := .aload_n 0) rfl (fun _ => rfl) ?_
    refine dp_s1 hF (i := .iconst 2) rfl (fun _ => rfl) ?_
    refine dp_si (mj := dp_m_X12_refuse) (i := .invokevirtual 460) rfl rfl (Or.inl rfl) rfl (fun _ => rfl) (fun r34 M33 => ?_)
    exact dp_s0 hF (i := .ireturn) rfl (fun _ => rfl)
  refine dp_s1 hF (i := .aload_n 0) rfl (fun _ => rfl) ?_
  refine dp_s1 hF (i := .iload_n 1) rfl (fun _ => rfl) ?_
  refine dp_s1 hF (i := .iload_n 2) rfl (fun _ => rfl) ?_
  refine dp_si (mj := dp_m_X12_deckHeight) (i := .invokevirtual 467) rfl rfl (Or.inl rfl) rfl (fun _ => rfl) (fun r36 M35 => ?_)
  refine dp_s1 hF (i := .aload_n 0) rfl (fun _ => rfl) ?_
  refine dp_s1 hF (i := .getfield 423) rfl (fun _ => rfl) ?_
  refine dp_s2 hF (i := .if_icmp .ne 9) (a := (121, [some (.ref 114), some (.int v1), some (.int v2), some (.int v3), some (.int v4), some (.int v5), some (.int v6), some (.int v7), none], [], M35)) (b := (127, [some (.ref 114), some (.int v1), some (.int v2), some (.int v3), some (.int v4), some (.int v5), some (.int v6), some (.int v7), none], [], M35)) rfl (fun _ => rfl) ?_ ?_
  · refine dp_s1 hF (i := .aload_n 0) rfl (fun _ => rfl) ?_
    refine dp_s1 hF (i := .iconst 2) rfl (fun _ => rfl) ?_
    refine dp_si (mj := dp_m_X12_refuse) (i := .invokevirtual 460) rfl rfl (Or.inl rfl) rfl (fun _ => rfl) (fun r38 M37 => ?_)
    exact dp_s0 hF (i := .ireturn) rfl (fun _ => rfl)
  refine dp_s1 hF (i := .aload_n 0) rfl (fun _ => rfl) ?_
  refine dp_s1 hF (i := .iconst 0) rfl (fun _ => rfl) ?_
  refine dp_s1w (dp_setI M35 114 0 (0 : Int32)) (fun (M39 : dp_M) => (132, [some (.ref 114), some (.int v1), some (.int v2), some (.int v3), some (.int v4), some (.int v5), some (.int v6), some (.int v7), none], [], M39)) hF (i := .putfield 1) rfl (fun _ => rfl) (fun M39 => ?_)
  refine dp_s1 hF (i := .aload_n 0) rfl (fun _ => rfl) ?_
  refine dp_s1 hF (i := .getfield 437) rfl (fun _ => rfl) ?_
  refine dp_s1w (dp_I M39 114 3) (fun (y40 : Int32) => (138, [some (.ref 114), some (.int v1), some (.int v2), some (.int v3), some (.int v4), some (.int v5), some (.int v6), some (.int v7), some (.int y40)], [], M39)) hF (i := .istore 8) rfl (fun _ => rfl) (fun y40 => ?_)
  refine dp_s1 hF (i := .aload_n 0) rfl (fun _ => rfl) ?_
  refine dp_s1 hF (i := .getfield 13) rfl (fun _ => rfl) ?_
  refine dp_s1 hF (i := .iload 8) rfl (fun _ => rfl) ?_
  refine dp_s1 hF (i := .iload_n 3) rfl (fun _ => rfl) ?_
  refine dp_s3w (dp_setI M39 115 (Int32.toNatClampNeg y40) v3) (fun (M41 : dp_M) => (146, [some (.ref 114), some (.int v1), some (.int v2), some (.int v3), some (.int v4), some (.int v5), some (.int v6), some (.int v7), some (.int y40)], [], M41)) hF (i := .iastore) rfl (fun _ => rfl) (fun M41 => ?_)
  refine dp_s1 hF (i := .aload_n 0) rfl (fun _ => rfl) ?_
  refine dp_s1 hF (i := .getfield 17) rfl (fun _ => rfl) ?_
  refine dp_s1 hF (i := .iload 8) rfl (fun _ => rfl) ?_
  refine dp_s1 hF (i := .iload_n 1) rfl (fun _ => rfl) ?_
  refine dp_s3w (dp_setI M41 116 (Int32.toNatClampNeg y40) v1) (fun (M42 : dp_M) => (154, [some (.ref 114), some (.int v1), some (.int v2), some (.int v3), some (.int v4), some (.int v5), some (.int v6), some (.int v7), some (.int y40)], [], M42)) hF (i := .iastore) rfl (fun _ => rfl) (fun M42 => ?_)
  refine dp_s1 hF (i := .aload_n 0) rfl (fun _ => rfl) ?_
  refine dp_s1 hF (i := .getfield 23) rfl (fun _ => rfl) ?_
  refine dp_s1 hF (i := .iload 8) rfl (fun _ => rfl) ?_
  refine dp_s1 hF (i := .aload_n 0) rfl (fun _ => rfl) ?_
  refine dp_s1 hF (i := .iload_n 1) rfl (fun _ => rfl) ?_
  refine dp_s1 hF (i := .iload_n 2) rfl (fun _ => rfl) ?_
  refine dp_si (mj := dp_m_X12_deckHeight) (i := .invokevirtual 467) rfl rfl (Or.inl rfl) rfl (fun _ => rfl) (fun r44 M43 => ?_)
  refine dp_s3w (dp_setI M43 118 (Int32.toNatClampNeg y40) r44) (fun (M45 : dp_M) => (167, [some (.ref 114), some (.int v1), some (.int v2), some (.int v3), some (.int v4), some (.int v5), some (.int v6), some (.int v7), some (.int y40)], [], M45)) hF (i := .iastore) rfl (fun _ => rfl) (fun M45 => ?_)
  refine dp_s1 hF (i := .aload_n 0) rfl (fun _ => rfl) ?_
  refine dp_s1 hF (i := .getfield 20) rfl (fun _ => rfl) ?_
  refine dp_s1 hF (i := .iload 8) rfl (fun _ => rfl) ?_
  refine dp_s1 hF (i := .iload_n 2) rfl (fun _ => rfl) ?_
  refine dp_s3w (dp_setI M45 117 (Int32.toNatClampNeg y40) v2) (fun (M46 : dp_M) => (175, [some (.ref 114), some (.int v1), some (.int v2), some (.int v3), some (.int v4), some (.int v5), some (.int v6), some (.int v7), some (.int y40)], [], M46)) hF (i := .iastore) rfl (fun _ => rfl) (fun M46 => ?_)
  refine dp_s1 hF (i := .aload_n 0) rfl (fun _ => rfl) ?_
  refine dp_s1 hF (i := .getfield 76) rfl (fun _ => rfl) ?_
  refine dp_s1 hF (i := .iload 8) rfl (fun _ => rfl) ?_
  refine dp_s1 hF (i := .iload 4) rfl (fun _ => rfl) ?_
  refine dp_s1 hF (i := .iconst 3) rfl (fun _ => rfl) ?_
  refine dp_s1 hF (i := .irem) rfl (fun _ => rfl) ?_
  refine dp_s1 hF (i := .iconst 1) rfl (fun _ => rfl) ?_
  refine dp_s1 hF (i := .iadd) rfl (fun _ => rfl) ?_
  refine dp_s3w (dp_setI M46 135 (Int32.toNatClampNeg y40) ((v4 - v4 / (3 : Int32) * (3 : Int32)) + (1 : Int32))) (fun (M47 : dp_M) => (188, [some (.ref 114), some (.int v1), some (.int v2), some (.int v3), some (.int v4), some (.int v5), some (.int v6), some (.int v7), some (.int y40)], [], M47)) hF (i := .iastore) rfl (fun _ => rfl) (fun M47 => ?_)
  refine dp_s1 hF (i := .aload_n 0) rfl (fun _ => rfl) ?_
  refine dp_s1 hF (i := .getfield 79) rfl (fun _ => rfl) ?_
  refine dp_s1 hF (i := .iload 8) rfl (fun _ => rfl) ?_
  refine dp_s1 hF (i := .iload 4) rfl (fun _ => rfl) ?_
  refine dp_s1 hF (i := .iconst 3) rfl (fun _ => rfl) ?_
  refine dp_s1 hF (i := .idiv) rfl (fun _ => rfl) ?_
  refine dp_s3w (dp_setI M47 136 (Int32.toNatClampNeg y40) (v4 / (3 : Int32))) (fun (M48 : dp_M) => (199, [some (.ref 114), some (.int v1), some (.int v2), some (.int v3), some (.int v4), some (.int v5), some (.int v6), some (.int v7), some (.int y40)], [], M48)) hF (i := .iastore) rfl (fun _ => rfl) (fun M48 => ?_)
  refine dp_s1 hF (i := .aload_n 0) rfl (fun _ => rfl) ?_
  refine dp_s1 hF (i := .getfield 82) rfl (fun _ => rfl) ?_
  refine dp_s1 hF (i := .iload 8) rfl (fun _ => rfl) ?_
  refine dp_s1 hF (i := .iload 5) rfl (fun _ => rfl) ?_
  refine dp_s3w (dp_setI M48 137 (Int32.toNatClampNeg y40) v5) (fun (M49 : dp_M) => (208, [some (.ref 114), some (.int v1), some (.int v2), some (.int v3), some (.int v4), some (.int v5), some (.int v6), some (.int v7), some (.int y40)], [], M49)) hF (i := .iastore) rfl (fun _ => rfl) (fun M49 => ?_)
  refine dp_s1 hF (i := .aload_n 0) rfl (fun _ => rfl) ?_
  refine dp_s1 hF (i := .getfield 85) rfl (fun _ => rfl) ?_
  refine dp_s1 hF (i := .iload 8) rfl (fun _ => rfl) ?_
  refine dp_s1 hF (i := .iload 6) rfl (fun _ => rfl) ?_
  refine dp_s3w (dp_setI M49 138 (Int32.toNatClampNeg y40) v6) (fun (M50 : dp_M) => (217, [some (.ref 114), some (.int v1), some (.int v2), some (.int v3), some (.int v4), some (.int v5), some (.int v6), some (.int v7), some (.int y40)], [], M50)) hF (i := .iastore) rfl (fun _ => rfl) (fun M50 => ?_)
  refine dp_s1 hF (i := .aload_n 0) rfl (fun _ => rfl) ?_
  refine dp_s1 hF (i := .getfield 88) rfl (fun _ => rfl) ?_
  refine dp_s1 hF (i := .iload 8) rfl (fun _ => rfl) ?_
  refine dp_s1 hF (i := .iload 7) rfl (fun _ => rfl) ?_
  refine dp_s3w (dp_setI M50 139 (Int32.toNatClampNeg y40) v7) (fun (M51 : dp_M) => (226, [some (.ref 114), some (.int v1), some (.int v2), some (.int v3), some (.int v4), some (.int v5), some (.int v6), some (.int v7), some (.int y40)], [], M51)) hF (i := .iastore) rfl (fun _ => rfl) (fun M51 => ?_)
  refine dp_s1 hF (i := .aload_n 0) rfl (fun _ => rfl) ?_
  refine dp_s1 hF (i := .getfield 91) rfl (fun _ => rfl) ?_
  refine dp_s1 hF (i := .iload 8) rfl (fun _ => rfl) ?_
  refine dp_s1 hF (i := .iconst (-1)) rfl (fun _ => rfl) ?_
  refine dp_s3w (dp_setI M51 140 (Int32.toNatClampNeg y40) (-1 : Int32)) (fun (M52 : dp_M) => (234, [some (.ref 114), some (.int v1), some (.int v2), some (.int v3), some (.int v4), some (.int v5), some (.int v6), some (.int v7), some (.int y40)], [], M52)) hF (i := .iastore) rfl (fun _ => rfl) (fun M52 => ?_)
  refine dp_s1 hF (i := .aload_n 0) rfl (fun _ => rfl) ?_
  refine dp_s1 hF (i := .getfield 94) rfl (fun _ => rfl) ?_
  refine dp_s1 hF (i := .iload 8) rfl (fun _ => rfl) ?_
  refine dp_s1 hF (i := .iconst (-1)) rfl (fun _ => rfl) ?_
  refine dp_s3w (dp_setI M52 141 (Int32.toNatClampNeg y40) (-1 : Int32)) (fun (M53 : dp_M) => (242, [some (.ref 114), some (.int v1), some (.int v2), some (.int v3), some (.int v4), some (.int v5), some (.int v6), some (.int v7), some (.int y40)], [], M53)) hF (i := .iastore) rfl (fun _ => rfl) (fun M53 => ?_)
  refine dp_s1 hF (i := .aload_n 0) rfl (fun _ => rfl) ?_
  refine dp_s1 hF (i := .getfield 109) rfl (fun _ => rfl) ?_
  refine dp_s1 hF (i := .iload 8) rfl (fun _ => rfl) ?_
  refine dp_s1 hF (i := .iload 8) rfl (fun _ => rfl) ?_
  refine dp_s3w (dp_setI M53 146 (Int32.toNatClampNeg y40) y40) (fun (M54 : dp_M) => (251, [some (.ref 114), some (.int v1), some (.int v2), some (.int v3), some (.int v4), some (.int v5), some (.int v6), some (.int v7), some (.int y40)], [], M54)) hF (i := .iastore) rfl (fun _ => rfl) (fun M54 => ?_)
  refine dp_s1 hF (i := .aload_n 0) rfl (fun _ => rfl) ?_
  refine dp_s1 hF (i := .dup) rfl (fun _ => rfl) ?_
  refine dp_s1 hF (i := .getfield 437) rfl (fun _ => rfl) ?_
  refine dp_s1 hF (i := .iconst 1) rfl (fun _ => rfl) ?_
  refine dp_s1 hF (i := .iadd) rfl (fun _ => rfl) ?_
  refine dp_s1w (dp_setI M54 114 3 ((dp_I M54 114 3) + (1 : Int32))) (fun (M55 : dp_M) => (261, [some (.ref 114), some (.int v1), some (.int v2), some (.int v3), some (.int v4), some (.int v5), some (.int v6), some (.int v7), some (.int y40)], [], M55)) hF (i := .putfield 437) rfl (fun _ => rfl) (fun M55 => ?_)
  refine dp_s1 hF (i := .aload_n 0) rfl (fun _ => rfl) ?_
  refine dp_s1 hF (i := .getfield 30) rfl (fun _ => rfl) ?_
  refine dp_s1 hF (i := .iload_n 1) rfl (fun _ => rfl) ?_
  refine dp_s1 hF (i := .iconst 0) rfl (fun _ => rfl) ?_
  refine dp_s3w (dp_setI M55 120 (Int32.toNatClampNeg v1) ((0 : Int32) &&& 1)) (fun (M56 : dp_M) => (268, [some (.ref 114), some (.int v1), some (.int v2), some (.int v3), some (.int v4), some (.int v5), some (.int v6), some (.int v7), some (.int y40)], [], M56)) hF (i := .bastore) rfl (fun _ => rfl) (fun M56 => ?_)
  refine dp_s1 hF (i := .iload 8) rfl (fun _ => rfl) ?_
  exact dp_s0 hF (i := .ireturn) rfl (fun _ => rfl)
noncomputable def D_X12_leads_0 (xs : Nat → Int32) (xl d : Nat) (v1 : Int32) (v2 : Int32) (M : dp_M) : Option dp_Res := dp_lim true xs xl (dp_den true xs xl d) dp_m_X12_leads (0, [some (.ref 114), some (.int v1), some (.int v2), none, none, none], [], M)
noncomputable def D_X12_leads_2 (xs : Nat → Int32) (xl d : Nat) (v1 : Int32) (v2 : Int32) (v3 : Int32) (M : dp_M) : Option dp_Res := dp_lim true xs xl (dp_den true xs xl d) dp_m_X12_leads (2, [some (.ref 114), some (.int v1), some (.int v2), some (.int v3), none, none], [], M)
noncomputable def D_X12_leads_34 (xs : Nat → Int32) (xl d : Nat) (v1 : Int32) (v2 : Int32) (v3 : Int32) (M : dp_M) : Option dp_Res := dp_lim true xs xl (dp_den true xs xl d) dp_m_X12_leads (34, [some (.ref 114), some (.int v1), some (.int v2), some (.int v3), none, none], [], M)
noncomputable def D_X12_leads_43 (xs : Nat → Int32) (xl d : Nat) (v1 : Int32) (v2 : Int32) (v3 : Int32) (v4 : Int32) (M : dp_M) : Option dp_Res := dp_lim true xs xl (dp_den true xs xl d) dp_m_X12_leads (43, [some (.ref 114), some (.int v1), some (.int v2), some (.int v3), some (.int v4), none], [], M)
noncomputable def D_X12_leads_34_a (xs : Nat → Int32) (xl d : Nat) (v1 : Int32) (v2 : Int32) (v3 : Int32) (v4 : Int32) (M : dp_M) : Option dp_Res := dp_lim true xs xl (dp_den true xs xl d) dp_m_X12_leads (34, [some (.ref 114), some (.int v1), some (.int v2), some (.int v3), some (.int v4), none], [], M)
noncomputable def D_X12_leads_55 (xs : Nat → Int32) (xl d : Nat) (v1 : Int32) (v2 : Int32) (v3 : Int32) (v4 : Int32) (v5 : Int32) (M : dp_M) : Option dp_Res := dp_lim true xs xl (dp_den true xs xl d) dp_m_X12_leads (55, [some (.ref 114), some (.int v1), some (.int v2), some (.int v3), some (.int v4), some (.int v5)], [], M)
noncomputable def D_X12_leads_43_a (xs : Nat → Int32) (xl d : Nat) (v1 : Int32) (v2 : Int32) (v3 : Int32) (v4 : Int32) (v5 : Int32) (M : dp_M) : Option dp_Res := dp_lim true xs xl (dp_den true xs xl d) dp_m_X12_leads (43, [some (.ref 114), some (.int v1), some (.int v2), some (.int v3), some (.int v4), some (.int v5)], [], M)
noncomputable def D_X12_leads_109 (xs : Nat → Int32) (xl d : Nat) (v1 : Int32) (v2 : Int32) (v3 : Int32) (v4 : Int32) (v5 : Int32) (vs0 : Int32) (M : dp_M) : Option dp_Res := dp_lim true xs xl (dp_den true xs xl d) dp_m_X12_leads (109, [some (.ref 114), some (.int v1), some (.int v2), some (.int v3), some (.int v4), some (.int v5)], [.int vs0], M)
noncomputable def D_X12_leads_34_b (xs : Nat → Int32) (xl d : Nat) (v1 : Int32) (v2 : Int32) (v3 : Int32) (v4 : Int32) (v5 : Int32) (M : dp_M) : Option dp_Res := dp_lim true xs xl (dp_den true xs xl d) dp_m_X12_leads (34, [some (.ref 114), some (.int v1), some (.int v2), some (.int v3), some (.int v4), some (.int v5)], [], M)
theorem D_X12_leads_0_den (xs : Nat → Int32) (xl d : Nat) (a0 : Int32) (a1 : Int32) (M : dp_M) : dp_den true xs xl (d + 1) 375 [.ref 114, .int a0, .int a1] M = D_X12_leads_0 xs xl d a0 a1 M := rfl
set_option maxRecDepth 20000 in
theorem D_X12_leads_0_eq (xs : Nat → Int32) (xl d : Nat) (v1 : Int32) (v2 : Int32) (M : dp_M) : D_X12_leads_0 xs xl d v1 v2 M = dp_w (0 : Int32) (fun y1 => D_X12_leads_2 xs xl d v1 v2 y1 M) := by
  have hF := dp_den_grow (md := true) (xs := xs) (xl := xl) d
  unfold D_X12_leads_0
  refine dp_s1 hF (i := .iconst 0) rfl (fun _ => rfl) ?_
  refine dp_s1w (0 : Int32) (fun (y1 : Int32) => (2, [some (.ref 114), some (.int v1), some (.int v2), some (.int y1), none, none], [], M)) hF (i := .istore_n 3) rfl (fun _ => rfl) (fun y1 => ?_)
  exact rfl
set_option maxRecDepth 20000 in
theorem D_X12_leads_2_eq (xs : Nat → Int32) (xl d : Nat) (v1 : Int32) (v2 : Int32) (v3 : Int32) (M : dp_M) : D_X12_leads_2 xs xl d v1 v2 v3 M = if (dp_I M 114 3) ≤ v3 then (dp_w (1 : Int32) (fun y1 => D_X12_leads_34 xs xl d v1 v2 y1 M)) else (if v3 = v1 then (if v3 < 0 ∨ 100 ≤ Int32.toNatClampNeg v3 then none else dp_w (dp_setI M 132 (Int32.toNatClampNeg v3) ((1 : Int32) &&& 1)) (fun M2 => dp_w (v3 + (1 : Int32)) (fun y3 => D_X12_leads_2 xs xl d v1 v2 y3 M2))) else (if v3 < 0 ∨ 100 ≤ Int32.toNatClampNeg v3 then none else dp_w (dp_setI M 132 (Int32.toNatClampNeg v3) ((0 : Int32) &&& 1)) (fun M4 => dp_w (v3 + (1 : Int32)) (fun y5 => D_X12_leads_2 xs xl d v1 v2 y5 M4)))) := by
  have hF := dp_den_grow (md := true) (xs := xs) (xl := xl) d
  unfold D_X12_leads_2
  refine dp_s1 hF (i := .iload_n 3) rfl (fun _ => rfl) ?_
  refine dp_s1 hF (i := .aload_n 0) rfl (fun _ => rfl) ?_
  refine dp_s1 hF (i := .getfield 437) rfl (fun _ => rfl) ?_
  refine dp_s2 hF (i := .if_icmp .ge 25) (a := (32, [some (.ref 114), some (.int v1), some (.int v2), some (.int v3), none, none], [], M)) (b := (10, [some (.ref 114), some (.int v1), some (.int v2), some (.int v3), none, none], [], M)) rfl (fun _ => rfl) ?_ ?_
  · refine dp_s1 hF (i := .iconst 1) rfl (fun _ => rfl) ?_
    refine dp_s1w (1 : Int32) (fun (y1 : Int32) => (34, [some (.ref 114), some (.int v1), some (.int v2), some (.int y1), none, none], [], M)) hF (i := .istore_n 3) rfl (fun _ => rfl) (fun y1 => ?_)
    exact rfl
  refine dp_s1 hF (i := .aload_n 0) rfl (fun _ => rfl) ?_
  refine dp_s1 hF (i := .getfield 67) rfl (fun _ => rfl) ?_
  refine dp_s1 hF (i := .iload_n 3) rfl (fun _ => rfl) ?_
  refine dp_s1 hF (i := .iload_n 3) rfl (fun _ => rfl) ?_
  refine dp_s1 hF (i := .iload_n 1) rfl (fun _ => rfl) ?_
  refine dp_s2 hF (i := .if_icmp .ne 7) (a := (20, [some (.ref 114), some (.int v1), some (.int v2), some (.int v3), none, none], [.int v3, .ref 132], M)) (b := (24, [some (.ref 114), some (.int v1), some (.int v2), some (.int v3), none, none], [.int v3, .ref 132], M)) rfl (fun _ => rfl) ?_ ?_
  · refine dp_s1 hF (i := .iconst 1) rfl (fun _ => rfl) ?_
    refine dp_s1 hF (i := .goto 4) rfl (fun _ => rfl) ?_
    refine dp_s3w (dp_setI M 132 (Int32.toNatClampNeg v3) ((1 : Int32) &&& 1)) (fun (M2 : dp_M) => (26, [some (.ref 114), some (.int v1), some (.int v2), some (.int v3), none, none], [], M2)) hF (i := .bastore) rfl (fun _ => rfl) (fun M2 => ?_)
    refine dp_s1w (v3 + (1 : Int32)) (fun (y3 : Int32) => (29, [some (.ref 114), some (.int v1), some (.int v2), some (.int y3), none, none], [], M2)) hF (i := .iinc 3 1) rfl (fun _ => rfl) (fun y3 => ?_)
    refine dp_s1 hF (i := .goto (-27)) rfl (fun _ => rfl) ?_
    exact rfl
  refine dp_s1 hF (i := .iconst 0) rfl (fun _ => rfl) ?_
  refine dp_s3w (dp_setI M 132 (Int32.toNatClampNeg v3) ((0 : Int32) &&& 1)) (fun (M4 : dp_M) => (26, [some (.ref 114), some (.int v1), some (.int v2), some (.int v3), none, none], [], M4)) hF (i := .bastore) rfl (fun _ => rfl) (fun M4 => ?_)
  refine dp_s1w (v3 + (1 : Int32)) (fun (y5 : Int32) => (29, [some (.ref 114), some (.int v1), some (.int v2), some (.int y5), none, none], [], M4)) hF (i := .iinc 3 1) rfl (fun _ => rfl) (fun y5 => ?_)
  refine dp_s1 hF (i := .goto (-27)) rfl (fun _ => rfl) ?_
  exact rfl
set_option maxRecDepth 20000 in
theorem D_X12_leads_34_eq (xs : Nat → Int32) (xl d : Nat) (v1 : Int32) (v2 : Int32) (v3 : Int32) (M : dp_M) : D_X12_leads_34 xs xl d v1 v2 v3 M = if v3 = 0 then (if v2 < 0 ∨ 100 ≤ Int32.toNatClampNeg v2 then none else (if (dp_I M 132 (Int32.toNatClampNeg v2)) = 0 ∨ (dp_I M 132 (Int32.toNatClampNeg v2)) = 1 then some (.inl (some (.int (dp_I M 132 (Int32.toNatClampNeg v2)))), M) else none)) else (dp_w (0 : Int32) (fun y1 => dp_w (0 : Int32) (fun y2 => D_X12_leads_43 xs xl d v1 v2 y1 y2 M))) := by
  have hF := dp_den_grow (md := true) (xs := xs) (xl := xl) d
  unfold D_X12_leads_34
  refine dp_s1 hF (i := .iload_n 3) rfl (fun _ => rfl) ?_
  refine dp_s2 hF (i := .ifCond .eq 128) (a := (163, [some (.ref 114), some (.int v1), some (.int v2), some (.int v3), none, none], [], M)) (b := (38, [some (.ref 114), some (.int v1), some (.int v2), some (.int v3), none, none], [], M)) rfl (fun _ => rfl) ?_ ?_
  · refine dp_s1 hF (i := .aload_n 0) rfl (fun _ => rfl) ?_
    refine dp_s1 hF (i := .getfield 67) rfl (fun _ => rfl) ?_
    refine dp_s1 hF (i := .iload_n 2) rfl (fun _ => rfl) ?_
    refine dp_s3 hF (i := .baload) rfl (fun _ => rfl) ?_
    exact dp_s0 hF (i := .ireturn) rfl (fun _ => rfl)
  refine dp_s1 hF (i := .iconst 0) rfl (fun _ => rfl) ?_
  refine dp_s1w (0 : Int32) (fun (y1 : Int32) => (40, [some (.ref 114), some (.int v1), some (.int v2), some (.int y1), none, none], [], M)) hF (i := .istore_n 3) rfl (fun _ => rfl) (fun y1 => ?_)
  refine dp_s1 hF (i := .iconst 0) rfl (fun _ => rfl) ?_
  refine dp_s1w (0 : Int32) (fun (y2 : Int32) => (43, [some (.ref 114), some (.int v1), some (.int v2), some (.int y1), some (.int y2), none], [], M)) hF (i := .istore 4) rfl (fun _ => rfl) (fun y2 => ?_)
  exact rfl
set_option maxRecDepth 20000 in
theorem D_X12_leads_43_eq (xs : Nat → Int32) (xl d : Nat) (v1 : Int32) (v2 : Int32) (v3 : Int32) (v4 : Int32) (M : dp_M) : D_X12_leads_43 xs xl d v1 v2 v3 v4 M = if (dp_I M 114 3) ≤ v4 then (D_X12_leads_34_a xs xl d v1 v2 v3 v4 M) else (dp_w (0 : Int32) (fun y1 => D_X12_leads_55 xs xl d v1 v2 v3 v4 y1 M)) := by
  have hF := dp_den_grow (md := true) (xs := xs) (xl := xl) d
  unfold D_X12_leads_43
  refine dp_s1 hF (i := .iload 4) rfl (fun _ => rfl) ?_
  refine dp_s1 hF (i := .aload_n 0) rfl (fun _ => rfl) ?_
  refine dp_s1 hF (i := .getfield 437) rfl (fun _ => rfl) ?_
  refine dp_s2 hF (i := .if_icmp .ge 111) (a := (160, [some (.ref 114), some (.int v1), some (.int v2), some (.int v3), some (.int v4), none], [], M)) (b := (52, [some (.ref 114), some (.int v1), some (.int v2), some (.int v3), some (.int v4), none], [], M)) rfl (fun _ => rfl) ?_ ?_
  · refine dp_s1 hF (i := .goto (-126)) rfl (fun _ => rfl) ?_
    exact rfl
  refine dp_s1 hF (i := .iconst 0) rfl (fun _ => rfl) ?_
  refine dp_s1w (0 : Int32) (fun (y1 : Int32) => (55, [some (.ref 114), some (.int v1), some (.int v2), some (.int v3), some (.int v4), some (.int y1)], [], M)) hF (i := .istore 5) rfl (fun _ => rfl) (fun y1 => ?_)
  exact rfl
set_option maxRecDepth 20000 in
theorem D_X12_leads_34_a_eq (xs : Nat → Int32) (xl d : Nat) (v1 : Int32) (v2 : Int32) (v3 : Int32) (v4 : Int32) (M : dp_M) : D_X12_leads_34_a xs xl d v1 v2 v3 v4 M = if v3 = 0 then (if v2 < 0 ∨ 100 ≤ Int32.toNatClampNeg v2 then none else (if (dp_I M 132 (Int32.toNatClampNeg v2)) = 0 ∨ (dp_I M 132 (Int32.toNatClampNeg v2)) = 1 then some (.inl (some (.int (dp_I M 132 (Int32.toNatClampNeg v2)))), M) else none)) else (dp_w (0 : Int32) (fun y1 => dp_w (0 : Int32) (fun y2 => D_X12_leads_43 xs xl d v1 v2 y1 y2 M))) := by
  have hF := dp_den_grow (md := true) (xs := xs) (xl := xl) d
  unfold D_X12_leads_34_a
  refine dp_s1 hF (i := .iload_n 3) rfl (fun _ => rfl) ?_
  refine dp_s2 hF (i := .ifCond .eq 128) (a := (163, [some (.ref 114), some (.int v1), some (.int v2), some (.int v3), some (.int v4), none], [], M)) (b := (38, [some (.ref 114), some (.int v1), some (.int v2), some (.int v3), some (.int v4), none], [], M)) rfl (fun _ => rfl) ?_ ?_
  · refine dp_s1 hF (i := .aload_n 0) rfl (fun _ => rfl) ?_
    refine dp_s1 hF (i := .getfield 67) rfl (fun _ => rfl) ?_
    refine dp_s1 hF (i := .iload_n 2) rfl (fun _ => rfl) ?_
    refine dp_s3 hF (i := .baload) rfl (fun _ => rfl) ?_
    exact dp_s0 hF (i := .ireturn) rfl (fun _ => rfl)
  refine dp_s1 hF (i := .iconst 0) rfl (fun _ => rfl) ?_
  refine dp_s1w (0 : Int32) (fun (y1 : Int32) => (40, [some (.ref 114), some (.int v1), some (.int v2), some (.int y1), some (.int v4), none], [], M)) hF (i := .istore_n 3) rfl (fun _ => rfl) (fun y1 => ?_)
  refine dp_s1 hF (i := .iconst 0) rfl (fun _ => rfl) ?_
  refine dp_s1w (0 : Int32) (fun (y2 : Int32) => (43, [some (.ref 114), some (.int v1), some (.int v2), some (.int y1), some (.int y2), none], [], M)) hF (i := .istore 4) rfl (fun _ => rfl) (fun y2 => ?_)
  exact rfl
set_option maxRecDepth 20000 in
theorem D_X12_leads_55_eq (xs : Nat → Int32) (xl d : Nat) (v1 : Int32) (v2 : Int32) (v3 : Int32) (v4 : Int32) (v5 : Int32) (M : dp_M) : D_X12_leads_55 xs xl d v1 v2 v3 v4 v5 M = if (dp_I M 114 3) ≤ v5 then (dp_w (v4 + (1 : Int32)) (fun y1 => D_X12_leads_43_a xs xl d v1 v2 v3 y1 v5 M)) else (if v4 < 0 ∨ 100 ≤ Int32.toNatClampNeg v4 then none else (if (dp_I M 132 (Int32.toNatClampNeg v4)) = 0 then (dp_w (v4 + (1 : Int32)) (fun y2 => D_X12_leads_43_a xs xl d v1 v2 v3 y2 v5 M)) else (if v3 = 0 then (if (((100 : Int32) * v4) + v5) < 0 ∨ 10000 ≤ Int32.toNatClampNeg (((100 : Int32) * v4) + v5) then none else (if (dp_I M 119 (Int32.toNatClampNeg (((100 : Int32) * v4) + v5))) = 0 then (D_X12_leads_109 xs xl d v1 v2 v3 v4 v5 (0 : Int32) M) else (if v5 < 0 ∨ 100 ≤ Int32.toNatClampNeg v5 then none else (if (dp_I M 132 (Int32.toNatClampNeg v5)) = 0 then (D_X12_leads_109 xs xl d v1 v2 v3 v4 v5 (1 : Int32) M) else (D_X12_leads_109 xs xl d v1 v2 v3 v4 v5 (0 : Int32) M))))) else (D_X12_leads_109 xs xl d v1 v2 v3 v4 v5 (1 : Int32) M)))) := by
  have hF := dp_den_grow (md := true) (xs := xs) (xl := xl) d
  unfold D_X12_leads_55
  refine dp_s1 hF (i := .iload 5) rfl (fun _ => rfl) ?_
  refine dp_s1 hF (i := .aload_n 0) rfl (fun _ => rfl) ?_
  refine dp_s1 hF (i := .getfield 437) rfl (fun _ => rfl) ?_
  refine dp_s2 hF (i := .if_icmp .ge 93) (a := (154, [some (.ref 114), some (.int v1), some (.int v2), some (.int v3), some (.int v4), some (.int v5)], [], M)) (b := (64, [some (.ref 114), some (.int v1), some (.int v2), some (.int v3), some (.int v4), some (.int v5)], [], M)) rfl (fun _ => rfl) ?_ ?_
  · refine dp_s1w (v4 + (1 : Int32)) (fun (y1 : Int32) => (157, [some (.ref 114), some (.int v1), some (.int v2), some (.int v3), some (.int y1), some (.int v5)], [], M)) hF (i := .iinc 4 1) rfl (fun _ => rfl) (fun y1 => ?_)
    refine dp_s1 hF (i := .goto (-114)) rfl (fun _ => rfl) ?_
    exact rfl
  refine dp_s1 hF (i := .aload_n 0) rfl (fun _ => rfl) ?_
  refine dp_s1 hF (i := .getfield 67) rfl (fun _ => rfl) ?_
  refine dp_s1 hF (i := .iload 4) rfl (fun _ => rfl) ?_
  refine dp_s3 hF (i := .baload) rfl (fun _ => rfl) ?_
  refine dp_s2 hF (i := .ifCond .eq 83) (a := (154, [some (.ref 114), some (.int v1), some (.int v2), some (.int v3), some (.int v4), some (.int v5)], [], M)) (b := (74, [some (.ref 114), some (.int v1), some (.int v2), some (.int v3), some (.int v4), some (.int v5)], [], M)) rfl (fun _ => rfl) ?_ ?_
  · refine dp_s1w (v4 + (1 : Int32)) (fun (y2 : Int32) => (157, [some (.ref 114), some (.int v1), some (.int v2), some (.int v3), some (.int y2), some (.int v5)], [], M)) hF (i := .iinc 4 1) rfl (fun _ => rfl) (fun y2 => ?_)
    refine dp_s1 hF (i := .goto (-114)) rfl (fun _ => rfl) ?_
    exact rfl
  refine dp_s1 hF (i := .iload_n 3) rfl (fun _ => rfl) ?_
  refine dp_s2 hF (i := .ifCond .ne 29) (a := (78, [some (.ref 114), some (.int v1), some (.int v2), some (.int v3), some (.int v4), some (.int v5)], [], M)) (b := (104, [some (.ref 114), some (.int v1), some (.int v2), some (.int v3), some (.int v4), some (.int v5)], [], M)) rfl (fun _ => rfl) ?_ ?_
  · refine dp_s1 hF (i := .aload_n 0) rfl (fun _ => rfl) ?_
    refine dp_s1 hF (i := .getfield 26) rfl (fun _ => rfl) ?_
    refine dp_s1 hF (i := .bipush 100) rfl (fun _ => rfl) ?_
    refine dp_s1 hF (i := .iload 4) rfl (fun _ => rfl) ?_
    refine dp_s1 hF (i := .imul) rfl (fun _ => rfl) ?_
    refine dp_s1 hF (i := .iload 5) rfl (fun _ => rfl) ?_
    refine dp_s1 hF (i := .iadd) rfl (fun _ => rfl) ?_
    refine dp_s3 hF (i := .baload) rfl (fun _ => rfl) ?_
    refine dp_s2 hF (i := .ifCond .eq 17) (a := (108, [some (.ref 114), some (.int v1), some (.int v2), some (.int v3), some (.int v4), some (.int v5)], [], M)) (b := (94, [some (.ref 114), some (.int v1), some (.int v2), some (.int v3), some (.int v4), some (.int v5)], [], M)) rfl (fun _ => rfl) ?_ ?_
    · refine dp_s1 hF (i := .iconst 0) rfl (fun _ => rfl) ?_
      exact rfl
    refine dp_s1 hF (i := .aload_n 0) rfl (fun _ => rfl) ?_
    refine dp_s1 hF (i := .getfield 67) rfl (fun _ => rfl) ?_
    refine dp_s1 hF (i := .iload 5) rfl (fun _ => rfl) ?_
    refine dp_s3 hF (i := .baload) rfl (fun _ => rfl) ?_
    refine dp_s2 hF (i := .ifCond .ne 7) (a := (104, [some (.ref 114), some (.int v1), some (.int v2), some (.int v3), some (.int v4), some (.int v5)], [], M)) (b := (108, [some (.ref 114), some (.int v1), some (.int v2), some (.int v3), some (.int v4), some (.int v5)], [], M)) rfl (fun _ => rfl) ?_ ?_
    · refine dp_s1 hF (i := .iconst 1) rfl (fun _ => rfl) ?_
      refine dp_s1 hF (i := .goto 4) rfl (fun _ => rfl) ?_
      exact rfl
    refine dp_s1 hF (i := .iconst 0) rfl (fun _ => rfl) ?_
    exact rfl
  refine dp_s1 hF (i := .iconst 1) rfl (fun _ => rfl) ?_
  refine dp_s1 hF (i := .goto 4) rfl (fun _ => rfl) ?_
  exact rfl
set_option maxRecDepth 20000 in
theorem D_X12_leads_43_a_eq (xs : Nat → Int32) (xl d : Nat) (v1 : Int32) (v2 : Int32) (v3 : Int32) (v4 : Int32) (v5 : Int32) (M : dp_M) : D_X12_leads_43_a xs xl d v1 v2 v3 v4 v5 M = if (dp_I M 114 3) ≤ v4 then (D_X12_leads_34_b xs xl d v1 v2 v3 v4 v5 M) else (dp_w (0 : Int32) (fun y1 => D_X12_leads_55 xs xl d v1 v2 v3 v4 y1 M)) := by
  have hF := dp_den_grow (md := true) (xs := xs) (xl := xl) d
  unfold D_X12_leads_43_a
  refine dp_s1 hF (i := .iload 4) rfl (fun _ => rfl) ?_
  refine dp_s1 hF (i := .aload_n 0) rfl (fun _ => rfl) ?_
  refine dp_s1 hF (i := .getfield 437) rfl (fun _ => rfl) ?_
  refine dp_s2 hF (i := .if_icmp .ge 111) (a := (160, [some (.ref 114), some (.int v1), some (.int v2), some (.int v3), some (.int v4), some (.int v5)], [], M)) (b := (52, [some (.ref 114), some (.int v1), some (.int v2), some (.int v3), some (.int v4), some (.int v5)], [], M)) rfl (fun _ => rfl) ?_ ?_
  · refine dp_s1 hF (i := .goto (-126)) rfl (fun _ => rfl) ?_
    exact rfl
  refine dp_s1 hF (i := .iconst 0) rfl (fun _ => rfl) ?_
  refine dp_s1w (0 : Int32) (fun (y1 : Int32) => (55, [some (.ref 114), some (.int v1), some (.int v2), some (.int v3), some (.int v4), some (.int y1)], [], M)) hF (i := .istore 5) rfl (fun _ => rfl) (fun y1 => ?_)
  exact rfl
set_option maxRecDepth 20000 in
theorem D_X12_leads_109_eq (xs : Nat → Int32) (xl d : Nat) (v1 : Int32) (v2 : Int32) (v3 : Int32) (v4 : Int32) (v5 : Int32) (vs0 : Int32) (M : dp_M) : D_X12_leads_109 xs xl d v1 v2 v3 v4 v5 vs0 M = if v5 < 0 ∨ 100 ≤ Int32.toNatClampNeg v5 then none else (if (dp_I M 132 (Int32.toNatClampNeg v5)) = 0 then (if (((100 : Int32) * v4) + v5) < 0 ∨ 10000 ≤ Int32.toNatClampNeg (((100 : Int32) * v4) + v5) then none else (if (dp_I M 119 (Int32.toNatClampNeg (((100 : Int32) * v4) + v5))) = 0 then (if v5 < 0 ∨ 100 ≤ Int32.toNatClampNeg v5 then none else dp_w (dp_setI M 132 (Int32.toNatClampNeg v5) ((0 : Int32) &&& 1)) (fun M1 => dp_w (v5 + (1 : Int32)) (fun y2 => D_X12_leads_55 xs xl d v1 v2 vs0 v4 y2 M1))) else (if v5 < 0 ∨ 100 ≤ Int32.toNatClampNeg v5 then none else dp_w (dp_setI M 132 (Int32.toNatClampNeg v5) ((1 : Int32) &&& 1)) (fun M3 => dp_w (v5 + (1 : Int32)) (fun y4 => D_X12_leads_55 xs xl d v1 v2 vs0 v4 y4 M3))))) else (if v5 < 0 ∨ 100 ≤ Int32.toNatClampNeg v5 then none else dp_w (dp_setI M 132 (Int32.toNatClampNeg v5) ((1 : Int32) &&& 1)) (fun M5 => dp_w (v5 + (1 : Int32)) (fun y6 => D_X12_leads_55 xs xl d v1 v2 vs0 v4 y6 M5)))) := by
  have hF := dp_den_grow (md := true) (xs := xs) (xl := xl) d
  unfold D_X12_leads_109
  refine dp_s1 hF (i := .istore_n 3) rfl (fun _ => rfl) ?_
  refine dp_s1 hF (i := .aload_n 0) rfl (fun _ => rfl) ?_
  refine dp_s1 hF (i := .getfield 67) rfl (fun _ => rfl) ?_
  refine dp_s1 hF (i := .iload 5) rfl (fun _ => rfl) ?_
  refine dp_s1 hF (i := .aload_n 0) rfl (fun _ => rfl) ?_
  refine dp_s1 hF (i := .getfield 67) rfl (fun _ => rfl) ?_
  refine dp_s1 hF (i := .iload 5) rfl (fun _ => rfl) ?_
  refine dp_s3 hF (i := .baload) rfl (fun _ => rfl) ?_
  refine dp_s2 hF (i := .ifCond .ne 19) (a := (126, [some (.ref 114), some (.int v1), some (.int v2), some (.int vs0), some (.int v4), some (.int v5)], [.int v5, .ref 132], M)) (b := (142, [some (.ref 114), some (.int v1), some (.int v2), some (.int vs0), some (.int v4), some (.int v5)], [.int v5, .ref 132], M)) rfl (fun _ => rfl) ?_ ?_
  · refine dp_s1 hF (i := .aload_n 0) rfl (fun _ => rfl) ?_
    refine dp_s1 hF (i := .getfield 26) rfl (fun _ => rfl) ?_
    refine dp_s1 hF (i := .bipush 100) rfl (fun _ => rfl) ?_
    refine dp_s1 hF (i := .iload 4) rfl (fun _ => rfl) ?_
    refine dp_s1 hF (i := .imul) rfl (fun _ => rfl) ?_
    refine dp_s1 hF (i := .iload 5) rfl (fun _ => rfl) ?_
    refine dp_s1 hF (i := .iadd) rfl (fun _ => rfl) ?_
    refine dp_s3 hF (i := .baload) rfl (fun _ => rfl) ?_
    refine dp_s2 hF (i := .ifCond .eq 7) (a := (146, [some (.ref 114), some (.int v1), some (.int v2), some (.int vs0), some (.int v4), some (.int v5)], [.int v5, .ref 132], M)) (b := (142, [some (.ref 114), some (.int v1), some (.int v2), some (.int vs0), some (.int v4), some (.int v5)], [.int v5, .ref 132], M)) rfl (fun _ => rfl) ?_ ?_
    · refine dp_s1 hF (i := .iconst 0) rfl (fun _ => rfl) ?_
      refine dp_s3w (dp_setI M 132 (Int32.toNatClampNeg v5) ((0 : Int32) &&& 1)) (fun (M1 : dp_M) => (148, [some (.ref 114), some (.int v1), some (.int v2), some (.int vs0), some (.int v4), some (.int v5)], [], M1)) hF (i := .bastore) rfl (fun _ => rfl) (fun M1 => ?_)
      refine dp_s1w (v5 + (1 : Int32)) (fun (y2 : Int32) => (151, [some (.ref 114), some (.int v1), some (.int v2), some (.int vs0), some (.int v4), some (.int y2)], [], M1)) hF (i := .iinc 5 1) rfl (fun _ => rfl) (fun y2 => ?_)
      refine dp_s1 hF (i := .goto (-96)) rfl (fun _ => rfl) ?_
      exact rfl
    refine dp_s1 hF (i := .iconst 1) rfl (fun _ => rfl) ?_
    refine dp_s1 hF (i := .goto 4) rfl (fun _ => rfl) ?_
    refine dp_s3w (dp_setI M 132 (Int32.toNatClampNeg v5) ((1 : Int32) &&& 1)) (fun (M3 : dp_M) => (148, [some (.ref 114), some (.int v1), some (.int v2), some (.int vs0), some (.int v4), some (.int v5)], [], M3)) hF (i := .bastore) rfl (fun _ => rfl) (fun M3 => ?_)
    refine dp_s1w (v5 + (1 : Int32)) (fun (y4 : Int32) => (151, [some (.ref 114), some (.int v1), some (.int v2), some (.int vs0), some (.int v4), some (.int y4)], [], M3)) hF (i := .iinc 5 1) rfl (fun _ => rfl) (fun y4 => ?_)
    refine dp_s1 hF (i := .goto (-96)) rfl (fun _ => rfl) ?_
    exact rfl
  refine dp_s1 hF (i := .iconst 1) rfl (fun _ => rfl) ?_
  refine dp_s1 hF (i := .goto 4) rfl (fun _ => rfl) ?_
  refine dp_s3w (dp_setI M 132 (Int32.toNatClampNeg v5) ((1 : Int32) &&& 1)) (fun (M5 : dp_M) => (148, [some (.ref 114), some (.int v1), some (.int v2), some (.int vs0), some (.int v4), some (.int v5)], [], M5)) hF (i := .bastore) rfl (fun _ => rfl) (fun M5 => ?_)
  refine dp_s1w (v5 + (1 : Int32)) (fun (y6 : Int32) => (151, [some (.ref 114), some (.int v1), some (.int v2), some (.int vs0), some (.int v4), some (.int y6)], [], M5)) hF (i := .iinc 5 1) rfl (fun _ => rfl) (fun y6 => ?_)
  refine dp_s1 hF (i := .goto (-96)) rfl (fun _ => rfl) ?_
  exact rfl
set_option maxRecDepth 20000 in
theorem D_X12_leads_34_b_eq (xs : Nat → Int32) (xl d : Nat) (v1 : Int32) (v2 : Int32) (v3 : Int32) (v4 : Int32) (v5 : Int32) (M : dp_M) : D_X12_leads_34_b xs xl d v1 v2 v3 v4 v5 M = if v3 = 0 then (if v2 < 0 ∨ 100 ≤ Int32.toNatClampNeg v2 then none else (if (dp_I M 132 (Int32.toNatClampNeg v2)) = 0 ∨ (dp_I M 132 (Int32.toNatClampNeg v2)) = 1 then some (.inl (some (.int (dp_I M 132 (Int32.toNatClampNeg v2)))), M) else none)) else (dp_w (0 : Int32) (fun y1 => dp_w (0 : Int32) (fun y2 => D_X12_leads_43_a xs xl d v1 v2 y1 y2 v5 M))) := by
  have hF := dp_den_grow (md := true) (xs := xs) (xl := xl) d
  unfold D_X12_leads_34_b
  refine dp_s1 hF (i := .iload_n 3) rfl (fun _ => rfl) ?_
  refine dp_s2 hF (i := .ifCond .eq 128) (a := (163, [some (.ref 114), some (.int v1), some (.int v2), some (.int v3), some (.int v4), some (.int v5)], [], M)) (b := (38, [some (.ref 114), some (.int v1), some (.int v2), some (.int v3), some (.int v4), some (.int v5)], [], M)) rfl (fun _ => rfl) ?_ ?_
  · refine dp_s1 hF (i := .aload_n 0) rfl (fun _ => rfl) ?_
    refine dp_s1 hF (i := .getfield 67) rfl (fun _ => rfl) ?_
    refine dp_s1 hF (i := .iload_n 2) rfl (fun _ => rfl) ?_
    refine dp_s3 hF (i := .baload) rfl (fun _ => rfl) ?_
    exact dp_s0 hF (i := .ireturn) rfl (fun _ => rfl)
  refine dp_s1 hF (i := .iconst 0) rfl (fun _ => rfl) ?_
  refine dp_s1w (0 : Int32) (fun (y1 : Int32) => (40, [some (.ref 114), some (.int v1), some (.int v2), some (.int y1), some (.int v4), some (.int v5)], [], M)) hF (i := .istore_n 3) rfl (fun _ => rfl) (fun y1 => ?_)
  refine dp_s1 hF (i := .iconst 0) rfl (fun _ => rfl) ?_
  refine dp_s1w (0 : Int32) (fun (y2 : Int32) => (43, [some (.ref 114), some (.int v1), some (.int v2), some (.int y1), some (.int y2), some (.int v5)], [], M)) hF (i := .istore 4) rfl (fun _ => rfl) (fun y2 => ?_)
  exact rfl
noncomputable def D_X12_before_0 (xs : Nat → Int32) (xl d : Nat) (v1 : Int32) (v2 : Int32) (M : dp_M) : Option dp_Res := dp_lim true xs xl (dp_den true xs xl d) dp_m_X12_before (0, [some (.ref 114), some (.int v1), some (.int v2)], [], M)
theorem D_X12_before_0_den (xs : Nat → Int32) (xl d : Nat) (a0 : Int32) (a1 : Int32) (M : dp_M) : dp_den true xs xl (d + 1) 376 [.ref 114, .int a0, .int a1] M = D_X12_before_0 xs xl d a0 a1 M := rfl
set_option maxRecDepth 20000 in
theorem D_X12_before_0_eq (xs : Nat → Int32) (xl d : Nat) (v1 : Int32) (v2 : Int32) (M : dp_M) : D_X12_before_0 xs xl d v1 v2 M = dp_w (dp_setI M 114 0 (0 : Int32)) (fun M1 => dp_bi (dp_den true xs xl d 371 [.ref 114, .int v1] M1) (fun r3 M2 => if r3 = 0 then (some (.inl (some (.int (0 : Int32))), M2)) else (dp_bi (dp_den true xs xl d 371 [.ref 114, .int v2] M2) (fun r5 M4 => if r5 = 0 then (some (.inl (some (.int (0 : Int32))), M4)) else (if v1 < 0 ∨ 100 ≤ Int32.toNatClampNeg v1 then none else (if v2 < 0 ∨ 100 ≤ Int32.toNatClampNeg v2 then none else (if (dp_I M4 116 (Int32.toNatClampNeg v1)) = (dp_I M4 116 (Int32.toNatClampNeg v2)) then (if v1 < 0 ∨ 100 ≤ Int32.toNatClampNeg v1 then none else (if (dp_I M4 117 (Int32.toNatClampNeg v1)) = (3 : Int32) then (some (.inl (some (.int (0 : Int32))), M4)) else (if v2 < 0 ∨ 100 ≤ Int32.toNatClampNeg v2 then none else (if (dp_I M4 117 (Int32.toNatClampNeg v2)) = (3 : Int32) then (some (.inl (some (.int (0 : Int32))), M4)) else (if v1 < 0 ∨ 100 ≤ Int32.toNatClampNeg v1 then none else (if (dp_I M4 115 (Int32.toNatClampNeg v1)) = 0 then (if v2 < 0 ∨ 100 ≤ Int32.toNatClampNeg v2 then none else (if (dp_I M4 115 (Int32.toNatClampNeg v2)) = 0 then (if (((100 : Int32) * v1) + v2) < 0 ∨ 10000 ≤ Int32.toNatClampNeg (((100 : Int32) * v1) + v2) then none else (if (dp_I M4 119 (Int32.toNatClampNeg (((100 : Int32) * v1) + v2))) = 0 then (dp_bi (dp_den true xs xl d 375 [.ref 114, .int v2, .int v1] M4) (fun r7 M6 => if r7 = 0 then (if (((100 : Int32) * v1) + v2) < 0 ∨ 10000 ≤ Int32.toNatClampNeg (((100 : Int32) * v1) + v2) then none else dp_w (dp_setI M6 119 (Int32.toNatClampNeg (((100 : Int32) * v1) + v2)) ((1 : Int32) &&& 1)) (fun M8 => if v1 < 0 ∨ 100 ≤ Int32.toNatClampNeg v1 then none else (if (dp_I M8 116 (Int32.toNatClampNeg v1)) < 0 ∨ 12 ≤ Int32.toNatClampNeg (dp_I M8 116 (Int32.toNatClampNeg v1)) then none else dp_w (dp_setI M8 120 (Int32.toNatClampNeg (dp_I M8 116 (Int32.toNatClampNeg v1))) ((0 : Int32) &&& 1)) (fun M9 => some (.inl (some (.int (1 : Int32))), M9))))) else (some (.inl (some (.int (0 : Int32))), M6)))) else (some (.inl (some (.int (0 : Int32))), M4)))) else (some (.inl (some (.int (0 : Int32))), M4)))) else (some (.inl (some (.int (0 : Int32))), M4)))))))) else (some (.inl (some (.int (0 : Int32))), M4))))))))) := by
  have hF := dp_den_grow (md := true) (xs := xs) (xl := xl) d
  unfold D_X12_before_0
  refine dp_s1 hF (i := .aload_n 0) rfl (fun _ => rfl) ?_
  refine dp_s1 hF (i := .iconst 0) rfl (fun _ => rfl) ?_
  refine dp_s1w (dp_setI M 114 0 (0 : Int32)) (fun (M1 : dp_M) => (5, [some (.ref 114), some (.int v1), some (.int v2)], [], M1)) hF (i := .putfield 1) rfl (fun _ => rfl) (fun M1 => ?_)
  refine dp_s1 hF (i := .aload_n 0) rfl (fun _ => rfl) ?_
  refine dp_s1 hF (i := .iload_n 1) rfl (fun _ => rfl) ?_
  refine dp_si (mj := dp_m_X12_isBox) (i := .invokevirtual 470) rfl rfl (Or.inr rfl) rfl (fun _ => rfl) (fun r3 M2 => ?_)
  refine dp_s2 hF (i := .ifCond .eq 87) (a := (97, [some (.ref 114), some (.int v1), some (.int v2)], [], M2)) (b := (13, [some (.ref 114), some (.int v1), some (.int v2)], [], M2)) rfl (fun _ => rfl) ?_ ?_
  · refine dp_s1 hF (i := .iconst 0) rfl (fun _ => rfl) ?_
    exact dp_s0 hF (i := .ireturn) rfl (fun _ => rfl)
  refine dp_s1 hF (i := .aload_n 0) rfl (fun _ => rfl) ?_
  refine dp_s1 hF (i := .iload_n 2) rfl (fun _ => rfl) ?_
  refine dp_si (mj := dp_m_X12_isBox) (i := .invokevirtual 470) rfl rfl (Or.inr rfl) rfl (fun _ => rfl) (fun r5 M4 => ?_)
  refine dp_s2 hF (i := .ifCond .eq 79) (a := (97, [some (.ref 114), some (.int v1), some (.int v2)], [], M4)) (b := (21, [some (.ref 114), some (.int v1), some (.int v2)], [], M4)) rfl (fun _ => rfl) ?_ ?_
  · refine dp_s1 hF (i := .iconst 0) rfl (fun _ => rfl) ?_
    exact dp_s0 hF (i := .ireturn) rfl (fun _ => rfl)
  refine dp_s1 hF (i := .aload_n 0) rfl (fun _ => rfl) ?_
  refine dp_s1 hF (i := .getfield 17) rfl (fun _ => rfl) ?_
  refine dp_s1 hF (i := .iload_n 1) rfl (fun _ => rfl) ?_
  refine dp_s3 hF (i := .iaload) rfl (fun _ => rfl) ?_
  refine dp_s1 hF (i := .aload_n 0) rfl (fun _ => rfl) ?_
  refine dp_s1 hF (i := .getfield 17) rfl (fun _ => rfl) ?_
  refine dp_s1 hF (i := .iload_n 2) rfl (fun _ => rfl) ?_
  refine dp_s3 hF (i := .iaload) rfl (fun _ => rfl) ?_
  refine dp_s2 hF (i := .if_icmp .ne 64) (a := (36, [some (.ref 114), some (.int v1), some (.int v2)], [], M4)) (b := (97, [some (.ref 114), some (.int v1), some (.int v2)], [], M4)) rfl (fun _ => rfl) ?_ ?_
  · refine dp_s1 hF (i := .aload_n 0) rfl (fun _ => rfl) ?_
    refine dp_s1 hF (i := .getfield 20) rfl (fun _ => rfl) ?_
    refine dp_s1 hF (i := .iload_n 1) rfl (fun _ => rfl) ?_
    refine dp_s3 hF (i := .iaload) rfl (fun _ => rfl) ?_
    refine dp_s1 hF (i := .iconst 3) rfl (fun _ => rfl) ?_
    refine dp_s2 hF (i := .if_icmp .eq 54) (a := (97, [some (.ref 114), some (.int v1), some (.int v2)], [], M4)) (b := (46, [some (.ref 114), some (.int v1), some (.int v2)], [], M4)) rfl (fun _ => rfl) ?_ ?_
    · refine dp_s1 hF (i := .iconst 0) rfl (fun _ => rfl) ?_
      exact dp_s0 hF (i := .ireturn) rfl (fun _ => rfl)
    refine dp_s1 hF (i := .aload_n 0) rfl (fun _ => rfl) ?_
    refine dp_s1 hF (i := .getfield 20) rfl (fun _ => rfl) ?_
    refine dp_s1 hF (i := .iload_n 2) rfl (fun _ => rfl) ?_
    refine dp_s3 hF (i := .iaload) rfl (fun _ => rfl) ?_
    refine dp_s1 hF (i := .iconst 3) rfl (fun _ => rfl) ?_
    refine dp_s2 hF (i := .if_icmp .eq 44) (a := (97, [some (.ref 114), some (.int v1), some (.int v2)], [], M4)) (b := (56, [some (.ref 114), some (.int v1), some (.int v2)], [], M4)) rfl (fun _ => rfl) ?_ ?_
    · refine dp_s1 hF (i := .iconst 0) rfl (fun _ => rfl) ?_
      exact dp_s0 hF (i := .ireturn) rfl (fun _ => rfl)
    refine dp_s1 hF (i := .aload_n 0) rfl (fun _ => rfl) ?_
    refine dp_s1 hF (i := .getfield 13) rfl (fun _ => rfl) ?_
    refine dp_s1 hF (i := .iload_n 1) rfl (fun _ => rfl) ?_
    refine dp_s3 hF (i := .iaload) rfl (fun _ => rfl) ?_
    refine dp_s2 hF (i := .ifCond .ne 35) (a := (65, [some (.ref 114), some (.int v1), some (.int v2)], [], M4)) (b := (97, [some (.ref 114), some (.int v1), some (.int v2)], [], M4)) rfl (fun _ => rfl) ?_ ?_
    · refine dp_s1 hF (i := .aload_n 0) rfl (fun _ => rfl) ?_
      refine dp_s1 hF (i := .getfield 13) rfl (fun _ => rfl) ?_
      refine dp_s1 hF (i := .iload_n 2) rfl (fun _ => rfl) ?_
      refine dp_s3 hF (i := .iaload) rfl (fun _ => rfl) ?_
      refine dp_s2 hF (i := .ifCond .ne 26) (a := (74, [some (.ref 114), some (.int v1), some (.int v2)], [], M4)) (b := (97, [some (.ref 114), some (.int v1), some (.int v2)], [], M4)) rfl (fun _ => rfl) ?_ ?_
      · refine dp_s1 hF (i := .aload_n 0) rfl (fun _ => rfl) ?_
        refine dp_s1 hF (i := .getfield 26) rfl (fun _ => rfl) ?_
        refine dp_s1 hF (i := .bipush 100) rfl (fun _ => rfl) ?_
        refine dp_s1 hF (i := .iload_n 1) rfl (fun _ => rfl) ?_
        refine dp_s1 hF (i := .imul) rfl (fun _ => rfl) ?_
        refine dp_s1 hF (i := .iload_n 2) rfl (fun _ => rfl) ?_
        refine dp_s1 hF (i := .iadd) rfl (fun _ => rfl) ?_
        refine dp_s3 hF (i := .baload) rfl (fun _ => rfl) ?_
        refine dp_s2 hF (i := .ifCond .ne 12) (a := (88, [some (.ref 114), some (.int v1), some (.int v2)], [], M4)) (b := (97, [some (.ref 114), some (.int v1), some (.int v2)], [], M4)) rfl (fun _ => rfl) ?_ ?_
        · refine dp_s1 hF (i := .aload_n 0) rfl (fun _ => rfl) ?_
          refine dp_s1 hF (i := .iload_n 2) rfl (fun _ => rfl) ?_
          refine dp_s1 hF (i := .iload_n 1) rfl (fun _ => rfl) ?_
          refine dp_si (mj := dp_m_X12_leads) (i := .invokevirtual 473) rfl rfl (Or.inr rfl) rfl (fun _ => rfl) (fun r7 M6 => ?_)
          refine dp_s2 hF (i := .ifCond .eq 5) (a := (99, [some (.ref 114), some (.int v1), some (.int v2)], [], M6)) (b := (97, [some (.ref 114), some (.int v1), some (.int v2)], [], M6)) rfl (fun _ => rfl) ?_ ?_
          · refine dp_s1 hF (i := .aload_n 0) rfl (fun _ => rfl) ?_
            refine dp_s1 hF (i := .getfield 26) rfl (fun _ => rfl) ?_
            refine dp_s1 hF (i := .bipush 100) rfl (fun _ => rfl) ?_
            refine dp_s1 hF (i := .iload_n 1) rfl (fun _ => rfl) ?_
            refine dp_s1 hF (i := .imul) rfl (fun _ => rfl) ?_
            refine dp_s1 hF (i := .iload_n 2) rfl (fun _ => rfl) ?_
            refine dp_s1 hF (i := .iadd) rfl (fun _ => rfl) ?_
            refine dp_s1 hF (i := .iconst 1) rfl (fun _ => rfl) ?_
            refine dp_s3w (dp_setI M6 119 (Int32.toNatClampNeg (((100 : Int32) * v1) + v2)) ((1 : Int32) &&& 1)) (fun (M8 : dp_M) => (111, [some (.ref 114), some (.int v1), some (.int v2)], [], M8)) hF (i := .bastore) rfl (fun _ => rfl) (fun M8 => ?_)
            refine dp_s1 hF (i := .aload_n 0) rfl (fun _ => rfl) ?_
            refine dp_s1 hF (i := .getfield 30) rfl (fun _ => rfl) ?_
            refine dp_s1 hF (i := .aload_n 0) rfl (fun _ => rfl) ?_
            refine dp_s1 hF (i := .getfield 17) rfl (fun _ => rfl) ?_
            refine dp_s1 hF (i := .iload_n 1) rfl (fun _ => rfl) ?_
            refine dp_s3 hF (i := .iaload) rfl (fun _ => rfl) ?_
            refine dp_s1 hF (i := .iconst 0) rfl (fun _ => rfl) ?_
            refine dp_s3w (dp_setI M8 120 (Int32.toNatClampNeg (dp_I M8 116 (Int32.toNatClampNeg v1))) ((0 : Int32) &&& 1)) (fun (M9 : dp_M) => (123, [some (.ref 114), some (.int v1), some (.int v2)], [], M9)) hF (i := .bastore) rfl (fun _ => rfl) (fun M9 => ?_)
            refine dp_s1 hF (i := .iconst 1) rfl (fun _ => rfl) ?_
            exact dp_s0 hF (i := .ireturn) rfl (fun _ => rfl)
          refine dp_s1 hF (i := .iconst 0) rfl (fun _ => rfl) ?_
          exact dp_s0 hF (i := .ireturn) rfl (fun _ => rfl)
        refine dp_s1 hF (i := .iconst 0) rfl (fun _ => rfl) ?_
        exact dp_s0 hF (i := .ireturn) rfl (fun _ => rfl)
      refine dp_s1 hF (i := .iconst 0) rfl (fun _ => rfl) ?_
      exact dp_s0 hF (i := .ireturn) rfl (fun _ => rfl)
    refine dp_s1 hF (i := .iconst 0) rfl (fun _ => rfl) ?_
    exact dp_s0 hF (i := .ireturn) rfl (fun _ => rfl)
  refine dp_s1 hF (i := .iconst 0) rfl (fun _ => rfl) ?_
  exact dp_s0 hF (i := .ireturn) rfl (fun _ => rfl)
noncomputable def D_X12_cellAt_0 (xs : Nat → Int32) (xl d : Nat) (v1 : Int64) (v3 : Int32) (v4 : Int32) (M : dp_M) : Option dp_Res := dp_lim true xs xl (dp_den true xs xl d) dp_m_X12_cellAt (0, [some (.ref 114), some (.long v1), none, some (.int v3), some (.int v4)], [], M)
theorem D_X12_cellAt_0_den (xs : Nat → Int32) (xl d : Nat) (a0 : Int64) (a1 : Int32) (a2 : Int32) (M : dp_M) : dp_den true xs xl (d + 1) 377 [.ref 114, .long a0, .int a1, .int a2] M = D_X12_cellAt_0 xs xl d a0 a1 a2 M := rfl
set_option maxRecDepth 20000 in
theorem D_X12_cellAt_0_eq (xs : Nat → Int32) (xl d : Nat) (v1 : Int64) (v3 : Int32) (v4 : Int32) (M : dp_M) : D_X12_cellAt_0 xs xl d v1 v3 v4 M = some (.inl (some (.int ((Int64.toInt32 ((v1 >>> (Int32.toInt64 ((3 : Int32) * (((4 : Int32) * v3) + v4)) &&& 63)) &&& (7 : Int64))) - (1 : Int32)))), M) := by
  have hF := dp_den_grow (md := true) (xs := xs) (xl := xl) d
  unfold D_X12_cellAt_0
  refine dp_s1 hF (i := .lload_n 1) rfl (fun _ => rfl) ?_
  refine dp_s1 hF (i := .iconst 3) rfl (fun _ => rfl) ?_
  refine dp_s1 hF (i := .iconst 4) rfl (fun _ => rfl) ?_
  refine dp_s1 hF (i := .iload_n 3) rfl (fun _ => rfl) ?_
  refine dp_s1 hF (i := .imul) rfl (fun _ => rfl) ?_
  refine dp_s1 hF (i := .iload 4) rfl (fun _ => rfl) ?_
  refine dp_s1 hF (i := .iadd) rfl (fun _ => rfl) ?_
  refine dp_s1 hF (i := .imul) rfl (fun _ => rfl) ?_
  refine dp_s1 hF (i := .lshr) rfl (fun _ => rfl) ?_
  refine dp_s1 hF (i := .ldc2_w 477) rfl (fun _ => rfl) ?_
  refine dp_s1 hF (i := .land) rfl (fun _ => rfl) ?_
  refine dp_s1 hF (i := .l2i) rfl (fun _ => rfl) ?_
  refine dp_s1 hF (i := .iconst 1) rfl (fun _ => rfl) ?_
  refine dp_s1 hF (i := .isub) rfl (fun _ => rfl) ?_
  exact dp_s0 hF (i := .ireturn) rfl (fun _ => rfl)
noncomputable def D_X12_topOf_0 (xs : Nat → Int32) (xl d : Nat) (v1 : Int64) (v3 : Int32) (M : dp_M) : Option dp_Res := dp_lim true xs xl (dp_den true xs xl d) dp_m_X12_topOf (0, [some (.ref 114), some (.long v1), none, some (.int v3), none], [], M)
noncomputable def D_X12_topOf_3 (xs : Nat → Int32) (xl d : Nat) (v1 : Int64) (v3 : Int32) (v4 : Int32) (M : dp_M) : Option dp_Res := dp_lim true xs xl (dp_den true xs xl d) dp_m_X12_topOf (3, [some (.ref 114), some (.long v1), none, some (.int v3), some (.int v4)], [], M)
theorem D_X12_topOf_0_den (xs : Nat → Int32) (xl d : Nat) (a0 : Int64) (a1 : Int32) (M : dp_M) : dp_den true xs xl (d + 1) 378 [.ref 114, .long a0, .int a1] M = D_X12_topOf_0 xs xl d a0 a1 M := rfl
set_option maxRecDepth 20000 in
theorem D_X12_topOf_0_eq (xs : Nat → Int32) (xl d : Nat) (v1 : Int64) (v3 : Int32) (M : dp_M) : D_X12_topOf_0 xs xl d v1 v3 M = dp_w (0 : Int32) (fun y1 => D_X12_topOf_3 xs xl d v1 v3 y1 M) := by
  have hF := dp_den_grow (md := true) (xs := xs) (xl := xl) d
  unfold D_X12_topOf_0
  refine dp_s1 hF (i := .iconst 0) rfl (fun _ => rfl) ?_
  refine dp_s1w (0 : Int32) (fun (y1 : Int32) => (3, [some (.ref 114), some (.long v1), none, some (.int v3), some (.int y1)], [], M)) hF (i := .istore 4) rfl (fun _ => rfl) (fun y1 => ?_)
  exact rfl
set_option maxRecDepth 20000 in
theorem D_X12_topOf_3_eq (xs : Nat → Int32) (xl d : Nat) (v1 : Int64) (v3 : Int32) (v4 : Int32) (M : dp_M) : D_X12_topOf_3 xs xl d v1 v3 v4 M = if (dp_I M 114 2) ≤ v4 then (some (.inl (some (.int v4)), M)) else (dp_bi (dp_den true xs xl d 377 [.ref 114, .long v1, .int v3, .int v4] M) (fun r2 M1 => if r2 < 0 then (some (.inl (some (.int v4)), M1)) else (dp_w (v4 + (1 : Int32)) (fun y3 => D_X12_topOf_3 xs xl d v1 v3 y3 M1)))) := by
  have hF := dp_den_grow (md := true) (xs := xs) (xl := xl) d
  unfold D_X12_topOf_3
  refine dp_s1 hF (i := .iload 4) rfl (fun _ => rfl) ?_
  refine dp_s1 hF (i := .aload_n 0) rfl (fun _ => rfl) ?_
  refine dp_s1 hF (i := .getfield 423) rfl (fun _ => rfl) ?_
  refine dp_s2 hF (i := .if_icmp .ge 20) (a := (29, [some (.ref 114), some (.long v1), none, some (.int v3), some (.int v4)], [], M)) (b := (12, [some (.ref 114), some (.long v1), none, some (.int v3), some (.int v4)], [], M)) rfl (fun _ => rfl) ?_ ?_
  · refine dp_s1 hF (i := .iload 4) rfl (fun _ => rfl) ?_
    exact dp_s0 hF (i := .ireturn) rfl (fun _ => rfl)
  refine dp_s1 hF (i := .aload_n 0) rfl (fun _ => rfl) ?_
  refine dp_s1 hF (i := .lload_n 1) rfl (fun _ => rfl) ?_
  refine dp_s1 hF (i := .iload_n 3) rfl (fun _ => rfl) ?_
  refine dp_s1 hF (i := .iload 4) rfl (fun _ => rfl) ?_
  refine dp_si (mj := dp_m_X12_cellAt) (i := .invokevirtual 479) rfl rfl (Or.inl rfl) rfl (fun _ => rfl) (fun r2 M1 => ?_)
  refine dp_s2 hF (i := .ifCond .lt 9) (a := (29, [some (.ref 114), some (.long v1), none, some (.int v3), some (.int v4)], [], M1)) (b := (23, [some (.ref 114), some (.long v1), none, some (.int v3), some (.int v4)], [], M1)) rfl (fun _ => rfl) ?_ ?_
  · refine dp_s1 hF (i := .iload 4) rfl (fun _ => rfl) ?_
    exact dp_s0 hF (i := .ireturn) rfl (fun _ => rfl)
  refine dp_s1w (v4 + (1 : Int32)) (fun (y3 : Int32) => (26, [some (.ref 114), some (.long v1), none, some (.int v3), some (.int y3)], [], M1)) hF (i := .iinc 4 1) rfl (fun _ => rfl) (fun y3 => ?_)
  refine dp_s1 hF (i := .goto (-23)) rfl (fun _ => rfl) ?_
  exact rfl
noncomputable def D_X12_isAside_0 (xs : Nat → Int32) (xl d : Nat) (v0 : Int64) (v2 : Int32) (M : dp_M) : Option dp_Res := dp_lim true xs xl (dp_den true xs xl d) dp_m_X12_isAside (0, [some (.long v0), none, some (.int v2)], [], M)
theorem D_X12_isAside_0_den (xs : Nat → Int32) (xl d : Nat) (a0 : Int64) (a1 : Int32) (M : dp_M) : dp_den true xs xl (d + 1) 379 [.long a0, .int a1] M = D_X12_isAside_0 xs xl d a0 a1 M := rfl
set_option maxRecDepth 20000 in
theorem D_X12_isAside_0_eq (xs : Nat → Int32) (xl d : Nat) (v0 : Int64) (v2 : Int32) (M : dp_M) : D_X12_isAside_0 xs xl d v0 v2 M = if (lg_cmp ((v0 >>> (Int32.toInt64 ((36 : Int32) + v2) &&& 63)) &&& (1 : Int64)) (1 : Int64)) = 0 then (some (.inl (some (.int (1 : Int32))), M)) else (some (.inl (some (.int (0 : Int32))), M)) := by
  have hF := dp_den_grow (md := true) (xs := xs) (xl := xl) d
  unfold D_X12_isAside_0
  refine dp_s1 hF (i := .lload_n 0) rfl (fun _ => rfl) ?_
  refine dp_s1 hF (i := .bipush 36) rfl (fun _ => rfl) ?_
  refine dp_s1 hF (i := .iload_n 2) rfl (fun _ => rfl) ?_
  refine dp_s1 hF (i := .iadd) rfl (fun _ => rfl) ?_
  refine dp_s1 hF (i := .lshr) rfl (fun _ => rfl) ?_
  refine dp_s1 hF (i := .lconst 1) rfl (fun _ => rfl) ?_
  refine dp_s1 hF (i := .land) rfl (fun _ => rfl) ?_
  refine dp_s1 hF (i := .lconst 1) rfl (fun _ => rfl) ?_
  refine dp_s1 hF (i := .lcmp) rfl (fun _ => rfl) ?_
  refine dp_s2 hF (i := .ifCond .ne 7) (a := (13, [some (.long v0), none, some (.int v2)], [], M)) (b := (17, [some (.long v0), none, some (.int v2)], [], M)) rfl (fun _ => rfl) ?_ ?_
  · refine dp_s1 hF (i := .iconst 1) rfl (fun _ => rfl) ?_
    refine dp_s1 hF (i := .goto 4) rfl (fun _ => rfl) ?_
    exact dp_s0 hF (i := .ireturn) rfl (fun _ => rfl)
  refine dp_s1 hF (i := .iconst 0) rfl (fun _ => rfl) ?_
  exact dp_s0 hF (i := .ireturn) rfl (fun _ => rfl)
noncomputable def D_X12_ashoreIn_0 (xs : Nat → Int32) (xl d : Nat) (v0 : Int64) (M : dp_M) : Option dp_Res := dp_lim true xs xl (dp_den true xs xl d) dp_m_X12_ashoreIn (0, [some (.long v0), none], [], M)
theorem D_X12_ashoreIn_0_den (xs : Nat → Int32) (xl d : Nat) (a0 : Int64) (M : dp_M) : dp_den true xs xl (d + 1) 380 [.long a0] M = D_X12_ashoreIn_0 xs xl d a0 M := rfl
set_option maxRecDepth 20000 in
theorem D_X12_ashoreIn_0_eq (xs : Nat → Int32) (xl d : Nat) (v0 : Int64) (M : dp_M) : D_X12_ashoreIn_0 xs xl d v0 M = some (.inl (some (.int (Int64.toInt32 ((v0 >>> (Int32.toInt64 (40 : Int32) &&& 63)) &&& (15 : Int64))))), M) := by
  have hF := dp_den_grow (md := true) (xs := xs) (xl := xl) d
  unfold D_X12_ashoreIn_0
  refine dp_s1 hF (i := .lload_n 0) rfl (fun _ => rfl) ?_
  refine dp_s1 hF (i := .bipush 40) rfl (fun _ => rfl) ?_
  refine dp_s1 hF (i := .lshr) rfl (fun _ => rfl) ?_
  refine dp_s1 hF (i := .ldc2_w 483) rfl (fun _ => rfl) ?_
  refine dp_s1 hF (i := .land) rfl (fun _ => rfl) ?_
  refine dp_s1 hF (i := .l2i) rfl (fun _ => rfl) ?_
  exact dp_s0 hF (i := .ireturn) rfl (fun _ => rfl)
noncomputable def D_X12_begins_0 (xs : Nat → Int32) (xl d : Nat) (v1 : Int32) (M : dp_M) : Option dp_Res := dp_lim true xs xl (dp_den true xs xl d) dp_m_X12_begins (0, [some (.ref 114), some (.int v1), none, none, none, none], [], M)
noncomputable def D_X12_begins_10 (xs : Nat → Int32) (xl d : Nat) (v1 : Int32) (v2 : Int64) (v4 : Int32) (M : dp_M) : Option dp_Res := dp_lim true xs xl (dp_den true xs xl d) dp_m_X12_begins (10, [some (.ref 114), some (.int v1), some (.long v2), none, some (.int v4), none], [], M)
noncomputable def D_X12_begins_124 (xs : Nat → Int32) (xl d : Nat) (v1 : Int32) (v2 : Int64) (v4 : Int32) (M : dp_M) : Option dp_Res := dp_lim true xs xl (dp_den true xs xl d) dp_m_X12_begins (124, [some (.ref 114), some (.int v1), some (.long v2), none, some (.int v4), none], [], M)
noncomputable def D_X12_begins_10_a (xs : Nat → Int32) (xl d : Nat) (v1 : Int32) (v2 : Int64) (v4 : Int32) (v5 : Int32) (M : dp_M) : Option dp_Res := dp_lim true xs xl (dp_den true xs xl d) dp_m_X12_begins (10, [some (.ref 114), some (.int v1), some (.long v2), none, some (.int v4), some (.int v5)], [], M)
noncomputable def D_X12_begins_144 (xs : Nat → Int32) (xl d : Nat) (v1 : Int32) (v2 : Int64) (v4 : Int32) (v5 : Int32) (M : dp_M) : Option dp_Res := dp_lim true xs xl (dp_den true xs xl d) dp_m_X12_begins (144, [some (.ref 114), some (.int v1), some (.long v2), none, some (.int v4), some (.int v5)], [], M)
noncomputable def D_X12_begins_124_a (xs : Nat → Int32) (xl d : Nat) (v1 : Int32) (v2 : Int64) (v4 : Int32) (v5 : Int32) (M : dp_M) : Option dp_Res := dp_lim true xs xl (dp_den true xs xl d) dp_m_X12_begins (124, [some (.ref 114), some (.int v1), some (.long v2), none, some (.int v4), some (.int v5)], [], M)
theorem D_X12_begins_0_den (xs : Nat → Int32) (xl d : Nat) (a0 : Int32) (M : dp_M) : dp_den true xs xl (d + 1) 381 [.ref 114, .int a0] M = D_X12_begins_0 xs xl d a0 M := rfl
set_option maxRecDepth 20000 in
theorem D_X12_begins_0_eq (xs : Nat → Int32) (xl d : Nat) (v1 : Int32) (M : dp_M) : D_X12_begins_0 xs xl d v1 M = dp_w (dp_setI M 114 23 (0 : Int32)) (fun M1 => dp_w (0 : Int64) (fun y2 => dp_w (0 : Int32) (fun y3 => D_X12_begins_10 xs xl d v1 y2 y3 M1))) := by
  have hF := dp_den_grow (md := true) (xs := xs) (xl := xl) d
  unfold D_X12_begins_0
  refine dp_s1 hF (i := .aload_n 0) rfl (fun _ => rfl) ?_
  refine dp_s1 hF (i := .iconst 0) rfl (fun _ => rfl) ?_
  refine dp_s1w (dp_setI M 114 23 (0 : Int32)) (fun (M1 : dp_M) => (5, [some (.ref 114), some (.int v1), none, none, none, none], [], M1)) hF (i := .putfield 485) rfl (fun _ => rfl) (fun M1 => ?_)
  refine dp_s1 hF (i := .lconst 0) rfl (fun _ => rfl) ?_
  refine dp_s1w (0 : Int64) (fun (y2 : Int64) => (7, [some (.ref 114), some (.int v1), some (.long y2), none, none, none], [], M1)) hF (i := .lstore_n 2) rfl (fun _ => rfl) (fun y2 => ?_)
  refine dp_s1 hF (i := .iconst 0) rfl (fun _ => rfl) ?_
  refine dp_s1w (0 : Int32) (fun (y3 : Int32) => (10, [some (.ref 114), some (.int v1), some (.long y2), none, some (.int y3), none], [], M1)) hF (i := .istore 4) rfl (fun _ => rfl) (fun y3 => ?_)
  exact rfl
set_option maxRecDepth 20000 in
theorem D_X12_begins_10_eq (xs : Nat → Int32) (xl d : Nat) (v1 : Int32) (v2 : Int64) (v4 : Int32) (M : dp_M) : D_X12_begins_10 xs xl d v1 v2 v4 M = if (dp_I M 114 3) ≤ v4 then (dp_w (0 : Int32) (fun y1 => D_X12_begins_124 xs xl d v1 v2 y1 M)) else (if v4 < 0 ∨ 100 ≤ Int32.toNatClampNeg v4 then none else (if (dp_I M 116 (Int32.toNatClampNeg v4)) = v1 then (if v4 < 0 ∨ 100 ≤ Int32.toNatClampNeg v4 then none else (if (dp_I M 117 (Int32.toNatClampNeg v4)) = (3 : Int32) then (dp_w (v4 + (1 : Int32)) (fun y2 => D_X12_begins_10 xs xl d v1 v2 y2 M)) else (dp_w (dp_I M 114 23) (fun y3 => if y3 < 0 ∨ 4 ≤ Int32.toNatClampNeg y3 then none else dp_w (dp_setI M 130 (Int32.toNatClampNeg y3) v4) (fun M4 => dp_w (dp_setI M4 114 23 ((dp_I M4 114 23) + (1 : Int32))) (fun M5 => if v4 < 0 ∨ 100 ≤ Int32.toNatClampNeg v4 then none else (if (dp_I M5 117 (Int32.toNatClampNeg v4)) = (4 : Int32) then (dp_w (v2 ||| ((1 : Int64) <<< (Int32.toInt64 ((36 : Int32) + y3) &&& 63))) (fun y6 => dp_w (v4 + (1 : Int32)) (fun y7 => D_X12_begins_10_a xs xl d v1 y6 y7 y3 M5))) else (if v4 < 0 ∨ 100 ≤ Int32.toNatClampNeg v4 then none else (if v4 < 0 ∨ 100 ≤ Int32.toNatClampNeg v4 then none else (dp_w (v2 ||| ((Int32.toInt64 (y3 + (1 : Int32))) <<< (Int32.toInt64 ((3 : Int32) * (((4 : Int32) * (dp_I M5 117 (Int32.toNatClampNeg v4))) + (dp_I M5 118 (Int32.toNatClampNeg v4)))) &&& 63))) (fun y8 => dp_w (v4 + (1 : Int32)) (fun y9 => D_X12_begins_10_a xs xl d v1 y8 y9 y3 M5)))))))))))) else (dp_w (v4 + (1 : Int32)) (fun y10 => D_X12_begins_10 xs xl d v1 v2 y10 M)))) := by
  have hF := dp_den_grow (md := true) (xs := xs) (xl := xl) d
  unfold D_X12_begins_10
  refine dp_s1 hF (i := .iload 4) rfl (fun _ => rfl) ?_
  refine dp_s1 hF (i := .aload_n 0) rfl (fun _ => rfl) ?_
  refine dp_s1 hF (i := .getfield 437) rfl (fun _ => rfl) ?_
  refine dp_s2 hF (i := .if_icmp .ge 105) (a := (121, [some (.ref 114), some (.int v1), some (.long v2), none, some (.int v4), none], [], M)) (b := (19, [some (.ref 114), some (.int v1), some (.long v2), none, some (.int v4), none], [], M)) rfl (fun _ => rfl) ?_ ?_
  · refine dp_s1 hF (i := .iconst 0) rfl (fun _ => rfl) ?_
    refine dp_s1w (0 : Int32) (fun (y1 : Int32) => (124, [some (.ref 114), some (.int v1), some (.long v2), none, some (.int y1), none], [], M)) hF (i := .istore 4) rfl (fun _ => rfl) (fun y1 => ?_)
    exact rfl
  refine dp_s1 hF (i := .aload_n 0) rfl (fun _ => rfl) ?_
  refine dp_s1 hF (i := .getfield 17) rfl (fun _ => rfl) ?_
  refine dp_s1 hF (i := .iload 4) rfl (fun _ => rfl) ?_
  refine dp_s3 hF (i := .iaload) rfl (fun _ => rfl) ?_
  refine dp_s1 hF (i := .iload_n 1) rfl (fun _ => rfl) ?_
  refine dp_s2 hF (i := .if_icmp .ne 88) (a := (30, [some (.ref 114), some (.int v1), some (.long v2), none, some (.int v4), none], [], M)) (b := (115, [some (.ref 114), some (.int v1), some (.long v2), none, some (.int v4), none], [], M)) rfl (fun _ => rfl) ?_ ?_
  · refine dp_s1 hF (i := .aload_n 0) rfl (fun _ => rfl) ?_
    refine dp_s1 hF (i := .getfield 20) rfl (fun _ => rfl) ?_
    refine dp_s1 hF (i := .iload 4) rfl (fun _ => rfl) ?_
    refine dp_s3 hF (i := .iaload) rfl (fun _ => rfl) ?_
    refine dp_s1 hF (i := .iconst 3) rfl (fun _ => rfl) ?_
    refine dp_s2 hF (i := .if_icmp .eq 77) (a := (115, [some (.ref 114), some (.int v1), some (.long v2), none, some (.int v4), none], [], M)) (b := (41, [some (.ref 114), some (.int v1), some (.long v2), none, some (.int v4), none], [], M)) rfl (fun _ => rfl) ?_ ?_
    · refine dp_s1w (v4 + (1 : Int32)) (fun (y2 : Int32) => (118, [some (.ref 114), some (.int v1), some (.long v2), none, some (.int y2), none], [], M)) hF (i := .iinc 4 1) rfl (fun _ => rfl) (fun y2 => ?_)
      refine dp_s1 hF (i := .goto (-108)) rfl (fun _ => rfl) ?_
      exact rfl
    refine dp_s1 hF (i := .aload_n 0) rfl (fun _ => rfl) ?_
    refine dp_s1 hF (i := .getfield 485) rfl (fun _ => rfl) ?_
    refine dp_s1w (dp_I M 114 23) (fun (y3 : Int32) => (47, [some (.ref 114), some (.int v1), some (.long v2), none, some (.int v4), some (.int y3)], [], M)) hF (i := .istore 5) rfl (fun _ => rfl) (fun y3 => ?_)
    refine dp_s1 hF (i := .aload_n 0) rfl (fun _ => rfl) ?_
    refine dp_s1 hF (i := .getfield 61) rfl (fun _ => rfl) ?_
    refine dp_s1 hF (i := .iload 5) rfl (fun _ => rfl) ?_
    refine dp_s1 hF (i := .iload 4) rfl (fun _ => rfl) ?_
    refine dp_s3w (dp_setI M 130 (Int32.toNatClampNeg y3) v4) (fun (M4 : dp_M) => (56, [some (.ref 114), some (.int v1), some (.long v2), none, some (.int v4), some (.int y3)], [], M4)) hF (i := .iastore) rfl (fun _ => rfl) (fun M4 => ?_)
    refine dp_s1 hF (i := .aload_n 0) rfl (fun _ => rfl) ?_
    refine dp_s1 hF (i := .dup) rfl (fun _ => rfl) ?_
    refine dp_s1 hF (i := .getfield 485) rfl (fun _ => rfl) ?_
    refine dp_s1 hF (i := .iconst 1) rfl (fun _ => rfl) ?_
    refine dp_s1 hF (i := .iadd) rfl (fun _ => rfl) ?_
    refine dp_s1w (dp_setI M4 114 23 ((dp_I M4 114 23) + (1 : Int32))) (fun (M5 : dp_M) => (66, [some (.ref 114), some (.int v1), some (.long v2), none, some (.int v4), some (.int y3)], [], M5)) hF (i := .putfield 485) rfl (fun _ => rfl) (fun M5 => ?_)
    refine dp_s1 hF (i := .lload_n 2) rfl (fun _ => rfl) ?_
    refine dp_s1 hF (i := .aload_n 0) rfl (fun _ => rfl) ?_
    refine dp_s1 hF (i := .getfield 20) rfl (fun _ => rfl) ?_
    refine dp_s1 hF (i := .iload 4) rfl (fun _ => rfl) ?_
    refine dp_s3 hF (i := .iaload) rfl (fun _ => rfl) ?_
    refine dp_s1 hF (i := .iconst 4) rfl (fun _ => rfl) ?_
    refine dp_s2 hF (i := .if_icmp .ne 13) (a := (78, [some (.ref 114), some (.int v1), some (.long v2), none, some (.int v4), some (.int y3)], [.long v2], M5)) (b := (88, [some (.ref 114), some (.int v1), some (.long v2), none, some (.int v4), some (.int y3)], [.long v2], M5)) rfl (fun _ => rfl) ?_ ?_
    · refine dp_s1 hF (i := .lconst 1) rfl (fun _ => rfl) ?_
      refine dp_s1 hF (i := .bipush 36) rfl (fun _ => rfl) ?_
      refine dp_s1 hF (i := .iload 5) rfl (fun _ => rfl) ?_
      refine dp_s1 hF (i := .iadd) rfl (fun _ => rfl) ?_
      refine dp_s1 hF (i := .lshl) rfl (fun _ => rfl) ?_
      refine dp_s1 hF (i := .goto 28) rfl (fun _ => rfl) ?_
      refine dp_s1 hF (i := .lor) rfl (fun _ => rfl) ?_
      refine dp_s1w (v2 ||| ((1 : Int64) <<< (Int32.toInt64 ((36 : Int32) + y3) &&& 63))) (fun (y6 : Int64) => (115, [some (.ref 114), some (.int v1), some (.long y6), none, some (.int v4), some (.int y3)], [], M5)) hF (i := .lstore_n 2) rfl (fun _ => rfl) (fun y6 => ?_)
      refine dp_s1w (v4 + (1 : Int32)) (fun (y7 : Int32) => (118, [some (.ref 114), some (.int v1), some (.long y6), none, some (.int y7), some (.int y3)], [], M5)) hF (i := .iinc 4 1) rfl (fun _ => rfl) (fun y7 => ?_)
      refine dp_s1 hF (i := .goto (-108)) rfl (fun _ => rfl) ?_
      exact rfl
    refine dp_s1 hF (i := .iload 5) rfl (fun _ => rfl) ?_
    refine dp_s1 hF (i := .iconst 1) rfl (fun _ => rfl) ?_
    refine dp_s1 hF (i := .iadd) rfl (fun _ => rfl) ?_
    refine dp_s1 hF (i := .i2l) rfl (fun _ => rfl) ?_
    refine dp_s1 hF (i := .iconst 3) rfl (fun _ => rfl) ?_
    refine dp_s1 hF (i := .iconst 4) rfl (fun _ => rfl) ?_
    refine dp_s1 hF (i := .aload_n 0) rfl (fun _ => rfl) ?_
    refine dp_s1 hF (i := .getfield 20) rfl (fun _ => rfl) ?_
    refine dp_s1 hF (i := .iload 4) rfl (fun _ => rfl) ?_
    refine dp_s3 hF (i := .iaload) rfl (fun _ => rfl) ?_
    refine dp_s1 hF (i := .imul) rfl (fun _ => rfl) ?_
    refine dp_s1 hF (i := .aload_n 0) rfl (fun _ => rfl) ?_
    refine dp_s1 hF (i := .getfield 23) rfl (fun _ => rfl) ?_
    refine dp_s1 hF (i := .iload 4) rfl (fun _ => rfl) ?_
    refine dp_s3 hF (i := .iaload) rfl (fun _ => rfl) ?_
    refine dp_s1 hF (i := .iadd) rfl (fun _ => rfl) ?_
    refine dp_s1 hF (i := .imul) rfl (fun _ => rfl) ?_
    refine dp_s1 hF (i := .lshl) rfl (fun _ => rfl) ?_
    refine dp_s1 hF (i := .lor) rfl (fun _ => rfl) ?_
    refine dp_s1w (v2 ||| ((Int32.toInt64 (y3 + (1 : Int32))) <<< (Int32.toInt64 ((3 : Int32) * (((4 : Int32) * (dp_I M5 117 (Int32.toNatClampNeg v4))) + (dp_I M5 118 (Int32.toNatClampNeg v4)))) &&& 63))) (fun (y8 : Int64) => (115, [some (.ref 114), some (.int v1), some (.long y8), none, some (.int v4), some (.int y3)], [], M5)) hF (i := .lstore_n 2) rfl (fun _ => rfl) (fun y8 => ?_)
    refine dp_s1w (v4 + (1 : Int32)) (fun (y9 : Int32) => (118, [some (.ref 114), some (.int v1), some (.long y8), none, some (.int y9), some (.int y3)], [], M5)) hF (i := .iinc 4 1) rfl (fun _ => rfl) (fun y9 => ?_)
    refine dp_s1 hF (i := .goto (-108)) rfl (fun _ => rfl) ?_
    exact rfl
  refine dp_s1w (v4 + (1 : Int32)) (fun (y10 : Int32) => (118, [some (.ref 114), some (.int v1), some (.long v2), none, some (.int y10), none], [], M)) hF (i := .iinc 4 1) rfl (fun _ => rfl) (fun y10 => ?_)
  refine dp_s1 hF (i := .goto (-108)) rfl (fun _ => rfl) ?_
  exact rfl
set_option maxRecDepth 20000 in
theorem D_X12_begins_124_eq (xs : Nat → Int32) (xl d : Nat) (v1 : Int32) (v2 : Int64) (v4 : Int32) (M : dp_M) : D_X12_begins_124 xs xl d v1 v2 v4 M = if (dp_I M 114 23) ≤ v4 then (some (.inl (some (.long v2)), M)) else (if v4 < 0 ∨ 4 ≤ Int32.toNatClampNeg v4 then none else dp_w (dp_setI M 131 (Int32.toNatClampNeg v4) (0 : Int32)) (fun M1 => dp_w (0 : Int32) (fun y2 => D_X12_begins_144 xs xl d v1 v2 v4 y2 M1))) := by
  have hF := dp_den_grow (md := true) (xs := xs) (xl := xl) d
  unfold D_X12_begins_124
  refine dp_s1 hF (i := .iload 4) rfl (fun _ => rfl) ?_
  refine dp_s1 hF (i := .aload_n 0) rfl (fun _ => rfl) ?_
  refine dp_s1 hF (i := .getfield 485) rfl (fun _ => rfl) ?_
  refine dp_s2 hF (i := .if_icmp .ge 79) (a := (209, [some (.ref 114), some (.int v1), some (.long v2), none, some (.int v4), none], [], M)) (b := (133, [some (.ref 114), some (.int v1), some (.long v2), none, some (.int v4), none], [], M)) rfl (fun _ => rfl) ?_ ?_
  · refine dp_s1 hF (i := .lload_n 2) rfl (fun _ => rfl) ?_
    exact dp_s0 hF (i := .lreturn) rfl (fun _ => rfl)
  refine dp_s1 hF (i := .aload_n 0) rfl (fun _ => rfl) ?_
  refine dp_s1 hF (i := .getfield 64) rfl (fun _ => rfl) ?_
  refine dp_s1 hF (i := .iload 4) rfl (fun _ => rfl) ?_
  refine dp_s1 hF (i := .iconst 0) rfl (fun _ => rfl) ?_
  refine dp_s3w (dp_setI M 131 (Int32.toNatClampNeg v4) (0 : Int32)) (fun (M1 : dp_M) => (141, [some (.ref 114), some (.int v1), some (.long v2), none, some (.int v4), none], [], M1)) hF (i := .iastore) rfl (fun _ => rfl) (fun M1 => ?_)
  refine dp_s1 hF (i := .iconst 0) rfl (fun _ => rfl) ?_
  refine dp_s1w (0 : Int32) (fun (y2 : Int32) => (144, [some (.ref 114), some (.int v1), some (.long v2), none, some (.int v4), some (.int y2)], [], M1)) hF (i := .istore 5) rfl (fun _ => rfl) (fun y2 => ?_)
  exact rfl
set_option maxRecDepth 20000 in
theorem D_X12_begins_10_a_eq (xs : Nat → Int32) (xl d : Nat) (v1 : Int32) (v2 : Int64) (v4 : Int32) (v5 : Int32) (M : dp_M) : D_X12_begins_10_a xs xl d v1 v2 v4 v5 M = if (dp_I M 114 3) ≤ v4 then (dp_w (0 : Int32) (fun y1 => D_X12_begins_124_a xs xl d v1 v2 y1 v5 M)) else (if v4 < 0 ∨ 100 ≤ Int32.toNatClampNeg v4 then none else (if (dp_I M 116 (Int32.toNatClampNeg v4)) = v1 then (if v4 < 0 ∨ 100 ≤ Int32.toNatClampNeg v4 then none else (if (dp_I M 117 (Int32.toNatClampNeg v4)) = (3 : Int32) then (dp_w (v4 + (1 : Int32)) (fun y2 => D_X12_begins_10_a xs xl d v1 v2 y2 v5 M)) else (dp_w (dp_I M 114 23) (fun y3 => if y3 < 0 ∨ 4 ≤ Int32.toNatClampNeg y3 then none else dp_w (dp_setI M 130 (Int32.toNatClampNeg y3) v4) (fun M4 => dp_w (dp_setI M4 114 23 ((dp_I M4 114 23) + (1 : Int32))) (fun M5 => if v4 < 0 ∨ 100 ≤ Int32.toNatClampNeg v4 then none else (if (dp_I M5 117 (Int32.toNatClampNeg v4)) = (4 : Int32) then (dp_w (v2 ||| ((1 : Int64) <<< (Int32.toInt64 ((36 : Int32) + y3) &&& 63))) (fun y6 => dp_w (v4 + (1 : Int32)) (fun y7 => D_X12_begins_10_a xs xl d v1 y6 y7 y3 M5))) else (if v4 < 0 ∨ 100 ≤ Int32.toNatClampNeg v4 then none else (if v4 < 0 ∨ 100 ≤ Int32.toNatClampNeg v4 then none else (dp_w (v2 ||| ((Int32.toInt64 (y3 + (1 : Int32))) <<< (Int32.toInt64 ((3 : Int32) * (((4 : Int32) * (dp_I M5 117 (Int32.toNatClampNeg v4))) + (dp_I M5 118 (Int32.toNatClampNeg v4)))) &&& 63))) (fun y8 => dp_w (v4 + (1 : Int32)) (fun y9 => D_X12_begins_10_a xs xl d v1 y8 y9 y3 M5)))))))))))) else (dp_w (v4 + (1 : Int32)) (fun y10 => D_X12_begins_10_a xs xl d v1 v2 y10 v5 M)))) := by
  have hF := dp_den_grow (md := true) (xs := xs) (xl := xl) d
  unfold D_X12_begins_10_a
  refine dp_s1 hF (i := .iload 4) rfl (fun _ => rfl) ?_
  refine dp_s1 hF (i := .aload_n 0) rfl (fun _ => rfl) ?_
  refine dp_s1 hF (i := .getfield 437) rfl (fun _ => rfl) ?_
  refine dp_s2 hF (i := .if_icmp .ge 105) (a := (121, [some (.ref 114), some (.int v1), some (.long v2), none, some (.int v4), some (.int v5)], [], M)) (b := (19, [some (.ref 114), some (.int v1), some (.long v2), none, some (.int v4), some (.int v5)], [], M)) rfl (fun _ => rfl) ?_ ?_
  · refine dp_s1 hF (i := .iconst 0) rfl (fun _ => rfl) ?_
    refine dp_s1w (0 : Int32) (fun (y1 : Int32) => (124, [some (.ref 114), some (.int v1), some (.long v2), none, some (.int y1), some (.int v5)], [], M)) hF (i := .istore 4) rfl (fun _ => rfl) (fun y1 => ?_)
    exact rfl
  refine dp_s1 hF (i := .aload_n 0) rfl (fun _ => rfl) ?_
  refine dp_s1 hF (i := .getfield 17) rfl (fun _ => rfl) ?_
  refine dp_s1 hF (i := .iload 4) rfl (fun _ => rfl) ?_
  refine dp_s3 hF (i := .iaload) rfl (fun _ => rfl) ?_
  refine dp_s1 hF (i := .iload_n 1) rfl (fun _ => rfl) ?_
  refine dp_s2 hF (i := .if_icmp .ne 88) (a := (30, [some (.ref 114), some (.int v1), some (.long v2), none, some (.int v4), some (.int v5)], [], M)) (b := (115, [some (.ref 114), some (.int v1), some (.long v2), none, some (.int v4), some (.int v5)], [], M)) rfl (fun _ => rfl) ?_ ?_
  · refine dp_s1 hF (i := .aload_n 0) rfl (fun _ => rfl) ?_
    refine dp_s1 hF (i := .getfield 20) rfl (fun _ => rfl) ?_
    refine dp_s1 hF (i := .iload 4) rfl (fun _ => rfl) ?_
    refine dp_s3 hF (i := .iaload) rfl (fun _ => rfl) ?_
    refine dp_s1 hF (i := .iconst 3) rfl (fun _ => rfl) ?_
    refine dp_s2 hF (i := .if_icmp .eq 77) (a := (115, [some (.ref 114), some (.int v1), some (.long v2), none, some (.int v4), some (.int v5)], [], M)) (b := (41, [some (.ref 114), some (.int v1), some (.long v2), none, some (.int v4), some (.int v5)], [], M)) rfl (fun _ => rfl) ?_ ?_
    · refine dp_s1w (v4 + (1 : Int32)) (fun (y2 : Int32) => (118, [some (.ref 114), some (.int v1), some (.long v2), none, some (.int y2), some (.int v5)], [], M)) hF (i := .iinc 4 1) rfl (fun _ => rfl) (fun y2 => ?_)
      refine dp_s1 hF (i := .goto (-108)) rfl (fun _ => rfl) ?_
      exact rfl
    refine dp_s1 hF (i := .aload_n 0) rfl (fun _ => rfl) ?_
    refine dp_s1 hF (i := .getfield 485) rfl (fun _ => rfl) ?_
    refine dp_s1w (dp_I M 114 23) (fun (y3 : Int32) => (47, [some (.ref 114), some (.int v1), some (.long v2), none, some (.int v4), some (.int y3)], [], M)) hF (i := .istore 5) rfl (fun _ => rfl) (fun y3 => ?_)
    refine dp_s1 hF (i := .aload_n 0) rfl (fun _ => rfl) ?_
    refine dp_s1 hF (i := .getfield 61) rfl (fun _ => rfl) ?_
    refine dp_s1 hF (i := .iload 5) rfl (fun _ => rfl) ?_
    refine dp_s1 hF (i := .iload 4) rfl (fun _ => rfl) ?_
    refine dp_s3w (dp_setI M 130 (Int32.toNatClampNeg y3) v4) (fun (M4 : dp_M) => (56, [some (.ref 114), some (.int v1), some (.long v2), none, some (.int v4), some (.int y3)], [], M4)) hF (i := .iastore) rfl (fun _ => rfl) (fun M4 => ?_)
    refine dp_s1 hF (i := .aload_n 0) rfl (fun _ => rfl) ?_
    refine dp_s1 hF (i := .dup) rfl (fun _ => rfl) ?_
    refine dp_s1 hF (i := .getfield 485) rfl (fun _ => rfl) ?_
    refine dp_s1 hF (i := .iconst 1) rfl (fun _ => rfl) ?_
    refine dp_s1 hF (i := .iadd) rfl (fun _ => rfl) ?_
    refine dp_s1w (dp_setI M4 114 23 ((dp_I M4 114 23) + (1 : Int32))) (fun (M5 : dp_M) => (66, [some (.ref 114), some (.int v1), some (.long v2), none, some (.int v4), some (.int y3)], [], M5)) hF (i := .putfield 485) rfl (fun _ => rfl) (fun M5 => ?_)
    refine dp_s1 hF (i := .lload_n 2) rfl (fun _ => rfl) ?_
    refine dp_s1 hF (i := .aload_n 0) rfl (fun _ => rfl) ?_
    refine dp_s1 hF (i := .getfield 20) rfl (fun _ => rfl) ?_
    refine dp_s1 hF (i := .iload 4) rfl (fun _ => rfl) ?_
    refine dp_s3 hF (i := .iaload) rfl (fun _ => rfl) ?_
    refine dp_s1 hF (i := .iconst 4) rfl (fun _ => rfl) ?_
    refine dp_s2 hF (i := .if_icmp .ne 13) (a := (78, [some (.ref 114), some (.int v1), some (.long v2), none, some (.int v4), some (.int y3)], [.long v2], M5)) (b := (88, [some (.ref 114), some (.int v1), some (.long v2), none, some (.int v4), some (.int y3)], [.long v2], M5)) rfl (fun _ => rfl) ?_ ?_
    · refine dp_s1 hF (i := .lconst 1) rfl (fun _ => rfl) ?_
      refine dp_s1 hF (i := .bipush 36) rfl (fun _ => rfl) ?_
      refine dp_s1 hF (i := .iload 5) rfl (fun _ => rfl) ?_
      refine dp_s1 hF (i := .iadd) rfl (fun _ => rfl) ?_
      refine dp_s1 hF (i := .lshl) rfl (fun _ => rfl) ?_
      refine dp_s1 hF (i := .goto 28) rfl (fun _ => rfl) ?_
      refine dp_s1 hF (i := .lor) rfl (fun _ => rfl) ?_
      refine dp_s1w (v2 ||| ((1 : Int64) <<< (Int32.toInt64 ((36 : Int32) + y3) &&& 63))) (fun (y6 : Int64) => (115, [some (.ref 114), some (.int v1), some (.long y6), none, some (.int v4), some (.int y3)], [], M5)) hF (i := .lstore_n 2) rfl (fun _ => rfl) (fun y6 => ?_)
      refine dp_s1w (v4 + (1 : Int32)) (fun (y7 : Int32) => (118, [some (.ref 114), some (.int v1), some (.long y6), none, some (.int y7), some (.int y3)], [], M5)) hF (i := .iinc 4 1) rfl (fun _ => rfl) (fun y7 => ?_)
      refine dp_s1 hF (i := .goto (-108)) rfl (fun _ => rfl) ?_
      exact rfl
    refine dp_s1 hF (i := .iload 5) rfl (fun _ => rfl) ?_
    refine dp_s1 hF (i := .iconst 1) rfl (fun _ => rfl) ?_
    refine dp_s1 hF (i := .iadd) rfl (fun _ => rfl) ?_
    refine dp_s1 hF (i := .i2l) rfl (fun _ => rfl) ?_
    refine dp_s1 hF (i := .iconst 3) rfl (fun _ => rfl) ?_
    refine dp_s1 hF (i := .iconst 4) rfl (fun _ => rfl) ?_
    refine dp_s1 hF (i := .aload_n 0) rfl (fun _ => rfl) ?_
    refine dp_s1 hF (i := .getfield 20) rfl (fun _ => rfl) ?_
    refine dp_s1 hF (i := .iload 4) rfl (fun _ => rfl) ?_
    refine dp_s3 hF (i := .iaload) rfl (fun _ => rfl) ?_
    refine dp_s1 hF (i := .imul) rfl (fun _ => rfl) ?_
    refine dp_s1 hF (i := .aload_n 0) rfl (fun _ => rfl) ?_
    refine dp_s1 hF (i := .getfield 23) rfl (fun _ => rfl) ?_
    refine dp_s1 hF (i := .iload 4) rfl (fun _ => rfl) ?_
    refine dp_s3 hF (i := .iaload) rfl (fun _ => rfl) ?_
    refine dp_s1 hF (i := .iadd) rfl (fun _ => rfl) ?_
    refine dp_s1 hF (i := .imul) rfl (fun _ => rfl) ?_
    refine dp_s1 hF (i := .lshl) rfl (fun _ => rfl) ?_
    refine dp_s1 hF (i := .lor) rfl (fun _ => rfl) ?_
    refine dp_s1w (v2 ||| ((Int32.toInt64 (y3 + (1 : Int32))) <<< (Int32.toInt64 ((3 : Int32) * (((4 : Int32) * (dp_I M5 117 (Int32.toNatClampNeg v4))) + (dp_I M5 118 (Int32.toNatClampNeg v4)))) &&& 63))) (fun (y8 : Int64) => (115, [some (.ref 114), some (.int v1), some (.long y8), none, some (.int v4), some (.int y3)], [], M5)) hF (i := .lstore_n 2) rfl (fun _ => rfl) (fun y8 => ?_)
    refine dp_s1w (v4 + (1 : Int32)) (fun (y9 : Int32) => (118, [some (.ref 114), some (.int v1), some (.long y8), none, some (.int y9), some (.int y3)], [], M5)) hF (i := .iinc 4 1) rfl (fun _ => rfl) (fun y9 => ?_)
    refine dp_s1 hF (i := .goto (-108)) rfl (fun _ => rfl) ?_
    exact rfl
  refine dp_s1w (v4 + (1 : Int32)) (fun (y10 : Int32) => (118, [some (.ref 114), some (.int v1), some (.long v2), none, some (.int y10), some (.int v5)], [], M)) hF (i := .iinc 4 1) rfl (fun _ => rfl) (fun y10 => ?_)
  refine dp_s1 hF (i := .goto (-108)) rfl (fun _ => rfl) ?_
  exact rfl
set_option maxRecDepth 20000 in
theorem D_X12_begins_144_eq (xs : Nat → Int32) (xl d : Nat) (v1 : Int32) (v2 : Int64) (v4 : Int32) (v5 : Int32) (M : dp_M) : D_X12_begins_144 xs xl d v1 v2 v4 v5 M = if (dp_I M 114 23) ≤ v5 then (dp_w (v4 + (1 : Int32)) (fun y1 => D_X12_begins_124_a xs xl d v1 v2 y1 v5 M)) else (if v4 < 0 ∨ 4 ≤ Int32.toNatClampNeg v4 then none else (if v5 < 0 ∨ 4 ≤ Int32.toNatClampNeg v5 then none else (if v4 < 0 ∨ 4 ≤ Int32.toNatClampNeg v4 then none else (if (((100 : Int32) * (dp_I M 130 (Int32.toNatClampNeg v5))) + (dp_I M 130 (Int32.toNatClampNeg v4))) < 0 ∨ 10000 ≤ Int32.toNatClampNeg (((100 : Int32) * (dp_I M 130 (Int32.toNatClampNeg v5))) + (dp_I M 130 (Int32.toNatClampNeg v4))) then none else (if (dp_I M 119 (Int32.toNatClampNeg (((100 : Int32) * (dp_I M 130 (Int32.toNatClampNeg v5))) + (dp_I M 130 (Int32.toNatClampNeg v4))))) = 0 then (if v4 < 0 ∨ 4 ≤ Int32.toNatClampNeg v4 then none else dp_w (dp_setI M 131 (Int32.toNatClampNeg v4) ((dp_I M 131 (Int32.toNatClampNeg v4)) ||| (0 : Int32))) (fun M2 => dp_w (v5 + (1 : Int32)) (fun y3 => D_X12_begins_144 xs xl d v1 v2 v4 y3 M2))) else (if v4 < 0 ∨ 4 ≤ Int32.toNatClampNeg v4 then none else dp_w (dp_setI M 131 (Int32.toNatClampNeg v4) ((dp_I M 131 (Int32.toNatClampNeg v4)) ||| ((1 : Int32) <<< (v5 &&& 31)))) (fun M4 => dp_w (v5 + (1 : Int32)) (fun y5 => D_X12_begins_144 xs xl d v1 v2 v4 y5 M4)))))))) := by
  have hF := dp_den_grow (md := true) (xs := xs) (xl := xl) d
  unfold D_X12_begins_144
  refine dp_s1 hF (i := .iload 5) rfl (fun _ => rfl) ?_
  refine dp_s1 hF (i := .aload_n 0) rfl (fun _ => rfl) ?_
  refine dp_s1 hF (i := .getfield 485) rfl (fun _ => rfl) ?_
  refine dp_s2 hF (i := .if_icmp .ge 53) (a := (203, [some (.ref 114), some (.int v1), some (.long v2), none, some (.int v4), some (.int v5)], [], M)) (b := (153, [some (.ref 114), some (.int v1), some (.long v2), none, some (.int v4), some (.int v5)], [], M)) rfl (fun _ => rfl) ?_ ?_
  · refine dp_s1w (v4 + (1 : Int32)) (fun (y1 : Int32) => (206, [some (.ref 114), some (.int v1), some (.long v2), none, some (.int y1), some (.int v5)], [], M)) hF (i := .iinc 4 1) rfl (fun _ => rfl) (fun y1 => ?_)
    refine dp_s1 hF (i := .goto (-82)) rfl (fun _ => rfl) ?_
    exact rfl
  refine dp_s1 hF (i := .aload_n 0) rfl (fun _ => rfl) ?_
  refine dp_s1 hF (i := .getfield 64) rfl (fun _ => rfl) ?_
  refine dp_s1 hF (i := .iload 4) rfl (fun _ => rfl) ?_
  refine dp_s1 hF (i := .dup2) rfl (fun _ => rfl) ?_
  refine dp_s3 hF (i := .iaload) rfl (fun _ => rfl) ?_
  refine dp_s1 hF (i := .aload_n 0) rfl (fun _ => rfl) ?_
  refine dp_s1 hF (i := .getfield 26) rfl (fun _ => rfl) ?_
  refine dp_s1 hF (i := .bipush 100) rfl (fun _ => rfl) ?_
  refine dp_s1 hF (i := .aload_n 0) rfl (fun _ => rfl) ?_
  refine dp_s1 hF (i := .getfield 61) rfl (fun _ => rfl) ?_
  refine dp_s1 hF (i := .iload 5) rfl (fun _ => rfl) ?_
  refine dp_s3 hF (i := .iaload) rfl (fun _ => rfl) ?_
  refine dp_s1 hF (i := .imul) rfl (fun _ => rfl) ?_
  refine dp_s1 hF (i := .aload_n 0) rfl (fun _ => rfl) ?_
  refine dp_s1 hF (i := .getfield 61) rfl (fun _ => rfl) ?_
  refine dp_s1 hF (i := .iload 4) rfl (fun _ => rfl) ?_
  refine dp_s3 hF (i := .iaload) rfl (fun _ => rfl) ?_
  refine dp_s1 hF (i := .iadd) rfl (fun _ => rfl) ?_
  refine dp_s3 hF (i := .baload) rfl (fun _ => rfl) ?_
  refine dp_s2 hF (i := .ifCond .eq 10) (a := (194, [some (.ref 114), some (.int v1), some (.long v2), none, some (.int v4), some (.int v5)], [.int (dp_I M 131 (Int32.toNatClampNeg v4)), .int v4, .ref 131], M)) (b := (187, [some (.ref 114), some (.int v1), some (.long v2), none, some (.int v4), some (.int v5)], [.int (dp_I M 131 (Int32.toNatClampNeg v4)), .int v4, .ref 131], M)) rfl (fun _ => rfl) ?_ ?_
  · refine dp_s1 hF (i := .iconst 0) rfl (fun _ => rfl) ?_
    refine dp_s1 hF (i := .ior) rfl (fun _ => rfl) ?_
    refine dp_s3w (dp_setI M 131 (Int32.toNatClampNeg v4) ((dp_I M 131 (Int32.toNatClampNeg v4)) ||| (0 : Int32))) (fun (M2 : dp_M) => (197, [some (.ref 114), some (.int v1), some (.long v2), none, some (.int v4), some (.int v5)], [], M2)) hF (i := .iastore) rfl (fun _ => rfl) (fun M2 => ?_)
    refine dp_s1w (v5 + (1 : Int32)) (fun (y3 : Int32) => (200, [some (.ref 114), some (.int v1), some (.long v2), none, some (.int v4), some (.int y3)], [], M2)) hF (i := .iinc 5 1) rfl (fun _ => rfl) (fun y3 => ?_)
    refine dp_s1 hF (i := .goto (-56)) rfl (fun _ => rfl) ?_
    exact rfl
  refine dp_s1 hF (i := .iconst 1) rfl (fun _ => rfl) ?_
  refine dp_s1 hF (i := .iload 5) rfl (fun _ => rfl) ?_
  refine dp_s1 hF (i := .ishl) rfl (fun _ => rfl) ?_
  refine dp_s1 hF (i := .goto 4) rfl (fun _ => rfl) ?_
  refine dp_s1 hF (i := .ior) rfl (fun _ => rfl) ?_
  refine dp_s3w (dp_setI M 131 (Int32.toNatClampNeg v4) ((dp_I M 131 (Int32.toNatClampNeg v4)) ||| ((1 : Int32) <<< (v5 &&& 31)))) (fun (M4 : dp_M) => (197, [some (.ref 114), some (.int v1), some (.long v2), none, some (.int v4), some (.int v5)], [], M4)) hF (i := .iastore) rfl (fun _ => rfl) (fun M4 => ?_)
  refine dp_s1w (v5 + (1 : Int32)) (fun (y5 : Int32) => (200, [some (.ref 114), some (.int v1), some (.long v2), none, some (.int v4), some (.int y5)], [], M4)) hF (i := .iinc 5 1) rfl (fun _ => rfl) (fun y5 => ?_)
  refine dp_s1 hF (i := .goto (-56)) rfl (fun _ => rfl) ?_
  exact rfl
set_option maxRecDepth 20000 in
theorem D_X12_begins_124_a_eq (xs : Nat → Int32) (xl d : Nat) (v1 : Int32) (v2 : Int64) (v4 : Int32) (v5 : Int32) (M : dp_M) : D_X12_begins_124_a xs xl d v1 v2 v4 v5 M = if (dp_I M 114 23) ≤ v4 then (some (.inl (some (.long v2)), M)) else (if v4 < 0 ∨ 4 ≤ Int32.toNatClampNeg v4 then none else dp_w (dp_setI M 131 (Int32.toNatClampNeg v4) (0 : Int32)) (fun M1 => dp_w (0 : Int32) (fun y2 => D_X12_begins_144 xs xl d v1 v2 v4 y2 M1))) := by
  have hF := dp_den_grow (md := true) (xs := xs) (xl := xl) d
  unfold D_X12_begins_124_a
  refine dp_s1 hF (i := .iload 4) rfl (fun _ => rfl) ?_
  refine dp_s1 hF (i := .aload_n 0) rfl (fun _ => rfl) ?_
  refine dp_s1 hF (i := .getfield 485) rfl (fun _ => rfl) ?_
  refine dp_s2 hF (i := .if_icmp .ge 79) (a := (209, [some (.ref 114), some (.int v1), some (.long v2), none, some (.int v4), some (.int v5)], [], M)) (b := (133, [some (.ref 114), some (.int v1), some (.long v2), none, some (.int v4), some (.int v5)], [], M)) rfl (fun _ => rfl) ?_ ?_
  · refine dp_s1 hF (i := .lload_n 2) rfl (fun _ => rfl) ?_
    exact dp_s0 hF (i := .lreturn) rfl (fun _ => rfl)
  refine dp_s1 hF (i := .aload_n 0) rfl (fun _ => rfl) ?_
  refine dp_s1 hF (i := .getfield 64) rfl (fun _ => rfl) ?_
  refine dp_s1 hF (i := .iload 4) rfl (fun _ => rfl) ?_
  refine dp_s1 hF (i := .iconst 0) rfl (fun _ => rfl) ?_
  refine dp_s3w (dp_setI M 131 (Int32.toNatClampNeg v4) (0 : Int32)) (fun (M1 : dp_M) => (141, [some (.ref 114), some (.int v1), some (.long v2), none, some (.int v4), some (.int v5)], [], M1)) hF (i := .iastore) rfl (fun _ => rfl) (fun M1 => ?_)
  refine dp_s1 hF (i := .iconst 0) rfl (fun _ => rfl) ?_
  refine dp_s1w (0 : Int32) (fun (y2 : Int32) => (144, [some (.ref 114), some (.int v1), some (.long v2), none, some (.int v4), some (.int y2)], [], M1)) hF (i := .istore 5) rfl (fun _ => rfl) (fun y2 => ?_)
  exact rfl
noncomputable def D_X12_taken_0 (xs : Nat → Int32) (xl d : Nat) (v1 : Int64) (v3 : Int32) (M : dp_M) : Option dp_Res := dp_lim true xs xl (dp_den true xs xl d) dp_m_X12_taken (0, [some (.ref 114), some (.long v1), none, some (.int v3), none, none], [], M)
noncomputable def D_X12_taken_41 (xs : Nat → Int32) (xl d : Nat) (v1 : Int64) (v3 : Int32) (v4 : Int32) (v5 : Int32) (M : dp_M) : Option dp_Res := dp_lim true xs xl (dp_den true xs xl d) dp_m_X12_taken (41, [some (.ref 114), some (.long v1), none, some (.int v3), some (.int v4), some (.int v5)], [], M)
noncomputable def D_X12_taken_67 (xs : Nat → Int32) (xl d : Nat) (v1 : Int64) (v3 : Int32) (v4 : Int32) (v5 : Int32) (M : dp_M) : Option dp_Res := dp_lim true xs xl (dp_den true xs xl d) dp_m_X12_taken (67, [some (.ref 114), some (.long v1), none, some (.int v3), some (.int v4), some (.int v5)], [], M)
theorem D_X12_taken_0_den (xs : Nat → Int32) (xl d : Nat) (a0 : Int64) (a1 : Int32) (M : dp_M) : dp_den true xs xl (d + 1) 382 [.ref 114, .long a0, .int a1] M = D_X12_taken_0 xs xl d a0 a1 M := rfl
set_option maxRecDepth 20000 in
theorem D_X12_taken_0_eq (xs : Nat → Int32) (xl d : Nat) (v1 : Int64) (v3 : Int32) (M : dp_M) : D_X12_taken_0 xs xl d v1 v3 M = if (3 : Int32) ≤ v3 then (dp_w (v3 - (3 : Int32)) (fun y1 => dp_w (0 : Int32) (fun y2 => D_X12_taken_41 xs xl d v1 v3 y1 y2 M))) else (dp_bi (dp_den true xs xl d 378 [.ref 114, .long v1, .int v3] M) (fun r4 M3 => if r4 = 0 then (some (.inl (some (.int (-1 : Int32))), M3)) else (dp_bi (dp_den true xs xl d 378 [.ref 114, .long v1, .int v3] M3) (fun r6 M5 => dp_bi (dp_den true xs xl d 377 [.ref 114, .long v1, .int v3, .int (r6 - (1 : Int32))] M5) (fun r8 M7 => some (.inl (some (.int r8)), M7)))))) := by
  have hF := dp_den_grow (md := true) (xs := xs) (xl := xl) d
  unfold D_X12_taken_0
  refine dp_s1 hF (i := .iload_n 3) rfl (fun _ => rfl) ?_
  refine dp_s1 hF (i := .iconst 3) rfl (fun _ => rfl) ?_
  refine dp_s2 hF (i := .if_icmp .ge 31) (a := (33, [some (.ref 114), some (.long v1), none, some (.int v3), none, none], [], M)) (b := (5, [some (.ref 114), some (.long v1), none, some (.int v3), none, none], [], M)) rfl (fun _ => rfl) ?_ ?_
  · refine dp_s1 hF (i := .iload_n 3) rfl (fun _ => rfl) ?_
    refine dp_s1 hF (i := .iconst 3) rfl (fun _ => rfl) ?_
    refine dp_s1 hF (i := .isub) rfl (fun _ => rfl) ?_
    refine dp_s1w (v3 - (3 : Int32)) (fun (y1 : Int32) => (38, [some (.ref 114), some (.long v1), none, some (.int v3), some (.int y1), none], [], M)) hF (i := .istore 4) rfl (fun _ => rfl) (fun y1 => ?_)
    refine dp_s1 hF (i := .iconst 0) rfl (fun _ => rfl) ?_
    refine dp_s1w (0 : Int32) (fun (y2 : Int32) => (41, [some (.ref 114), some (.long v1), none, some (.int v3), some (.int y1), some (.int y2)], [], M)) hF (i := .istore 5) rfl (fun _ => rfl) (fun y2 => ?_)
    exact rfl
  refine dp_s1 hF (i := .aload_n 0) rfl (fun _ => rfl) ?_
  refine dp_s1 hF (i := .lload_n 1) rfl (fun _ => rfl) ?_
  refine dp_s1 hF (i := .iload_n 3) rfl (fun _ => rfl) ?_
  refine dp_si (mj := dp_m_X12_topOf) (i := .invokevirtual 488) rfl rfl (Or.inl rfl) rfl (fun _ => rfl) (fun r4 M3 => ?_)
  refine dp_s2 hF (i := .ifCond .ne 7) (a := (14, [some (.ref 114), some (.long v1), none, some (.int v3), none, none], [], M3)) (b := (18, [some (.ref 114), some (.long v1), none, some (.int v3), none, none], [], M3)) rfl (fun _ => rfl) ?_ ?_
  · refine dp_s1 hF (i := .iconst (-1)) rfl (fun _ => rfl) ?_
    refine dp_s1 hF (i := .goto 17) rfl (fun _ => rfl) ?_
    exact dp_s0 hF (i := .ireturn) rfl (fun _ => rfl)
  refine dp_s1 hF (i := .aload_n 0) rfl (fun _ => rfl) ?_
  refine dp_s1 hF (i := .lload_n 1) rfl (fun _ => rfl) ?_
  refine dp_s1 hF (i := .iload_n 3) rfl (fun _ => rfl) ?_
  refine dp_s1 hF (i := .aload_n 0) rfl (fun _ => rfl) ?_
  refine dp_s1 hF (i := .lload_n 1) rfl (fun _ => rfl) ?_
  refine dp_s1 hF (i := .iload_n 3) rfl (fun _ => rfl) ?_
  refine dp_si (mj := dp_m_X12_topOf) (i := .invokevirtual 488) rfl rfl (Or.inl rfl) rfl (fun _ => rfl) (fun r6 M5 => ?_)
  refine dp_s1 hF (i := .iconst 1) rfl (fun _ => rfl) ?_
  refine dp_s1 hF (i := .isub) rfl (fun _ => rfl) ?_
  refine dp_si (mj := dp_m_X12_cellAt) (i := .invokevirtual 479) rfl rfl (Or.inl rfl) rfl (fun _ => rfl) (fun r8 M7 => ?_)
  exact dp_s0 hF (i := .ireturn) rfl (fun _ => rfl)
set_option maxRecDepth 20000 in
theorem D_X12_taken_41_eq (xs : Nat → Int32) (xl d : Nat) (v1 : Int64) (v3 : Int32) (v4 : Int32) (v5 : Int32) (M : dp_M) : D_X12_taken_41 xs xl d v1 v3 v4 v5 M = if (dp_I M 114 23) ≤ v5 then (some (.inl (some (.int (-1 : Int32))), M)) else (dp_bi (dp_den true xs xl d 379 [.long v1, .int v5] M) (fun r2 M1 => if r2 = 0 then (D_X12_taken_67 xs xl d v1 v3 v4 v5 M1) else (if v4 = 0 then (some (.inl (some (.int v5)), M1)) else (D_X12_taken_67 xs xl d v1 v3 v4 v5 M1)))) := by
  have hF := dp_den_grow (md := true) (xs := xs) (xl := xl) d
  unfold D_X12_taken_41
  refine dp_s1 hF (i := .iload 5) rfl (fun _ => rfl) ?_
  refine dp_s1 hF (i := .aload_n 0) rfl (fun _ => rfl) ?_
  refine dp_s1 hF (i := .getfield 485) rfl (fun _ => rfl) ?_
  refine dp_s2 hF (i := .if_icmp .ge 45) (a := (92, [some (.ref 114), some (.long v1), none, some (.int v3), some (.int v4), some (.int v5)], [], M)) (b := (50, [some (.ref 114), some (.long v1), none, some (.int v3), some (.int v4), some (.int v5)], [], M)) rfl (fun _ => rfl) ?_ ?_
  · refine dp_s1 hF (i := .iconst (-1)) rfl (fun _ => rfl) ?_
    exact dp_s0 hF (i := .ireturn) rfl (fun _ => rfl)
  refine dp_s1 hF (i := .lload_n 1) rfl (fun _ => rfl) ?_
  refine dp_s1 hF (i := .iload 5) rfl (fun _ => rfl) ?_
  refine dp_si (mj := dp_m_X12_isAside) (i := .invokestatic 492) rfl rfl (Or.inr rfl) rfl (fun _ => rfl) (fun r2 M1 => ?_)
  refine dp_s2 hF (i := .ifCond .eq 11) (a := (67, [some (.ref 114), some (.long v1), none, some (.int v3), some (.int v4), some (.int v5)], [], M1)) (b := (59, [some (.ref 114), some (.long v1), none, some (.int v3), some (.int v4), some (.int v5)], [], M1)) rfl (fun _ => rfl) ?_ ?_
  · exact rfl
  refine dp_s1 hF (i := .iload 4) rfl (fun _ => rfl) ?_
  refine dp_s2 hF (i := .ifCond .ne 6) (a := (64, [some (.ref 114), some (.long v1), none, some (.int v3), some (.int v4), some (.int v5)], [], M1)) (b := (67, [some (.ref 114), some (.long v1), none, some (.int v3), some (.int v4), some (.int v5)], [], M1)) rfl (fun _ => rfl) ?_ ?_
  · refine dp_s1 hF (i := .iload 5) rfl (fun _ => rfl) ?_
    exact dp_s0 hF (i := .ireturn) rfl (fun _ => rfl)
  exact rfl
set_option maxRecDepth 20000 in
theorem D_X12_taken_67_eq (xs : Nat → Int32) (xl d : Nat) (v1 : Int64) (v3 : Int32) (v4 : Int32) (v5 : Int32) (M : dp_M) : D_X12_taken_67 xs xl d v1 v3 v4 v5 M = dp_bi (dp_den true xs xl d 379 [.long v1, .int v5] M) (fun r2 M1 => if r2 = 0 then (dp_w (v4 - (0 : Int32)) (fun y3 => dp_w (v5 + (1 : Int32)) (fun y4 => D_X12_taken_41 xs xl d v1 v3 y3 y4 M1))) else (dp_w (v4 - (1 : Int32)) (fun y5 => dp_w (v5 + (1 : Int32)) (fun y6 => D_X12_taken_41 xs xl d v1 v3 y5 y6 M1)))) := by
  have hF := dp_den_grow (md := true) (xs := xs) (xl := xl) d
  unfold D_X12_taken_67
  refine dp_s1 hF (i := .iload 4) rfl (fun _ => rfl) ?_
  refine dp_s1 hF (i := .lload_n 1) rfl (fun _ => rfl) ?_
  refine dp_s1 hF (i := .iload 5) rfl (fun _ => rfl) ?_
  refine dp_si (mj := dp_m_X12_isAside) (i := .invokestatic 492) rfl rfl (Or.inr rfl) rfl (fun _ => rfl) (fun r2 M1 => ?_)
  refine dp_s2 hF (i := .ifCond .eq 7) (a := (82, [some (.ref 114), some (.long v1), none, some (.int v3), some (.int v4), some (.int v5)], [.int v4], M1)) (b := (78, [some (.ref 114), some (.long v1), none, some (.int v3), some (.int v4), some (.int v5)], [.int v4], M1)) rfl (fun _ => rfl) ?_ ?_
  · refine dp_s1 hF (i := .iconst 0) rfl (fun _ => rfl) ?_
    refine dp_s1 hF (i := .isub) rfl (fun _ => rfl) ?_
    refine dp_s1w (v4 - (0 : Int32)) (fun (y3 : Int32) => (86, [some (.ref 114), some (.long v1), none, some (.int v3), some (.int y3), some (.int v5)], [], M1)) hF (i := .istore 4) rfl (fun _ => rfl) (fun y3 => ?_)
    refine dp_s1w (v5 + (1 : Int32)) (fun (y4 : Int32) => (89, [some (.ref 114), some (.long v1), none, some (.int v3), some (.int y3), some (.int y4)], [], M1)) hF (i := .iinc 5 1) rfl (fun _ => rfl) (fun y4 => ?_)
    refine dp_s1 hF (i := .goto (-48)) rfl (fun _ => rfl) ?_
    exact rfl
  refine dp_s1 hF (i := .iconst 1) rfl (fun _ => rfl) ?_
  refine dp_s1 hF (i := .goto 4) rfl (fun _ => rfl) ?_
  refine dp_s1 hF (i := .isub) rfl (fun _ => rfl) ?_
  refine dp_s1w (v4 - (1 : Int32)) (fun (y5 : Int32) => (86, [some (.ref 114), some (.long v1), none, some (.int v3), some (.int y5), some (.int v5)], [], M1)) hF (i := .istore 4) rfl (fun _ => rfl) (fun y5 => ?_)
  refine dp_s1w (v5 + (1 : Int32)) (fun (y6 : Int32) => (89, [some (.ref 114), some (.long v1), none, some (.int v3), some (.int y5), some (.int y6)], [], M1)) hF (i := .iinc 5 1) rfl (fun _ => rfl) (fun y6 => ?_)
  refine dp_s1 hF (i := .goto (-48)) rfl (fun _ => rfl) ?_
  exact rfl
noncomputable def D_X12_moved_0 (xs : Nat → Int32) (xl d : Nat) (v1 : Int64) (v3 : Int32) (v4 : Int32) (M : dp_M) : Option dp_Res := dp_lim true xs xl (dp_den true xs xl d) dp_m_X12_moved (0, [some (.ref 114), some (.long v1), none, some (.int v3), some (.int v4), none, none, none], [], M)
noncomputable def D_X12_moved_30 (xs : Nat → Int32) (xl d : Nat) (v1 : Int64) (v3 : Int32) (v4 : Int32) (v5 : Int32) (M : dp_M) : Option dp_Res := dp_lim true xs xl (dp_den true xs xl d) dp_m_X12_moved (30, [some (.ref 114), some (.long v1), none, some (.int v3), some (.int v4), some (.int v5), none, none], [], M)
noncomputable def D_X12_moved_64 (xs : Nat → Int32) (xl d : Nat) (v1 : Int64) (v3 : Int32) (v4 : Int32) (v5 : Int32) (M : dp_M) : Option dp_Res := dp_lim true xs xl (dp_den true xs xl d) dp_m_X12_moved (64, [some (.ref 114), some (.long v1), none, some (.int v3), some (.int v4), some (.int v5), none, none], [], M)
noncomputable def D_X12_moved_106 (xs : Nat → Int32) (xl d : Nat) (v1 : Int64) (v3 : Int32) (v4 : Int32) (v5 : Int32) (M : dp_M) : Option dp_Res := dp_lim true xs xl (dp_den true xs xl d) dp_m_X12_moved (106, [some (.ref 114), some (.long v1), none, some (.int v3), some (.int v4), some (.int v5), none, none], [], M)
noncomputable def D_X12_moved_151 (xs : Nat → Int32) (xl d : Nat) (v1 : Int64) (v3 : Int32) (v4 : Int32) (v5 : Int32) (vs0 : Int64) (M : dp_M) : Option dp_Res := dp_lim true xs xl (dp_den true xs xl d) dp_m_X12_moved (151, [some (.ref 114), some (.long v1), none, some (.int v3), some (.int v4), some (.int v5), none, none], [.long vs0], M)
theorem D_X12_moved_0_den (xs : Nat → Int32) (xl d : Nat) (a0 : Int64) (a1 : Int32) (a2 : Int32) (M : dp_M) : dp_den true xs xl (d + 1) 383 [.ref 114, .long a0, .int a1, .int a2] M = D_X12_moved_0 xs xl d a0 a1 a2 M := rfl
set_option maxRecDepth 20000 in
theorem D_X12_moved_0_eq (xs : Nat → Int32) (xl d : Nat) (v1 : Int64) (v3 : Int32) (v4 : Int32) (M : dp_M) : D_X12_moved_0 xs xl d v1 v3 v4 M = dp_bi (dp_den true xs xl d 382 [.ref 114, .long v1, .int v3] M) (fun r2 M1 => if r2 < 0 then (some (.inl (some (.long (-1 : Int64))), M1)) else (if v3 = v4 then (some (.inl (some (.long (-1 : Int64))), M1)) else (if v3 ≤ (2 : Int32) then (D_X12_moved_30 xs xl d v1 v3 v4 r2 M1) else (if (2 : Int32) < v4 then (some (.inl (some (.long (-1 : Int64))), M1)) else (D_X12_moved_30 xs xl d v1 v3 v4 r2 M1))))) := by
  have hF := dp_den_grow (md := true) (xs := xs) (xl := xl) d
  unfold D_X12_moved_0
  refine dp_s1 hF (i := .aload_n 0) rfl (fun _ => rfl) ?_
  refine dp_s1 hF (i := .lload_n 1) rfl (fun _ => rfl) ?_
  refine dp_s1 hF (i := .iload_n 3) rfl (fun _ => rfl) ?_
  refine dp_si (mj := dp_m_X12_taken) (i := .invokevirtual 496) rfl rfl (Or.inl rfl) rfl (fun _ => rfl) (fun r2 M1 => ?_)
  refine dp_s1 hF (i := .istore 5) rfl (fun _ => rfl) ?_
  refine dp_s1 hF (i := .iload 5) rfl (fun _ => rfl) ?_
  refine dp_s2 hF (i := .ifCond .lt 50) (a := (60, [some (.ref 114), some (.long v1), none, some (.int v3), some (.int v4), some (.int r2), none, none], [], M1)) (b := (13, [some (.ref 114), some (.long v1), none, some (.int v3), some (.int v4), some (.int r2), none, none], [], M1)) rfl (fun _ => rfl) ?_ ?_
  · refine dp_s1 hF (i := .ldc2_w 435) rfl (fun _ => rfl) ?_
    exact dp_s0 hF (i := .lreturn) rfl (fun _ => rfl)
  refine dp_s1 hF (i := .iload_n 3) rfl (fun _ => rfl) ?_
  refine dp_s1 hF (i := .iload 4) rfl (fun _ => rfl) ?_
  refine dp_s2 hF (i := .if_icmp .eq 44) (a := (60, [some (.ref 114), some (.long v1), none, some (.int v3), some (.int v4), some (.int r2), none, none], [], M1)) (b := (19, [some (.ref 114), some (.long v1), none, some (.int v3), some (.int v4), some (.int r2), none, none], [], M1)) rfl (fun _ => rfl) ?_ ?_
  · refine dp_s1 hF (i := .ldc2_w 435) rfl (fun _ => rfl) ?_
    exact dp_s0 hF (i := .lreturn) rfl (fun _ => rfl)
  refine dp_s1 hF (i := .iload_n 3) rfl (fun _ => rfl) ?_
  refine dp_s1 hF (i := .iconst 2) rfl (fun _ => rfl) ?_
  refine dp_s2 hF (i := .if_icmp .le 9) (a := (30, [some (.ref 114), some (.long v1), none, some (.int v3), some (.int v4), some (.int r2), none, none], [], M1)) (b := (24, [some (.ref 114), some (.long v1), none, some (.int v3), some (.int v4), some (.int r2), none, none], [], M1)) rfl (fun _ => rfl) ?_ ?_
  · exact rfl
  refine dp_s1 hF (i := .iload 4) rfl (fun _ => rfl) ?_
  refine dp_s1 hF (i := .iconst 2) rfl (fun _ => rfl) ?_
  refine dp_s2 hF (i := .if_icmp .gt 33) (a := (60, [some (.ref 114), some (.long v1), none, some (.int v3), some (.int v4), some (.int r2), none, none], [], M1)) (b := (30, [some (.ref 114), some (.long v1), none, some (.int v3), some (.int v4), some (.int r2), none, none], [], M1)) rfl (fun _ => rfl) ?_ ?_
  · refine dp_s1 hF (i := .ldc2_w 435) rfl (fun _ => rfl) ?_
    exact dp_s0 hF (i := .lreturn) rfl (fun _ => rfl)
  exact rfl
set_option maxRecDepth 20000 in
theorem D_X12_moved_30_eq (xs : Nat → Int32) (xl d : Nat) (v1 : Int64) (v3 : Int32) (v4 : Int32) (v5 : Int32) (M : dp_M) : D_X12_moved_30 xs xl d v1 v3 v4 v5 M = if (3 : Int32) ≤ v4 then (D_X12_moved_64 xs xl d v1 v3 v4 v5 M) else (if (3 : Int32) ≤ v4 then (dp_bi (dp_den true xs xl d 378 [.ref 114, .long v1, .int (0 : Int32)] M) (fun r2 M1 => if r2 = (dp_I M1 114 2) then (some (.inl (some (.long (-1 : Int64))), M1)) else (D_X12_moved_64 xs xl d v1 v3 v4 v5 M1))) else (dp_bi (dp_den true xs xl d 378 [.ref 114, .long v1, .int v4] M) (fun r4 M3 => if r4 = (dp_I M3 114 2) then (some (.inl (some (.long (-1 : Int64))), M3)) else (D_X12_moved_64 xs xl d v1 v3 v4 v5 M3)))) := by
  have hF := dp_den_grow (md := true) (xs := xs) (xl := xl) d
  unfold D_X12_moved_30
  refine dp_s1 hF (i := .iload 4) rfl (fun _ => rfl) ?_
  refine dp_s1 hF (i := .iconst 3) rfl (fun _ => rfl) ?_
  refine dp_s2 hF (i := .if_icmp .ge 31) (a := (64, [some (.ref 114), some (.long v1), none, some (.int v3), some (.int v4), some (.int v5), none, none], [], M)) (b := (36, [some (.ref 114), some (.long v1), none, some (.int v3), some (.int v4), some (.int v5), none, none], [], M)) rfl (fun _ => rfl) ?_ ?_
  · exact rfl
  refine dp_s1 hF (i := .aload_n 0) rfl (fun _ => rfl) ?_
  refine dp_s1 hF (i := .lload_n 1) rfl (fun _ => rfl) ?_
  refine dp_s1 hF (i := .iload 4) rfl (fun _ => rfl) ?_
  refine dp_s1 hF (i := .iconst 3) rfl (fun _ => rfl) ?_
  refine dp_s2 hF (i := .if_icmp .ge 8) (a := (49, [some (.ref 114), some (.long v1), none, some (.int v3), some (.int v4), some (.int v5), none, none], [.long v1, .ref 114], M)) (b := (44, [some (.ref 114), some (.long v1), none, some (.int v3), some (.int v4), some (.int v5), none, none], [.long v1, .ref 114], M)) rfl (fun _ => rfl) ?_ ?_
  · refine dp_s1 hF (i := .iconst 0) rfl (fun _ => rfl) ?_
    refine dp_si (mj := dp_m_X12_topOf) (i := .invokevirtual 488) rfl rfl (Or.inl rfl) rfl (fun _ => rfl) (fun r2 M1 => ?_)
    refine dp_s1 hF (i := .aload_n 0) rfl (fun _ => rfl) ?_
    refine dp_s1 hF (i := .getfield 423) rfl (fun _ => rfl) ?_
    refine dp_s2 hF (i := .if_icmp .ne 7) (a := (60, [some (.ref 114), some (.long v1), none, some (.int v3), some (.int v4), some (.int v5), none, none], [], M1)) (b := (64, [some (.ref 114), some (.long v1), none, some (.int v3), some (.int v4), some (.int v5), none, none], [], M1)) rfl (fun _ => rfl) ?_ ?_
    · refine dp_s1 hF (i := .ldc2_w 435) rfl (fun _ => rfl) ?_
      exact dp_s0 hF (i := .lreturn) rfl (fun _ => rfl)
    exact rfl
  refine dp_s1 hF (i := .iload 4) rfl (fun _ => rfl) ?_
  refine dp_s1 hF (i := .goto 4) rfl (fun _ => rfl) ?_
  refine dp_si (mj := dp_m_X12_topOf) (i := .invokevirtual 488) rfl rfl (Or.inl rfl) rfl (fun _ => rfl) (fun r4 M3 => ?_)
  refine dp_s1 hF (i := .aload_n 0) rfl (fun _ => rfl) ?_
  refine dp_s1 hF (i := .getfield 423) rfl (fun _ => rfl) ?_
  refine dp_s2 hF (i := .if_icmp .ne 7) (a := (60, [some (.ref 114), some (.long v1), none, some (.int v3), some (.int v4), some (.int v5), none, none], [], M3)) (b := (64, [some (.ref 114), some (.long v1), none, some (.int v3), some (.int v4), some (.int v5), none, none], [], M3)) rfl (fun _ => rfl) ?_ ?_
  · refine dp_s1 hF (i := .ldc2_w 435) rfl (fun _ => rfl) ?_
    exact dp_s0 hF (i := .lreturn) rfl (fun _ => rfl)
  exact rfl
set_option maxRecDepth 20000 in
theorem D_X12_moved_64_eq (xs : Nat → Int32) (xl d : Nat) (v1 : Int64) (v3 : Int32) (v4 : Int32) (v5 : Int32) (M : dp_M) : D_X12_moved_64 xs xl d v1 v3 v4 v5 M = if v4 = (3 : Int32) then (if v5 < 0 ∨ 4 ≤ Int32.toNatClampNeg v5 then none else (if (dp_I M 130 (Int32.toNatClampNeg v5)) < 0 ∨ 100 ≤ Int32.toNatClampNeg (dp_I M 130 (Int32.toNatClampNeg v5)) then none else (if (dp_I M 115 (Int32.toNatClampNeg (dp_I M 130 (Int32.toNatClampNeg v5)))) = 0 then (if v5 < 0 ∨ 4 ≤ Int32.toNatClampNeg v5 then none else (dp_bi (dp_den true xs xl d 380 [.long v1] M) (fun r2 M1 => if ((dp_I M 131 (Int32.toNatClampNeg v5)) &&& (r2 ^^^ (-1 : Int32))) = 0 then (D_X12_moved_106 xs xl d v1 v3 v4 v5 M1) else (some (.inl (some (.long (-1 : Int64))), M1))))) else (some (.inl (some (.long (-1 : Int64))), M))))) else (D_X12_moved_106 xs xl d v1 v3 v4 v5 M) := by
  have hF := dp_den_grow (md := true) (xs := xs) (xl := xl) d
  unfold D_X12_moved_64
  refine dp_s1 hF (i := .iload 4) rfl (fun _ => rfl) ?_
  refine dp_s1 hF (i := .iconst 3) rfl (fun _ => rfl) ?_
  refine dp_s2 hF (i := .if_icmp .ne 39) (a := (70, [some (.ref 114), some (.long v1), none, some (.int v3), some (.int v4), some (.int v5), none, none], [], M)) (b := (106, [some (.ref 114), some (.long v1), none, some (.int v3), some (.int v4), some (.int v5), none, none], [], M)) rfl (fun _ => rfl) ?_ ?_
  · refine dp_s1 hF (i := .aload_n 0) rfl (fun _ => rfl) ?_
    refine dp_s1 hF (i := .getfield 13) rfl (fun _ => rfl) ?_
    refine dp_s1 hF (i := .aload_n 0) rfl (fun _ => rfl) ?_
    refine dp_s1 hF (i := .getfield 61) rfl (fun _ => rfl) ?_
    refine dp_s1 hF (i := .iload 5) rfl (fun _ => rfl) ?_
    refine dp_s3 hF (i := .iaload) rfl (fun _ => rfl) ?_
    refine dp_s3 hF (i := .iaload) rfl (fun _ => rfl) ?_
    refine dp_s2 hF (i := .ifCond .ne 20) (a := (85, [some (.ref 114), some (.long v1), none, some (.int v3), some (.int v4), some (.int v5), none, none], [], M)) (b := (102, [some (.ref 114), some (.long v1), none, some (.int v3), some (.int v4), some (.int v5), none, none], [], M)) rfl (fun _ => rfl) ?_ ?_
    · refine dp_s1 hF (i := .aload_n 0) rfl (fun _ => rfl) ?_
      refine dp_s1 hF (i := .getfield 64) rfl (fun _ => rfl) ?_
      refine dp_s1 hF (i := .iload 5) rfl (fun _ => rfl) ?_
      refine dp_s3 hF (i := .iaload) rfl (fun _ => rfl) ?_
      refine dp_s1 hF (i := .lload_n 1) rfl (fun _ => rfl) ?_
      refine dp_si (mj := dp_m_X12_ashoreIn) (i := .invokestatic 499) rfl rfl (Or.inl rfl) rfl (fun _ => rfl) (fun r2 M1 => ?_)
      refine dp_s1 hF (i := .iconst (-1)) rfl (fun _ => rfl) ?_
      refine dp_s1 hF (i := .ixor) rfl (fun _ => rfl) ?_
      refine dp_s1 hF (i := .iand) rfl (fun _ => rfl) ?_
      refine dp_s2 hF (i := .ifCond .eq 7) (a := (106, [some (.ref 114), some (.long v1), none, some (.int v3), some (.int v4), some (.int v5), none, none], [], M1)) (b := (102, [some (.ref 114), some (.long v1), none, some (.int v3), some (.int v4), some (.int v5), none, none], [], M1)) rfl (fun _ => rfl) ?_ ?_
      · exact rfl
      refine dp_s1 hF (i := .ldc2_w 435) rfl (fun _ => rfl) ?_
      exact dp_s0 hF (i := .lreturn) rfl (fun _ => rfl)
    refine dp_s1 hF (i := .ldc2_w 435) rfl (fun _ => rfl) ?_
    exact dp_s0 hF (i := .lreturn) rfl (fun _ => rfl)
  exact rfl
set_option maxRecDepth 20000 in
theorem D_X12_moved_106_eq (xs : Nat → Int32) (xl d : Nat) (v1 : Int64) (v3 : Int32) (v4 : Int32) (v5 : Int32) (M : dp_M) : D_X12_moved_106 xs xl d v1 v3 v4 v5 M = if v3 ≤ (2 : Int32) then (dp_bi (dp_den true xs xl d 378 [.ref 114, .long v1, .int v3] M) (fun r2 M1 => D_X12_moved_151 xs xl d v1 v3 v4 v5 (v1 &&& (((7 : Int64) <<< (Int32.toInt64 ((3 : Int32) * ((((4 : Int32) * v3) + r2) - (1 : Int32))) &&& 63)) ^^^ (-1 : Int64))) M1)) else (D_X12_moved_151 xs xl d v1 v3 v4 v5 (v1 &&& (((1 : Int64) <<< (Int32.toInt64 ((36 : Int32) + v5) &&& 63)) ^^^ (-1 : Int64))) M) := by
  have hF := dp_den_grow (md := true) (xs := xs) (xl := xl) d
  unfold D_X12_moved_106
  refine dp_s1 hF (i := .iload_n 3) rfl (fun _ => rfl) ?_
  refine dp_s1 hF (i := .iconst 2) rfl (fun _ => rfl) ?_
  refine dp_s2 hF (i := .if_icmp .le 19) (a := (127, [some (.ref 114), some (.long v1), none, some (.int v3), some (.int v4), some (.int v5), none, none], [], M)) (b := (111, [some (.ref 114), some (.long v1), none, some (.int v3), some (.int v4), some (.int v5), none, none], [], M)) rfl (fun _ => rfl) ?_ ?_
  · refine dp_s1 hF (i := .lload_n 1) rfl (fun _ => rfl) ?_
    refine dp_s1 hF (i := .ldc2_w 477) rfl (fun _ => rfl) ?_
    refine dp_s1 hF (i := .iconst 3) rfl (fun _ => rfl) ?_
    refine dp_s1 hF (i := .iconst 4) rfl (fun _ => rfl) ?_
    refine dp_s1 hF (i := .iload_n 3) rfl (fun _ => rfl) ?_
    refine dp_s1 hF (i := .imul) rfl (fun _ => rfl) ?_
    refine dp_s1 hF (i := .aload_n 0) rfl (fun _ => rfl) ?_
    refine dp_s1 hF (i := .lload_n 1) rfl (fun _ => rfl) ?_
    refine dp_s1 hF (i := .iload_n 3) rfl (fun _ => rfl) ?_
    refine dp_si (mj := dp_m_X12_topOf) (i := .invokevirtual 488) rfl rfl (Or.inl rfl) rfl (fun _ => rfl) (fun r2 M1 => ?_)
    refine dp_s1 hF (i := .iadd) rfl (fun _ => rfl) ?_
    refine dp_s1 hF (i := .iconst 1) rfl (fun _ => rfl) ?_
    refine dp_s1 hF (i := .isub) rfl (fun _ => rfl) ?_
    refine dp_s1 hF (i := .imul) rfl (fun _ => rfl) ?_
    refine dp_s1 hF (i := .lshl) rfl (fun _ => rfl) ?_
    refine dp_s1 hF (i := .ldc2_w 435) rfl (fun _ => rfl) ?_
    refine dp_s1 hF (i := .lxor) rfl (fun _ => rfl) ?_
    refine dp_s1 hF (i := .land) rfl (fun _ => rfl) ?_
    exact rfl
  refine dp_s1 hF (i := .lload_n 1) rfl (fun _ => rfl) ?_
  refine dp_s1 hF (i := .lconst 1) rfl (fun _ => rfl) ?_
  refine dp_s1 hF (i := .bipush 36) rfl (fun _ => rfl) ?_
  refine dp_s1 hF (i := .iload 5) rfl (fun _ => rfl) ?_
  refine dp_s1 hF (i := .iadd) rfl (fun _ => rfl) ?_
  refine dp_s1 hF (i := .lshl) rfl (fun _ => rfl) ?_
  refine dp_s1 hF (i := .ldc2_w 435) rfl (fun _ => rfl) ?_
  refine dp_s1 hF (i := .lxor) rfl (fun _ => rfl) ?_
  refine dp_s1 hF (i := .land) rfl (fun _ => rfl) ?_
  refine dp_s1 hF (i := .goto 27) rfl (fun _ => rfl) ?_
  exact rfl
set_option maxRecDepth 20000 in
theorem D_X12_moved_151_eq (xs : Nat → Int32) (xl d : Nat) (v1 : Int64) (v3 : Int32) (v4 : Int32) (v5 : Int32) (vs0 : Int64) (M : dp_M) : D_X12_moved_151 xs xl d v1 v3 v4 v5 vs0 M = if v4 = (4 : Int32) then (some (.inl (some (.long (vs0 ||| ((1 : Int64) <<< (Int32.toInt64 ((36 : Int32) + v5) &&& 63))))), M)) else (if v4 = (3 : Int32) then (some (.inl (some (.long (vs0 ||| ((1 : Int64) <<< (Int32.toInt64 ((40 : Int32) + v5) &&& 63))))), M)) else (dp_bi (dp_den true xs xl d 378 [.ref 114, .long v1, .int v4] M) (fun r2 M1 => some (.inl (some (.long (vs0 ||| ((Int32.toInt64 (v5 + (1 : Int32))) <<< (Int32.toInt64 ((3 : Int32) * (((4 : Int32) * v4) + r2)) &&& 63))))), M1)))) := by
  have hF := dp_den_grow (md := true) (xs := xs) (xl := xl) d
  unfold D_X12_moved_151
  refine dp_s1 hF (i := .lstore 6) rfl (fun _ => rfl) ?_
  refine dp_s1 hF (i := .iload 4) rfl (fun _ => rfl) ?_
  refine dp_s1 hF (i := .iconst 4) rfl (fun _ => rfl) ?_
  refine dp_s2 hF (i := .if_icmp .ne 16) (a := (159, [some (.ref 114), some (.long v1), none, some (.int v3), some (.int v4), some (.int v5), some (.long vs0), none], [], M)) (b := (172, [some (.ref 114), some (.long v1), none, some (.int v3), some (.int v4), some (.int v5), some (.long vs0), none], [], M)) rfl (fun _ => rfl) ?_ ?_
  · refine dp_s1 hF (i := .lload 6) rfl (fun _ => rfl) ?_
    refine dp_s1 hF (i := .lconst 1) rfl (fun _ => rfl) ?_
    refine dp_s1 hF (i := .bipush 36) rfl (fun _ => rfl) ?_
    refine dp_s1 hF (i := .iload 5) rfl (fun _ => rfl) ?_
    refine dp_s1 hF (i := .iadd) rfl (fun _ => rfl) ?_
    refine dp_s1 hF (i := .lshl) rfl (fun _ => rfl) ?_
    refine dp_s1 hF (i := .lor) rfl (fun _ => rfl) ?_
    refine dp_s1 hF (i := .goto 45) rfl (fun _ => rfl) ?_
    exact dp_s0 hF (i := .lreturn) rfl (fun _ => rfl)
  refine dp_s1 hF (i := .iload 4) rfl (fun _ => rfl) ?_
  refine dp_s1 hF (i := .iconst 3) rfl (fun _ => rfl) ?_
  refine dp_s2 hF (i := .if_icmp .ne 16) (a := (178, [some (.ref 114), some (.long v1), none, some (.int v3), some (.int v4), some (.int v5), some (.long vs0), none], [], M)) (b := (191, [some (.ref 114), some (.long v1), none, some (.int v3), some (.int v4), some (.int v5), some (.long vs0), none], [], M)) rfl (fun _ => rfl) ?_ ?_
  · refine dp_s1 hF (i := .lload 6) rfl (fun _ => rfl) ?_
    refine dp_s1 hF (i := .lconst 1) rfl (fun _ => rfl) ?_
    refine dp_s1 hF (i := .bipush 40) rfl (fun _ => rfl) ?_
    refine dp_s1 hF (i := .iload 5) rfl (fun _ => rfl) ?_
    refine dp_s1 hF (i := .iadd) rfl (fun _ => rfl) ?_
    refine dp_s1 hF (i := .lshl) rfl (fun _ => rfl) ?_
    refine dp_s1 hF (i := .lor) rfl (fun _ => rfl) ?_
    refine dp_s1 hF (i := .goto 26) rfl (fun _ => rfl) ?_
    exact dp_s0 hF (i := .lreturn) rfl (fun _ => rfl)
  refine dp_s1 hF (i := .lload 6) rfl (fun _ => rfl) ?_
  refine dp_s1 hF (i := .iload 5) rfl (fun _ => rfl) ?_
  refine dp_s1 hF (i := .iconst 1) rfl (fun _ => rfl) ?_
  refine dp_s1 hF (i := .iadd) rfl (fun _ => rfl) ?_
  refine dp_s1 hF (i := .i2l) rfl (fun _ => rfl) ?_
  refine dp_s1 hF (i := .iconst 3) rfl (fun _ => rfl) ?_
  refine dp_s1 hF (i := .iconst 4) rfl (fun _ => rfl) ?_
  refine dp_s1 hF (i := .iload 4) rfl (fun _ => rfl) ?_
  refine dp_s1 hF (i := .imul) rfl (fun _ => rfl) ?_
  refine dp_s1 hF (i := .aload_n 0) rfl (fun _ => rfl) ?_
  refine dp_s1 hF (i := .lload_n 1) rfl (fun _ => rfl) ?_
  refine dp_s1 hF (i := .iload 4) rfl (fun _ => rfl) ?_
  refine dp_si (mj := dp_m_X12_topOf) (i := .invokevirtual 488) rfl rfl (Or.inl rfl) rfl (fun _ => rfl) (fun r2 M1 => ?_)
  refine dp_s1 hF (i := .iadd) rfl (fun _ => rfl) ?_
  refine dp_s1 hF (i := .imul) rfl (fun _ => rfl) ?_
  refine dp_s1 hF (i := .lshl) rfl (fun _ => rfl) ?_
  refine dp_s1 hF (i := .lor) rfl (fun _ => rfl) ?_
  exact dp_s0 hF (i := .lreturn) rfl (fun _ => rfl)
noncomputable def D_X12_isEnd_0 (xs : Nat → Int32) (xl d : Nat) (v1 : Int64) (M : dp_M) : Option dp_Res := dp_lim true xs xl (dp_den true xs xl d) dp_m_X12_isEnd (0, [some (.ref 114), some (.long v1), none, none, none], [], M)
noncomputable def D_X12_isEnd_5 (xs : Nat → Int32) (xl d : Nat) (v1 : Int64) (v3 : Int32) (v4 : Int32) (M : dp_M) : Option dp_Res := dp_lim true xs xl (dp_den true xs xl d) dp_m_X12_isEnd (5, [some (.ref 114), some (.long v1), none, some (.int v3), some (.int v4)], [], M)
theorem D_X12_isEnd_0_den (xs : Nat → Int32) (xl d : Nat) (a0 : Int64) (M : dp_M) : dp_den true xs xl (d + 1) 384 [.ref 114, .long a0] M = D_X12_isEnd_0 xs xl d a0 M := rfl
set_option maxRecDepth 20000 in
theorem D_X12_isEnd_0_eq (xs : Nat → Int32) (xl d : Nat) (v1 : Int64) (M : dp_M) : D_X12_isEnd_0 xs xl d v1 M = dp_w (1 : Int32) (fun y1 => dp_w (0 : Int32) (fun y2 => D_X12_isEnd_5 xs xl d v1 y1 y2 M)) := by
  have hF := dp_den_grow (md := true) (xs := xs) (xl := xl) d
  unfold D_X12_isEnd_0
  refine dp_s1 hF (i := .iconst 1) rfl (fun _ => rfl) ?_
  refine dp_s1w (1 : Int32) (fun (y1 : Int32) => (2, [some (.ref 114), some (.long v1), none, some (.int y1), none], [], M)) hF (i := .istore_n 3) rfl (fun _ => rfl) (fun y1 => ?_)
  refine dp_s1 hF (i := .iconst 0) rfl (fun _ => rfl) ?_
  refine dp_s1w (0 : Int32) (fun (y2 : Int32) => (5, [some (.ref 114), some (.long v1), none, some (.int y1), some (.int y2)], [], M)) hF (i := .istore 4) rfl (fun _ => rfl) (fun y2 => ?_)
  exact rfl
set_option maxRecDepth 20000 in
theorem D_X12_isEnd_5_eq (xs : Nat → Int32) (xl d : Nat) (v1 : Int64) (v3 : Int32) (v4 : Int32) (M : dp_M) : D_X12_isEnd_5 xs xl d v1 v3 v4 M = if (dp_I M 114 23) ≤ v4 then (if v3 = 0 ∨ v3 = 1 then some (.inl (some (.int v3)), M) else none) else (if v3 = 0 then (dp_w (0 : Int32) (fun y1 => dp_w (v4 + (1 : Int32)) (fun y2 => D_X12_isEnd_5 xs xl d v1 y1 y2 M))) else (dp_bi (dp_den true xs xl d 379 [.long v1, .int v4] M) (fun r4 M3 => if r4 = 0 then (if v4 < 0 ∨ 4 ≤ Int32.toNatClampNeg v4 then none else (if (dp_I M3 130 (Int32.toNatClampNeg v4)) < 0 ∨ 100 ≤ Int32.toNatClampNeg (dp_I M3 130 (Int32.toNatClampNeg v4)) then none else (if (dp_I M3 115 (Int32.toNatClampNeg (dp_I M3 130 (Int32.toNatClampNeg v4)))) = 0 then (dp_bi (dp_den true xs xl d 380 [.long v1] M3) (fun r6 M5 => if ((r6 >>> (v4 &&& 31)) &&& (1 : Int32)) = (1 : Int32) then (dp_w (1 : Int32) (fun y7 => dp_w (v4 + (1 : Int32)) (fun y8 => D_X12_isEnd_5 xs xl d v1 y7 y8 M5))) else (dp_w (0 : Int32) (fun y9 => dp_w (v4 + (1 : Int32)) (fun y10 => D_X12_isEnd_5 xs xl d v1 y9 y10 M5))))) else (dp_w (1 : Int32) (fun y11 => dp_w (v4 + (1 : Int32)) (fun y12 => D_X12_isEnd_5 xs xl d v1 y11 y12 M3)))))) else (dp_w (0 : Int32) (fun y13 => dp_w (v4 + (1 : Int32)) (fun y14 => D_X12_isEnd_5 xs xl d v1 y13 y14 M3)))))) := by
  have hF := dp_den_grow (md := true) (xs := xs) (xl := xl) d
  unfold D_X12_isEnd_5
  refine dp_s1 hF (i := .iload 4) rfl (fun _ => rfl) ?_
  refine dp_s1 hF (i := .aload_n 0) rfl (fun _ => rfl) ?_
  refine dp_s1 hF (i := .getfield 485) rfl (fun _ => rfl) ?_
  refine dp_s2 hF (i := .if_icmp .ge 56) (a := (67, [some (.ref 114), some (.long v1), none, some (.int v3), some (.int v4)], [], M)) (b := (14, [some (.ref 114), some (.long v1), none, some (.int v3), some (.int v4)], [], M)) rfl (fun _ => rfl) ?_ ?_
  · refine dp_s1 hF (i := .iload_n 3) rfl (fun _ => rfl) ?_
    exact dp_s0 hF (i := .ireturn) rfl (fun _ => rfl)
  refine dp_s1 hF (i := .iload_n 3) rfl (fun _ => rfl) ?_
  refine dp_s2 hF (i := .ifCond .eq 44) (a := (59, [some (.ref 114), some (.long v1), none, some (.int v3), some (.int v4)], [], M)) (b := (18, [some (.ref 114), some (.long v1), none, some (.int v3), some (.int v4)], [], M)) rfl (fun _ => rfl) ?_ ?_
  · refine dp_s1 hF (i := .iconst 0) rfl (fun _ => rfl) ?_
    refine dp_s1w (0 : Int32) (fun (y1 : Int32) => (61, [some (.ref 114), some (.long v1), none, some (.int y1), some (.int v4)], [], M)) hF (i := .istore_n 3) rfl (fun _ => rfl) (fun y1 => ?_)
    refine dp_s1w (v4 + (1 : Int32)) (fun (y2 : Int32) => (64, [some (.ref 114), some (.long v1), none, some (.int y1), some (.int y2)], [], M)) hF (i := .iinc 4 1) rfl (fun _ => rfl) (fun y2 => ?_)
    refine dp_s1 hF (i := .goto (-59)) rfl (fun _ => rfl) ?_
    exact rfl
  refine dp_s1 hF (i := .lload_n 1) rfl (fun _ => rfl) ?_
  refine dp_s1 hF (i := .iload 4) rfl (fun _ => rfl) ?_
  refine dp_si (mj := dp_m_X12_isAside) (i := .invokestatic 492) rfl rfl (Or.inr rfl) rfl (fun _ => rfl) (fun r4 M3 => ?_)
  refine dp_s2 hF (i := .ifCond .ne 35) (a := (27, [some (.ref 114), some (.long v1), none, some (.int v3), some (.int v4)], [], M3)) (b := (59, [some (.ref 114), some (.long v1), none, some (.int v3), some (.int v4)], [], M3)) rfl (fun _ => rfl) ?_ ?_
  · refine dp_s1 hF (i := .aload_n 0) rfl (fun _ => rfl) ?_
    refine dp_s1 hF (i := .getfield 13) rfl (fun _ => rfl) ?_
    refine dp_s1 hF (i := .aload_n 0) rfl (fun _ => rfl) ?_
    refine dp_s1 hF (i := .getfield 61) rfl (fun _ => rfl) ?_
    refine dp_s1 hF (i := .iload 4) rfl (fun _ => rfl) ?_
    refine dp_s3 hF (i := .iaload) rfl (fun _ => rfl) ?_
    refine dp_s3 hF (i := .iaload) rfl (fun _ => rfl) ?_
    refine dp_s2 hF (i := .ifCond .ne 16) (a := (42, [some (.ref 114), some (.long v1), none, some (.int v3), some (.int v4)], [], M3)) (b := (55, [some (.ref 114), some (.long v1), none, some (.int v3), some (.int v4)], [], M3)) rfl (fun _ => rfl) ?_ ?_
    · refine dp_s1 hF (i := .lload_n 1) rfl (fun _ => rfl) ?_
      refine dp_si (mj := dp_m_X12_ashoreIn) (i := .invokestatic 499) rfl rfl (Or.inl rfl) rfl (fun _ => rfl) (fun r6 M5 => ?_)
      refine dp_s1 hF (i := .iload 4) rfl (fun _ => rfl) ?_
      refine dp_s1 hF (i := .ishr) rfl (fun _ => rfl) ?_
      refine dp_s1 hF (i := .iconst 1) rfl (fun _ => rfl) ?_
      refine dp_s1 hF (i := .iand) rfl (fun _ => rfl) ?_
      refine dp_s1 hF (i := .iconst 1) rfl (fun _ => rfl) ?_
      refine dp_s2 hF (i := .if_icmp .ne 7) (a := (55, [some (.ref 114), some (.long v1), none, some (.int v3), some (.int v4)], [], M5)) (b := (59, [some (.ref 114), some (.long v1), none, some (.int v3), some (.int v4)], [], M5)) rfl (fun _ => rfl) ?_ ?_
      · refine dp_s1 hF (i := .iconst 1) rfl (fun _ => rfl) ?_
        refine dp_s1 hF (i := .goto 4) rfl (fun _ => rfl) ?_
        refine dp_s1w (1 : Int32) (fun (y7 : Int32) => (61, [some (.ref 114), some (.long v1), none, some (.int y7), some (.int v4)], [], M5)) hF (i := .istore_n 3) rfl (fun _ => rfl) (fun y7 => ?_)
        refine dp_s1w (v4 + (1 : Int32)) (fun (y8 : Int32) => (64, [some (.ref 114), some (.long v1), none, some (.int y7), some (.int y8)], [], M5)) hF (i := .iinc 4 1) rfl (fun _ => rfl) (fun y8 => ?_)
        refine dp_s1 hF (i := .goto (-59)) rfl (fun _ => rfl) ?_
        exact rfl
      refine dp_s1 hF (i := .iconst 0) rfl (fun _ => rfl) ?_
      refine dp_s1w (0 : Int32) (fun (y9 : Int32) => (61, [some (.ref 114), some (.long v1), none, some (.int y9), some (.int v4)], [], M5)) hF (i := .istore_n 3) rfl (fun _ => rfl) (fun y9 => ?_)
      refine dp_s1w (v4 + (1 : Int32)) (fun (y10 : Int32) => (64, [some (.ref 114), some (.long v1), none, some (.int y9), some (.int y10)], [], M5)) hF (i := .iinc 4 1) rfl (fun _ => rfl) (fun y10 => ?_)
      refine dp_s1 hF (i := .goto (-59)) rfl (fun _ => rfl) ?_
      exact rfl
    refine dp_s1 hF (i := .iconst 1) rfl (fun _ => rfl) ?_
    refine dp_s1 hF (i := .goto 4) rfl (fun _ => rfl) ?_
    refine dp_s1w (1 : Int32) (fun (y11 : Int32) => (61, [some (.ref 114), some (.long v1), none, some (.int y11), some (.int v4)], [], M3)) hF (i := .istore_n 3) rfl (fun _ => rfl) (fun y11 => ?_)
    refine dp_s1w (v4 + (1 : Int32)) (fun (y12 : Int32) => (64, [some (.ref 114), some (.long v1), none, some (.int y11), some (.int y12)], [], M3)) hF (i := .iinc 4 1) rfl (fun _ => rfl) (fun y12 => ?_)
    refine dp_s1 hF (i := .goto (-59)) rfl (fun _ => rfl) ?_
    exact rfl
  refine dp_s1 hF (i := .iconst 0) rfl (fun _ => rfl) ?_
  refine dp_s1w (0 : Int32) (fun (y13 : Int32) => (61, [some (.ref 114), some (.long v1), none, some (.int y13), some (.int v4)], [], M3)) hF (i := .istore_n 3) rfl (fun _ => rfl) (fun y13 => ?_)
  refine dp_s1w (v4 + (1 : Int32)) (fun (y14 : Int32) => (64, [some (.ref 114), some (.long v1), none, some (.int y13), some (.int y14)], [], M3)) hF (i := .iinc 4 1) rfl (fun _ => rfl) (fun y14 => ?_)
  refine dp_s1 hF (i := .goto (-59)) rfl (fun _ => rfl) ?_
  exact rfl
noncomputable def D_X12_comes_0 (xs : Nat → Int32) (xl d : Nat) (v1 : Int64) (v3 : Int32) (v4 : Int32) (M : dp_M) : Option dp_Res := dp_lim true xs xl (dp_den true xs xl d) dp_m_X12_comes (0, [some (.ref 114), some (.long v1), none, some (.int v3), some (.int v4), none], [], M)
noncomputable def D_X12_comes_15 (xs : Nat → Int32) (xl d : Nat) (v1 : Int64) (v3 : Int32) (v4 : Int32) (v5 : Int32) (M : dp_M) : Option dp_Res := dp_lim true xs xl (dp_den true xs xl d) dp_m_X12_comes (15, [some (.ref 114), some (.long v1), none, some (.int v3), some (.int v4), some (.int v5)], [], M)
theorem D_X12_comes_0_den (xs : Nat → Int32) (xl d : Nat) (a0 : Int64) (a1 : Int32) (a2 : Int32) (M : dp_M) : dp_den true xs xl (d + 1) 385 [.ref 114, .long a0, .int a1, .int a2] M = D_X12_comes_0 xs xl d a0 a1 a2 M := rfl
set_option maxRecDepth 20000 in
theorem D_X12_comes_0_eq (xs : Nat → Int32) (xl d : Nat) (v1 : Int64) (v3 : Int32) (v4 : Int32) (M : dp_M) : D_X12_comes_0 xs xl d v1 v3 v4 M = dp_w (Int64.toInt32 (((Int64.toUInt64 (v1 * (-7046029254386353131 : Int64)) >>> ((Int32.toInt64 (40 : Int32)).toUInt64 &&& Int64.toUInt64 63)).toInt64) &&& (4095 : Int64))) (fun y1 => D_X12_comes_15 xs xl d v1 v3 v4 y1 M) := by
  have hF := dp_den_grow (md := true) (xs := xs) (xl := xl) d
  unfold D_X12_comes_0
  refine dp_s1 hF (i := .lload_n 1) rfl (fun _ => rfl) ?_
  refine dp_s1 hF (i := .ldc2_w 503) rfl (fun _ => rfl) ?_
  refine dp_s1 hF (i := .lmul) rfl (fun _ => rfl) ?_
  refine dp_s1 hF (i := .bipush 40) rfl (fun _ => rfl) ?_
  refine dp_s1 hF (i := .lushr) rfl (fun _ => rfl) ?_
  refine dp_s1 hF (i := .ldc2_w 505) rfl (fun _ => rfl) ?_
  refine dp_s1 hF (i := .land) rfl (fun _ => rfl) ?_
  refine dp_s1 hF (i := .l2i) rfl (fun _ => rfl) ?_
  refine dp_s1w (Int64.toInt32 (((Int64.toUInt64 (v1 * (-7046029254386353131 : Int64)) >>> ((Int32.toInt64 (40 : Int32)).toUInt64 &&& Int64.toUInt64 63)).toInt64) &&& (4095 : Int64))) (fun (y1 : Int32) => (15, [some (.ref 114), some (.long v1), none, some (.int v3), some (.int v4), some (.int y1)], [], M)) hF (i := .istore 5) rfl (fun _ => rfl) (fun y1 => ?_)
  exact rfl
set_option maxRecDepth 20000 in
theorem D_X12_comes_15_eq (xs : Nat → Int32) (xl d : Nat) (v1 : Int64) (v3 : Int32) (v4 : Int32) (v5 : Int32) (M : dp_M) : D_X12_comes_15 xs xl d v1 v3 v4 v5 M = if v5 < 0 ∨ 4096 ≤ Int32.toNatClampNeg v5 then none else (if (dp_I M 129 (Int32.toNatClampNeg v5)) ≤ 0 then (if (dp_I M 114 19) < 0 ∨ 2048 ≤ Int32.toNatClampNeg (dp_I M 114 19) then none else dp_w (dp_setJ M 126 (Int32.toNatClampNeg (dp_I M 114 19)) v1) (fun M1 => if (dp_I M1 114 19) < 0 ∨ 2048 ≤ Int32.toNatClampNeg (dp_I M1 114 19) then none else dp_w (dp_setI M1 127 (Int32.toNatClampNeg (dp_I M1 114 19)) v3) (fun M2 => if (dp_I M2 114 19) < 0 ∨ 2048 ≤ Int32.toNatClampNeg (dp_I M2 114 19) then none else dp_w (dp_setI M2 128 (Int32.toNatClampNeg (dp_I M2 114 19)) v4) (fun M3 => dp_w (dp_setI M3 114 19 ((dp_I M3 114 19) + (1 : Int32))) (fun M4 => if v5 < 0 ∨ 4096 ≤ Int32.toNatClampNeg v5 then none else dp_w (dp_setI M4 129 (Int32.toNatClampNeg v5) (dp_I M4 114 19)) (fun M5 => some (.inl none, M5))))))) else (if v5 < 0 ∨ 4096 ≤ Int32.toNatClampNeg v5 then none else (if ((dp_I M 129 (Int32.toNatClampNeg v5)) - (1 : Int32)) < 0 ∨ 2048 ≤ Int32.toNatClampNeg ((dp_I M 129 (Int32.toNatClampNeg v5)) - (1 : Int32)) then none else (if (lg_cmp (dp_J M 126 (Int32.toNatClampNeg ((dp_I M 129 (Int32.toNatClampNeg v5)) - (1 : Int32)))) v1) = 0 then (some (.inl none, M)) else (dp_w ((v5 + (1 : Int32)) &&& (4095 : Int32)) (fun y6 => D_X12_comes_15 xs xl d v1 v3 v4 y6 M)))))) := by
  have hF := dp_den_grow (md := true) (xs := xs) (xl := xl) d
  unfold D_X12_comes_15
  refine dp_s1 hF (i := .aload_n 0) rfl (fun _ => rfl) ?_
  refine dp_s1 hF (i := .getfield 58) rfl (fun _ => rfl) ?_
  refine dp_s1 hF (i := .iload 5) rfl (fun _ => rfl) ?_
  refine dp_s3 hF (i := .iaload) rfl (fun _ => rfl) ?_
  refine dp_s2 hF (i := .ifCond .le 36) (a := (58, [some (.ref 114), some (.long v1), none, some (.int v3), some (.int v4), some (.int v5)], [], M)) (b := (25, [some (.ref 114), some (.long v1), none, some (.int v3), some (.int v4), some (.int v5)], [], M)) rfl (fun _ => rfl) ?_ ?_
  · refine dp_s1 hF (i := .aload_n 0) rfl (fun _ => rfl) ?_
    refine dp_s1 hF (i := .getfield 48) rfl (fun _ => rfl) ?_
    refine dp_s1 hF (i := .aload_n 0) rfl (fun _ => rfl) ?_
    refine dp_s1 hF (i := .getfield 507) rfl (fun _ => rfl) ?_
    refine dp_s1 hF (i := .lload_n 1) rfl (fun _ => rfl) ?_
    refine dp_s3w (dp_setJ M 126 (Int32.toNatClampNeg (dp_I M 114 19)) v1) (fun (M1 : dp_M) => (68, [some (.ref 114), some (.long v1), none, some (.int v3), some (.int v4), some (.int v5)], [], M1)) hF (i := .lastore) rfl (fun _ => rfl) (fun M1 => ?_)
    refine dp_s1 hF (i := .aload_n 0) rfl (fun _ => rfl) ?_
    refine dp_s1 hF (i := .getfield 52) rfl (fun _ => rfl) ?_
    refine dp_s1 hF (i := .aload_n 0) rfl (fun _ => rfl) ?_
    refine dp_s1 hF (i := .getfield 507) rfl (fun _ => rfl) ?_
    refine dp_s1 hF (i := .iload_n 3) rfl (fun _ => rfl) ?_
    refine dp_s3w (dp_setI M1 127 (Int32.toNatClampNeg (dp_I M1 114 19)) v3) (fun (M2 : dp_M) => (78, [some (.ref 114), some (.long v1), none, some (.int v3), some (.int v4), some (.int v5)], [], M2)) hF (i := .iastore) rfl (fun _ => rfl) (fun M2 => ?_)
    refine dp_s1 hF (i := .aload_n 0) rfl (fun _ => rfl) ?_
    refine dp_s1 hF (i := .getfield 55) rfl (fun _ => rfl) ?_
    refine dp_s1 hF (i := .aload_n 0) rfl (fun _ => rfl) ?_
    refine dp_s1 hF (i := .getfield 507) rfl (fun _ => rfl) ?_
    refine dp_s1 hF (i := .iload 4) rfl (fun _ => rfl) ?_
    refine dp_s3w (dp_setI M2 128 (Int32.toNatClampNeg (dp_I M2 114 19)) v4) (fun (M3 : dp_M) => (89, [some (.ref 114), some (.long v1), none, some (.int v3), some (.int v4), some (.int v5)], [], M3)) hF (i := .iastore) rfl (fun _ => rfl) (fun M3 => ?_)
    refine dp_s1 hF (i := .aload_n 0) rfl (fun _ => rfl) ?_
    refine dp_s1 hF (i := .dup) rfl (fun _ => rfl) ?_
    refine dp_s1 hF (i := .getfield 507) rfl (fun _ => rfl) ?_
    refine dp_s1 hF (i := .iconst 1) rfl (fun _ => rfl) ?_
    refine dp_s1 hF (i := .iadd) rfl (fun _ => rfl) ?_
    refine dp_s1w (dp_setI M3 114 19 ((dp_I M3 114 19) + (1 : Int32))) (fun (M4 : dp_M) => (99, [some (.ref 114), some (.long v1), none, some (.int v3), some (.int v4), some (.int v5)], [], M4)) hF (i := .putfield 507) rfl (fun _ => rfl) (fun M4 => ?_)
    refine dp_s1 hF (i := .aload_n 0) rfl (fun _ => rfl) ?_
    refine dp_s1 hF (i := .getfield 58) rfl (fun _ => rfl) ?_
    refine dp_s1 hF (i := .iload 5) rfl (fun _ => rfl) ?_
    refine dp_s1 hF (i := .aload_n 0) rfl (fun _ => rfl) ?_
    refine dp_s1 hF (i := .getfield 507) rfl (fun _ => rfl) ?_
    refine dp_s3w (dp_setI M4 129 (Int32.toNatClampNeg v5) (dp_I M4 114 19)) (fun (M5 : dp_M) => (110, [some (.ref 114), some (.long v1), none, some (.int v3), some (.int v4), some (.int v5)], [], M5)) hF (i := .iastore) rfl (fun _ => rfl) (fun M5 => ?_)
    exact dp_s0 hF (i := .return_) rfl (fun _ => rfl)
  refine dp_s1 hF (i := .aload_n 0) rfl (fun _ => rfl) ?_
  refine dp_s1 hF (i := .getfield 48) rfl (fun _ => rfl) ?_
  refine dp_s1 hF (i := .aload_n 0) rfl (fun _ => rfl) ?_
  refine dp_s1 hF (i := .getfield 58) rfl (fun _ => rfl) ?_
  refine dp_s1 hF (i := .iload 5) rfl (fun _ => rfl) ?_
  refine dp_s3 hF (i := .iaload) rfl (fun _ => rfl) ?_
  refine dp_s1 hF (i := .iconst 1) rfl (fun _ => rfl) ?_
  refine dp_s1 hF (i := .isub) rfl (fun _ => rfl) ?_
  refine dp_s3 hF (i := .laload) rfl (fun _ => rfl) ?_
  refine dp_s1 hF (i := .lload_n 1) rfl (fun _ => rfl) ?_
  refine dp_s1 hF (i := .lcmp) rfl (fun _ => rfl) ?_
  refine dp_s2 hF (i := .ifCond .ne 4) (a := (44, [some (.ref 114), some (.long v1), none, some (.int v3), some (.int v4), some (.int v5)], [], M)) (b := (45, [some (.ref 114), some (.long v1), none, some (.int v3), some (.int v4), some (.int v5)], [], M)) rfl (fun _ => rfl) ?_ ?_
  · exact dp_s0 hF (i := .return_) rfl (fun _ => rfl)
  refine dp_s1 hF (i := .iload 5) rfl (fun _ => rfl) ?_
  refine dp_s1 hF (i := .iconst 1) rfl (fun _ => rfl) ?_
  refine dp_s1 hF (i := .iadd) rfl (fun _ => rfl) ?_
  refine dp_s1 hF (i := .sipush 4095) rfl (fun _ => rfl) ?_
  refine dp_s1 hF (i := .iand) rfl (fun _ => rfl) ?_
  refine dp_s1w ((v5 + (1 : Int32)) &&& (4095 : Int32)) (fun (y6 : Int32) => (55, [some (.ref 114), some (.long v1), none, some (.int v3), some (.int v4), some (.int y6)], [], M)) hF (i := .istore 5) rfl (fun _ => rfl) (fun y6 => ?_)
  refine dp_s1 hF (i := .goto (-40)) rfl (fun _ => rfl) ?_
  exact rfl
noncomputable def D_X12_search_0 (xs : Nat → Int32) (xl d : Nat) (v1 : Int32) (M : dp_M) : Option dp_Res := dp_lim true xs xl (dp_den true xs xl d) dp_m_X12_search (0, [some (.ref 114), some (.int v1), none, none, none, none, none], [], M)
noncomputable def D_X12_search_2 (xs : Nat → Int32) (xl d : Nat) (v1 : Int32) (v2 : Int32) (M : dp_M) : Option dp_Res := dp_lim true xs xl (dp_den true xs xl d) dp_m_X12_search (2, [some (.ref 114), some (.int v1), some (.int v2), none, none, none, none], [], M)
noncomputable def D_X12_search_40 (xs : Nat → Int32) (xl d : Nat) (v1 : Int32) (v2 : Int32) (M : dp_M) : Option dp_Res := dp_lim true xs xl (dp_den true xs xl d) dp_m_X12_search (40, [some (.ref 114), some (.int v1), some (.int v2), none, none, none, none], [], M)
noncomputable def D_X12_search_75 (xs : Nat → Int32) (xl d : Nat) (v1 : Int32) (v2 : Int32) (v3 : Int32) (M : dp_M) : Option dp_Res := dp_lim true xs xl (dp_den true xs xl d) dp_m_X12_search (75, [some (.ref 114), some (.int v1), some (.int v2), some (.int v3), none, none, none], [], M)
noncomputable def D_X12_search_40_a (xs : Nat → Int32) (xl d : Nat) (v1 : Int32) (v2 : Int32) (v3 : Int32) (M : dp_M) : Option dp_Res := dp_lim true xs xl (dp_den true xs xl d) dp_m_X12_search (40, [some (.ref 114), some (.int v1), some (.int v2), some (.int v3), none, none, none], [], M)
noncomputable def D_X12_search_84 (xs : Nat → Int32) (xl d : Nat) (v1 : Int32) (v2 : Int32) (v3 : Int32) (v4 : Int32) (M : dp_M) : Option dp_Res := dp_lim true xs xl (dp_den true xs xl d) dp_m_X12_search (84, [some (.ref 114), some (.int v1), some (.int v2), some (.int v3), some (.int v4), none, none], [], M)
noncomputable def D_X12_search_75_a (xs : Nat → Int32) (xl d : Nat) (v1 : Int32) (v2 : Int32) (v3 : Int32) (v4 : Int32) (M : dp_M) : Option dp_Res := dp_lim true xs xl (dp_den true xs xl d) dp_m_X12_search (75, [some (.ref 114), some (.int v1), some (.int v2), some (.int v3), some (.int v4), none, none], [], M)
noncomputable def D_X12_search_84_a (xs : Nat → Int32) (xl d : Nat) (v1 : Int32) (v2 : Int32) (v3 : Int32) (v4 : Int32) (v5 : Int64) (M : dp_M) : Option dp_Res := dp_lim true xs xl (dp_den true xs xl d) dp_m_X12_search (84, [some (.ref 114), some (.int v1), some (.int v2), some (.int v3), some (.int v4), some (.long v5), none], [], M)
noncomputable def D_X12_search_40_b (xs : Nat → Int32) (xl d : Nat) (v1 : Int32) (v2 : Int32) (v3 : Int32) (v4 : Int32) (M : dp_M) : Option dp_Res := dp_lim true xs xl (dp_den true xs xl d) dp_m_X12_search (40, [some (.ref 114), some (.int v1), some (.int v2), some (.int v3), some (.int v4), none, none], [], M)
noncomputable def D_X12_search_75_b (xs : Nat → Int32) (xl d : Nat) (v1 : Int32) (v2 : Int32) (v3 : Int32) (v4 : Int32) (v5 : Int64) (M : dp_M) : Option dp_Res := dp_lim true xs xl (dp_den true xs xl d) dp_m_X12_search (75, [some (.ref 114), some (.int v1), some (.int v2), some (.int v3), some (.int v4), some (.long v5), none], [], M)
noncomputable def D_X12_search_40_c (xs : Nat → Int32) (xl d : Nat) (v1 : Int32) (v2 : Int32) (v3 : Int32) (v4 : Int32) (v5 : Int64) (M : dp_M) : Option dp_Res := dp_lim true xs xl (dp_den true xs xl d) dp_m_X12_search (40, [some (.ref 114), some (.int v1), some (.int v2), some (.int v3), some (.int v4), some (.long v5), none], [], M)
theorem D_X12_search_0_den (xs : Nat → Int32) (xl d : Nat) (a0 : Int32) (M : dp_M) : dp_den true xs xl (d + 1) 386 [.ref 114, .int a0] M = D_X12_search_0 xs xl d a0 M := rfl
set_option maxRecDepth 20000 in
theorem D_X12_search_0_eq (xs : Nat → Int32) (xl d : Nat) (v1 : Int32) (M : dp_M) : D_X12_search_0 xs xl d v1 M = dp_w (0 : Int32) (fun y1 => D_X12_search_2 xs xl d v1 y1 M) := by
  have hF := dp_den_grow (md := true) (xs := xs) (xl := xl) d
  unfold D_X12_search_0
  refine dp_s1 hF (i := .iconst 0) rfl (fun _ => rfl) ?_
  refine dp_s1w (0 : Int32) (fun (y1 : Int32) => (2, [some (.ref 114), some (.int v1), some (.int y1), none, none, none, none], [], M)) hF (i := .istore_n 2) rfl (fun _ => rfl) (fun y1 => ?_)
  exact rfl
set_option maxRecDepth 20000 in
theorem D_X12_search_2_eq (xs : Nat → Int32) (xl d : Nat) (v1 : Int32) (v2 : Int32) (M : dp_M) : D_X12_search_2 xs xl d v1 v2 M = if (4096 : Int32) ≤ v2 then (dp_w (dp_setI M 114 19 (0 : Int32)) (fun M1 => dp_bl (dp_den true xs xl d 381 [.ref 114, .int v1] M1) (fun r3 M2 => dp_bv (dp_den true xs xl d 385 [.ref 114, .long r3, .int (-1 : Int32), .int (0 : Int32)] M2) (fun M4 => dp_w (0 : Int32) (fun y5 => D_X12_search_40 xs xl d v1 y5 M4))))) else (if v2 < 0 ∨ 4096 ≤ Int32.toNatClampNeg v2 then none else dp_w (dp_setI M 129 (Int32.toNatClampNeg v2) (0 : Int32)) (fun M6 => dp_w (v2 + (1 : Int32)) (fun y7 => D_X12_search_2 xs xl d v1 y7 M6))) := by
  have hF := dp_den_grow (md := true) (xs := xs) (xl := xl) d
  unfold D_X12_search_2
  refine dp_s1 hF (i := .iload_n 2) rfl (fun _ => rfl) ?_
  refine dp_s1 hF (i := .sipush 4096) rfl (fun _ => rfl) ?_
  refine dp_s2 hF (i := .if_icmp .ge 16) (a := (22, [some (.ref 114), some (.int v1), some (.int v2), none, none, none, none], [], M)) (b := (9, [some (.ref 114), some (.int v1), some (.int v2), none, none, none, none], [], M)) rfl (fun _ => rfl) ?_ ?_
  · refine dp_s1 hF (i := .aload_n 0) rfl (fun _ => rfl) ?_
    refine dp_s1 hF (i := .iconst 0) rfl (fun _ => rfl) ?_
    refine dp_s1w (dp_setI M 114 19 (0 : Int32)) (fun (M1 : dp_M) => (27, [some (.ref 114), some (.int v1), some (.int v2), none, none, none, none], [], M1)) hF (i := .putfield 507) rfl (fun _ => rfl) (fun M1 => ?_)
    refine dp_s1 hF (i := .aload_n 0) rfl (fun _ => rfl) ?_
    refine dp_s1 hF (i := .aload_n 0) rfl (fun _ => rfl) ?_
    refine dp_s1 hF (i := .iload_n 1) rfl (fun _ => rfl) ?_
    refine dp_sl9 (mj := dp_m_X12_begins) (i := .invokevirtual 510) rfl rfl rfl rfl (fun _ => rfl) (fun r3 M2 => ?_)
    refine dp_s1 hF (i := .iconst (-1)) rfl (fun _ => rfl) ?_
    refine dp_s1 hF (i := .iconst 0) rfl (fun _ => rfl) ?_
    refine dp_sv (mj := dp_m_X12_comes) (i := .invokevirtual 514) rfl rfl rfl rfl (fun _ => rfl) (fun M4 => ?_)
    refine dp_s1 hF (i := .iconst 0) rfl (fun _ => rfl) ?_
    refine dp_s1w (0 : Int32) (fun (y5 : Int32) => (40, [some (.ref 114), some (.int v1), some (.int y5), none, none, none, none], [], M4)) hF (i := .istore_n 2) rfl (fun _ => rfl) (fun y5 => ?_)
    exact rfl
  refine dp_s1 hF (i := .aload_n 0) rfl (fun _ => rfl) ?_
  refine dp_s1 hF (i := .getfield 58) rfl (fun _ => rfl) ?_
  refine dp_s1 hF (i := .iload_n 2) rfl (fun _ => rfl) ?_
  refine dp_s1 hF (i := .iconst 0) rfl (fun _ => rfl) ?_
  refine dp_s3w (dp_setI M 129 (Int32.toNatClampNeg v2) (0 : Int32)) (fun (M6 : dp_M) => (16, [some (.ref 114), some (.int v1), some (.int v2), none, none, none, none], [], M6)) hF (i := .iastore) rfl (fun _ => rfl) (fun M6 => ?_)
  refine dp_s1w (v2 + (1 : Int32)) (fun (y7 : Int32) => (19, [some (.ref 114), some (.int v1), some (.int y7), none, none, none, none], [], M6)) hF (i := .iinc 2 1) rfl (fun _ => rfl) (fun y7 => ?_)
  refine dp_s1 hF (i := .goto (-17)) rfl (fun _ => rfl) ?_
  exact rfl
set_option maxRecDepth 20000 in
theorem D_X12_search_40_eq (xs : Nat → Int32) (xl d : Nat) (v1 : Int32) (v2 : Int32) (M : dp_M) : D_X12_search_40 xs xl d v1 v2 M = if (dp_I M 114 19) ≤ v2 then (some (.inl (some (.int (-1 : Int32))), M)) else (if (2008 : Int32) ≤ (dp_I M 114 19) then (some (.inl (some (.int (-1 : Int32))), M)) else (if v2 < 0 ∨ 2048 ≤ Int32.toNatClampNeg v2 then none else (dp_bi (dp_den true xs xl d 384 [.ref 114, .long (dp_J M 126 (Int32.toNatClampNeg v2))] M) (fun r2 M1 => if r2 = 0 then (dp_w (0 : Int32) (fun y3 => D_X12_search_75 xs xl d v1 v2 y3 M1)) else (some (.inl (some (.int v2)), M1)))))) := by
  have hF := dp_den_grow (md := true) (xs := xs) (xl := xl) d
  unfold D_X12_search_40
  refine dp_s1 hF (i := .iload_n 2) rfl (fun _ => rfl) ?_
  refine dp_s1 hF (i := .aload_n 0) rfl (fun _ => rfl) ?_
  refine dp_s1 hF (i := .getfield 507) rfl (fun _ => rfl) ?_
  refine dp_s2 hF (i := .if_icmp .ge 101) (a := (146, [some (.ref 114), some (.int v1), some (.int v2), none, none, none, none], [], M)) (b := (48, [some (.ref 114), some (.int v1), some (.int v2), none, none, none, none], [], M)) rfl (fun _ => rfl) ?_ ?_
  · refine dp_s1 hF (i := .iconst (-1)) rfl (fun _ => rfl) ?_
    exact dp_s0 hF (i := .ireturn) rfl (fun _ => rfl)
  refine dp_s1 hF (i := .aload_n 0) rfl (fun _ => rfl) ?_
  refine dp_s1 hF (i := .getfield 507) rfl (fun _ => rfl) ?_
  refine dp_s1 hF (i := .sipush 2008) rfl (fun _ => rfl) ?_
  refine dp_s2 hF (i := .if_icmp .ge 91) (a := (146, [some (.ref 114), some (.int v1), some (.int v2), none, none, none, none], [], M)) (b := (58, [some (.ref 114), some (.int v1), some (.int v2), none, none, none, none], [], M)) rfl (fun _ => rfl) ?_ ?_
  · refine dp_s1 hF (i := .iconst (-1)) rfl (fun _ => rfl) ?_
    exact dp_s0 hF (i := .ireturn) rfl (fun _ => rfl)
  refine dp_s1 hF (i := .aload_n 0) rfl (fun _ => rfl) ?_
  refine dp_s1 hF (i := .aload_n 0) rfl (fun _ => rfl) ?_
  refine dp_s1 hF (i := .getfield 48) rfl (fun _ => rfl) ?_
  refine dp_s1 hF (i := .iload_n 2) rfl (fun _ => rfl) ?_
  refine dp_s3 hF (i := .laload) rfl (fun _ => rfl) ?_
  refine dp_si (mj := dp_m_X12_isEnd) (i := .invokevirtual 518) rfl rfl (Or.inr rfl) rfl (fun _ => rfl) (fun r2 M1 => ?_)
  refine dp_s2 hF (i := .ifCond .eq 5) (a := (73, [some (.ref 114), some (.int v1), some (.int v2), none, none, none, none], [], M1)) (b := (71, [some (.ref 114), some (.int v1), some (.int v2), none, none, none, none], [], M1)) rfl (fun _ => rfl) ?_ ?_
  · refine dp_s1 hF (i := .iconst 0) rfl (fun _ => rfl) ?_
    refine dp_s1w (0 : Int32) (fun (y3 : Int32) => (75, [some (.ref 114), some (.int v1), some (.int v2), some (.int y3), none, none, none], [], M1)) hF (i := .istore_n 3) rfl (fun _ => rfl) (fun y3 => ?_)
    exact rfl
  refine dp_s1 hF (i := .iload_n 2) rfl (fun _ => rfl) ?_
  exact dp_s0 hF (i := .ireturn) rfl (fun _ => rfl)
set_option maxRecDepth 20000 in
theorem D_X12_search_75_eq (xs : Nat → Int32) (xl d : Nat) (v1 : Int32) (v2 : Int32) (v3 : Int32) (M : dp_M) : D_X12_search_75 xs xl d v1 v2 v3 M = if (7 : Int32) ≤ v3 then (dp_w (v2 + (1 : Int32)) (fun y1 => D_X12_search_40_a xs xl d v1 y1 v3 M)) else (dp_w (0 : Int32) (fun y2 => D_X12_search_84 xs xl d v1 v2 v3 y2 M)) := by
  have hF := dp_den_grow (md := true) (xs := xs) (xl := xl) d
  unfold D_X12_search_75
  refine dp_s1 hF (i := .iload_n 3) rfl (fun _ => rfl) ?_
  refine dp_s1 hF (i := .bipush 7) rfl (fun _ => rfl) ?_
  refine dp_s2 hF (i := .if_icmp .ge 62) (a := (140, [some (.ref 114), some (.int v1), some (.int v2), some (.int v3), none, none, none], [], M)) (b := (81, [some (.ref 114), some (.int v1), some (.int v2), some (.int v3), none, none, none], [], M)) rfl (fun _ => rfl) ?_ ?_
  · refine dp_s1w (v2 + (1 : Int32)) (fun (y1 : Int32) => (143, [some (.ref 114), some (.int v1), some (.int y1), some (.int v3), none, none, none], [], M)) hF (i := .iinc 2 1) rfl (fun _ => rfl) (fun y1 => ?_)
    refine dp_s1 hF (i := .goto (-103)) rfl (fun _ => rfl) ?_
    exact rfl
  refine dp_s1 hF (i := .iconst 0) rfl (fun _ => rfl) ?_
  refine dp_s1w (0 : Int32) (fun (y2 : Int32) => (84, [some (.ref 114), some (.int v1), some (.int v2), some (.int v3), some (.int y2), none, none], [], M)) hF (i := .istore 4) rfl (fun _ => rfl) (fun y2 => ?_)
  exact rfl
set_option maxRecDepth 20000 in
theorem D_X12_search_40_a_eq (xs : Nat → Int32) (xl d : Nat) (v1 : Int32) (v2 : Int32) (v3 : Int32) (M : dp_M) : D_X12_search_40_a xs xl d v1 v2 v3 M = if (dp_I M 114 19) ≤ v2 then (some (.inl (some (.int (-1 : Int32))), M)) else (if (2008 : Int32) ≤ (dp_I M 114 19) then (some (.inl (some (.int (-1 : Int32))), M)) else (if v2 < 0 ∨ 2048 ≤ Int32.toNatClampNeg v2 then none else (dp_bi (dp_den true xs xl d 384 [.ref 114, .long (dp_J M 126 (Int32.toNatClampNeg v2))] M) (fun r2 M1 => if r2 = 0 then (dp_w (0 : Int32) (fun y3 => D_X12_search_75 xs xl d v1 v2 y3 M1)) else (some (.inl (some (.int v2)), M1)))))) := by
  have hF := dp_den_grow (md := true) (xs := xs) (xl := xl) d
  unfold D_X12_search_40_a
  refine dp_s1 hF (i := .iload_n 2) rfl (fun _ => rfl) ?_
  refine dp_s1 hF (i := .aload_n 0) rfl (fun _ => rfl) ?_
  refine dp_s1 hF (i := .getfield 507) rfl (fun _ => rfl) ?_
  refine dp_s2 hF (i := .if_icmp .ge 101) (a := (146, [some (.ref 114), some (.int v1), some (.int v2), some (.int v3), none, none, none], [], M)) (b := (48, [some (.ref 114), some (.int v1), some (.int v2), some (.int v3), none, none, none], [], M)) rfl (fun _ => rfl) ?_ ?_
  · refine dp_s1 hF (i := .iconst (-1)) rfl (fun _ => rfl) ?_
    exact dp_s0 hF (i := .ireturn) rfl (fun _ => rfl)
  refine dp_s1 hF (i := .aload_n 0) rfl (fun _ => rfl) ?_
  refine dp_s1 hF (i := .getfield 507) rfl (fun _ => rfl) ?_
  refine dp_s1 hF (i := .sipush 2008) rfl (fun _ => rfl) ?_
  refine dp_s2 hF (i := .if_icmp .ge 91) (a := (146, [some (.ref 114), some (.int v1), some (.int v2), some (.int v3), none, none, none], [], M)) (b := (58, [some (.ref 114), some (.int v1), some (.int v2), some (.int v3), none, none, none], [], M)) rfl (fun _ => rfl) ?_ ?_
  · refine dp_s1 hF (i := .iconst (-1)) rfl (fun _ => rfl) ?_
    exact dp_s0 hF (i := .ireturn) rfl (fun _ => rfl)
  refine dp_s1 hF (i := .aload_n 0) rfl (fun _ => rfl) ?_
  refine dp_s1 hF (i := .aload_n 0) rfl (fun _ => rfl) ?_
  refine dp_s1 hF (i := .getfield 48) rfl (fun _ => rfl) ?_
  refine dp_s1 hF (i := .iload_n 2) rfl (fun _ => rfl) ?_
  refine dp_s3 hF (i := .laload) rfl (fun _ => rfl) ?_
  refine dp_si (mj := dp_m_X12_isEnd) (i := .invokevirtual 518) rfl rfl (Or.inr rfl) rfl (fun _ => rfl) (fun r2 M1 => ?_)
  refine dp_s2 hF (i := .ifCond .eq 5) (a := (73, [some (.ref 114), some (.int v1), some (.int v2), some (.int v3), none, none, none], [], M1)) (b := (71, [some (.ref 114), some (.int v1), some (.int v2), some (.int v3), none, none, none], [], M1)) rfl (fun _ => rfl) ?_ ?_
  · refine dp_s1 hF (i := .iconst 0) rfl (fun _ => rfl) ?_
    refine dp_s1w (0 : Int32) (fun (y3 : Int32) => (75, [some (.ref 114), some (.int v1), some (.int v2), some (.int y3), none, none, none], [], M1)) hF (i := .istore_n 3) rfl (fun _ => rfl) (fun y3 => ?_)
    exact rfl
  refine dp_s1 hF (i := .iload_n 2) rfl (fun _ => rfl) ?_
  exact dp_s0 hF (i := .ireturn) rfl (fun _ => rfl)
set_option maxRecDepth 20000 in
theorem D_X12_search_84_eq (xs : Nat → Int32) (xl d : Nat) (v1 : Int32) (v2 : Int32) (v3 : Int32) (v4 : Int32) (M : dp_M) : D_X12_search_84 xs xl d v1 v2 v3 v4 M = if (5 : Int32) ≤ v4 then (dp_w (v3 + (1 : Int32)) (fun y1 => D_X12_search_75_a xs xl d v1 v2 y1 v4 M)) else (if v2 < 0 ∨ 2048 ≤ Int32.toNatClampNeg v2 then none else (dp_bl (dp_den true xs xl d 383 [.ref 114, .long (dp_J M 126 (Int32.toNatClampNeg v2)), .int v3, .int v4] M) (fun r3 M2 => if (lg_cmp r3 (-1 : Int64)) = 0 then (dp_w (v4 + (1 : Int32)) (fun y4 => D_X12_search_84_a xs xl d v1 v2 v3 y4 r3 M2)) else (dp_bv (dp_den true xs xl d 385 [.ref 114, .long r3, .int v2, .int (((8 : Int32) * v3) + v4)] M2) (fun M5 => dp_w (v4 + (1 : Int32)) (fun y6 => D_X12_search_84_a xs xl d v1 v2 v3 y6 r3 M5)))))) := by
  have hF := dp_den_grow (md := true) (xs := xs) (xl := xl) d
  unfold D_X12_search_84
  refine dp_s1 hF (i := .iload 4) rfl (fun _ => rfl) ?_
  refine dp_s1 hF (i := .iconst 5) rfl (fun _ => rfl) ?_
  refine dp_s2 hF (i := .if_icmp .ge 47) (a := (134, [some (.ref 114), some (.int v1), some (.int v2), some (.int v3), some (.int v4), none, none], [], M)) (b := (90, [some (.ref 114), some (.int v1), some (.int v2), some (.int v3), some (.int v4), none, none], [], M)) rfl (fun _ => rfl) ?_ ?_
  · refine dp_s1w (v3 + (1 : Int32)) (fun (y1 : Int32) => (137, [some (.ref 114), some (.int v1), some (.int v2), some (.int y1), some (.int v4), none, none], [], M)) hF (i := .iinc 3 1) rfl (fun _ => rfl) (fun y1 => ?_)
    refine dp_s1 hF (i := .goto (-62)) rfl (fun _ => rfl) ?_
    exact rfl
  refine dp_s1 hF (i := .aload_n 0) rfl (fun _ => rfl) ?_
  refine dp_s1 hF (i := .aload_n 0) rfl (fun _ => rfl) ?_
  refine dp_s1 hF (i := .getfield 48) rfl (fun _ => rfl) ?_
  refine dp_s1 hF (i := .iload_n 2) rfl (fun _ => rfl) ?_
  refine dp_s3 hF (i := .laload) rfl (fun _ => rfl) ?_
  refine dp_s1 hF (i := .iload_n 3) rfl (fun _ => rfl) ?_
  refine dp_s1 hF (i := .iload 4) rfl (fun _ => rfl) ?_
  refine dp_sl9 (mj := dp_m_X12_moved) (i := .invokevirtual 522) rfl rfl rfl rfl (fun _ => rfl) (fun r3 M2 => ?_)
  refine dp_s1 hF (i := .lstore 5) rfl (fun _ => rfl) ?_
  refine dp_s1 hF (i := .lload 5) rfl (fun _ => rfl) ?_
  refine dp_s1 hF (i := .ldc2_w 435) rfl (fun _ => rfl) ?_
  refine dp_s1 hF (i := .lcmp) rfl (fun _ => rfl) ?_
  refine dp_s2 hF (i := .ifCond .eq 17) (a := (128, [some (.ref 114), some (.int v1), some (.int v2), some (.int v3), some (.int v4), some (.long r3), none], [], M2)) (b := (114, [some (.ref 114), some (.int v1), some (.int v2), some (.int v3), some (.int v4), some (.long r3), none], [], M2)) rfl (fun _ => rfl) ?_ ?_
  · refine dp_s1w (v4 + (1 : Int32)) (fun (y4 : Int32) => (131, [some (.ref 114), some (.int v1), some (.int v2), some (.int v3), some (.int y4), some (.long r3), none], [], M2)) hF (i := .iinc 4 1) rfl (fun _ => rfl) (fun y4 => ?_)
    refine dp_s1 hF (i := .goto (-47)) rfl (fun _ => rfl) ?_
    exact rfl
  refine dp_s1 hF (i := .aload_n 0) rfl (fun _ => rfl) ?_
  refine dp_s1 hF (i := .lload 5) rfl (fun _ => rfl) ?_
  refine dp_s1 hF (i := .iload_n 2) rfl (fun _ => rfl) ?_
  refine dp_s1 hF (i := .bipush 8) rfl (fun _ => rfl) ?_
  refine dp_s1 hF (i := .iload_n 3) rfl (fun _ => rfl) ?_
  refine dp_s1 hF (i := .imul) rfl (fun _ => rfl) ?_
  refine dp_s1 hF (i := .iload 4) rfl (fun _ => rfl) ?_
  refine dp_s1 hF (i := .iadd) rfl (fun _ => rfl) ?_
  refine dp_sv (mj := dp_m_X12_comes) (i := .invokevirtual 514) rfl rfl rfl rfl (fun _ => rfl) (fun M5 => ?_)
  refine dp_s1w (v4 + (1 : Int32)) (fun (y6 : Int32) => (131, [some (.ref 114), some (.int v1), some (.int v2), some (.int v3), some (.int y6), some (.long r3), none], [], M5)) hF (i := .iinc 4 1) rfl (fun _ => rfl) (fun y6 => ?_)
  refine dp_s1 hF (i := .goto (-47)) rfl (fun _ => rfl) ?_
  exact rfl
set_option maxRecDepth 20000 in
theorem D_X12_search_75_a_eq (xs : Nat → Int32) (xl d : Nat) (v1 : Int32) (v2 : Int32) (v3 : Int32) (v4 : Int32) (M : dp_M) : D_X12_search_75_a xs xl d v1 v2 v3 v4 M = if (7 : Int32) ≤ v3 then (dp_w (v2 + (1 : Int32)) (fun y1 => D_X12_search_40_b xs xl d v1 y1 v3 v4 M)) else (dp_w (0 : Int32) (fun y2 => D_X12_search_84 xs xl d v1 v2 v3 y2 M)) := by
  have hF := dp_den_grow (md := true) (xs := xs) (xl := xl) d
  unfold D_X12_search_75_a
  refine dp_s1 hF (i := .iload_n 3) rfl (fun _ => rfl) ?_
  refine dp_s1 hF (i := .bipush 7) rfl (fun _ => rfl) ?_
  refine dp_s2 hF (i := .if_icmp .ge 62) (a := (140, [some (.ref 114), some (.int v1), some (.int v2), some (.int v3), some (.int v4), none, none], [], M)) (b := (81, [some (.ref 114), some (.int v1), some (.int v2), some (.int v3), some (.int v4), none, none], [], M)) rfl (fun _ => rfl) ?_ ?_
  · refine dp_s1w (v2 + (1 : Int32)) (fun (y1 : Int32) => (143, [some (.ref 114), some (.int v1), some (.int y1), some (.int v3), some (.int v4), none, none], [], M)) hF (i := .iinc 2 1) rfl (fun _ => rfl) (fun y1 => ?_)
    refine dp_s1 hF (i := .goto (-103)) rfl (fun _ => rfl) ?_
    exact rfl
  refine dp_s1 hF (i := .iconst 0) rfl (fun _ => rfl) ?_
  refine dp_s1w (0 : Int32) (fun (y2 : Int32) => (84, [some (.ref 114), some (.int v1), some (.int v2), some (.int v3), some (.int y2), none, none], [], M)) hF (i := .istore 4) rfl (fun _ => rfl) (fun y2 => ?_)
  exact rfl
set_option maxRecDepth 20000 in
theorem D_X12_search_84_a_eq (xs : Nat → Int32) (xl d : Nat) (v1 : Int32) (v2 : Int32) (v3 : Int32) (v4 : Int32) (v5 : Int64) (M : dp_M) : D_X12_search_84_a xs xl d v1 v2 v3 v4 v5 M = if (5 : Int32) ≤ v4 then (dp_w (v3 + (1 : Int32)) (fun y1 => D_X12_search_75_b xs xl d v1 v2 y1 v4 v5 M)) else (if v2 < 0 ∨ 2048 ≤ Int32.toNatClampNeg v2 then none else (dp_bl (dp_den true xs xl d 383 [.ref 114, .long (dp_J M 126 (Int32.toNatClampNeg v2)), .int v3, .int v4] M) (fun r3 M2 => if (lg_cmp r3 (-1 : Int64)) = 0 then (dp_w (v4 + (1 : Int32)) (fun y4 => D_X12_search_84_a xs xl d v1 v2 v3 y4 r3 M2)) else (dp_bv (dp_den true xs xl d 385 [.ref 114, .long r3, .int v2, .int (((8 : Int32) * v3) + v4)] M2) (fun M5 => dp_w (v4 + (1 : Int32)) (fun y6 => D_X12_search_84_a xs xl d v1 v2 v3 y6 r3 M5)))))) := by
  have hF := dp_den_grow (md := true) (xs := xs) (xl := xl) d
  unfold D_X12_search_84_a
  refine dp_s1 hF (i := .iload 4) rfl (fun _ => rfl) ?_
  refine dp_s1 hF (i := .iconst 5) rfl (fun _ => rfl) ?_
  refine dp_s2 hF (i := .if_icmp .ge 47) (a := (134, [some (.ref 114), some (.int v1), some (.int v2), some (.int v3), some (.int v4), some (.long v5), none], [], M)) (b := (90, [some (.ref 114), some (.int v1), some (.int v2), some (.int v3), some (.int v4), some (.long v5), none], [], M)) rfl (fun _ => rfl) ?_ ?_
  · refine dp_s1w (v3 + (1 : Int32)) (fun (y1 : Int32) => (137, [some (.ref 114), some (.int v1), some (.int v2), some (.int y1), some (.int v4), some (.long v5), none], [], M)) hF (i := .iinc 3 1) rfl (fun _ => rfl) (fun y1 => ?_)
    refine dp_s1 hF (i := .goto (-62)) rfl (fun _ => rfl) ?_
    exact rfl
  refine dp_s1 hF (i := .aload_n 0) rfl (fun _ => rfl) ?_
  refine dp_s1 hF (i := .aload_n 0) rfl (fun _ => rfl) ?_
  refine dp_s1 hF (i := .getfield 48) rfl (fun _ => rfl) ?_
  refine dp_s1 hF (i := .iload_n 2) rfl (fun _ => rfl) ?_
  refine dp_s3 hF (i := .laload) rfl (fun _ => rfl) ?_
  refine dp_s1 hF (i := .iload_n 3) rfl (fun _ => rfl) ?_
  refine dp_s1 hF (i := .iload 4) rfl (fun _ => rfl) ?_
  refine dp_sl9 (mj := dp_m_X12_moved) (i := .invokevirtual 522) rfl rfl rfl rfl (fun _ => rfl) (fun r3 M2 => ?_)
  refine dp_s1 hF (i := .lstore 5) rfl (fun _ => rfl) ?_
  refine dp_s1 hF (i := .lload 5) rfl (fun _ => rfl) ?_
  refine dp_s1 hF (i := .ldc2_w 435) rfl (fun _ => rfl) ?_
  refine dp_s1 hF (i := .lcmp) rfl (fun _ => rfl) ?_
  refine dp_s2 hF (i := .ifCond .eq 17) (a := (128, [some (.ref 114), some (.int v1), some (.int v2), some (.int v3), some (.int v4), some (.long r3), none], [], M2)) (b := (114, [some (.ref 114), some (.int v1), some (.int v2), some (.int v3), some (.int v4), some (.long r3), none], [], M2)) rfl (fun _ => rfl) ?_ ?_
  · refine dp_s1w (v4 + (1 : Int32)) (fun (y4 : Int32) => (131, [some (.ref 114), some (.int v1), some (.int v2), some (.int v3), some (.int y4), some (.long r3), none], [], M2)) hF (i := .iinc 4 1) rfl (fun _ => rfl) (fun y4 => ?_)
    refine dp_s1 hF (i := .goto (-47)) rfl (fun _ => rfl) ?_
    exact rfl
  refine dp_s1 hF (i := .aload_n 0) rfl (fun _ => rfl) ?_
  refine dp_s1 hF (i := .lload 5) rfl (fun _ => rfl) ?_
  refine dp_s1 hF (i := .iload_n 2) rfl (fun _ => rfl) ?_
  refine dp_s1 hF (i := .bipush 8) rfl (fun _ => rfl) ?_
  refine dp_s1 hF (i := .iload_n 3) rfl (fun _ => rfl) ?_
  refine dp_s1 hF (i := .imul) rfl (fun _ => rfl) ?_
  refine dp_s1 hF (i := .iload 4) rfl (fun _ => rfl) ?_
  refine dp_s1 hF (i := .iadd) rfl (fun _ => rfl) ?_
  refine dp_sv (mj := dp_m_X12_comes) (i := .invokevirtual 514) rfl rfl rfl rfl (fun _ => rfl) (fun M5 => ?_)
  refine dp_s1w (v4 + (1 : Int32)) (fun (y6 : Int32) => (131, [some (.ref 114), some (.int v1), some (.int v2), some (.int v3), some (.int y6), some (.long r3), none], [], M5)) hF (i := .iinc 4 1) rfl (fun _ => rfl) (fun y6 => ?_)
  refine dp_s1 hF (i := .goto (-47)) rfl (fun _ => rfl) ?_
  exact rfl
set_option maxRecDepth 20000 in
theorem D_X12_search_40_b_eq (xs : Nat → Int32) (xl d : Nat) (v1 : Int32) (v2 : Int32) (v3 : Int32) (v4 : Int32) (M : dp_M) : D_X12_search_40_b xs xl d v1 v2 v3 v4 M = if (dp_I M 114 19) ≤ v2 then (some (.inl (some (.int (-1 : Int32))), M)) else (if (2008 : Int32) ≤ (dp_I M 114 19) then (some (.inl (some (.int (-1 : Int32))), M)) else (if v2 < 0 ∨ 2048 ≤ Int32.toNatClampNeg v2 then none else (dp_bi (dp_den true xs xl d 384 [.ref 114, .long (dp_J M 126 (Int32.toNatClampNeg v2))] M) (fun r2 M1 => if r2 = 0 then (dp_w (0 : Int32) (fun y3 => D_X12_search_75_a xs xl d v1 v2 y3 v4 M1)) else (some (.inl (some (.int v2)), M1)))))) := by
  have hF := dp_den_grow (md := true) (xs := xs) (xl := xl) d
  unfold D_X12_search_40_b
  refine dp_s1 hF (i := .iload_n 2) rfl (fun _ => rfl) ?_
  refine dp_s1 hF (i := .aload_n 0) rfl (fun _ => rfl) ?_
  refine dp_s1 hF (i := .getfield 507) rfl (fun _ => rfl) ?_
  refine dp_s2 hF (i := .if_icmp .ge 101) (a := (146, [some (.ref 114), some (.int v1), some (.int v2), some (.int v3), some (.int v4), none, none], [], M)) (b := (48, [some (.ref 114), some (.int v1), some (.int v2), some (.int v3), some (.int v4), none, none], [], M)) rfl (fun _ => rfl) ?_ ?_
  · refine dp_s1 hF (i := .iconst (-1)) rfl (fun _ => rfl) ?_
    exact dp_s0 hF (i := .ireturn) rfl (fun _ => rfl)
  refine dp_s1 hF (i := .aload_n 0) rfl (fun _ => rfl) ?_
  refine dp_s1 hF (i := .getfield 507) rfl (fun _ => rfl) ?_
  refine dp_s1 hF (i := .sipush 2008) rfl (fun _ => rfl) ?_
  refine dp_s2 hF (i := .if_icmp .ge 91) (a := (146, [some (.ref 114), some (.int v1), some (.int v2), some (.int v3), some (.int v4), none, none], [], M)) (b := (58, [some (.ref 114), some (.int v1), some (.int v2), some (.int v3), some (.int v4), none, none], [], M)) rfl (fun _ => rfl) ?_ ?_
  · refine dp_s1 hF (i := .iconst (-1)) rfl (fun _ => rfl) ?_
    exact dp_s0 hF (i := .ireturn) rfl (fun _ => rfl)
  refine dp_s1 hF (i := .aload_n 0) rfl (fun _ => rfl) ?_
  refine dp_s1 hF (i := .aload_n 0) rfl (fun _ => rfl) ?_
  refine dp_s1 hF (i := .getfield 48) rfl (fun _ => rfl) ?_
  refine dp_s1 hF (i := .iload_n 2) rfl (fun _ => rfl) ?_
  refine dp_s3 hF (i := .laload) rfl (fun _ => rfl) ?_
  refine dp_si (mj := dp_m_X12_isEnd) (i := .invokevirtual 518) rfl rfl (Or.inr rfl) rfl (fun _ => rfl) (fun r2 M1 => ?_)
  refine dp_s2 hF (i := .ifCond .eq 5) (a := (73, [some (.ref 114), some (.int v1), some (.int v2), some (.int v3), some (.int v4), none, none], [], M1)) (b := (71, [some (.ref 114), some (.int v1), some (.int v2), some (.int v3), some (.int v4), none, none], [], M1)) rfl (fun _ => rfl) ?_ ?_
  · refine dp_s1 hF (i := .iconst 0) rfl (fun _ => rfl) ?_
    refine dp_s1w (0 : Int32) (fun (y3 : Int32) => (75, [some (.ref 114), some (.int v1), some (.int v2), some (.int y3), some (.int v4), none, none], [], M1)) hF (i := .istore_n 3) rfl (fun _ => rfl) (fun y3 => ?_)
    exact rfl
  refine dp_s1 hF (i := .iload_n 2) rfl (fun _ => rfl) ?_
  exact dp_s0 hF (i := .ireturn) rfl (fun _ => rfl)
set_option maxRecDepth 20000 in
theorem D_X12_search_75_b_eq (xs : Nat → Int32) (xl d : Nat) (v1 : Int32) (v2 : Int32) (v3 : Int32) (v4 : Int32) (v5 : Int64) (M : dp_M) : D_X12_search_75_b xs xl d v1 v2 v3 v4 v5 M = if (7 : Int32) ≤ v3 then (dp_w (v2 + (1 : Int32)) (fun y1 => D_X12_search_40_c xs xl d v1 y1 v3 v4 v5 M)) else (dp_w (0 : Int32) (fun y2 => D_X12_search_84_a xs xl d v1 v2 v3 y2 v5 M)) := by
  have hF := dp_den_grow (md := true) (xs := xs) (xl := xl) d
  unfold D_X12_search_75_b
  refine dp_s1 hF (i := .iload_n 3) rfl (fun _ => rfl) ?_
  refine dp_s1 hF (i := .bipush 7) rfl (fun _ => rfl) ?_
  refine dp_s2 hF (i := .if_icmp .ge 62) (a := (140, [some (.ref 114), some (.int v1), some (.int v2), some (.int v3), some (.int v4), some (.long v5), none], [], M)) (b := (81, [some (.ref 114), some (.int v1), some (.int v2), some (.int v3), some (.int v4), some (.long v5), none], [], M)) rfl (fun _ => rfl) ?_ ?_
  · refine dp_s1w (v2 + (1 : Int32)) (fun (y1 : Int32) => (143, [some (.ref 114), some (.int v1), some (.int y1), some (.int v3), some (.int v4), some (.long v5), none], [], M)) hF (i := .iinc 2 1) rfl (fun _ => rfl) (fun y1 => ?_)
    refine dp_s1 hF (i := .goto (-103)) rfl (fun _ => rfl) ?_
    exact rfl
  refine dp_s1 hF (i := .iconst 0) rfl (fun _ => rfl) ?_
  refine dp_s1w (0 : Int32) (fun (y2 : Int32) => (84, [some (.ref 114), some (.int v1), some (.int v2), some (.int v3), some (.int y2), some (.long v5), none], [], M)) hF (i := .istore 4) rfl (fun _ => rfl) (fun y2 => ?_)
  exact rfl
set_option maxRecDepth 20000 in
theorem D_X12_search_40_c_eq (xs : Nat → Int32) (xl d : Nat) (v1 : Int32) (v2 : Int32) (v3 : Int32) (v4 : Int32) (v5 : Int64) (M : dp_M) : D_X12_search_40_c xs xl d v1 v2 v3 v4 v5 M = if (dp_I M 114 19) ≤ v2 then (some (.inl (some (.int (-1 : Int32))), M)) else (if (2008 : Int32) ≤ (dp_I M 114 19) then (some (.inl (some (.int (-1 : Int32))), M)) else (if v2 < 0 ∨ 2048 ≤ Int32.toNatClampNeg v2 then none else (dp_bi (dp_den true xs xl d 384 [.ref 114, .long (dp_J M 126 (Int32.toNatClampNeg v2))] M) (fun r2 M1 => if r2 = 0 then (dp_w (0 : Int32) (fun y3 => D_X12_search_75_b xs xl d v1 v2 y3 v4 v5 M1)) else (some (.inl (some (.int v2)), M1)))))) := by
  have hF := dp_den_grow (md := true) (xs := xs) (xl := xl) d
  unfold D_X12_search_40_c
  refine dp_s1 hF (i := .iload_n 2) rfl (fun _ => rfl) ?_
  refine dp_s1 hF (i := .aload_n 0) rfl (fun _ => rfl) ?_
  refine dp_s1 hF (i := .getfield 507) rfl (fun _ => rfl) ?_
  refine dp_s2 hF (i := .if_icmp .ge 101) (a := (146, [some (.ref 114), some (.int v1), some (.int v2), some (.int v3), some (.int v4), some (.long v5), none], [], M)) (b := (48, [some (.ref 114), some (.int v1), some (.int v2), some (.int v3), some (.int v4), some (.long v5), none], [], M)) rfl (fun _ => rfl) ?_ ?_
  · refine dp_s1 hF (i := .iconst (-1)) rfl (fun _ => rfl) ?_
    exact dp_s0 hF (i := .ireturn) rfl (fun _ => rfl)
  refine dp_s1 hF (i := .aload_n 0) rfl (fun _ => rfl) ?_
  refine dp_s1 hF (i := .getfield 507) rfl (fun _ => rfl) ?_
  refine dp_s1 hF (i := .sipush 2008) rfl (fun _ => rfl) ?_
  refine dp_s2 hF (i := .if_icmp .ge 91) (a := (146, [some (.ref 114), some (.int v1), some (.int v2), some (.int v3), some (.int v4), some (.long v5), none], [], M)) (b := (58, [some (.ref 114), some (.int v1), some (.int v2), some (.int v3), some (.int v4), some (.long v5), none], [], M)) rfl (fun _ => rfl) ?_ ?_
  · refine dp_s1 hF (i := .iconst (-1)) rfl (fun _ => rfl) ?_
    exact dp_s0 hF (i := .ireturn) rfl (fun _ => rfl)
  refine dp_s1 hF (i := .aload_n 0) rfl (fun _ => rfl) ?_
  refine dp_s1 hF (i := .aload_n 0) rfl (fun _ => rfl) ?_
  refine dp_s1 hF (i := .getfield 48) rfl (fun _ => rfl) ?_
  refine dp_s1 hF (i := .iload_n 2) rfl (fun _ => rfl) ?_
  refine dp_s3 hF (i := .laload) rfl (fun _ => rfl) ?_
  refine dp_si (mj := dp_m_X12_isEnd) (i := .invokevirtual 518) rfl rfl (Or.inr rfl) rfl (fun _ => rfl) (fun r2 M1 => ?_)
  refine dp_s2 hF (i := .ifCond .eq 5) (a := (73, [some (.ref 114), some (.int v1), some (.int v2), some (.int v3), some (.int v4), some (.long v5), none], [], M1)) (b := (71, [some (.ref 114), some (.int v1), some (.int v2), some (.int v3), some (.int v4), some (.long v5), none], [], M1)) rfl (fun _ => rfl) ?_ ?_
  · refine dp_s1 hF (i := .iconst 0) rfl (fun _ => rfl) ?_
    refine dp_s1w (0 : Int32) (fun (y3 : Int32) => (75, [some (.ref 114), some (.int v1), some (.int v2), some (.int y3), some (.int v4), some (.long v5), none], [], M1)) hF (i := .istore_n 3) rfl (fun _ => rfl) (fun y3 => ?_)
    exact rfl
  refine dp_s1 hF (i := .iload_n 2) rfl (fun _ => rfl) ?_
  exact dp_s0 hF (i := .ireturn) rfl (fun _ => rfl)
noncomputable def D_X12_plan_0 (xs : Nat → Int32) (xl d : Nat) (v1 : Int32) (M : dp_M) : Option dp_Res := dp_lim true xs xl (dp_den true xs xl d) dp_m_X12_plan (0, [some (.ref 114), some (.int v1), none, none, none, none], [], M)
noncomputable def D_X12_plan_51 (xs : Nat → Int32) (xl d : Nat) (v1 : Int32) (v2 : Int32) (v3 : Int32) (v4 : Int32) (M : dp_M) : Option dp_Res := dp_lim true xs xl (dp_den true xs xl d) dp_m_X12_plan (51, [some (.ref 114), some (.int v1), some (.int v2), some (.int v3), some (.int v4), none], [], M)
noncomputable def D_X12_plan_101 (xs : Nat → Int32) (xl d : Nat) (v1 : Int32) (v2 : Int32) (v3 : Int32) (v4 : Int32) (v5 : Int32) (M : dp_M) : Option dp_Res := dp_lim true xs xl (dp_den true xs xl d) dp_m_X12_plan (101, [some (.ref 114), some (.int v1), some (.int v2), some (.int v3), some (.int v4), some (.int v5)], [], M)
theorem D_X12_plan_0_den (xs : Nat → Int32) (xl d : Nat) (a0 : Int32) (M : dp_M) : dp_den true xs xl (d + 1) 387 [.ref 114, .int a0] M = D_X12_plan_0 xs xl d a0 M := rfl
set_option maxRecDepth 20000 in
theorem D_X12_plan_0_eq (xs : Nat → Int32) (xl d : Nat) (v1 : Int32) (M : dp_M) : D_X12_plan_0 xs xl d v1 M = dp_bi (dp_den true xs xl d 370 [.ref 114, .int v1] M) (fun r2 M1 => if r2 = 0 then (dp_bi (dp_den true xs xl d 366 [.ref 114, .int (1 : Int32)] M1) (fun r4 M3 => some (.inl (some (.int r4)), M3))) else (dp_w (dp_setI M1 114 0 (0 : Int32)) (fun M5 => dp_bi (dp_den true xs xl d 386 [.ref 114, .int v1] M5) (fun r7 M6 => if r7 < 0 then (if v1 < 0 ∨ 12 ≤ Int32.toNatClampNeg v1 then none else dp_w (dp_setI M6 120 (Int32.toNatClampNeg v1) ((0 : Int32) &&& 1)) (fun M8 => if 0 ≤ r7 then (dp_w (0 : Int32) (fun y9 => D_X12_plan_51 xs xl d v1 r7 y9 r7 M8)) else (some (.inl (some (.int (-1 : Int32))), M8)))) else (if v1 < 0 ∨ 12 ≤ Int32.toNatClampNeg v1 then none else dp_w (dp_setI M6 120 (Int32.toNatClampNeg v1) ((1 : Int32) &&& 1)) (fun M10 => if 0 ≤ r7 then (dp_w (0 : Int32) (fun y11 => D_X12_plan_51 xs xl d v1 r7 y11 r7 M10)) else (some (.inl (some (.int (-1 : Int32))), M10)))))))) := by
  have hF := dp_den_grow (md := true) (xs := xs) (xl := xl) d
  unfold D_X12_plan_0
  refine dp_s1 hF (i := .aload_n 0) rfl (fun _ => rfl) ?_
  refine dp_s1 hF (i := .iload_n 1) rfl (fun _ => rfl) ?_
  refine dp_si (mj := dp_m_X12_isBay) (i := .invokevirtual 440) rfl rfl (Or.inr rfl) rfl (fun _ => rfl) (fun r2 M1 => ?_)
  refine dp_s2 hF (i := .ifCond .ne 9) (a := (8, [some (.ref 114), some (.int v1), none, none, none, none], [], M1)) (b := (14, [some (.ref 114), some (.int v1), none, none, none, none], [], M1)) rfl (fun _ => rfl) ?_ ?_
  · refine dp_s1 hF (i := .aload_n 0) rfl (fun _ => rfl) ?_
    refine dp_s1 hF (i := .iconst 1) rfl (fun _ => rfl) ?_
    refine dp_si (mj := dp_m_X12_refuse) (i := .invokevirtual 460) rfl rfl (Or.inl rfl) rfl (fun _ => rfl) (fun r4 M3 => ?_)
    exact dp_s0 hF (i := .ireturn) rfl (fun _ => rfl)
  refine dp_s1 hF (i := .aload_n 0) rfl (fun _ => rfl) ?_
  refine dp_s1 hF (i := .iconst 0) rfl (fun _ => rfl) ?_
  refine dp_s1w (dp_setI M1 114 0 (0 : Int32)) (fun (M5 : dp_M) => (19, [some (.ref 114), some (.int v1), none, none, none, none], [], M5)) hF (i := .putfield 1) rfl (fun _ => rfl) (fun M5 => ?_)
  refine dp_s1 hF (i := .aload_n 0) rfl (fun _ => rfl) ?_
  refine dp_s1 hF (i := .iload_n 1) rfl (fun _ => rfl) ?_
  refine dp_si (mj := dp_m_X12_search) (i := .invokevirtual 526) rfl rfl (Or.inl rfl) rfl (fun _ => rfl) (fun r7 M6 => ?_)
  refine dp_s1 hF (i := .istore_n 2) rfl (fun _ => rfl) ?_
  refine dp_s1 hF (i := .aload_n 0) rfl (fun _ => rfl) ?_
  refine dp_s1 hF (i := .getfield 30) rfl (fun _ => rfl) ?_
  refine dp_s1 hF (i := .iload_n 1) rfl (fun _ => rfl) ?_
  refine dp_s1 hF (i := .iload_n 2) rfl (fun _ => rfl) ?_
  refine dp_s2 hF (i := .ifCond .lt 7) (a := (38, [some (.ref 114), some (.int v1), some (.int r7), none, none, none], [.int v1, .ref 120], M6)) (b := (34, [some (.ref 114), some (.int v1), some (.int r7), none, none, none], [.int v1, .ref 120], M6)) rfl (fun _ => rfl) ?_ ?_
  · refine dp_s1 hF (i := .iconst 0) rfl (fun _ => rfl) ?_
    refine dp_s3w (dp_setI M6 120 (Int32.toNatClampNeg v1) ((0 : Int32) &&& 1)) (fun (M8 : dp_M) => (40, [some (.ref 114), some (.int v1), some (.int r7), none, none, none], [], M8)) hF (i := .bastore) rfl (fun _ => rfl) (fun M8 => ?_)
    refine dp_s1 hF (i := .iload_n 2) rfl (fun _ => rfl) ?_
    refine dp_s2 hF (i := .ifCond .ge 5) (a := (46, [some (.ref 114), some (.int v1), some (.int r7), none, none, none], [], M8)) (b := (44, [some (.ref 114), some (.int v1), some (.int r7), none, none, none], [], M8)) rfl (fun _ => rfl) ?_ ?_
    · refine dp_s1 hF (i := .iconst 0) rfl (fun _ => rfl) ?_
      refine dp_s1w (0 : Int32) (fun (y9 : Int32) => (48, [some (.ref 114), some (.int v1), some (.int r7), some (.int y9), none, none], [], M8)) hF (i := .istore_n 3) rfl (fun _ => rfl) (fun y9 => ?_)
      refine dp_s1 hF (i := .iload_n 2) rfl (fun _ => rfl) ?_
      refine dp_s1 hF (i := .istore 4) rfl (fun _ => rfl) ?_
      exact rfl
    refine dp_s1 hF (i := .iconst (-1)) rfl (fun _ => rfl) ?_
    exact dp_s0 hF (i := .ireturn) rfl (fun _ => rfl)
  refine dp_s1 hF (i := .iconst 1) rfl (fun _ => rfl) ?_
  refine dp_s1 hF (i := .goto 4) rfl (fun _ => rfl) ?_
  refine dp_s3w (dp_setI M6 120 (Int32.toNatClampNeg v1) ((1 : Int32) &&& 1)) (fun (M10 : dp_M) => (40, [some (.ref 114), some (.int v1), some (.int r7), none, none, none], [], M10)) hF (i := .bastore) rfl (fun _ => rfl) (fun M10 => ?_)
  refine dp_s1 hF (i := .iload_n 2) rfl (fun _ => rfl) ?_
  refine dp_s2 hF (i := .ifCond .ge 5) (a := (46, [some (.ref 114), some (.int v1), some (.int r7), none, none, none], [], M10)) (b := (44, [some (.ref 114), some (.int v1), some (.int r7), none, none, none], [], M10)) rfl (fun _ => rfl) ?_ ?_
  · refine dp_s1 hF (i := .iconst 0) rfl (fun _ => rfl) ?_
    refine dp_s1w (0 : Int32) (fun (y11 : Int32) => (48, [some (.ref 114), some (.int v1), some (.int r7), some (.int y11), none, none], [], M10)) hF (i := .istore_n 3) rfl (fun _ => rfl) (fun y11 => ?_)
    refine dp_s1 hF (i := .iload_n 2) rfl (fun _ => rfl) ?_
    refine dp_s1 hF (i := .istore 4) rfl (fun _ => rfl) ?_
    exact rfl
  refine dp_s1 hF (i := .iconst (-1)) rfl (fun _ => rfl) ?_
  exact dp_s0 hF (i := .ireturn) rfl (fun _ => rfl)
set_option maxRecDepth 20000 in
theorem D_X12_plan_51_eq (xs : Nat → Int32) (xl d : Nat) (v1 : Int32) (v2 : Int32) (v3 : Int32) (v4 : Int32) (M : dp_M) : D_X12_plan_51 xs xl d v1 v2 v3 v4 M = if v4 < 0 ∨ 2048 ≤ Int32.toNatClampNeg v4 then none else (if (dp_I M 127 (Int32.toNatClampNeg v4)) < 0 then (if v1 < 0 ∨ 12 ≤ Int32.toNatClampNeg v1 then none else dp_w (dp_setI M 121 (Int32.toNatClampNeg v1) v3) (fun M1 => if v1 < 0 ∨ 12 ≤ Int32.toNatClampNeg v1 then none else dp_w (dp_setI M1 122 (Int32.toNatClampNeg v1) (0 : Int32)) (fun M2 => dp_w (((40 : Int32) * v1) + v3) (fun y3 => D_X12_plan_101 xs xl d v1 v2 v3 y3 v2 M2)))) else (dp_w (v3 + (1 : Int32)) (fun y4 => if v4 < 0 ∨ 2048 ≤ Int32.toNatClampNeg v4 then none else (dp_w (dp_I M 127 (Int32.toNatClampNeg v4)) (fun y5 => D_X12_plan_51 xs xl d v1 v2 y4 y5 M))))) := by
  have hF := dp_den_grow (md := true) (xs := xs) (xl := xl) d
  unfold D_X12_plan_51
  refine dp_s1 hF (i := .aload_n 0) rfl (fun _ => rfl) ?_
  refine dp_s1 hF (i := .getfield 52) rfl (fun _ => rfl) ?_
  refine dp_s1 hF (i := .iload 4) rfl (fun _ => rfl) ?_
  refine dp_s3 hF (i := .iaload) rfl (fun _ => rfl) ?_
  refine dp_s2 hF (i := .ifCond .lt 18) (a := (76, [some (.ref 114), some (.int v1), some (.int v2), some (.int v3), some (.int v4), none], [], M)) (b := (61, [some (.ref 114), some (.int v1), some (.int v2), some (.int v3), some (.int v4), none], [], M)) rfl (fun _ => rfl) ?_ ?_
  · refine dp_s1 hF (i := .aload_n 0) rfl (fun _ => rfl) ?_
    refine dp_s1 hF (i := .getfield 33) rfl (fun _ => rfl) ?_
    refine dp_s1 hF (i := .iload_n 1) rfl (fun _ => rfl) ?_
    refine dp_s1 hF (i := .iload_n 3) rfl (fun _ => rfl) ?_
    refine dp_s3w (dp_setI M 121 (Int32.toNatClampNeg v1) v3) (fun (M1 : dp_M) => (83, [some (.ref 114), some (.int v1), some (.int v2), some (.int v3), some (.int v4), none], [], M1)) hF (i := .iastore) rfl (fun _ => rfl) (fun M1 => ?_)
    refine dp_s1 hF (i := .aload_n 0) rfl (fun _ => rfl) ?_
    refine dp_s1 hF (i := .getfield 36) rfl (fun _ => rfl) ?_
    refine dp_s1 hF (i := .iload_n 1) rfl (fun _ => rfl) ?_
    refine dp_s1 hF (i := .iconst 0) rfl (fun _ => rfl) ?_
    refine dp_s3w (dp_setI M1 122 (Int32.toNatClampNeg v1) (0 : Int32)) (fun (M2 : dp_M) => (90, [some (.ref 114), some (.int v1), some (.int v2), some (.int v3), some (.int v4), none], [], M2)) hF (i := .iastore) rfl (fun _ => rfl) (fun M2 => ?_)
    refine dp_s1 hF (i := .bipush 40) rfl (fun _ => rfl) ?_
    refine dp_s1 hF (i := .iload_n 1) rfl (fun _ => rfl) ?_
    refine dp_s1 hF (i := .imul) rfl (fun _ => rfl) ?_
    refine dp_s1 hF (i := .iload_n 3) rfl (fun _ => rfl) ?_
    refine dp_s1 hF (i := .iadd) rfl (fun _ => rfl) ?_
    refine dp_s1w (((40 : Int32) * v1) + v3) (fun (y3 : Int32) => (98, [some (.ref 114), some (.int v1), some (.int v2), some (.int v3), some (.int y3), none], [], M2)) hF (i := .istore 4) rfl (fun _ => rfl) (fun y3 => ?_)
    refine dp_s1 hF (i := .iload_n 2) rfl (fun _ => rfl) ?_
    refine dp_s1 hF (i := .istore 5) rfl (fun _ => rfl) ?_
    exact rfl
  refine dp_s1w (v3 + (1 : Int32)) (fun (y4 : Int32) => (64, [some (.ref 114), some (.int v1), some (.int v2), some (.int y4), some (.int v4), none], [], M)) hF (i := .iinc 3 1) rfl (fun _ => rfl) (fun y4 => ?_)
  refine dp_s1 hF (i := .aload_n 0) rfl (fun _ => rfl) ?_
  refine dp_s1 hF (i := .getfield 52) rfl (fun _ => rfl) ?_
  refine dp_s1 hF (i := .iload 4) rfl (fun _ => rfl) ?_
  refine dp_s3 hF (i := .iaload) rfl (fun _ => rfl) ?_
  refine dp_s1w (dp_I M 127 (Int32.toNatClampNeg v4)) (fun (y5 : Int32) => (73, [some (.ref 114), some (.int v1), some (.int v2), some (.int y4), some (.int y5), none], [], M)) hF (i := .istore 4) rfl (fun _ => rfl) (fun y5 => ?_)
  refine dp_s1 hF (i := .goto (-22)) rfl (fun _ => rfl) ?_
  exact rfl
set_option maxRecDepth 20000 in
theorem D_X12_plan_101_eq (xs : Nat → Int32) (xl d : Nat) (v1 : Int32) (v2 : Int32) (v3 : Int32) (v4 : Int32) (v5 : Int32) (M : dp_M) : D_X12_plan_101 xs xl d v1 v2 v3 v4 v5 M = if v5 < 0 ∨ 2048 ≤ Int32.toNatClampNeg v5 then none else (if (dp_I M 127 (Int32.toNatClampNeg v5)) < 0 then (some (.inl (some (.int v3)), M)) else (dp_w (v4 + (-1 : Int32)) (fun y1 => if v5 < 0 ∨ 2048 ≤ Int32.toNatClampNeg v5 then none else (if y1 < 0 ∨ 480 ≤ Int32.toNatClampNeg y1 then none else dp_w (dp_setI M 124 (Int32.toNatClampNeg y1) ((dp_I M 128 (Int32.toNatClampNeg v5)) / (8 : Int32))) (fun M2 => if v5 < 0 ∨ 2048 ≤ Int32.toNatClampNeg v5 then none else (if y1 < 0 ∨ 480 ≤ Int32.toNatClampNeg y1 then none else dp_w (dp_setI M2 125 (Int32.toNatClampNeg y1) ((dp_I M2 128 (Int32.toNatClampNeg v5)) - (dp_I M2 128 (Int32.toNatClampNeg v5)) / (8 : Int32) * (8 : Int32))) (fun M3 => if v5 < 0 ∨ 2048 ≤ Int32.toNatClampNeg v5 then none else (if (dp_I M3 127 (Int32.toNatClampNeg v5)) < 0 ∨ 2048 ≤ Int32.toNatClampNeg (dp_I M3 127 (Int32.toNatClampNeg v5)) then none else (if v5 < 0 ∨ 2048 ≤ Int32.toNatClampNeg v5 then none else (dp_bi (dp_den true xs xl d 382 [.ref 114, .long (dp_J M3 126 (Int32.toNatClampNeg (dp_I M3 127 (Int32.toNatClampNeg v5)))), .int ((dp_I M3 128 (Int32.toNatClampNeg v5)) / (8 : Int32))] M3) (fun r5 M4 => if r5 < 0 ∨ 4 ≤ Int32.toNatClampNeg r5 then none else (if y1 < 0 ∨ 480 ≤ Int32.toNatClampNeg y1 then none else dp_w (dp_setI M4 123 (Int32.toNatClampNeg y1) (dp_I M4 130 (Int32.toNatClampNeg r5))) (fun M6 => if v5 < 0 ∨ 2048 ≤ Int32.toNatClampNeg v5 then none else (dp_w (dp_I M6 127 (Int32.toNatClampNeg v5)) (fun y7 => D_X12_plan_101 xs xl d v1 v2 v3 y1 y7 M6))))))))))))))) := by
  have hF := dp_den_grow (md := true) (xs := xs) (xl := xl) d
  unfold D_X12_plan_101
  refine dp_s1 hF (i := .aload_n 0) rfl (fun _ => rfl) ?_
  refine dp_s1 hF (i := .getfield 52) rfl (fun _ => rfl) ?_
  refine dp_s1 hF (i := .iload 5) rfl (fun _ => rfl) ?_
  refine dp_s3 hF (i := .iaload) rfl (fun _ => rfl) ?_
  refine dp_s2 hF (i := .ifCond .lt 90) (a := (198, [some (.ref 114), some (.int v1), some (.int v2), some (.int v3), some (.int v4), some (.int v5)], [], M)) (b := (111, [some (.ref 114), some (.int v1), some (.int v2), some (.int v3), some (.int v4), some (.int v5)], [], M)) rfl (fun _ => rfl) ?_ ?_
  · refine dp_s1 hF (i := .iload_n 3) rfl (fun _ => rfl) ?_
    exact dp_s0 hF (i := .ireturn) rfl (fun _ => rfl)
  refine dp_s1w (v4 + (-1 : Int32)) (fun (y1 : Int32) => (114, [some (.ref 114), some (.int v1), some (.int v2), some (.int v3), some (.int y1), some (.int v5)], [], M)) hF (i := .iinc 4 (-1)) rfl (fun _ => rfl) (fun y1 => ?_)
  refine dp_s1 hF (i := .aload_n 0) rfl (fun _ => rfl) ?_
  refine dp_s1 hF (i := .getfield 42) rfl (fun _ => rfl) ?_
  refine dp_s1 hF (i := .iload 4) rfl (fun _ => rfl) ?_
  refine dp_s1 hF (i := .aload_n 0) rfl (fun _ => rfl) ?_
  refine dp_s1 hF (i := .getfield 55) rfl (fun _ => rfl) ?_
  refine dp_s1 hF (i := .iload 5) rfl (fun _ => rfl) ?_
  refine dp_s3 hF (i := .iaload) rfl (fun _ => rfl) ?_
  refine dp_s1 hF (i := .bipush 8) rfl (fun _ => rfl) ?_
  refine dp_s1 hF (i := .idiv) rfl (fun _ => rfl) ?_
  refine dp_s3w (dp_setI M 124 (Int32.toNatClampNeg y1) ((dp_I M 128 (Int32.toNatClampNeg v5)) / (8 : Int32))) (fun (M2 : dp_M) => (131, [some (.ref 114), some (.int v1), some (.int v2), some (.int v3), some (.int y1), some (.int v5)], [], M2)) hF (i := .iastore) rfl (fun _ => rfl) (fun M2 => ?_)
  refine dp_s1 hF (i := .aload_n 0) rfl (fun _ => rfl) ?_
  refine dp_s1 hF (i := .getfield 45) rfl (fun _ => rfl) ?_
  refine dp_s1 hF (i := .iload 4) rfl (fun _ => rfl) ?_
  refine dp_s1 hF (i := .aload_n 0) rfl (fun _ => rfl) ?_
  refine dp_s1 hF (i := .getfield 55) rfl (fun _ => rfl) ?_
  refine dp_s1 hF (i := .iload 5) rfl (fun _ => rfl) ?_
  refine dp_s3 hF (i := .iaload) rfl (fun _ => rfl) ?_
  refine dp_s1 hF (i := .bipush 8) rfl (fun _ => rfl) ?_
  refine dp_s1 hF (i := .irem) rfl (fun _ => rfl) ?_
  refine dp_s3w (dp_setI M2 125 (Int32.toNatClampNeg y1) ((dp_I M2 128 (Int32.toNatClampNeg v5)) - (dp_I M2 128 (Int32.toNatClampNeg v5)) / (8 : Int32) * (8 : Int32))) (fun (M3 : dp_M) => (148, [some (.ref 114), some (.int v1), some (.int v2), some (.int v3), some (.int y1), some (.int v5)], [], M3)) hF (i := .iastore) rfl (fun _ => rfl) (fun M3 => ?_)
  refine dp_s1 hF (i := .aload_n 0) rfl (fun _ => rfl) ?_
  refine dp_s1 hF (i := .getfield 39) rfl (fun _ => rfl) ?_
  refine dp_s1 hF (i := .iload 4) rfl (fun _ => rfl) ?_
  refine dp_s1 hF (i := .aload_n 0) rfl (fun _ => rfl) ?_
  refine dp_s1 hF (i := .getfield 61) rfl (fun _ => rfl) ?_
  refine dp_s1 hF (i := .aload_n 0) rfl (fun _ => rfl) ?_
  refine dp_s1 hF (i := .aload_n 0) rfl (fun _ => rfl) ?_
  refine dp_s1 hF (i := .getfield 48) rfl (fun _ => rfl) ?_
  refine dp_s1 hF (i := .aload_n 0) rfl (fun _ => rfl) ?_
  refine dp_s1 hF (i := .getfield 52) rfl (fun _ => rfl) ?_
  refine dp_s1 hF (i := .iload 5) rfl (fun _ => rfl) ?_
  refine dp_s3 hF (i := .iaload) rfl (fun _ => rfl) ?_
  refine dp_s3 hF (i := .laload) rfl (fun _ => rfl) ?_
  refine dp_s1 hF (i := .aload_n 0) rfl (fun _ => rfl) ?_
  refine dp_s1 hF (i := .getfield 55) rfl (fun _ => rfl) ?_
  refine dp_s1 hF (i := .iload 5) rfl (fun _ => rfl) ?_
  refine dp_s3 hF (i := .iaload) rfl (fun _ => rfl) ?_
  refine dp_s1 hF (i := .bipush 8) rfl (fun _ => rfl) ?_
  refine dp_s1 hF (i := .idiv) rfl (fun _ => rfl) ?_
  refine dp_si (mj := dp_m_X12_taken) (i := .invokevirtual 496) rfl rfl (Or.inl rfl) rfl (fun _ => rfl) (fun r5 M4 => ?_)
  refine dp_s3 hF (i := .iaload) rfl (fun _ => rfl) ?_
  refine dp_s3w (dp_setI M4 123 (Int32.toNatClampNeg y1) (dp_I M4 130 (Int32.toNatClampNeg r5))) (fun (M6 : dp_M) => (186, [some (.ref 114), some (.int v1), some (.int v2), some (.int v3), some (.int y1), some (.int v5)], [], M6)) hF (i := .iastore) rfl (fun _ => rfl) (fun M6 => ?_)
  refine dp_s1 hF (i := .aload_n 0) rfl (fun _ => rfl) ?_
  refine dp_s1 hF (i := .getfield 52) rfl (fun _ => rfl) ?_
  refine dp_s1 hF (i := .iload 5) rfl (fun _ => rfl) ?_
  refine dp_s3 hF (i := .iaload) rfl (fun _ => rfl) ?_
  refine dp_s1w (dp_I M6 127 (Int32.toNatClampNeg v5)) (fun (y7 : Int32) => (195, [some (.ref 114), some (.int v1), some (.int v2), some (.int v3), some (.int y1), some (.int y7)], [], M6)) hF (i := .istore 5) rfl (fun _ => rfl) (fun y7 => ?_)
  refine dp_s1 hF (i := .goto (-94)) rfl (fun _ => rfl) ?_
  exact rfl
noncomputable def D_X12_move_0 (xs : Nat → Int32) (xl d : Nat) (v1 : Int32) (v2 : Int32) (v3 : Int32) (M : dp_M) : Option dp_Res := dp_lim true xs xl (dp_den true xs xl d) dp_m_X12_move (0, [some (.ref 114), some (.int v1), some (.int v2), some (.int v3), none], [], M)
noncomputable def D_X12_move_25 (xs : Nat → Int32) (xl d : Nat) (v1 : Int32) (v2 : Int32) (v3 : Int32) (vs0 : Int32) (M : dp_M) : Option dp_Res := dp_lim true xs xl (dp_den true xs xl d) dp_m_X12_move (25, [some (.ref 114), some (.int v1), some (.int v2), some (.int v3), none], [.int vs0, .ref 120], M)
theorem D_X12_move_0_den (xs : Nat → Int32) (xl d : Nat) (a0 : Int32) (a1 : Int32) (a2 : Int32) (M : dp_M) : dp_den true xs xl (d + 1) 388 [.ref 114, .int a0, .int a1, .int a2] M = D_X12_move_0 xs xl d a0 a1 a2 M := rfl
set_option maxRecDepth 20000 in
theorem D_X12_move_0_eq (xs : Nat → Int32) (xl d : Nat) (v1 : Int32) (v2 : Int32) (v3 : Int32) (M : dp_M) : D_X12_move_0 xs xl d v1 v2 v3 M = dp_bi (dp_den true xs xl d 370 [.ref 114, .int v1] M) (fun r2 M1 => if r2 = 0 then (dp_bi (dp_den true xs xl d 366 [.ref 114, .int (1 : Int32)] M1) (fun r4 M3 => some (.inl (some (.int r4)), M3))) else (dp_bi (dp_den true xs xl d 370 [.ref 114, .int v1] M1) (fun r6 M5 => if r6 = 0 then (D_X12_move_25 xs xl d v1 v2 v3 (0 : Int32) M5) else (D_X12_move_25 xs xl d v1 v2 v3 v1 M5)))) := by
  have hF := dp_den_grow (md := true) (xs := xs) (xl := xl) d
  unfold D_X12_move_0
  refine dp_s1 hF (i := .aload_n 0) rfl (fun _ => rfl) ?_
  refine dp_s1 hF (i := .iload_n 1) rfl (fun _ => rfl) ?_
  refine dp_si (mj := dp_m_X12_isBay) (i := .invokevirtual 440) rfl rfl (Or.inr rfl) rfl (fun _ => rfl) (fun r2 M1 => ?_)
  refine dp_s2 hF (i := .ifCond .eq 50) (a := (55, [some (.ref 114), some (.int v1), some (.int v2), some (.int v3), none], [], M1)) (b := (8, [some (.ref 114), some (.int v1), some (.int v2), some (.int v3), none], [], M1)) rfl (fun _ => rfl) ?_ ?_
  · refine dp_s1 hF (i := .aload_n 0) rfl (fun _ => rfl) ?_
    refine dp_s1 hF (i := .iconst 1) rfl (fun _ => rfl) ?_
    refine dp_si (mj := dp_m_X12_refuse) (i := .invokevirtual 460) rfl rfl (Or.inl rfl) rfl (fun _ => rfl) (fun r4 M3 => ?_)
    exact dp_s0 hF (i := .ireturn) rfl (fun _ => rfl)
  refine dp_s1 hF (i := .aload_n 0) rfl (fun _ => rfl) ?_
  refine dp_s1 hF (i := .getfield 30) rfl (fun _ => rfl) ?_
  refine dp_s1 hF (i := .aload_n 0) rfl (fun _ => rfl) ?_
  refine dp_s1 hF (i := .iload_n 1) rfl (fun _ => rfl) ?_
  refine dp_si (mj := dp_m_X12_isBay) (i := .invokevirtual 440) rfl rfl (Or.inr rfl) rfl (fun _ => rfl) (fun r6 M5 => ?_)
  refine dp_s2 hF (i := .ifCond .eq 7) (a := (24, [some (.ref 114), some (.int v1), some (.int v2), some (.int v3), none], [.ref 120], M5)) (b := (20, [some (.ref 114), some (.int v1), some (.int v2), some (.int v3), none], [.ref 120], M5)) rfl (fun _ => rfl) ?_ ?_
  · refine dp_s1 hF (i := .iconst 0) rfl (fun _ => rfl) ?_
    exact rfl
  refine dp_s1 hF (i := .iload_n 1) rfl (fun _ => rfl) ?_
  refine dp_s1 hF (i := .goto 4) rfl (fun _ => rfl) ?_
  exact rfl
set_option maxRecDepth 20000 in
theorem D_X12_move_25_eq (xs : Nat → Int32) (xl d : Nat) (v1 : Int32) (v2 : Int32) (v3 : Int32) (vs0 : Int32) (M : dp_M) : D_X12_move_25 xs xl d v1 v2 v3 vs0 M = if vs0 < 0 ∨ 12 ≤ Int32.toNatClampNeg vs0 then none else (if (dp_I M 120 (Int32.toNatClampNeg vs0)) = 0 then (dp_bi (dp_den true xs xl d 366 [.ref 114, .int (1 : Int32)] M) (fun r2 M1 => some (.inl (some (.int r2)), M1))) else (if v2 < 0 then (dp_bi (dp_den true xs xl d 366 [.ref 114, .int (1 : Int32)] M) (fun r4 M3 => some (.inl (some (.int r4)), M3))) else (if v1 < 0 ∨ 12 ≤ Int32.toNatClampNeg v1 then none else (if (dp_I M 121 (Int32.toNatClampNeg v1)) ≤ v2 then (dp_bi (dp_den true xs xl d 366 [.ref 114, .int (1 : Int32)] M) (fun r6 M5 => some (.inl (some (.int r6)), M5))) else (dp_bi (dp_den true xs xl d 367 [.long (Int32.toInt64 v3), .long (0 : Int64), .long (3 : Int64)] M) (fun r8 M7 => if r8 = 0 then (dp_bi (dp_den true xs xl d 366 [.ref 114, .int (1 : Int32)] M7) (fun r10 M9 => some (.inl (some (.int r10)), M9))) else (dp_w (dp_setI M7 114 0 (0 : Int32)) (fun M11 => dp_w (((40 : Int32) * v1) + v2) (fun y12 => if v3 = 0 then (if y12 < 0 ∨ 480 ≤ Int32.toNatClampNeg y12 then none else (some (.inl (some (.int (dp_I M11 123 (Int32.toNatClampNeg y12)))), M11))) else (if v3 = (1 : Int32) then (if y12 < 0 ∨ 480 ≤ Int32.toNatClampNeg y12 then none else (some (.inl (some (.int (dp_I M11 124 (Int32.toNatClampNeg y12)))), M11))) else (if v3 = (2 : Int32) then (if y12 < 0 ∨ 480 ≤ Int32.toNatClampNeg y12 then none else (some (.inl (some (.int (dp_I M11 125 (Int32.toNatClampNeg y12)))), M11))) else (if v1 < 0 ∨ 12 ≤ Int32.toNatClampNeg v1 then none else (if (dp_I M11 122 (Int32.toNatClampNeg v1)) ≤ v2 then (some (.inl (some (.int (0 : Int32))), M11)) else (some (.inl (some (.int (1 : Int32))), M11))))))))))))))) := by
  have hF := dp_den_grow (md := true) (xs := xs) (xl := xl) d
  unfold D_X12_move_25
  refine dp_s3 hF (i := .baload) rfl (fun _ => rfl) ?_
  refine dp_s2 hF (i := .ifCond .eq 29) (a := (55, [some (.ref 114), some (.int v1), some (.int v2), some (.int v3), none], [], M)) (b := (29, [some (.ref 114), some (.int v1), some (.int v2), some (.int v3), none], [], M)) rfl (fun _ => rfl) ?_ ?_
  · refine dp_s1 hF (i := .aload_n 0) rfl (fun _ => rfl) ?_
    refine dp_s1 hF (i := .iconst 1) rfl (fun _ => rfl) ?_
    refine dp_si (mj := dp_m_X12_refuse) (i := .invokevirtual 460) rfl rfl (Or.inl rfl) rfl (fun _ => rfl) (fun r2 M1 => ?_)
    exact dp_s0 hF (i := .ireturn) rfl (fun _ => rfl)
  refine dp_s1 hF (i := .iload_n 2) rfl (fun _ => rfl) ?_
  refine dp_s2 hF (i := .ifCond .lt 25) (a := (55, [some (.ref 114), some (.int v1), some (.int v2), some (.int v3), none], [], M)) (b := (33, [some (.ref 114), some (.int v1), some (.int v2), some (.int v3), none], [], M)) rfl (fun _ => rfl) ?_ ?_
  · refine dp_s1 hF (i := .aload_n 0) rfl (fun _ => rfl) ?_
    refine dp_s1 hF (i := .iconst 1) rfl (fun _ => rfl) ?_
    refine dp_si (mj := dp_m_X12_refuse) (i := .invokevirtual 460) rfl rfl (Or.inl rfl) rfl (fun _ => rfl) (fun r4 M3 => ?_)
    exact dp_s0 hF (i := .ireturn) rfl (fun _ => rfl)
  refine dp_s1 hF (i := .iload_n 2) rfl (fun _ => rfl) ?_
  refine dp_s1 hF (i := .aload_n 0) rfl (fun _ => rfl) ?_
  refine dp_s1 hF (i := .getfield 33) rfl (fun _ => rfl) ?_
  refine dp_s1 hF (i := .iload_n 1) rfl (fun _ => rfl) ?_
  refine dp_s3 hF (i := .iaload) rfl (fun _ => rfl) ?_
  refine dp_s2 hF (i := .if_icmp .ge 15) (a := (55, [some (.ref 114), some (.int v1), some (.int v2), some (.int v3), none], [], M)) (b := (43, [some (.ref 114), some (.int v1), some (.int v2), some (.int v3), none], [], M)) rfl (fun _ => rfl) ?_ ?_
  · refine dp_s1 hF (i := .aload_n 0) rfl (fun _ => rfl) ?_
    refine dp_s1 hF (i := .iconst 1) rfl (fun _ => rfl) ?_
    refine dp_si (mj := dp_m_X12_refuse) (i := .invokevirtual 460) rfl rfl (Or.inl rfl) rfl (fun _ => rfl) (fun r6 M5 => ?_)
    exact dp_s0 hF (i := .ireturn) rfl (fun _ => rfl)
  refine dp_s1 hF (i := .iload_n 3) rfl (fun _ => rfl) ?_
  refine dp_s1 hF (i := .i2l) rfl (fun _ => rfl) ?_
  refine dp_s1 hF (i := .lconst 0) rfl (fun _ => rfl) ?_
  refine dp_s1 hF (i := .ldc2_w 529) rfl (fun _ => rfl) ?_
  refine dp_si (mj := dp_m_X12_in) (i := .invokestatic 446) rfl rfl (Or.inr rfl) rfl (fun _ => rfl) (fun r8 M7 => ?_)
  refine dp_s2 hF (i := .ifCond .ne 9) (a := (55, [some (.ref 114), some (.int v1), some (.int v2), some (.int v3), none], [], M7)) (b := (61, [some (.ref 114), some (.int v1), some (.int v2), some (.int v3), none], [], M7)) rfl (fun _ => rfl) ?_ ?_
  · refine dp_s1 hF (i := .aload_n 0) rfl (fun _ => rfl) ?_
    refine dp_s1 hF (i := .iconst 1) rfl (fun _ => rfl) ?_
    refine dp_si (mj := dp_m_X12_refuse) (i := .invokevirtual 460) rfl rfl (Or.inl rfl) rfl (fun _ => rfl) (fun r10 M9 => ?_)
    exact dp_s0 hF (i := .ireturn) rfl (fun _ => rfl)
  refine dp_s1 hF (i := .aload_n 0) rfl (fun _ => rfl) ?_
  refine dp_s1 hF (i := .iconst 0) rfl (fun _ => rfl) ?_
  refine dp_s1w (dp_setI M7 114 0 (0 : Int32)) (fun (M11 : dp_M) => (66, [some (.ref 114), some (.int v1), some (.int v2), some (.int v3), none], [], M11)) hF (i := .putfield 1) rfl (fun _ => rfl) (fun M11 => ?_)
  refine dp_s1 hF (i := .bipush 40) rfl (fun _ => rfl) ?_
  refine dp_s1 hF (i := .iload_n 1) rfl (fun _ => rfl) ?_
  refine dp_s1 hF (i := .imul) rfl (fun _ => rfl) ?_
  refine dp_s1 hF (i := .iload_n 2) rfl (fun _ => rfl) ?_
  refine dp_s1 hF (i := .iadd) rfl (fun _ => rfl) ?_
  refine dp_s1w (((40 : Int32) * v1) + v2) (fun (y12 : Int32) => (74, [some (.ref 114), some (.int v1), some (.int v2), some (.int v3), some (.int y12)], [], M11)) hF (i := .istore 4) rfl (fun _ => rfl) (fun y12 => ?_)
  refine dp_s1 hF (i := .iload_n 3) rfl (fun _ => rfl) ?_
  refine dp_s2 hF (i := .ifCond .ne 13) (a := (78, [some (.ref 114), some (.int v1), some (.int v2), some (.int v3), some (.int y12)], [], M11)) (b := (88, [some (.ref 114), some (.int v1), some (.int v2), some (.int v3), some (.int y12)], [], M11)) rfl (fun _ => rfl) ?_ ?_
  · refine dp_s1 hF (i := .aload_n 0) rfl (fun _ => rfl) ?_
    refine dp_s1 hF (i := .getfield 39) rfl (fun _ => rfl) ?_
    refine dp_s1 hF (i := .iload 4) rfl (fun _ => rfl) ?_
    refine dp_s3 hF (i := .iaload) rfl (fun _ => rfl) ?_
    refine dp_s1 hF (i := .goto 48) rfl (fun _ => rfl) ?_
    exact dp_s0 hF (i := .ireturn) rfl (fun _ => rfl)
  refine dp_s1 hF (i := .iload_n 3) rfl (fun _ => rfl) ?_
  refine dp_s1 hF (i := .iconst 1) rfl (fun _ => rfl) ?_
  refine dp_s2 hF (i := .if_icmp .ne 13) (a := (93, [some (.ref 114), some (.int v1), some (.int v2), some (.int v3), some (.int y12)], [], M11)) (b := (103, [some (.ref 114), some (.int v1), some (.int v2), some (.int v3), some (.int y12)], [], M11)) rfl (fun _ => rfl) ?_ ?_
  · refine dp_s1 hF (i := .aload_n 0) rfl (fun _ => rfl) ?_
    refine dp_s1 hF (i := .getfield 42) rfl (fun _ => rfl) ?_
    refine dp_s1 hF (i := .iload 4) rfl (fun _ => rfl) ?_
    refine dp_s3 hF (i := .iaload) rfl (fun _ => rfl) ?_
    refine dp_s1 hF (i := .goto 33) rfl (fun _ => rfl) ?_
    exact dp_s0 hF (i := .ireturn) rfl (fun _ => rfl)
  refine dp_s1 hF (i := .iload_n 3) rfl (fun _ => rfl) ?_
  refine dp_s1 hF (i := .iconst 2) rfl (fun _ => rfl) ?_
  refine dp_s2 hF (i := .if_icmp .ne 13) (a := (108, [some (.ref 114), some (.int v1), some (.int v2), some (.int v3), some (.int y12)], [], M11)) (b := (118, [some (.ref 114), some (.int v1), some (.int v2), some (.int v3), some (.int y12)], [], M11)) rfl (fun _ => rfl) ?_ ?_
  · refine dp_s1 hF (i := .aload_n 0) rfl (fun _ => rfl) ?_
    refine dp_s1 hF (i := .getfield 45) rfl (fun _ => rfl) ?_
    refine dp_s1 hF (i := .iload 4) rfl (fun _ => rfl) ?_
    refine dp_s3 hF (i := .iaload) rfl (fun _ => rfl) ?_
    refine dp_s1 hF (i := .goto 18) rfl (fun _ => rfl) ?_
    exact dp_s0 hF (i := .ireturn) rfl (fun _ => rfl)
  refine dp_s1 hF (i := .iload_n 2) rfl (fun _ => rfl) ?_
  refine dp_s1 hF (i := .aload_n 0) rfl (fun _ => rfl) ?_
  refine dp_s1 hF (i := .getfield 36) rfl (fun _ => rfl) ?_
  refine dp_s1 hF (i := .iload_n 1) rfl (fun _ => rfl) ?_
  refine dp_s3 hF (i := .iaload) rfl (fun _ => rfl) ?_
  refine dp_s2 hF (i := .if_icmp .ge 7) (a := (132, [some (.ref 114), some (.int v1), some (.int v2), some (.int v3), some (.int y12)], [], M11)) (b := (128, [some (.ref 114), some (.int v1), some (.int v2), some (.int v3), some (.int y12)], [], M11)) rfl (fun _ => rfl) ?_ ?_
  · refine dp_s1 hF (i := .iconst 0) rfl (fun _ => rfl) ?_
    exact dp_s0 hF (i := .ireturn) rfl (fun _ => rfl)
  refine dp_s1 hF (i := .iconst 1) rfl (fun _ => rfl) ?_
  refine dp_s1 hF (i := .goto 4) rfl (fun _ => rfl) ?_
  exact dp_s0 hF (i := .ireturn) rfl (fun _ => rfl)
noncomputable def D_X12_work_0 (xs : Nat → Int32) (xl d : Nat) (v1 : Int32) (M : dp_M) : Option dp_Res := dp_lim true xs xl (dp_den true xs xl d) dp_m_X12_work (0, [some (.ref 114), some (.int v1), none, none, none, none], [], M)
noncomputable def D_X12_work_91 (xs : Nat → Int32) (xl d : Nat) (v1 : Int32) (v2 : Int32) (v3 : Int32) (v4 : Int32) (vs0 : Int32) (M : dp_M) : Option dp_Res := dp_lim true xs xl (dp_den true xs xl d) dp_m_X12_work (91, [some (.ref 114), some (.int v1), some (.int v2), some (.int v3), some (.int v4), none], [.int vs0], M)
noncomputable def D_X12_work_144 (xs : Nat → Int32) (xl d : Nat) (v1 : Int32) (v2 : Int32) (v3 : Int32) (v4 : Int32) (v5 : Int32) (M : dp_M) : Option dp_Res := dp_lim true xs xl (dp_den true xs xl d) dp_m_X12_work (144, [some (.ref 114), some (.int v1), some (.int v2), some (.int v3), some (.int v4), some (.int v5)], [], M)
theorem D_X12_work_0_den (xs : Nat → Int32) (xl d : Nat) (a0 : Int32) (M : dp_M) : dp_den true xs xl (d + 1) 389 [.ref 114, .int a0] M = D_X12_work_0 xs xl d a0 M := rfl
set_option maxRecDepth 20000 in
theorem D_X12_work_0_eq (xs : Nat → Int32) (xl d : Nat) (v1 : Int32) (M : dp_M) : D_X12_work_0 xs xl d v1 M = dp_bi (dp_den true xs xl d 370 [.ref 114, .int v1] M) (fun r2 M1 => if r2 = 0 then (dp_bi (dp_den true xs xl d 366 [.ref 114, .int (1 : Int32)] M1) (fun r4 M3 => some (.inl (some (.int r4)), M3))) else (if v1 < 0 ∨ 12 ≤ Int32.toNatClampNeg v1 then none else (if (dp_I M1 120 (Int32.toNatClampNeg v1)) = 0 then (dp_bi (dp_den true xs xl d 366 [.ref 114, .int (2 : Int32)] M1) (fun r6 M5 => some (.inl (some (.int r6)), M5))) else (if v1 < 0 ∨ 12 ≤ Int32.toNatClampNeg v1 then none else (if v1 < 0 ∨ 12 ≤ Int32.toNatClampNeg v1 then none else (if (dp_I M1 122 (Int32.toNatClampNeg v1)) = (dp_I M1 121 (Int32.toNatClampNeg v1)) then (dp_bi (dp_den true xs xl d 366 [.ref 114, .int (2 : Int32)] M1) (fun r8 M7 => some (.inl (some (.int r8)), M7))) else (dp_w (dp_setI M1 114 0 (0 : Int32)) (fun M9 => if v1 < 0 ∨ 12 ≤ Int32.toNatClampNeg v1 then none else (dp_w (((40 : Int32) * v1) + (dp_I M9 122 (Int32.toNatClampNeg v1))) (fun y10 => if y10 < 0 ∨ 480 ≤ Int32.toNatClampNeg y10 then none else (dp_w (dp_I M9 123 (Int32.toNatClampNeg y10)) (fun y11 => if y10 < 0 ∨ 480 ≤ Int32.toNatClampNeg y10 then none else (dp_w (dp_I M9 125 (Int32.toNatClampNeg y10)) (fun y12 => if y12 = (3 : Int32) then (dp_bi (dp_den true xs xl d 405 [.ref 114, .int y11] M9) (fun r14 M13 => D_X12_work_91 xs xl d v1 y10 y11 y12 r14 M13)) else (D_X12_work_91 xs xl d v1 y10 y11 y12 (0 : Int32) M9))))))))))))))) := by
  have hF := dp_den_grow (md := true) (xs := xs) (xl := xl) d
  unfold D_X12_work_0
  refine dp_s1 hF (i := .aload_n 0) rfl (fun _ => rfl) ?_
  refine dp_s1 hF (i := .iload_n 1) rfl (fun _ => rfl) ?_
  refine dp_si (mj := dp_m_X12_isBay) (i := .invokevirtual 440) rfl rfl (Or.inr rfl) rfl (fun _ => rfl) (fun r2 M1 => ?_)
  refine dp_s2 hF (i := .ifCond .ne 9) (a := (8, [some (.ref 114), some (.int v1), none, none, none, none], [], M1)) (b := (14, [some (.ref 114), some (.int v1), none, none, none, none], [], M1)) rfl (fun _ => rfl) ?_ ?_
  · refine dp_s1 hF (i := .aload_n 0) rfl (fun _ => rfl) ?_
    refine dp_s1 hF (i := .iconst 1) rfl (fun _ => rfl) ?_
    refine dp_si (mj := dp_m_X12_refuse) (i := .invokevirtual 460) rfl rfl (Or.inl rfl) rfl (fun _ => rfl) (fun r4 M3 => ?_)
    exact dp_s0 hF (i := .ireturn) rfl (fun _ => rfl)
  refine dp_s1 hF (i := .aload_n 0) rfl (fun _ => rfl) ?_
  refine dp_s1 hF (i := .getfield 30) rfl (fun _ => rfl) ?_
  refine dp_s1 hF (i := .iload_n 1) rfl (fun _ => rfl) ?_
  refine dp_s3 hF (i := .baload) rfl (fun _ => rfl) ?_
  refine dp_s2 hF (i := .ifCond .eq 18) (a := (38, [some (.ref 114), some (.int v1), none, none, none, none], [], M1)) (b := (23, [some (.ref 114), some (.int v1), none, none, none, none], [], M1)) rfl (fun _ => rfl) ?_ ?_
  · refine dp_s1 hF (i := .aload_n 0) rfl (fun _ => rfl) ?_
    refine dp_s1 hF (i := .iconst 2) rfl (fun _ => rfl) ?_
    refine dp_si (mj := dp_m_X12_refuse) (i := .invokevirtual 460) rfl rfl (Or.inl rfl) rfl (fun _ => rfl) (fun r6 M5 => ?_)
    exact dp_s0 hF (i := .ireturn) rfl (fun _ => rfl)
  refine dp_s1 hF (i := .aload_n 0) rfl (fun _ => rfl) ?_
  refine dp_s1 hF (i := .getfield 36) rfl (fun _ => rfl) ?_
  refine dp_s1 hF (i := .iload_n 1) rfl (fun _ => rfl) ?_
  refine dp_s3 hF (i := .iaload) rfl (fun _ => rfl) ?_
  refine dp_s1 hF (i := .aload_n 0) rfl (fun _ => rfl) ?_
  refine dp_s1 hF (i := .getfield 33) rfl (fun _ => rfl) ?_
  refine dp_s1 hF (i := .iload_n 1) rfl (fun _ => rfl) ?_
  refine dp_s3 hF (i := .iaload) rfl (fun _ => rfl) ?_
  refine dp_s2 hF (i := .if_icmp .ne 9) (a := (38, [some (.ref 114), some (.int v1), none, none, none, none], [], M1)) (b := (44, [some (.ref 114), some (.int v1), none, none, none, none], [], M1)) rfl (fun _ => rfl) ?_ ?_
  · refine dp_s1 hF (i := .aload_n 0) rfl (fun _ => rfl) ?_
    refine dp_s1 hF (i := .iconst 2) rfl (fun _ => rfl) ?_
    refine dp_si (mj := dp_m_X12_refuse) (i := .invokevirtual 460) rfl rfl (Or.inl rfl) rfl (fun _ => rfl) (fun r8 M7 => ?_)
    exact dp_s0 hF (i := .ireturn) rfl (fun _ => rfl)
  refine dp_s1 hF (i := .aload_n 0) rfl (fun _ => rfl) ?_
  refine dp_s1 hF (i := .iconst 0) rfl (fun _ => rfl) ?_
  refine dp_s1w (dp_setI M1 114 0 (0 : Int32)) (fun (M9 : dp_M) => (49, [some (.ref 114), some (.int v1), none, none, none, none], [], M9)) hF (i := .putfield 1) rfl (fun _ => rfl) (fun M9 => ?_)
  refine dp_s1 hF (i := .bipush 40) rfl (fun _ => rfl) ?_
  refine dp_s1 hF (i := .iload_n 1) rfl (fun _ => rfl) ?_
  refine dp_s1 hF (i := .imul) rfl (fun _ => rfl) ?_
  refine dp_s1 hF (i := .aload_n 0) rfl (fun _ => rfl) ?_
  refine dp_s1 hF (i := .getfield 36) rfl (fun _ => rfl) ?_
  refine dp_s1 hF (i := .iload_n 1) rfl (fun _ => rfl) ?_
  refine dp_s3 hF (i := .iaload) rfl (fun _ => rfl) ?_
  refine dp_s1 hF (i := .iadd) rfl (fun _ => rfl) ?_
  refine dp_s1w (((40 : Int32) * v1) + (dp_I M9 122 (Int32.toNatClampNeg v1))) (fun (y10 : Int32) => (61, [some (.ref 114), some (.int v1), some (.int y10), none, none, none], [], M9)) hF (i := .istore_n 2) rfl (fun _ => rfl) (fun y10 => ?_)
  refine dp_s1 hF (i := .aload_n 0) rfl (fun _ => rfl) ?_
  refine dp_s1 hF (i := .getfield 39) rfl (fun _ => rfl) ?_
  refine dp_s1 hF (i := .iload_n 2) rfl (fun _ => rfl) ?_
  refine dp_s3 hF (i := .iaload) rfl (fun _ => rfl) ?_
  refine dp_s1w (dp_I M9 123 (Int32.toNatClampNeg y10)) (fun (y11 : Int32) => (68, [some (.ref 114), some (.int v1), some (.int y10), some (.int y11), none, none], [], M9)) hF (i := .istore_n 3) rfl (fun _ => rfl) (fun y11 => ?_)
  refine dp_s1 hF (i := .aload_n 0) rfl (fun _ => rfl) ?_
  refine dp_s1 hF (i := .getfield 45) rfl (fun _ => rfl) ?_
  refine dp_s1 hF (i := .iload_n 2) rfl (fun _ => rfl) ?_
  refine dp_s3 hF (i := .iaload) rfl (fun _ => rfl) ?_
  refine dp_s1w (dp_I M9 125 (Int32.toNatClampNeg y10)) (fun (y12 : Int32) => (76, [some (.ref 114), some (.int v1), some (.int y10), some (.int y11), some (.int y12), none], [], M9)) hF (i := .istore 4) rfl (fun _ => rfl) (fun y12 => ?_)
  refine dp_s1 hF (i := .iload 4) rfl (fun _ => rfl) ?_
  refine dp_s1 hF (i := .iconst 3) rfl (fun _ => rfl) ?_
  refine dp_s2 hF (i := .if_icmp .ne 11) (a := (82, [some (.ref 114), some (.int v1), some (.int y10), some (.int y11), some (.int y12), none], [], M9)) (b := (90, [some (.ref 114), some (.int v1), some (.int y10), some (.int y11), some (.int y12), none], [], M9)) rfl (fun _ => rfl) ?_ ?_
  · refine dp_s1 hF (i := .aload_n 0) rfl (fun _ => rfl) ?_
    refine dp_s1 hF (i := .iload_n 3) rfl (fun _ => rfl) ?_
    refine dp_si (mj := dp_m_X12_bestRow) (i := .invokevirtual 531) rfl rfl (Or.inl rfl) rfl (fun _ => rfl) (fun r14 M13 => ?_)
    refine dp_s1 hF (i := .goto 4) rfl (fun _ => rfl) ?_
    exact rfl
  refine dp_s1 hF (i := .iconst 0) rfl (fun _ => rfl) ?_
  exact rfl
set_option maxRecDepth 20000 in
theorem D_X12_work_91_eq (xs : Nat → Int32) (xl d : Nat) (v1 : Int32) (v2 : Int32) (v3 : Int32) (v4 : Int32) (vs0 : Int32) (M : dp_M) : D_X12_work_91 xs xl d v1 v2 v3 v4 vs0 M = if 0 ≤ vs0 then (if (3 : Int32) ≤ v4 then (if v3 < 0 ∨ 100 ≤ Int32.toNatClampNeg v3 then none else dp_w (dp_setI M 118 (Int32.toNatClampNeg v3) (-1 : Int32)) (fun M1 => if v3 < 0 ∨ 100 ≤ Int32.toNatClampNeg v3 then none else dp_w (dp_setI M1 117 (Int32.toNatClampNeg v3) v4) (fun M2 => if v4 = (3 : Int32) then (dp_bv (dp_den true xs xl d 409 [.ref 114, .int v3, .int vs0] M2) (fun M3 => D_X12_work_144 xs xl d v1 v2 v3 v4 vs0 M3)) else (D_X12_work_144 xs xl d v1 v2 v3 v4 vs0 M2)))) else (dp_bi (dp_den true xs xl d 372 [.ref 114, .int v1, .int v4] M) (fun r5 M4 => if v3 < 0 ∨ 100 ≤ Int32.toNatClampNeg v3 then none else dp_w (dp_setI M4 118 (Int32.toNatClampNeg v3) r5) (fun M6 => if v3 < 0 ∨ 100 ≤ Int32.toNatClampNeg v3 then none else dp_w (dp_setI M6 117 (Int32.toNatClampNeg v3) v4) (fun M7 => if v4 = (3 : Int32) then (dp_bv (dp_den true xs xl d 409 [.ref 114, .int v3, .int vs0] M7) (fun M8 => D_X12_work_144 xs xl d v1 v2 v3 v4 vs0 M8)) else (D_X12_work_144 xs xl d v1 v2 v3 v4 vs0 M7)))))) else (some (.inl (some (.int (-1 : Int32))), M)) := by
  have hF := dp_den_grow (md := true) (xs := xs) (xl := xl) d
  unfold D_X12_work_91
  refine dp_s1 hF (i := .istore 5) rfl (fun _ => rfl) ?_
  refine dp_s1 hF (i := .iload 5) rfl (fun _ => rfl) ?_
  refine dp_s2 hF (i := .ifCond .ge 5) (a := (100, [some (.ref 114), some (.int v1), some (.int v2), some (.int v3), some (.int v4), some (.int vs0)], [], M)) (b := (98, [some (.ref 114), some (.int v1), some (.int v2), some (.int v3), some (.int v4), some (.int vs0)], [], M)) rfl (fun _ => rfl) ?_ ?_
  · refine dp_s1 hF (i := .aload_n 0) rfl (fun _ => rfl) ?_
    refine dp_s1 hF (i := .getfield 23) rfl (fun _ => rfl) ?_
    refine dp_s1 hF (i := .iload_n 3) rfl (fun _ => rfl) ?_
    refine dp_s1 hF (i := .iload 4) rfl (fun _ => rfl) ?_
    refine dp_s1 hF (i := .iconst 3) rfl (fun _ => rfl) ?_
    refine dp_s2 hF (i := .if_icmp .ge 13) (a := (121, [some (.ref 114), some (.int v1), some (.int v2), some (.int v3), some (.int v4), some (.int vs0)], [.int v3, .ref 118], M)) (b := (111, [some (.ref 114), some (.int v1), some (.int v2), some (.int v3), some (.int v4), some (.int vs0)], [.int v3, .ref 118], M)) rfl (fun _ => rfl) ?_ ?_
    · refine dp_s1 hF (i := .iconst (-1)) rfl (fun _ => rfl) ?_
      refine dp_s3w (dp_setI M 118 (Int32.toNatClampNeg v3) (-1 : Int32)) (fun (M1 : dp_M) => (123, [some (.ref 114), some (.int v1), some (.int v2), some (.int v3), some (.int v4), some (.int vs0)], [], M1)) hF (i := .iastore) rfl (fun _ => rfl) (fun M1 => ?_)
      refine dp_s1 hF (i := .aload_n 0) rfl (fun _ => rfl) ?_
      refine dp_s1 hF (i := .getfield 20) rfl (fun _ => rfl) ?_
      refine dp_s1 hF (i := .iload_n 3) rfl (fun _ => rfl) ?_
      refine dp_s1 hF (i := .iload 4) rfl (fun _ => rfl) ?_
      refine dp_s3w (dp_setI M1 117 (Int32.toNatClampNeg v3) v4) (fun (M2 : dp_M) => (131, [some (.ref 114), some (.int v1), some (.int v2), some (.int v3), some (.int v4), some (.int vs0)], [], M2)) hF (i := .iastore) rfl (fun _ => rfl) (fun M2 => ?_)
      refine dp_s1 hF (i := .iload 4) rfl (fun _ => rfl) ?_
      refine dp_s1 hF (i := .iconst 3) rfl (fun _ => rfl) ?_
      refine dp_s2 hF (i := .if_icmp .ne 10) (a := (137, [some (.ref 114), some (.int v1), some (.int v2), some (.int v3), some (.int v4), some (.int vs0)], [], M2)) (b := (144, [some (.ref 114), some (.int v1), some (.int v2), some (.int v3), some (.int v4), some (.int vs0)], [], M2)) rfl (fun _ => rfl) ?_ ?_
      · refine dp_s1 hF (i := .aload_n 0) rfl (fun _ => rfl) ?_
        refine dp_s1 hF (i := .iload_n 3) rfl (fun _ => rfl) ?_
        refine dp_s1 hF (i := .iload 5) rfl (fun _ => rfl) ?_
        refine dp_sv (mj := dp_m_X12_goesTo) (i := .invokevirtual 534) rfl rfl rfl rfl (fun _ => rfl) (fun M3 => ?_)
        exact rfl
      exact rfl
    refine dp_s1 hF (i := .aload_n 0) rfl (fun _ => rfl) ?_
    refine dp_s1 hF (i := .iload_n 1) rfl (fun _ => rfl) ?_
    refine dp_s1 hF (i := .iload 4) rfl (fun _ => rfl) ?_
    refine dp_si (mj := dp_m_X12_deckHeight) (i := .invokevirtual 467) rfl rfl (Or.inl rfl) rfl (fun _ => rfl) (fun r5 M4 => ?_)
    refine dp_s1 hF (i := .goto 4) rfl (fun _ => rfl) ?_
    refine dp_s3w (dp_setI M4 118 (Int32.toNatClampNeg v3) r5) (fun (M6 : dp_M) => (123, [some (.ref 114), some (.int v1), some (.int v2), some (.int v3), some (.int v4), some (.int vs0)], [], M6)) hF (i := .iastore) rfl (fun _ => rfl) (fun M6 => ?_)
    refine dp_s1 hF (i := .aload_n 0) rfl (fun _ => rfl) ?_
    refine dp_s1 hF (i := .getfield 20) rfl (fun _ => rfl) ?_
    refine dp_s1 hF (i := .iload_n 3) rfl (fun _ => rfl) ?_
    refine dp_s1 hF (i := .iload 4) rfl (fun _ => rfl) ?_
    refine dp_s3w (dp_setI M6 117 (Int32.toNatClampNeg v3) v4) (fun (M7 : dp_M) => (131, [some (.ref 114), some (.int v1), some (.int v2), some (.int v3), some (.int v4), some (.int vs0)], [], M7)) hF (i := .iastore) rfl (fun _ => rfl) (fun M7 => ?_)
    refine dp_s1 hF (i := .iload 4) rfl (fun _ => rfl) ?_
    refine dp_s1 hF (i := .iconst 3) rfl (fun _ => rfl) ?_
    refine dp_s2 hF (i := .if_icmp .ne 10) (a := (137, [some (.ref 114), some (.int v1), some (.int v2), some (.int v3), some (.int v4), some (.int vs0)], [], M7)) (b := (144, [some (.ref 114), some (.int v1), some (.int v2), some (.int v3), some (.int v4), some (.int vs0)], [], M7)) rfl (fun _ => rfl) ?_ ?_
    · refine dp_s1 hF (i := .aload_n 0) rfl (fun _ => rfl) ?_
      refine dp_s1 hF (i := .iload_n 3) rfl (fun _ => rfl) ?_
      refine dp_s1 hF (i := .iload 5) rfl (fun _ => rfl) ?_
      refine dp_sv (mj := dp_m_X12_goesTo) (i := .invokevirtual 534) rfl rfl rfl rfl (fun _ => rfl) (fun M8 => ?_)
      exact rfl
    exact rfl
  refine dp_s1 hF (i := .iconst (-1)) rfl (fun _ => rfl) ?_
  exact dp_s0 hF (i := .ireturn) rfl (fun _ => rfl)
set_option maxRecDepth 20000 in
theorem D_X12_work_144_eq (xs : Nat → Int32) (xl d : Nat) (v1 : Int32) (v2 : Int32) (v3 : Int32) (v4 : Int32) (v5 : Int32) (M : dp_M) : D_X12_work_144 xs xl d v1 v2 v3 v4 v5 M = if v1 < 0 ∨ 12 ≤ Int32.toNatClampNeg v1 then none else (if v1 < 0 ∨ 12 ≤ Int32.toNatClampNeg v1 then none else dp_w (dp_setI M 122 (Int32.toNatClampNeg v1) ((dp_I M 122 (Int32.toNatClampNeg v1)) + (1 : Int32))) (fun M1 => dp_w (dp_setI M1 114 9 ((dp_I M1 114 9) + (1 : Int32))) (fun M2 => if v1 < 0 ∨ 12 ≤ Int32.toNatClampNeg v1 then none else (if v1 < 0 ∨ 12 ≤ Int32.toNatClampNeg v1 then none else (some (.inl (some (.int ((dp_I M2 121 (Int32.toNatClampNeg v1)) - (dp_I M2 122 (Int32.toNatClampNeg v1))))), M2)))))) := by
  have hF := dp_den_grow (md := true) (xs := xs) (xl := xl) d
  unfold D_X12_work_144
  refine dp_s1 hF (i := .aload_n 0) rfl (fun _ => rfl) ?_
  refine dp_s1 hF (i := .getfield 36) rfl (fun _ => rfl) ?_
  refine dp_s1 hF (i := .iload_n 1) rfl (fun _ => rfl) ?_
  refine dp_s1 hF (i := .dup2) rfl (fun _ => rfl) ?_
  refine dp_s3 hF (i := .iaload) rfl (fun _ => rfl) ?_
  refine dp_s1 hF (i := .iconst 1) rfl (fun _ => rfl) ?_
  refine dp_s1 hF (i := .iadd) rfl (fun _ => rfl) ?_
  refine dp_s3w (dp_setI M 122 (Int32.toNatClampNeg v1) ((dp_I M 122 (Int32.toNatClampNeg v1)) + (1 : Int32))) (fun (M1 : dp_M) => (154, [some (.ref 114), some (.int v1), some (.int v2), some (.int v3), some (.int v4), some (.int v5)], [], M1)) hF (i := .iastore) rfl (fun _ => rfl) (fun M1 => ?_)
  refine dp_s1 hF (i := .aload_n 0) rfl (fun _ => rfl) ?_
  refine dp_s1 hF (i := .dup) rfl (fun _ => rfl) ?_
  refine dp_s1 hF (i := .getfield 538) rfl (fun _ => rfl) ?_
  refine dp_s1 hF (i := .iconst 1) rfl (fun _ => rfl) ?_
  refine dp_s1 hF (i := .iadd) rfl (fun _ => rfl) ?_
  refine dp_s1w (dp_setI M1 114 9 ((dp_I M1 114 9) + (1 : Int32))) (fun (M2 : dp_M) => (164, [some (.ref 114), some (.int v1), some (.int v2), some (.int v3), some (.int v4), some (.int v5)], [], M2)) hF (i := .putfield 538) rfl (fun _ => rfl) (fun M2 => ?_)
  refine dp_s1 hF (i := .aload_n 0) rfl (fun _ => rfl) ?_
  refine dp_s1 hF (i := .getfield 33) rfl (fun _ => rfl) ?_
  refine dp_s1 hF (i := .iload_n 1) rfl (fun _ => rfl) ?_
  refine dp_s3 hF (i := .iaload) rfl (fun _ => rfl) ?_
  refine dp_s1 hF (i := .aload_n 0) rfl (fun _ => rfl) ?_
  refine dp_s1 hF (i := .getfield 36) rfl (fun _ => rfl) ?_
  refine dp_s1 hF (i := .iload_n 1) rfl (fun _ => rfl) ?_
  refine dp_s3 hF (i := .iaload) rfl (fun _ => rfl) ?_
  refine dp_s1 hF (i := .isub) rfl (fun _ => rfl) ?_
  exact dp_s0 hF (i := .ireturn) rfl (fun _ => rfl)
noncomputable def D_X12_isAboveLeaving_0 (xs : Nat → Int32) (xl d : Nat) (v1 : Int32) (M : dp_M) : Option dp_Res := dp_lim true xs xl (dp_den true xs xl d) dp_m_X12_isAboveLeaving (0, [some (.ref 114), some (.int v1), none, none], [], M)
noncomputable def D_X12_isAboveLeaving_4 (xs : Nat → Int32) (xl d : Nat) (v1 : Int32) (v2 : Int32) (v3 : Int32) (M : dp_M) : Option dp_Res := dp_lim true xs xl (dp_den true xs xl d) dp_m_X12_isAboveLeaving (4, [some (.ref 114), some (.int v1), some (.int v2), some (.int v3)], [], M)
theorem D_X12_isAboveLeaving_0_den (xs : Nat → Int32) (xl d : Nat) (a0 : Int32) (M : dp_M) : dp_den true xs xl (d + 1) 390 [.ref 114, .int a0] M = D_X12_isAboveLeaving_0 xs xl d a0 M := rfl
set_option maxRecDepth 20000 in
theorem D_X12_isAboveLeaving_0_eq (xs : Nat → Int32) (xl d : Nat) (v1 : Int32) (M : dp_M) : D_X12_isAboveLeaving_0 xs xl d v1 M = dp_w (0 : Int32) (fun y1 => dp_w (0 : Int32) (fun y2 => D_X12_isAboveLeaving_4 xs xl d v1 y1 y2 M)) := by
  have hF := dp_den_grow (md := true) (xs := xs) (xl := xl) d
  unfold D_X12_isAboveLeaving_0
  refine dp_s1 hF (i := .iconst 0) rfl (fun _ => rfl) ?_
  refine dp_s1w (0 : Int32) (fun (y1 : Int32) => (2, [some (.ref 114), some (.int v1), some (.int y1), none], [], M)) hF (i := .istore_n 2) rfl (fun _ => rfl) (fun y1 => ?_)
  refine dp_s1 hF (i := .iconst 0) rfl (fun _ => rfl) ?_
  refine dp_s1w (0 : Int32) (fun (y2 : Int32) => (4, [some (.ref 114), some (.int v1), some (.int y1), some (.int y2)], [], M)) hF (i := .istore_n 3) rfl (fun _ => rfl) (fun y2 => ?_)
  exact rfl
set_option maxRecDepth 20000 in
theorem D_X12_isAboveLeaving_4_eq (xs : Nat → Int32) (xl d : Nat) (v1 : Int32) (v2 : Int32) (v3 : Int32) (M : dp_M) : D_X12_isAboveLeaving_4 xs xl d v1 v2 v3 M = if (dp_I M 114 3) ≤ v3 then (if v2 = 0 ∨ v2 = 1 then some (.inl (some (.int v2)), M) else none) else (if v1 < 0 ∨ 100 ≤ Int32.toNatClampNeg v1 then none else (if (3 : Int32) ≤ (dp_I M 117 (Int32.toNatClampNeg v1)) then (if v2 = 0 ∨ v2 = 1 then some (.inl (some (.int v2)), M) else none) else (if v2 = 0 then (if v3 < 0 ∨ 100 ≤ Int32.toNatClampNeg v3 then none else (if v1 < 0 ∨ 100 ≤ Int32.toNatClampNeg v1 then none else (if (dp_I M 116 (Int32.toNatClampNeg v3)) = (dp_I M 116 (Int32.toNatClampNeg v1)) then (if v3 < 0 ∨ 100 ≤ Int32.toNatClampNeg v3 then none else (if v1 < 0 ∨ 100 ≤ Int32.toNatClampNeg v1 then none else (if (dp_I M 117 (Int32.toNatClampNeg v3)) = (dp_I M 117 (Int32.toNatClampNeg v1)) then (if v3 < 0 ∨ 100 ≤ Int32.toNatClampNeg v3 then none else (if v1 < 0 ∨ 100 ≤ Int32.toNatClampNeg v1 then none else (if (dp_I M 118 (Int32.toNatClampNeg v1)) ≤ (dp_I M 118 (Int32.toNatClampNeg v3)) then (dp_w (0 : Int32) (fun y1 => dp_w (v3 + (1 : Int32)) (fun y2 => D_X12_isAboveLeaving_4 xs xl d v1 y1 y2 M))) else (if v3 < 0 ∨ 100 ≤ Int32.toNatClampNeg v3 then none else (if (dp_I M 115 (Int32.toNatClampNeg v3)) = 0 then (dp_w (1 : Int32) (fun y3 => dp_w (v3 + (1 : Int32)) (fun y4 => D_X12_isAboveLeaving_4 xs xl d v1 y3 y4 M))) else (dp_w (0 : Int32) (fun y5 => dp_w (v3 + (1 : Int32)) (fun y6 => D_X12_isAboveLeaving_4 xs xl d v1 y5 y6 M)))))))) else (dp_w (0 : Int32) (fun y7 => dp_w (v3 + (1 : Int32)) (fun y8 => D_X12_isAboveLeaving_4 xs xl d v1 y7 y8 M)))))) else (dp_w (0 : Int32) (fun y9 => dp_w (v3 + (1 : Int32)) (fun y10 => D_X12_isAboveLeaving_4 xs xl d v1 y9 y10 M)))))) else (dp_w (1 : Int32) (fun y11 => dp_w (v3 + (1 : Int32)) (fun y12 => D_X12_isAboveLeaving_4 xs xl d v1 y11 y12 M)))))) := by
  have hF := dp_den_grow (md := true) (xs := xs) (xl := xl) d
  unfold D_X12_isAboveLeaving_4
  refine dp_s1 hF (i := .iload_n 3) rfl (fun _ => rfl) ?_
  refine dp_s1 hF (i := .aload_n 0) rfl (fun _ => rfl) ?_
  refine dp_s1 hF (i := .getfield 437) rfl (fun _ => rfl) ?_
  refine dp_s2 hF (i := .if_icmp .ge 83) (a := (92, [some (.ref 114), some (.int v1), some (.int v2), some (.int v3)], [], M)) (b := (12, [some (.ref 114), some (.int v1), some (.int v2), some (.int v3)], [], M)) rfl (fun _ => rfl) ?_ ?_
  · refine dp_s1 hF (i := .iload_n 2) rfl (fun _ => rfl) ?_
    exact dp_s0 hF (i := .ireturn) rfl (fun _ => rfl)
  refine dp_s1 hF (i := .aload_n 0) rfl (fun _ => rfl) ?_
  refine dp_s1 hF (i := .getfield 20) rfl (fun _ => rfl) ?_
  refine dp_s1 hF (i := .iload_n 1) rfl (fun _ => rfl) ?_
  refine dp_s3 hF (i := .iaload) rfl (fun _ => rfl) ?_
  refine dp_s1 hF (i := .iconst 3) rfl (fun _ => rfl) ?_
  refine dp_s2 hF (i := .if_icmp .ge 73) (a := (92, [some (.ref 114), some (.int v1), some (.int v2), some (.int v3)], [], M)) (b := (22, [some (.ref 114), some (.int v1), some (.int v2), some (.int v3)], [], M)) rfl (fun _ => rfl) ?_ ?_
  · refine dp_s1 hF (i := .iload_n 2) rfl (fun _ => rfl) ?_
    exact dp_s0 hF (i := .ireturn) rfl (fun _ => rfl)
  refine dp_s1 hF (i := .iload_n 2) rfl (fun _ => rfl) ?_
  refine dp_s2 hF (i := .ifCond .ne 57) (a := (26, [some (.ref 114), some (.int v1), some (.int v2), some (.int v3)], [], M)) (b := (80, [some (.ref 114), some (.int v1), some (.int v2), some (.int v3)], [], M)) rfl (fun _ => rfl) ?_ ?_
  · refine dp_s1 hF (i := .aload_n 0) rfl (fun _ => rfl) ?_
    refine dp_s1 hF (i := .getfield 17) rfl (fun _ => rfl) ?_
    refine dp_s1 hF (i := .iload_n 3) rfl (fun _ => rfl) ?_
    refine dp_s3 hF (i := .iaload) rfl (fun _ => rfl) ?_
    refine dp_s1 hF (i := .aload_n 0) rfl (fun _ => rfl) ?_
    refine dp_s1 hF (i := .getfield 17) rfl (fun _ => rfl) ?_
    refine dp_s1 hF (i := .iload_n 1) rfl (fun _ => rfl) ?_
    refine dp_s3 hF (i := .iaload) rfl (fun _ => rfl) ?_
    refine dp_s2 hF (i := .if_icmp .ne 46) (a := (41, [some (.ref 114), some (.int v1), some (.int v2), some (.int v3)], [], M)) (b := (84, [some (.ref 114), some (.int v1), some (.int v2), some (.int v3)], [], M)) rfl (fun _ => rfl) ?_ ?_
    · refine dp_s1 hF (i := .aload_n 0) rfl (fun _ => rfl) ?_
      refine dp_s1 hF (i := .getfield 20) rfl (fun _ => rfl) ?_
      refine dp_s1 hF (i := .iload_n 3) rfl (fun _ => rfl) ?_
      refine dp_s3 hF (i := .iaload) rfl (fun _ => rfl) ?_
      refine dp_s1 hF (i := .aload_n 0) rfl (fun _ => rfl) ?_
      refine dp_s1 hF (i := .getfield 20) rfl (fun _ => rfl) ?_
      refine dp_s1 hF (i := .iload_n 1) rfl (fun _ => rfl) ?_
      refine dp_s3 hF (i := .iaload) rfl (fun _ => rfl) ?_
      refine dp_s2 hF (i := .if_icmp .ne 31) (a := (56, [some (.ref 114), some (.int v1), some (.int v2), some (.int v3)], [], M)) (b := (84, [some (.ref 114), some (.int v1), some (.int v2), some (.int v3)], [], M)) rfl (fun _ => rfl) ?_ ?_
      · refine dp_s1 hF (i := .aload_n 0) rfl (fun _ => rfl) ?_
        refine dp_s1 hF (i := .getfield 23) rfl (fun _ => rfl) ?_
        refine dp_s1 hF (i := .iload_n 3) rfl (fun _ => rfl) ?_
        refine dp_s3 hF (i := .iaload) rfl (fun _ => rfl) ?_
        refine dp_s1 hF (i := .aload_n 0) rfl (fun _ => rfl) ?_
        refine dp_s1 hF (i := .getfield 23) rfl (fun _ => rfl) ?_
        refine dp_s1 hF (i := .iload_n 1) rfl (fun _ => rfl) ?_
        refine dp_s3 hF (i := .iaload) rfl (fun _ => rfl) ?_
        refine dp_s2 hF (i := .if_icmp .ge 16) (a := (84, [some (.ref 114), some (.int v1), some (.int v2), some (.int v3)], [], M)) (b := (71, [some (.ref 114), some (.int v1), some (.int v2), some (.int v3)], [], M)) rfl (fun _ => rfl) ?_ ?_
        · refine dp_s1 hF (i := .iconst 0) rfl (fun _ => rfl) ?_
          refine dp_s1w (0 : Int32) (fun (y1 : Int32) => (86, [some (.ref 114), some (.int v1), some (.int y1), some (.int v3)], [], M)) hF (i := .istore_n 2) rfl (fun _ => rfl) (fun y1 => ?_)
          refine dp_s1w (v3 + (1 : Int32)) (fun (y2 : Int32) => (89, [some (.ref 114), some (.int v1), some (.int y1), some (.int y2)], [], M)) hF (i := .iinc 3 1) rfl (fun _ => rfl) (fun y2 => ?_)
          refine dp_s1 hF (i := .goto (-85)) rfl (fun _ => rfl) ?_
          exact rfl
        refine dp_s1 hF (i := .aload_n 0) rfl (fun _ => rfl) ?_
        refine dp_s1 hF (i := .getfield 13) rfl (fun _ => rfl) ?_
        refine dp_s1 hF (i := .iload_n 3) rfl (fun _ => rfl) ?_
        refine dp_s3 hF (i := .iaload) rfl (fun _ => rfl) ?_
        refine dp_s2 hF (i := .ifCond .ne 7) (a := (80, [some (.ref 114), some (.int v1), some (.int v2), some (.int v3)], [], M)) (b := (84, [some (.ref 114), some (.int v1), some (.int v2), some (.int v3)], [], M)) rfl (fun _ => rfl) ?_ ?_
        · refine dp_s1 hF (i := .iconst 1) rfl (fun _ => rfl) ?_
          refine dp_s1 hF (i := .goto 4) rfl (fun _ => rfl) ?_
          refine dp_s1w (1 : Int32) (fun (y3 : Int32) => (86, [some (.ref 114), some (.int v1), some (.int y3), some (.int v3)], [], M)) hF (i := .istore_n 2) rfl (fun _ => rfl) (fun y3 => ?_)
          refine dp_s1w (v3 + (1 : Int32)) (fun (y4 : Int32) => (89, [some (.ref 114), some (.int v1), some (.int y3), some (.int y4)], [], M)) hF (i := .iinc 3 1) rfl (fun _ => rfl) (fun y4 => ?_)
          refine dp_s1 hF (i := .goto (-85)) rfl (fun _ => rfl) ?_
          exact rfl
        refine dp_s1 hF (i := .iconst 0) rfl (fun _ => rfl) ?_
        refine dp_s1w (0 : Int32) (fun (y5 : Int32) => (86, [some (.ref 114), some (.int v1), some (.int y5), some (.int v3)], [], M)) hF (i := .istore_n 2) rfl (fun _ => rfl) (fun y5 => ?_)
        refine dp_s1w (v3 + (1 : Int32)) (fun (y6 : Int32) => (89, [some (.ref 114), some (.int v1), some (.int y5), some (.int y6)], [], M)) hF (i := .iinc 3 1) rfl (fun _ => rfl) (fun y6 => ?_)
        refine dp_s1 hF (i := .goto (-85)) rfl (fun _ => rfl) ?_
        exact rfl
      refine dp_s1 hF (i := .iconst 0) rfl (fun _ => rfl) ?_
      refine dp_s1w (0 : Int32) (fun (y7 : Int32) => (86, [some (.ref 114), some (.int v1), some (.int y7), some (.int v3)], [], M)) hF (i := .istore_n 2) rfl (fun _ => rfl) (fun y7 => ?_)
      refine dp_s1w (v3 + (1 : Int32)) (fun (y8 : Int32) => (89, [some (.ref 114), some (.int v1), some (.int y7), some (.int y8)], [], M)) hF (i := .iinc 3 1) rfl (fun _ => rfl) (fun y8 => ?_)
      refine dp_s1 hF (i := .goto (-85)) rfl (fun _ => rfl) ?_
      exact rfl
    refine dp_s1 hF (i := .iconst 0) rfl (fun _ => rfl) ?_
    refine dp_s1w (0 : Int32) (fun (y9 : Int32) => (86, [some (.ref 114), some (.int v1), some (.int y9), some (.int v3)], [], M)) hF (i := .istore_n 2) rfl (fun _ => rfl) (fun y9 => ?_)
    refine dp_s1w (v3 + (1 : Int32)) (fun (y10 : Int32) => (89, [some (.ref 114), some (.int v1), some (.int y9), some (.int y10)], [], M)) hF (i := .iinc 3 1) rfl (fun _ => rfl) (fun y10 => ?_)
    refine dp_s1 hF (i := .goto (-85)) rfl (fun _ => rfl) ?_
    exact rfl
  refine dp_s1 hF (i := .iconst 1) rfl (fun _ => rfl) ?_
  refine dp_s1 hF (i := .goto 4) rfl (fun _ => rfl) ?_
  refine dp_s1w (1 : Int32) (fun (y11 : Int32) => (86, [some (.ref 114), some (.int v1), some (.int y11), some (.int v3)], [], M)) hF (i := .istore_n 2) rfl (fun _ => rfl) (fun y11 => ?_)
  refine dp_s1w (v3 + (1 : Int32)) (fun (y12 : Int32) => (89, [some (.ref 114), some (.int v1), some (.int y11), some (.int y12)], [], M)) hF (i := .iinc 3 1) rfl (fun _ => rfl) (fun y12 => ?_)
  refine dp_s1 hF (i := .goto (-85)) rfl (fun _ => rfl) ?_
  exact rfl
noncomputable def D_X12_least_0 (xs : Nat → Int32) (xl d : Nat) (v1 : Int32) (M : dp_M) : Option dp_Res := dp_lim true xs xl (dp_den true xs xl d) dp_m_X12_least (0, [some (.ref 114), some (.int v1), none, none, none], [], M)
noncomputable def D_X12_least_23 (xs : Nat → Int32) (xl d : Nat) (v1 : Int32) (v2 : Int32) (v3 : Int32) (M : dp_M) : Option dp_Res := dp_lim true xs xl (dp_den true xs xl d) dp_m_X12_least (23, [some (.ref 114), some (.int v1), some (.int v2), some (.int v3), none], [], M)
noncomputable def D_X12_least_56 (xs : Nat → Int32) (xl d : Nat) (v1 : Int32) (v2 : Int32) (v3 : Int32) (vs0 : Int32) (M : dp_M) : Option dp_Res := dp_lim true xs xl (dp_den true xs xl d) dp_m_X12_least (56, [some (.ref 114), some (.int v1), some (.int v2), some (.int v3), none], [.int vs0], M)
noncomputable def D_X12_least_23_a (xs : Nat → Int32) (xl d : Nat) (v1 : Int32) (v2 : Int32) (v3 : Int32) (v4 : Int32) (M : dp_M) : Option dp_Res := dp_lim true xs xl (dp_den true xs xl d) dp_m_X12_least (23, [some (.ref 114), some (.int v1), some (.int v2), some (.int v3), some (.int v4)], [], M)
noncomputable def D_X12_least_56_a (xs : Nat → Int32) (xl d : Nat) (v1 : Int32) (v2 : Int32) (v3 : Int32) (v4 : Int32) (vs0 : Int32) (M : dp_M) : Option dp_Res := dp_lim true xs xl (dp_den true xs xl d) dp_m_X12_least (56, [some (.ref 114), some (.int v1), some (.int v2), some (.int v3), some (.int v4)], [.int vs0], M)
theorem D_X12_least_0_den (xs : Nat → Int32) (xl d : Nat) (a0 : Int32) (M : dp_M) : dp_den true xs xl (d + 1) 391 [.ref 114, .int a0] M = D_X12_least_0 xs xl d a0 M := rfl
set_option maxRecDepth 20000 in
theorem D_X12_least_0_eq (xs : Nat → Int32) (xl d : Nat) (v1 : Int32) (M : dp_M) : D_X12_least_0 xs xl d v1 M = dp_bi (dp_den true xs xl d 370 [.ref 114, .int v1] M) (fun r2 M1 => if r2 = 0 then (dp_bi (dp_den true xs xl d 366 [.ref 114, .int (1 : Int32)] M1) (fun r4 M3 => some (.inl (some (.int r4)), M3))) else (dp_w (dp_setI M1 114 0 (0 : Int32)) (fun M5 => dp_w (0 : Int32) (fun y6 => dp_w (0 : Int32) (fun y7 => D_X12_least_23 xs xl d v1 y6 y7 M5))))) := by
  have hF := dp_den_grow (md := true) (xs := xs) (xl := xl) d
  unfold D_X12_least_0
  refine dp_s1 hF (i := .aload_n 0) rfl (fun _ => rfl) ?_
  refine dp_s1 hF (i := .iload_n 1) rfl (fun _ => rfl) ?_
  refine dp_si (mj := dp_m_X12_isBay) (i := .invokevirtual 440) rfl rfl (Or.inr rfl) rfl (fun _ => rfl) (fun r2 M1 => ?_)
  refine dp_s2 hF (i := .ifCond .ne 9) (a := (8, [some (.ref 114), some (.int v1), none, none, none], [], M1)) (b := (14, [some (.ref 114), some (.int v1), none, none, none], [], M1)) rfl (fun _ => rfl) ?_ ?_
  · refine dp_s1 hF (i := .aload_n 0) rfl (fun _ => rfl) ?_
    refine dp_s1 hF (i := .iconst 1) rfl (fun _ => rfl) ?_
    refine dp_si (mj := dp_m_X12_refuse) (i := .invokevirtual 460) rfl rfl (Or.inl rfl) rfl (fun _ => rfl) (fun r4 M3 => ?_)
    exact dp_s0 hF (i := .ireturn) rfl (fun _ => rfl)
  refine dp_s1 hF (i := .aload_n 0) rfl (fun _ => rfl) ?_
  refine dp_s1 hF (i := .iconst 0) rfl (fun _ => rfl) ?_
  refine dp_s1w (dp_setI M1 114 0 (0 : Int32)) (fun (M5 : dp_M) => (19, [some (.ref 114), some (.int v1), none, none, none], [], M5)) hF (i := .putfield 1) rfl (fun _ => rfl) (fun M5 => ?_)
  refine dp_s1 hF (i := .iconst 0) rfl (fun _ => rfl) ?_
  refine dp_s1w (0 : Int32) (fun (y6 : Int32) => (21, [some (.ref 114), some (.int v1), some (.int y6), none, none], [], M5)) hF (i := .istore_n 2) rfl (fun _ => rfl) (fun y6 => ?_)
  refine dp_s1 hF (i := .iconst 0) rfl (fun _ => rfl) ?_
  refine dp_s1w (0 : Int32) (fun (y7 : Int32) => (23, [some (.ref 114), some (.int v1), some (.int y6), some (.int y7), none], [], M5)) hF (i := .istore_n 3) rfl (fun _ => rfl) (fun y7 => ?_)
  exact rfl
set_option maxRecDepth 20000 in
theorem D_X12_least_23_eq (xs : Nat → Int32) (xl d : Nat) (v1 : Int32) (v2 : Int32) (v3 : Int32) (M : dp_M) : D_X12_least_23 xs xl d v1 v2 v3 M = if (dp_I M 114 3) ≤ v3 then (some (.inl (some (.int v2)), M)) else (if v3 < 0 ∨ 100 ≤ Int32.toNatClampNeg v3 then none else (if (dp_I M 116 (Int32.toNatClampNeg v3)) = v1 then (if v3 < 0 ∨ 100 ≤ Int32.toNatClampNeg v3 then none else (if (dp_I M 117 (Int32.toNatClampNeg v3)) = (3 : Int32) then (D_X12_least_56 xs xl d v1 v2 v3 (0 : Int32) M) else (D_X12_least_56 xs xl d v1 v2 v3 (1 : Int32) M))) else (D_X12_least_56 xs xl d v1 v2 v3 (0 : Int32) M))) := by
  have hF := dp_den_grow (md := true) (xs := xs) (xl := xl) d
  unfold D_X12_least_23
  refine dp_s1 hF (i := .iload_n 3) rfl (fun _ => rfl) ?_
  refine dp_s1 hF (i := .aload_n 0) rfl (fun _ => rfl) ?_
  refine dp_s1 hF (i := .getfield 437) rfl (fun _ => rfl) ?_
  refine dp_s2 hF (i := .if_icmp .ge 66) (a := (94, [some (.ref 114), some (.int v1), some (.int v2), some (.int v3), none], [], M)) (b := (31, [some (.ref 114), some (.int v1), some (.int v2), some (.int v3), none], [], M)) rfl (fun _ => rfl) ?_ ?_
  · refine dp_s1 hF (i := .iload_n 2) rfl (fun _ => rfl) ?_
    exact dp_s0 hF (i := .ireturn) rfl (fun _ => rfl)
  refine dp_s1 hF (i := .aload_n 0) rfl (fun _ => rfl) ?_
  refine dp_s1 hF (i := .getfield 17) rfl (fun _ => rfl) ?_
  refine dp_s1 hF (i := .iload_n 3) rfl (fun _ => rfl) ?_
  refine dp_s3 hF (i := .iaload) rfl (fun _ => rfl) ?_
  refine dp_s1 hF (i := .iload_n 1) rfl (fun _ => rfl) ?_
  refine dp_s2 hF (i := .if_icmp .ne 17) (a := (41, [some (.ref 114), some (.int v1), some (.int v2), some (.int v3), none], [], M)) (b := (55, [some (.ref 114), some (.int v1), some (.int v2), some (.int v3), none], [], M)) rfl (fun _ => rfl) ?_ ?_
  · refine dp_s1 hF (i := .aload_n 0) rfl (fun _ => rfl) ?_
    refine dp_s1 hF (i := .getfield 20) rfl (fun _ => rfl) ?_
    refine dp_s1 hF (i := .iload_n 3) rfl (fun _ => rfl) ?_
    refine dp_s3 hF (i := .iaload) rfl (fun _ => rfl) ?_
    refine dp_s1 hF (i := .iconst 3) rfl (fun _ => rfl) ?_
    refine dp_s2 hF (i := .if_icmp .eq 7) (a := (55, [some (.ref 114), some (.int v1), some (.int v2), some (.int v3), none], [], M)) (b := (51, [some (.ref 114), some (.int v1), some (.int v2), some (.int v3), none], [], M)) rfl (fun _ => rfl) ?_ ?_
    · refine dp_s1 hF (i := .iconst 0) rfl (fun _ => rfl) ?_
      exact rfl
    refine dp_s1 hF (i := .iconst 1) rfl (fun _ => rfl) ?_
    refine dp_s1 hF (i := .goto 4) rfl (fun _ => rfl) ?_
    exact rfl
  refine dp_s1 hF (i := .iconst 0) rfl (fun _ => rfl) ?_
  exact rfl
set_option maxRecDepth 20000 in
theorem D_X12_least_56_eq (xs : Nat → Int32) (xl d : Nat) (v1 : Int32) (v2 : Int32) (v3 : Int32) (vs0 : Int32) (M : dp_M) : D_X12_least_56 xs xl d v1 v2 v3 vs0 M = if vs0 = 0 then (dp_w (v2 + (0 : Int32)) (fun y1 => dp_w (v3 + (1 : Int32)) (fun y2 => D_X12_least_23_a xs xl d v1 y1 y2 vs0 M))) else (if v3 < 0 ∨ 100 ≤ Int32.toNatClampNeg v3 then none else (if (dp_I M 115 (Int32.toNatClampNeg v3)) = 0 then (dp_w (v2 + (1 : Int32)) (fun y3 => dp_w (v3 + (1 : Int32)) (fun y4 => D_X12_least_23_a xs xl d v1 y3 y4 vs0 M))) else (dp_bi (dp_den true xs xl d 390 [.ref 114, .int v3] M) (fun r6 M5 => if r6 = 0 then (dp_w (v2 + (0 : Int32)) (fun y7 => dp_w (v3 + (1 : Int32)) (fun y8 => D_X12_least_23_a xs xl d v1 y7 y8 vs0 M5))) else (dp_w (v2 + (1 : Int32)) (fun y9 => dp_w (v3 + (1 : Int32)) (fun y10 => D_X12_least_23_a xs xl d v1 y9 y10 vs0 M5))))))) := by
  have hF := dp_den_grow (md := true) (xs := xs) (xl := xl) d
  unfold D_X12_least_56
  refine dp_s1 hF (i := .istore 4) rfl (fun _ => rfl) ?_
  refine dp_s1 hF (i := .iload_n 2) rfl (fun _ => rfl) ?_
  refine dp_s1 hF (i := .iload 4) rfl (fun _ => rfl) ?_
  refine dp_s2 hF (i := .ifCond .eq 24) (a := (85, [some (.ref 114), some (.int v1), some (.int v2), some (.int v3), some (.int vs0)], [.int v2], M)) (b := (64, [some (.ref 114), some (.int v1), some (.int v2), some (.int v3), some (.int vs0)], [.int v2], M)) rfl (fun _ => rfl) ?_ ?_
  · refine dp_s1 hF (i := .iconst 0) rfl (fun _ => rfl) ?_
    refine dp_s1 hF (i := .iadd) rfl (fun _ => rfl) ?_
    refine dp_s1w (v2 + (0 : Int32)) (fun (y1 : Int32) => (88, [some (.ref 114), some (.int v1), some (.int y1), some (.int v3), some (.int vs0)], [], M)) hF (i := .istore_n 2) rfl (fun _ => rfl) (fun y1 => ?_)
    refine dp_s1w (v3 + (1 : Int32)) (fun (y2 : Int32) => (91, [some (.ref 114), some (.int v1), some (.int y1), some (.int y2), some (.int vs0)], [], M)) hF (i := .iinc 3 1) rfl (fun _ => rfl) (fun y2 => ?_)
    refine dp_s1 hF (i := .goto (-68)) rfl (fun _ => rfl) ?_
    exact rfl
  refine dp_s1 hF (i := .aload_n 0) rfl (fun _ => rfl) ?_
  refine dp_s1 hF (i := .getfield 13) rfl (fun _ => rfl) ?_
  refine dp_s1 hF (i := .iload_n 3) rfl (fun _ => rfl) ?_
  refine dp_s3 hF (i := .iaload) rfl (fun _ => rfl) ?_
  refine dp_s2 hF (i := .ifCond .eq 11) (a := (81, [some (.ref 114), some (.int v1), some (.int v2), some (.int v3), some (.int vs0)], [.int v2], M)) (b := (73, [some (.ref 114), some (.int v1), some (.int v2), some (.int v3), some (.int vs0)], [.int v2], M)) rfl (fun _ => rfl) ?_ ?_
  · refine dp_s1 hF (i := .iconst 1) rfl (fun _ => rfl) ?_
    refine dp_s1 hF (i := .goto 4) rfl (fun _ => rfl) ?_
    refine dp_s1 hF (i := .iadd) rfl (fun _ => rfl) ?_
    refine dp_s1w (v2 + (1 : Int32)) (fun (y3 : Int32) => (88, [some (.ref 114), some (.int v1), some (.int y3), some (.int v3), some (.int vs0)], [], M)) hF (i := .istore_n 2) rfl (fun _ => rfl) (fun y3 => ?_)
    refine dp_s1w (v3 + (1 : Int32)) (fun (y4 : Int32) => (91, [some (.ref 114), some (.int v1), some (.int y3), some (.int y4), some (.int vs0)], [], M)) hF (i := .iinc 3 1) rfl (fun _ => rfl) (fun y4 => ?_)
    refine dp_s1 hF (i := .goto (-68)) rfl (fun _ => rfl) ?_
    exact rfl
  refine dp_s1 hF (i := .aload_n 0) rfl (fun _ => rfl) ?_
  refine dp_s1 hF (i := .iload_n 3) rfl (fun _ => rfl) ?_
  refine dp_si (mj := dp_m_X12_isAboveLeaving) (i := .invokevirtual 541) rfl rfl (Or.inr rfl) rfl (fun _ => rfl) (fun r6 M5 => ?_)
  refine dp_s2 hF (i := .ifCond .eq 7) (a := (85, [some (.ref 114), some (.int v1), some (.int v2), some (.int v3), some (.int vs0)], [.int v2], M5)) (b := (81, [some (.ref 114), some (.int v1), some (.int v2), some (.int v3), some (.int vs0)], [.int v2], M5)) rfl (fun _ => rfl) ?_ ?_
  · refine dp_s1 hF (i := .iconst 0) rfl (fun _ => rfl) ?_
    refine dp_s1 hF (i := .iadd) rfl (fun _ => rfl) ?_
    refine dp_s1w (v2 + (0 : Int32)) (fun (y7 : Int32) => (88, [some (.ref 114), some (.int v1), some (.int y7), some (.int v3), some (.int vs0)], [], M5)) hF (i := .istore_n 2) rfl (fun _ => rfl) (fun y7 => ?_)
    refine dp_s1w (v3 + (1 : Int32)) (fun (y8 : Int32) => (91, [some (.ref 114), some (.int v1), some (.int y7), some (.int y8), some (.int vs0)], [], M5)) hF (i := .iinc 3 1) rfl (fun _ => rfl) (fun y8 => ?_)
    refine dp_s1 hF (i := .goto (-68)) rfl (fun _ => rfl) ?_
    exact rfl
  refine dp_s1 hF (i := .iconst 1) rfl (fun _ => rfl) ?_
  refine dp_s1 hF (i := .goto 4) rfl (fun _ => rfl) ?_
  refine dp_s1 hF (i := .iadd) rfl (fun _ => rfl) ?_
  refine dp_s1w (v2 + (1 : Int32)) (fun (y9 : Int32) => (88, [some (.ref 114), some (.int v1), some (.int y9), some (.int v3), some (.int vs0)], [], M5)) hF (i := .istore_n 2) rfl (fun _ => rfl) (fun y9 => ?_)
  refine dp_s1w (v3 + (1 : Int32)) (fun (y10 : Int32) => (91, [some (.ref 114), some (.int v1), some (.int y9), some (.int y10), some (.int vs0)], [], M5)) hF (i := .iinc 3 1) rfl (fun _ => rfl) (fun y10 => ?_)
  refine dp_s1 hF (i := .goto (-68)) rfl (fun _ => rfl) ?_
  exact rfl
set_option maxRecDepth 20000 in
theorem D_X12_least_23_a_eq (xs : Nat → Int32) (xl d : Nat) (v1 : Int32) (v2 : Int32) (v3 : Int32) (v4 : Int32) (M : dp_M) : D_X12_least_23_a xs xl d v1 v2 v3 v4 M = if (dp_I M 114 3) ≤ v3 then (some (.inl (some (.int v2)), M)) else (if v3 < 0 ∨ 100 ≤ Int32.toNatClampNeg v3 then none else (if (dp_I M 116 (Int32.toNatClampNeg v3)) = v1 then (if v3 < 0 ∨ 100 ≤ Int32.toNatClampNeg v3 then none else (if (dp_I M 117 (Int32.toNatClampNeg v3)) = (3 : Int32) then (D_X12_least_56_a xs xl d v1 v2 v3 v4 (0 : Int32) M) else (D_X12_least_56_a xs xl d v1 v2 v3 v4 (1 : Int32) M))) else (D_X12_least_56_a xs xl d v1 v2 v3 v4 (0 : Int32) M))) := by
  have hF := dp_den_grow (md := true) (xs := xs) (xl := xl) d
  unfold D_X12_least_23_a
  refine dp_s1 hF (i := .iload_n 3) rfl (fun _ => rfl) ?_
  refine dp_s1 hF (i := .aload_n 0) rfl (fun _ => rfl) ?_
  refine dp_s1 hF (i := .getfield 437) rfl (fun _ => rfl) ?_
  refine dp_s2 hF (i := .if_icmp .ge 66) (a := (94, [some (.ref 114), some (.int v1), some (.int v2), some (.int v3), some (.int v4)], [], M)) (b := (31, [some (.ref 114), some (.int v1), some (.int v2), some (.int v3), some (.int v4)], [], M)) rfl (fun _ => rfl) ?_ ?_
  · refine dp_s1 hF (i := .iload_n 2) rfl (fun _ => rfl) ?_
    exact dp_s0 hF (i := .ireturn) rfl (fun _ => rfl)
  refine dp_s1 hF (i := .aload_n 0) rfl (fun _ => rfl) ?_
  refine dp_s1 hF (i := .getfield 17) rfl (fun _ => rfl) ?_
  refine dp_s1 hF (i := .iload_n 3) rfl (fun _ => rfl) ?_
  refine dp_s3 hF (i := .iaload) rfl (fun _ => rfl) ?_
  refine dp_s1 hF (i := .iload_n 1) rfl (fun _ => rfl) ?_
  refine dp_s2 hF (i := .if_icmp .ne 17) (a := (41, [some (.ref 114), some (.int v1), some (.int v2), some (.int v3), some (.int v4)], [], M)) (b := (55, [some (.ref 114), some (.int v1), some (.int v2), some (.int v3), some (.int v4)], [], M)) rfl (fun _ => rfl) ?_ ?_
  · refine dp_s1 hF (i := .aload_n 0) rfl (fun _ => rfl) ?_
    refine dp_s1 hF (i := .getfield 20) rfl (fun _ => rfl) ?_
    refine dp_s1 hF (i := .iload_n 3) rfl (fun _ => rfl) ?_
    refine dp_s3 hF (i := .iaload) rfl (fun _ => rfl) ?_
    refine dp_s1 hF (i := .iconst 3) rfl (fun _ => rfl) ?_
    refine dp_s2 hF (i := .if_icmp .eq 7) (a := (55, [some (.ref 114), some (.int v1), some (.int v2), some (.int v3), some (.int v4)], [], M)) (b := (51, [some (.ref 114), some (.int v1), some (.int v2), some (.int v3), some (.int v4)], [], M)) rfl (fun _ => rfl) ?_ ?_
    · refine dp_s1 hF (i := .iconst 0) rfl (fun _ => rfl) ?_
      exact rfl
    refine dp_s1 hF (i := .iconst 1) rfl (fun _ => rfl) ?_
    refine dp_s1 hF (i := .goto 4) rfl (fun _ => rfl) ?_
    exact rfl
  refine dp_s1 hF (i := .iconst 0) rfl (fun _ => rfl) ?_
  exact rfl
set_option maxRecDepth 20000 in
theorem D_X12_least_56_a_eq (xs : Nat → Int32) (xl d : Nat) (v1 : Int32) (v2 : Int32) (v3 : Int32) (v4 : Int32) (vs0 : Int32) (M : dp_M) : D_X12_least_56_a xs xl d v1 v2 v3 v4 vs0 M = if vs0 = 0 then (dp_w (v2 + (0 : Int32)) (fun y1 => dp_w (v3 + (1 : Int32)) (fun y2 => D_X12_least_23_a xs xl d v1 y1 y2 vs0 M))) else (if v3 < 0 ∨ 100 ≤ Int32.toNatClampNeg v3 then none else (if (dp_I M 115 (Int32.toNatClampNeg v3)) = 0 then (dp_w (v2 + (1 : Int32)) (fun y3 => dp_w (v3 + (1 : Int32)) (fun y4 => D_X12_least_23_a xs xl d v1 y3 y4 vs0 M))) else (dp_bi (dp_den true xs xl d 390 [.ref 114, .int v3] M) (fun r6 M5 => if r6 = 0 then (dp_w (v2 + (0 : Int32)) (fun y7 => dp_w (v3 + (1 : Int32)) (fun y8 => D_X12_least_23_a xs xl d v1 y7 y8 vs0 M5))) else (dp_w (v2 + (1 : Int32)) (fun y9 => dp_w (v3 + (1 : Int32)) (fun y10 => D_X12_least_23_a xs xl d v1 y9 y10 vs0 M5))))))) := by
  have hF := dp_den_grow (md := true) (xs := xs) (xl := xl) d
  unfold D_X12_least_56_a
  refine dp_s1 hF (i := .istore 4) rfl (fun _ => rfl) ?_
  refine dp_s1 hF (i := .iload_n 2) rfl (fun _ => rfl) ?_
  refine dp_s1 hF (i := .iload 4) rfl (fun _ => rfl) ?_
  refine dp_s2 hF (i := .ifCond .eq 24) (a := (85, [some (.ref 114), some (.int v1), some (.int v2), some (.int v3), some (.int vs0)], [.int v2], M)) (b := (64, [some (.ref 114), some (.int v1), some (.int v2), some (.int v3), some (.int vs0)], [.int v2], M)) rfl (fun _ => rfl) ?_ ?_
  · refine dp_s1 hF (i := .iconst 0) rfl (fun _ => rfl) ?_
    refine dp_s1 hF (i := .iadd) rfl (fun _ => rfl) ?_
    refine dp_s1w (v2 + (0 : Int32)) (fun (y1 : Int32) => (88, [some (.ref 114), some (.int v1), some (.int y1), some (.int v3), some (.int vs0)], [], M)) hF (i := .istore_n 2) rfl (fun _ => rfl) (fun y1 => ?_)
    refine dp_s1w (v3 + (1 : Int32)) (fun (y2 : Int32) => (91, [some (.ref 114), some (.int v1), some (.int y1), some (.int y2), some (.int vs0)], [], M)) hF (i := .iinc 3 1) rfl (fun _ => rfl) (fun y2 => ?_)
    refine dp_s1 hF (i := .goto (-68)) rfl (fun _ => rfl) ?_
    exact rfl
  refine dp_s1 hF (i := .aload_n 0) rfl (fun _ => rfl) ?_
  refine dp_s1 hF (i := .getfield 13) rfl (fun _ => rfl) ?_
  refine dp_s1 hF (i := .iload_n 3) rfl (fun _ => rfl) ?_
  refine dp_s3 hF (i := .iaload) rfl (fun _ => rfl) ?_
  refine dp_s2 hF (i := .ifCond .eq 11) (a := (81, [some (.ref 114), some (.int v1), some (.int v2), some (.int v3), some (.int vs0)], [.int v2], M)) (b := (73, [some (.ref 114), some (.int v1), some (.int v2), some (.int v3), some (.int vs0)], [.int v2], M)) rfl (fun _ => rfl) ?_ ?_
  · refine dp_s1 hF (i := .iconst 1) rfl (fun _ => rfl) ?_
    refine dp_s1 hF (i := .goto 4) rfl (fun _ => rfl) ?_
    refine dp_s1 hF (i := .iadd) rfl (fun _ => rfl) ?_
    refine dp_s1w (v2 + (1 : Int32)) (fun (y3 : Int32) => (88, [some (.ref 114), some (.int v1), some (.int y3), some (.int v3), some (.int vs0)], [], M)) hF (i := .istore_n 2) rfl (fun _ => rfl) (fun y3 => ?_)
    refine dp_s1w (v3 + (1 : Int32)) (fun (y4 : Int32) => (91, [some (.ref 114), some (.int v1), some (.int y3), some (.int y4), some (.int vs0)], [], M)) hF (i := .iinc 3 1) rfl (fun _ => rfl) (fun y4 => ?_)
    refine dp_s1 hF (i := .goto (-68)) rfl (fun _ => rfl) ?_
    exact rfl
  refine dp_s1 hF (i := .aload_n 0) rfl (fun _ => rfl) ?_
  refine dp_s1 hF (i := .iload_n 3) rfl (fun _ => rfl) ?_
  refine dp_si (mj := dp_m_X12_isAboveLeaving) (i := .invokevirtual 541) rfl rfl (Or.inr rfl) rfl (fun _ => rfl) (fun r6 M5 => ?_)
  refine dp_s2 hF (i := .ifCond .eq 7) (a := (85, [some (.ref 114), some (.int v1), some (.int v2), some (.int v3), some (.int vs0)], [.int v2], M5)) (b := (81, [some (.ref 114), some (.int v1), some (.int v2), some (.int v3), some (.int vs0)], [.int v2], M5)) rfl (fun _ => rfl) ?_ ?_
  · refine dp_s1 hF (i := .iconst 0) rfl (fun _ => rfl) ?_
    refine dp_s1 hF (i := .iadd) rfl (fun _ => rfl) ?_
    refine dp_s1w (v2 + (0 : Int32)) (fun (y7 : Int32) => (88, [some (.ref 114), some (.int v1), some (.int y7), some (.int v3), some (.int vs0)], [], M5)) hF (i := .istore_n 2) rfl (fun _ => rfl) (fun y7 => ?_)
    refine dp_s1w (v3 + (1 : Int32)) (fun (y8 : Int32) => (91, [some (.ref 114), some (.int v1), some (.int y7), some (.int y8), some (.int vs0)], [], M5)) hF (i := .iinc 3 1) rfl (fun _ => rfl) (fun y8 => ?_)
    refine dp_s1 hF (i := .goto (-68)) rfl (fun _ => rfl) ?_
    exact rfl
  refine dp_s1 hF (i := .iconst 1) rfl (fun _ => rfl) ?_
  refine dp_s1 hF (i := .goto 4) rfl (fun _ => rfl) ?_
  refine dp_s1 hF (i := .iadd) rfl (fun _ => rfl) ?_
  refine dp_s1w (v2 + (1 : Int32)) (fun (y9 : Int32) => (88, [some (.ref 114), some (.int v1), some (.int y9), some (.int v3), some (.int vs0)], [], M5)) hF (i := .istore_n 2) rfl (fun _ => rfl) (fun y9 => ?_)
  refine dp_s1w (v3 + (1 : Int32)) (fun (y10 : Int32) => (91, [some (.ref 114), some (.int v1), some (.int y9), some (.int y10), some (.int vs0)], [], M5)) hF (i := .iinc 3 1) rfl (fun _ => rfl) (fun y10 => ?_)
  refine dp_s1 hF (i := .goto (-68)) rfl (fun _ => rfl) ?_
  exact rfl
noncomputable def D_X12_hasNeeds_0 (xs : Nat → Int32) (xl d : Nat) (v1 : Int32) (M : dp_M) : Option dp_Res := dp_lim true xs xl (dp_den true xs xl d) dp_m_X12_hasNeeds (0, [some (.ref 114), some (.int v1), none, none], [], M)
noncomputable def D_X12_hasNeeds_4 (xs : Nat → Int32) (xl d : Nat) (v1 : Int32) (v2 : Int32) (v3 : Int32) (M : dp_M) : Option dp_Res := dp_lim true xs xl (dp_den true xs xl d) dp_m_X12_hasNeeds (4, [some (.ref 114), some (.int v1), some (.int v2), some (.int v3)], [], M)
theorem D_X12_hasNeeds_0_den (xs : Nat → Int32) (xl d : Nat) (a0 : Int32) (M : dp_M) : dp_den true xs xl (d + 1) 392 [.ref 114, .int a0] M = D_X12_hasNeeds_0 xs xl d a0 M := rfl
set_option maxRecDepth 20000 in
theorem D_X12_hasNeeds_0_eq (xs : Nat → Int32) (xl d : Nat) (v1 : Int32) (M : dp_M) : D_X12_hasNeeds_0 xs xl d v1 M = dp_w (0 : Int32) (fun y1 => dp_w (0 : Int32) (fun y2 => D_X12_hasNeeds_4 xs xl d v1 y1 y2 M)) := by
  have hF := dp_den_grow (md := true) (xs := xs) (xl := xl) d
  unfold D_X12_hasNeeds_0
  refine dp_s1 hF (i := .iconst 0) rfl (fun _ => rfl) ?_
  refine dp_s1w (0 : Int32) (fun (y1 : Int32) => (2, [some (.ref 114), some (.int v1), some (.int y1), none], [], M)) hF (i := .istore_n 2) rfl (fun _ => rfl) (fun y1 => ?_)
  refine dp_s1 hF (i := .iconst 0) rfl (fun _ => rfl) ?_
  refine dp_s1w (0 : Int32) (fun (y2 : Int32) => (4, [some (.ref 114), some (.int v1), some (.int y1), some (.int y2)], [], M)) hF (i := .istore_n 3) rfl (fun _ => rfl) (fun y2 => ?_)
  exact rfl
set_option maxRecDepth 20000 in
theorem D_X12_hasNeeds_4_eq (xs : Nat → Int32) (xl d : Nat) (v1 : Int32) (v2 : Int32) (v3 : Int32) (M : dp_M) : D_X12_hasNeeds_4 xs xl d v1 v2 v3 M = if (dp_I M 114 3) ≤ v3 then (if v2 = 0 ∨ v2 = 1 then some (.inl (some (.int v2)), M) else none) else (if v2 = 0 then (if (((100 : Int32) * v1) + v3) < 0 ∨ 10000 ≤ Int32.toNatClampNeg (((100 : Int32) * v1) + v3) then none else (if (dp_I M 119 (Int32.toNatClampNeg (((100 : Int32) * v1) + v3))) = 0 then (if (((100 : Int32) * v3) + v1) < 0 ∨ 10000 ≤ Int32.toNatClampNeg (((100 : Int32) * v3) + v1) then none else (if (dp_I M 119 (Int32.toNatClampNeg (((100 : Int32) * v3) + v1))) = 0 then (dp_w (0 : Int32) (fun y1 => dp_w (v3 + (1 : Int32)) (fun y2 => D_X12_hasNeeds_4 xs xl d v1 y1 y2 M))) else (dp_w (1 : Int32) (fun y3 => dp_w (v3 + (1 : Int32)) (fun y4 => D_X12_hasNeeds_4 xs xl d v1 y3 y4 M))))) else (dp_w (1 : Int32) (fun y5 => dp_w (v3 + (1 : Int32)) (fun y6 => D_X12_hasNeeds_4 xs xl d v1 y5 y6 M))))) else (dp_w (1 : Int32) (fun y7 => dp_w (v3 + (1 : Int32)) (fun y8 => D_X12_hasNeeds_4 xs xl d v1 y7 y8 M)))) := by
  have hF := dp_den_grow (md := true) (xs := xs) (xl := xl) d
  unfold D_X12_hasNeeds_4
  refine dp_s1 hF (i := .iload_n 3) rfl (fun _ => rfl) ?_
  refine dp_s1 hF (i := .aload_n 0) rfl (fun _ => rfl) ?_
  refine dp_s1 hF (i := .getfield 437) rfl (fun _ => rfl) ?_
  refine dp_s2 hF (i := .if_icmp .ge 47) (a := (56, [some (.ref 114), some (.int v1), some (.int v2), some (.int v3)], [], M)) (b := (12, [some (.ref 114), some (.int v1), some (.int v2), some (.int v3)], [], M)) rfl (fun _ => rfl) ?_ ?_
  · refine dp_s1 hF (i := .iload_n 2) rfl (fun _ => rfl) ?_
    exact dp_s0 hF (i := .ireturn) rfl (fun _ => rfl)
  refine dp_s1 hF (i := .iload_n 2) rfl (fun _ => rfl) ?_
  refine dp_s2 hF (i := .ifCond .ne 31) (a := (16, [some (.ref 114), some (.int v1), some (.int v2), some (.int v3)], [], M)) (b := (44, [some (.ref 114), some (.int v1), some (.int v2), some (.int v3)], [], M)) rfl (fun _ => rfl) ?_ ?_
  · refine dp_s1 hF (i := .aload_n 0) rfl (fun _ => rfl) ?_
    refine dp_s1 hF (i := .getfield 26) rfl (fun _ => rfl) ?_
    refine dp_s1 hF (i := .bipush 100) rfl (fun _ => rfl) ?_
    refine dp_s1 hF (i := .iload_n 1) rfl (fun _ => rfl) ?_
    refine dp_s1 hF (i := .imul) rfl (fun _ => rfl) ?_
    refine dp_s1 hF (i := .iload_n 3) rfl (fun _ => rfl) ?_
    refine dp_s1 hF (i := .iadd) rfl (fun _ => rfl) ?_
    refine dp_s3 hF (i := .baload) rfl (fun _ => rfl) ?_
    refine dp_s2 hF (i := .ifCond .ne 17) (a := (30, [some (.ref 114), some (.int v1), some (.int v2), some (.int v3)], [], M)) (b := (44, [some (.ref 114), some (.int v1), some (.int v2), some (.int v3)], [], M)) rfl (fun _ => rfl) ?_ ?_
    · refine dp_s1 hF (i := .aload_n 0) rfl (fun _ => rfl) ?_
      refine dp_s1 hF (i := .getfield 26) rfl (fun _ => rfl) ?_
      refine dp_s1 hF (i := .bipush 100) rfl (fun _ => rfl) ?_
      refine dp_s1 hF (i := .iload_n 3) rfl (fun _ => rfl) ?_
      refine dp_s1 hF (i := .imul) rfl (fun _ => rfl) ?_
      refine dp_s1 hF (i := .iload_n 1) rfl (fun _ => rfl) ?_
      refine dp_s1 hF (i := .iadd) rfl (fun _ => rfl) ?_
      refine dp_s3 hF (i := .baload) rfl (fun _ => rfl) ?_
      refine dp_s2 hF (i := .ifCond .eq 7) (a := (48, [some (.ref 114), some (.int v1), some (.int v2), some (.int v3)], [], M)) (b := (44, [some (.ref 114), some (.int v1), some (.int v2), some (.int v3)], [], M)) rfl (fun _ => rfl) ?_ ?_
      · refine dp_s1 hF (i := .iconst 0) rfl (fun _ => rfl) ?_
        refine dp_s1w (0 : Int32) (fun (y1 : Int32) => (50, [some (.ref 114), some (.int v1), some (.int y1), some (.int v3)], [], M)) hF (i := .istore_n 2) rfl (fun _ => rfl) (fun y1 => ?_)
        refine dp_s1w (v3 + (1 : Int32)) (fun (y2 : Int32) => (53, [some (.ref 114), some (.int v1), some (.int y1), some (.int y2)], [], M)) hF (i := .iinc 3 1) rfl (fun _ => rfl) (fun y2 => ?_)
        refine dp_s1 hF (i := .goto (-49)) rfl (fun _ => rfl) ?_
        exact rfl
      refine dp_s1 hF (i := .iconst 1) rfl (fun _ => rfl) ?_
      refine dp_s1 hF (i := .goto 4) rfl (fun _ => rfl) ?_
      refine dp_s1w (1 : Int32) (fun (y3 : Int32) => (50, [some (.ref 114), some (.int v1), some (.int y3), some (.int v3)], [], M)) hF (i := .istore_n 2) rfl (fun _ => rfl) (fun y3 => ?_)
      refine dp_s1w (v3 + (1 : Int32)) (fun (y4 : Int32) => (53, [some (.ref 114), some (.int v1), some (.int y3), some (.int y4)], [], M)) hF (i := .iinc 3 1) rfl (fun _ => rfl) (fun y4 => ?_)
      refine dp_s1 hF (i := .goto (-49)) rfl (fun _ => rfl) ?_
      exact rfl
    refine dp_s1 hF (i := .iconst 1) rfl (fun _ => rfl) ?_
    refine dp_s1 hF (i := .goto 4) rfl (fun _ => rfl) ?_
    refine dp_s1w (1 : Int32) (fun (y5 : Int32) => (50, [some (.ref 114), some (.int v1), some (.int y5), some (.int v3)], [], M)) hF (i := .istore_n 2) rfl (fun _ => rfl) (fun y5 => ?_)
    refine dp_s1w (v3 + (1 : Int32)) (fun (y6 : Int32) => (53, [some (.ref 114), some (.int v1), some (.int y5), some (.int y6)], [], M)) hF (i := .iinc 3 1) rfl (fun _ => rfl) (fun y6 => ?_)
    refine dp_s1 hF (i := .goto (-49)) rfl (fun _ => rfl) ?_
    exact rfl
  refine dp_s1 hF (i := .iconst 1) rfl (fun _ => rfl) ?_
  refine dp_s1 hF (i := .goto 4) rfl (fun _ => rfl) ?_
  refine dp_s1w (1 : Int32) (fun (y7 : Int32) => (50, [some (.ref 114), some (.int v1), some (.int y7), some (.int v3)], [], M)) hF (i := .istore_n 2) rfl (fun _ => rfl) (fun y7 => ?_)
  refine dp_s1w (v3 + (1 : Int32)) (fun (y8 : Int32) => (53, [some (.ref 114), some (.int v1), some (.int y7), some (.int y8)], [], M)) hF (i := .iinc 3 1) rfl (fun _ => rfl) (fun y8 => ?_)
  refine dp_s1 hF (i := .goto (-49)) rfl (fun _ => rfl) ?_
  exact rfl
noncomputable def D_X12_swap_0 (xs : Nat → Int32) (xl d : Nat) (v1 : Int32) (v2 : Int32) (M : dp_M) : Option dp_Res := dp_lim true xs xl (dp_den true xs xl d) dp_m_X12_swap (0, [some (.ref 114), some (.int v1), some (.int v2), none, none, none], [], M)
theorem D_X12_swap_0_den (xs : Nat → Int32) (xl d : Nat) (a0 : Int32) (a1 : Int32) (M : dp_M) : dp_den true xs xl (d + 1) 393 [.ref 114, .int a0, .int a1] M = D_X12_swap_0 xs xl d a0 a1 M := rfl
set_option maxRecDepth 20000 in
theorem D_X12_swap_0_eq (xs : Nat → Int32) (xl d : Nat) (v1 : Int32) (v2 : Int32) (M : dp_M) : D_X12_swap_0 xs xl d v1 v2 M = dp_bi (dp_den true xs xl d 371 [.ref 114, .int v1] M) (fun r2 M1 => if r2 = 0 then (dp_bi (dp_den true xs xl d 366 [.ref 114, .int (1 : Int32)] M1) (fun r4 M3 => some (.inl (some (.int r4)), M3))) else (dp_bi (dp_den true xs xl d 371 [.ref 114, .int v2] M1) (fun r6 M5 => if r6 = 0 then (dp_bi (dp_den true xs xl d 366 [.ref 114, .int (1 : Int32)] M5) (fun r8 M7 => some (.inl (some (.int r8)), M7))) else (dp_w (dp_setI M5 114 0 (0 : Int32)) (fun M9 => if v1 = v2 then (some (.inl (some (.int (0 : Int32))), M9)) else (if v1 < 0 ∨ 100 ≤ Int32.toNatClampNeg v1 then none else (if v2 < 0 ∨ 100 ≤ Int32.toNatClampNeg v2 then none else (if (dp_I M9 115 (Int32.toNatClampNeg v1)) = (dp_I M9 115 (Int32.toNatClampNeg v2)) then (if v1 < 0 ∨ 100 ≤ Int32.toNatClampNeg v1 then none else (if (2 : Int32) < (dp_I M9 117 (Int32.toNatClampNeg v1)) then (some (.inl (some (.int (0 : Int32))), M9)) else (if v2 < 0 ∨ 100 ≤ Int32.toNatClampNeg v2 then none else (if (2 : Int32) < (dp_I M9 117 (Int32.toNatClampNeg v2)) then (some (.inl (some (.int (0 : Int32))), M9)) else (dp_bi (dp_den true xs xl d 392 [.ref 114, .int v1] M9) (fun r11 M10 => if r11 = 0 then (dp_bi (dp_den true xs xl d 392 [.ref 114, .int v2] M10) (fun r13 M12 => if r13 = 0 then (if v1 < 0 ∨ 100 ≤ Int32.toNatClampNeg v1 then none else (dp_w (dp_I M12 116 (Int32.toNatClampNeg v1)) (fun y14 => if v1 < 0 ∨ 100 ≤ Int32.toNatClampNeg v1 then none else (dp_w (dp_I M12 117 (Int32.toNatClampNeg v1)) (fun y15 => if v1 < 0 ∨ 100 ≤ Int32.toNatClampNeg v1 then none else (dp_w (dp_I M12 118 (Int32.toNatClampNeg v1)) (fun y16 => if v2 < 0 ∨ 100 ≤ Int32.toNatClampNeg v2 then none else (if v1 < 0 ∨ 100 ≤ Int32.toNatClampNeg v1 then none else dp_w (dp_setI M12 116 (Int32.toNatClampNeg v1) (dp_I M12 116 (Int32.toNatClampNeg v2))) (fun M17 => if v2 < 0 ∨ 100 ≤ Int32.toNatClampNeg v2 then none else (if v1 < 0 ∨ 100 ≤ Int32.toNatClampNeg v1 then none else dp_w (dp_setI M17 117 (Int32.toNatClampNeg v1) (dp_I M17 117 (Int32.toNatClampNeg v2))) (fun M18 => if v2 < 0 ∨ 100 ≤ Int32.toNatClampNeg v2 then none else (if v1 < 0 ∨ 100 ≤ Int32.toNatClampNeg v1 then none else dp_w (dp_setI M18 118 (Int32.toNatClampNeg v1) (dp_I M18 118 (Int32.toNatClampNeg v2))) (fun M19 => if v2 < 0 ∨ 100 ≤ Int32.toNatClampNeg v2 then none else dp_w (dp_setI M19 116 (Int32.toNatClampNeg v2) y14) (fun M20 => if v2 < 0 ∨ 100 ≤ Int32.toNatClampNeg v2 then none else dp_w (dp_setI M20 117 (Int32.toNatClampNeg v2) y15) (fun M21 => if v2 < 0 ∨ 100 ≤ Int32.toNatClampNeg v2 then none else dp_w (dp_setI M21 118 (Int32.toNatClampNeg v2) y16) (fun M22 => if v1 < 0 ∨ 100 ≤ Int32.toNatClampNeg v1 then none else (if (dp_I M22 116 (Int32.toNatClampNeg v1)) < 0 ∨ 12 ≤ Int32.toNatClampNeg (dp_I M22 116 (Int32.toNatClampNeg v1)) then none else dp_w (dp_setI M22 120 (Int32.toNatClampNeg (dp_I M22 116 (Int32.toNatClampNeg v1))) ((0 : Int32) &&& 1)) (fun M23 => if y14 < 0 ∨ 12 ≤ Int32.toNatClampNeg y14 then none else dp_w (dp_setI M23 120 (Int32.toNatClampNeg y14) ((0 : Int32) &&& 1)) (fun M24 => some (.inl (some (.int (1 : Int32))), M24)))))))))))))))))))) else (some (.inl (some (.int (0 : Int32))), M12)))) else (some (.inl (some (.int (0 : Int32))), M10)))))))) else (some (.inl (some (.int (0 : Int32))), M9)))))))))) := by
  have hF := dp_den_grow (md := true) (xs := xs) (xl := xl) d
  unfold D_X12_swap_0
  refine dp_s1 hF (i := .aload_n 0) rfl (fun _ => rfl) ?_
  refine dp_s1 hF (i := .iload_n 1) rfl (fun _ => rfl) ?_
  refine dp_si (mj := dp_m_X12_isBox) (i := .invokevirtual 470) rfl rfl (Or.inr rfl) rfl (fun _ => rfl) (fun r2 M1 => ?_)
  refine dp_s2 hF (i := .ifCond .eq 11) (a := (16, [some (.ref 114), some (.int v1), some (.int v2), none, none, none], [], M1)) (b := (8, [some (.ref 114), some (.int v1), some (.int v2), none, none, none], [], M1)) rfl (fun _ => rfl) ?_ ?_
  · refine dp_s1 hF (i := .aload_n 0) rfl (fun _ => rfl) ?_
    refine dp_s1 hF (i := .iconst 1) rfl (fun _ => rfl) ?_
    refine dp_si (mj := dp_m_X12_refuse) (i := .invokevirtual 460) rfl rfl (Or.inl rfl) rfl (fun _ => rfl) (fun r4 M3 => ?_)
    exact dp_s0 hF (i := .ireturn) rfl (fun _ => rfl)
  refine dp_s1 hF (i := .aload_n 0) rfl (fun _ => rfl) ?_
  refine dp_s1 hF (i := .iload_n 2) rfl (fun _ => rfl) ?_
  refine dp_si (mj := dp_m_X12_isBox) (i := .invokevirtual 470) rfl rfl (Or.inr rfl) rfl (fun _ => rfl) (fun r6 M5 => ?_)
  refine dp_s2 hF (i := .ifCond .ne 9) (a := (16, [some (.ref 114), some (.int v1), some (.int v2), none, none, none], [], M5)) (b := (22, [some (.ref 114), some (.int v1), some (.int v2), none, none, none], [], M5)) rfl (fun _ => rfl) ?_ ?_
  · refine dp_s1 hF (i := .aload_n 0) rfl (fun _ => rfl) ?_
    refine dp_s1 hF (i := .iconst 1) rfl (fun _ => rfl) ?_
    refine dp_si (mj := dp_m_X12_refuse) (i := .invokevirtual 460) rfl rfl (Or.inl rfl) rfl (fun _ => rfl) (fun r8 M7 => ?_)
    exact dp_s0 hF (i := .ireturn) rfl (fun _ => rfl)
  refine dp_s1 hF (i := .aload_n 0) rfl (fun _ => rfl) ?_
  refine dp_s1 hF (i := .iconst 0) rfl (fun _ => rfl) ?_
  refine dp_s1w (dp_setI M5 114 0 (0 : Int32)) (fun (M9 : dp_M) => (27, [some (.ref 114), some (.int v1), some (.int v2), none, none, none], [], M9)) hF (i := .putfield 1) rfl (fun _ => rfl) (fun M9 => ?_)
  refine dp_s1 hF (i := .iload_n 1) rfl (fun _ => rfl) ?_
  refine dp_s1 hF (i := .iload_n 2) rfl (fun _ => rfl) ?_
  refine dp_s2 hF (i := .if_icmp .eq 54) (a := (83, [some (.ref 114), some (.int v1), some (.int v2), none, none, none], [], M9)) (b := (32, [some (.ref 114), some (.int v1), some (.int v2), none, none, none], [], M9)) rfl (fun _ => rfl) ?_ ?_
  · refine dp_s1 hF (i := .iconst 0) rfl (fun _ => rfl) ?_
    exact dp_s0 hF (i := .ireturn) rfl (fun _ => rfl)
  refine dp_s1 hF (i := .aload_n 0) rfl (fun _ => rfl) ?_
  refine dp_s1 hF (i := .getfield 13) rfl (fun _ => rfl) ?_
  refine dp_s1 hF (i := .iload_n 1) rfl (fun _ => rfl) ?_
  refine dp_s3 hF (i := .iaload) rfl (fun _ => rfl) ?_
  refine dp_s1 hF (i := .aload_n 0) rfl (fun _ => rfl) ?_
  refine dp_s1 hF (i := .getfield 13) rfl (fun _ => rfl) ?_
  refine dp_s1 hF (i := .iload_n 2) rfl (fun _ => rfl) ?_
  refine dp_s3 hF (i := .iaload) rfl (fun _ => rfl) ?_
  refine dp_s2 hF (i := .if_icmp .ne 39) (a := (47, [some (.ref 114), some (.int v1), some (.int v2), none, none, none], [], M9)) (b := (83, [some (.ref 114), some (.int v1), some (.int v2), none, none, none], [], M9)) rfl (fun _ => rfl) ?_ ?_
  · refine dp_s1 hF (i := .aload_n 0) rfl (fun _ => rfl) ?_
    refine dp_s1 hF (i := .getfield 20) rfl (fun _ => rfl) ?_
    refine dp_s1 hF (i := .iload_n 1) rfl (fun _ => rfl) ?_
    refine dp_s3 hF (i := .iaload) rfl (fun _ => rfl) ?_
    refine dp_s1 hF (i := .iconst 2) rfl (fun _ => rfl) ?_
    refine dp_s2 hF (i := .if_icmp .gt 29) (a := (83, [some (.ref 114), some (.int v1), some (.int v2), none, none, none], [], M9)) (b := (57, [some (.ref 114), some (.int v1), some (.int v2), none, none, none], [], M9)) rfl (fun _ => rfl) ?_ ?_
    · refine dp_s1 hF (i := .iconst 0) rfl (fun _ => rfl) ?_
      exact dp_s0 hF (i := .ireturn) rfl (fun _ => rfl)
    refine dp_s1 hF (i := .aload_n 0) rfl (fun _ => rfl) ?_
    refine dp_s1 hF (i := .getfield 20) rfl (fun _ => rfl) ?_
    refine dp_s1 hF (i := .iload_n 2) rfl (fun _ => rfl) ?_
    refine dp_s3 hF (i := .iaload) rfl (fun _ => rfl) ?_
    refine dp_s1 hF (i := .iconst 2) rfl (fun _ => rfl) ?_
    refine dp_s2 hF (i := .if_icmp .gt 19) (a := (83, [some (.ref 114), some (.int v1), some (.int v2), none, none, none], [], M9)) (b := (67, [some (.ref 114), some (.int v1), some (.int v2), none, none, none], [], M9)) rfl (fun _ => rfl) ?_ ?_
    · refine dp_s1 hF (i := .iconst 0) rfl (fun _ => rfl) ?_
      exact dp_s0 hF (i := .ireturn) rfl (fun _ => rfl)
    refine dp_s1 hF (i := .aload_n 0) rfl (fun _ => rfl) ?_
    refine dp_s1 hF (i := .iload_n 1) rfl (fun _ => rfl) ?_
    refine dp_si (mj := dp_m_X12_hasNeeds) (i := .invokevirtual 544) rfl rfl (Or.inr rfl) rfl (fun _ => rfl) (fun r11 M10 => ?_)
    refine dp_s2 hF (i := .ifCond .ne 11) (a := (75, [some (.ref 114), some (.int v1), some (.int v2), none, none, none], [], M10)) (b := (83, [some (.ref 114), some (.int v1), some (.int v2), none, none, none], [], M10)) rfl (fun _ => rfl) ?_ ?_
    · refine dp_s1 hF (i := .aload_n 0) rfl (fun _ => rfl) ?_
      refine dp_s1 hF (i := .iload_n 2) rfl (fun _ => rfl) ?_
      refine dp_si (mj := dp_m_X12_hasNeeds) (i := .invokevirtual 544) rfl rfl (Or.inr rfl) rfl (fun _ => rfl) (fun r13 M12 => ?_)
      refine dp_s2 hF (i := .ifCond .eq 5) (a := (85, [some (.ref 114), some (.int v1), some (.int v2), none, none, none], [], M12)) (b := (83, [some (.ref 114), some (.int v1), some (.int v2), none, none, none], [], M12)) rfl (fun _ => rfl) ?_ ?_
      · refine dp_s1 hF (i := .aload_n 0) rfl (fun _ => rfl) ?_
        refine dp_s1 hF (i := .getfield 17) rfl (fun _ => rfl) ?_
        refine dp_s1 hF (i := .iload_n 1) rfl (fun _ => rfl) ?_
        refine dp_s3 hF (i := .iaload) rfl (fun _ => rfl) ?_
        refine dp_s1w (dp_I M12 116 (Int32.toNatClampNeg v1)) (fun (y14 : Int32) => (92, [some (.ref 114), some (.int v1), some (.int v2), some (.int y14), none, none], [], M12)) hF (i := .istore_n 3) rfl (fun _ => rfl) (fun y14 => ?_)
        refine dp_s1 hF (i := .aload_n 0) rfl (fun _ => rfl) ?_
        refine dp_s1 hF (i := .getfield 20) rfl (fun _ => rfl) ?_
        refine dp_s1 hF (i := .iload_n 1) rfl (fun _ => rfl) ?_
        refine dp_s3 hF (i := .iaload) rfl (fun _ => rfl) ?_
        refine dp_s1w (dp_I M12 117 (Int32.toNatClampNeg v1)) (fun (y15 : Int32) => (100, [some (.ref 114), some (.int v1), some (.int v2), some (.int y14), some (.int y15), none], [], M12)) hF (i := .istore 4) rfl (fun _ => rfl) (fun y15 => ?_)
        refine dp_s1 hF (i := .aload_n 0) rfl (fun _ => rfl) ?_
        refine dp_s1 hF (i := .getfield 23) rfl (fun _ => rfl) ?_
        refine dp_s1 hF (i := .iload_n 1) rfl (fun _ => rfl) ?_
        refine dp_s3 hF (i := .iaload) rfl (fun _ => rfl) ?_
        refine dp_s1w (dp_I M12 118 (Int32.toNatClampNeg v1)) (fun (y16 : Int32) => (108, [some (.ref 114), some (.int v1), some (.int v2), some (.int y14), some (.int y15), some (.int y16)], [], M12)) hF (i := .istore 5) rfl (fun _ => rfl) (fun y16 => ?_)
        refine dp_s1 hF (i := .aload_n 0) rfl (fun _ => rfl) ?_
        refine dp_s1 hF (i := .getfield 17) rfl (fun _ => rfl) ?_
        refine dp_s1 hF (i := .iload_n 1) rfl (fun _ => rfl) ?_
        refine dp_s1 hF (i := .aload_n 0) rfl (fun _ => rfl) ?_
        refine dp_s1 hF (i := .getfield 17) rfl (fun _ => rfl) ?_
        refine dp_s1 hF (i := .iload_n 2) rfl (fun _ => rfl) ?_
        refine dp_s3 hF (i := .iaload) rfl (fun _ => rfl) ?_
        refine dp_s3w (dp_setI M12 116 (Int32.toNatClampNeg v1) (dp_I M12 116 (Int32.toNatClampNeg v2))) (fun (M17 : dp_M) => (120, [some (.ref 114), some (.int v1), some (.int v2), some (.int y14), some (.int y15), some (.int y16)], [], M17)) hF (i := .iastore) rfl (fun _ => rfl) (fun M17 => ?_)
        refine dp_s1 hF (i := .aload_n 0) rfl (fun _ => rfl) ?_
        refine dp_s1 hF (i := .getfield 20) rfl (fun _ => rfl) ?_
        refine dp_s1 hF (i := .iload_n 1) rfl (fun _ => rfl) ?_
        refine dp_s1 hF (i := .aload_n 0) rfl (fun _ => rfl) ?_
        refine dp_s1 hF (i := .getfield 20) rfl (fun _ => rfl) ?_
        refine dp_s1 hF (i := .iload_n 2) rfl (fun _ => rfl) ?_
        refine dp_s3 hF (i := .iaload) rfl (fun _ => rfl) ?_
        refine dp_s3w (dp_setI M17 117 (Int32.toNatClampNeg v1) (dp_I M17 117 (Int32.toNatClampNeg v2))) (fun (M18 : dp_M) => (132, [some (.ref 114), some (.int v1), some (.int v2), some (.int y14), some (.int y15), some (.int y16)], [], M18)) hF (i := .iastore) rfl (fun _ => rfl) (fun M18 => ?_)
        refine dp_s1 hF (i := .aload_n 0) rfl (fun _ => rfl) ?_
        refine dp_s1 hF (i := .getfield 23) rfl (fun _ => rfl) ?_
        refine dp_s1 hF (i := .iload_n 1) rfl (fun _ => rfl) ?_
        refine dp_s1 hF (i := .aload_n 0) rfl (fun _ => rfl) ?_
        refine dp_s1 hF (i := .getfield 23) rfl (fun _ => rfl) ?_
        refine dp_s1 hF (i := .iload_n 2) rfl (fun _ => rfl) ?_
        refine dp_s3 hF (i := .iaload) rfl (fun _ => rfl) ?_
        refine dp_s3w (dp_setI M18 118 (Int32.toNatClampNeg v1) (dp_I M18 118 (Int32.toNatClampNeg v2))) (fun (M19 : dp_M) => (144, [some (.ref 114), some (.int v1), some (.int v2), some (.int y14), some (.int y15), some (.int y16)], [], M19)) hF (i := .iastore) rfl (fun _ => rfl) (fun M19 => ?_)
        refine dp_s1 hF (i := .aload_n 0) rfl (fun _ => rfl) ?_
        refine dp_s1 hF (i := .getfield 17) rfl (fun _ => rfl) ?_
        refine dp_s1 hF (i := .iload_n 2) rfl (fun _ => rfl) ?_
        refine dp_s1 hF (i := .iload_n 3) rfl (fun _ => rfl) ?_
        refine dp_s3w (dp_setI M19 116 (Int32.toNatClampNeg v2) y14) (fun (M20 : dp_M) => (151, [some (.ref 114), some (.int v1), some (.int v2), some (.int y14), some (.int y15), some (.int y16)], [], M20)) hF (i := .iastore) rfl (fun _ => rfl) (fun M20 => ?_)
        refine dp_s1 hF (i := .aload_n 0) rfl (fun _ => rfl) ?_
        refine dp_s1 hF (i := .getfield 20) rfl (fun _ => rfl) ?_
        refine dp_s1 hF (i := .iload_n 2) rfl (fun _ => rfl) ?_
        refine dp_s1 hF (i := .iload 4) rfl (fun _ => rfl) ?_
        refine dp_s3w (dp_setI M20 117 (Int32.toNatClampNeg v2) y15) (fun (M21 : dp_M) => (159, [some (.ref 114), some (.int v1), some (.int v2), some (.int y14), some (.int y15), some (.int y16)], [], M21)) hF (i := .iastore) rfl (fun _ => rfl) (fun M21 => ?_)
        refine dp_s1 hF (i := .aload_n 0) rfl (fun _ => rfl) ?_
        refine dp_s1 hF (i := .getfield 23) rfl (fun _ => rfl) ?_
        refine dp_s1 hF (i := .iload_n 2) rfl (fun _ => rfl) ?_
        refine dp_s1 hF (i := .iload 5) rfl (fun _ => rfl) ?_
        refine dp_s3w (dp_setI M21 118 (Int32.toNatClampNeg v2) y16) (fun (M22 : dp_M) => (167, [some (.ref 114), some (.int v1), some (.int v2), some (.int y14), some (.int y15), some (.int y16)], [], M22)) hF (i := .iastore) rfl (fun _ => rfl) (fun M22 => ?_)
        refine dp_s1 hF (i := .aload_n 0) rfl (fun _ => rfl) ?_
        refine dp_s1 hF (i := .getfield 30) rfl (fun _ => rfl) ?_
        refine dp_s1 hF (i := .aload_n 0) rfl (fun _ => rfl) ?_
        refine dp_s1 hF (i := .getfield 17) rfl (fun _ => rfl) ?_
        refine dp_s1 hF (i := .iload_n 1) rfl (fun _ => rfl) ?_
        refine dp_s3 hF (i := .iaload) rfl (fun _ => rfl) ?_
        refine dp_s1 hF (i := .iconst 0) rfl (fun _ => rfl) ?_
        refine dp_s3w (dp_setI M22 120 (Int32.toNatClampNeg (dp_I M22 116 (Int32.toNatClampNeg v1))) ((0 : Int32) &&& 1)) (fun (M23 : dp_M) => (179, [some (.ref 114), some (.int v1), some (.int v2), some (.int y14), some (.int y15), some (.int y16)], [], M23)) hF (i := .bastore) rfl (fun _ => rfl) (fun M23 => ?_)
        refine dp_s1 hF (i := .aload_n 0) rfl (fun _ => rfl) ?_
        refine dp_s1 hF (i := .getfield 30) rfl (fun _ => rfl) ?_
        refine dp_s1 hF (i := .iload_n 3) rfl (fun _ => rfl) ?_
        refine dp_s1 hF (i := .iconst 0) rfl (fun _ => rfl) ?_
        refine dp_s3w (dp_setI M23 120 (Int32.toNatClampNeg y14) ((0 : Int32) &&& 1)) (fun (M24 : dp_M) => (186, [some (.ref 114), some (.int v1), some (.int v2), some (.int y14), some (.int y15), some (.int y16)], [], M24)) hF (i := .bastore) rfl (fun _ => rfl) (fun M24 => ?_)
        refine dp_s1 hF (i := .iconst 1) rfl (fun _ => rfl) ?_
        exact dp_s0 hF (i := .ireturn) rfl (fun _ => rfl)
      refine dp_s1 hF (i := .iconst 0) rfl (fun _ => rfl) ?_
      exact dp_s0 hF (i := .ireturn) rfl (fun _ => rfl)
    refine dp_s1 hF (i := .iconst 0) rfl (fun _ => rfl) ?_
    exact dp_s0 hF (i := .ireturn) rfl (fun _ => rfl)
  refine dp_s1 hF (i := .iconst 0) rfl (fun _ => rfl) ?_
  exact dp_s0 hF (i := .ireturn) rfl (fun _ => rfl)
noncomputable def D_X12_aboard_0 (xs : Nat → Int32) (xl d : Nat) (v1 : Int32) (v2 : Int32) (M : dp_M) : Option dp_Res := dp_lim true xs xl (dp_den true xs xl d) dp_m_X12_aboard (0, [some (.ref 114), some (.int v1), some (.int v2)], [], M)
theorem D_X12_aboard_0_den (xs : Nat → Int32) (xl d : Nat) (a0 : Int32) (a1 : Int32) (M : dp_M) : dp_den true xs xl (d + 1) 394 [.ref 114, .int a0, .int a1] M = D_X12_aboard_0 xs xl d a0 a1 M := rfl
set_option maxRecDepth 20000 in
theorem D_X12_aboard_0_eq (xs : Nat → Int32) (xl d : Nat) (v1 : Int32) (v2 : Int32) (M : dp_M) : D_X12_aboard_0 xs xl d v1 v2 M = dp_bi (dp_den true xs xl d 371 [.ref 114, .int v1] M) (fun r2 M1 => if r2 = 0 then (dp_bi (dp_den true xs xl d 366 [.ref 114, .int (1 : Int32)] M1) (fun r4 M3 => some (.inl (some (.int r4)), M3))) else (dp_bi (dp_den true xs xl d 367 [.long (Int32.toInt64 v2), .long (0 : Int64), .long (3 : Int64)] M1) (fun r6 M5 => if r6 = 0 then (dp_bi (dp_den true xs xl d 366 [.ref 114, .int (1 : Int32)] M5) (fun r8 M7 => some (.inl (some (.int r8)), M7))) else (dp_w (dp_setI M5 114 0 (0 : Int32)) (fun M9 => if v2 = 0 then (if v1 < 0 ∨ 100 ≤ Int32.toNatClampNeg v1 then none else (some (.inl (some (.int (dp_I M9 115 (Int32.toNatClampNeg v1)))), M9))) else (if v2 = (1 : Int32) then (if v1 < 0 ∨ 100 ≤ Int32.toNatClampNeg v1 then none else (some (.inl (some (.int (dp_I M9 116 (Int32.toNatClampNeg v1)))), M9))) else (if v2 = (2 : Int32) then (if v1 < 0 ∨ 100 ≤ Int32.toNatClampNeg v1 then none else (some (.inl (some (.int (dp_I M9 117 (Int32.toNatClampNeg v1)))), M9))) else (if v1 < 0 ∨ 100 ≤ Int32.toNatClampNeg v1 then none else (some (.inl (some (.int (dp_I M9 118 (Int32.toNatClampNeg v1)))), M9)))))))))) := by
  have hF := dp_den_grow (md := true) (xs := xs) (xl := xl) d
  unfold D_X12_aboard_0
  refine dp_s1 hF (i := .aload_n 0) rfl (fun _ => rfl) ?_
  refine dp_s1 hF (i := .iload_n 1) rfl (fun _ => rfl) ?_
  refine dp_si (mj := dp_m_X12_isBox) (i := .invokevirtual 470) rfl rfl (Or.inr rfl) rfl (fun _ => rfl) (fun r2 M1 => ?_)
  refine dp_s2 hF (i := .ifCond .eq 15) (a := (20, [some (.ref 114), some (.int v1), some (.int v2)], [], M1)) (b := (8, [some (.ref 114), some (.int v1), some (.int v2)], [], M1)) rfl (fun _ => rfl) ?_ ?_
  · refine dp_s1 hF (i := .aload_n 0) rfl (fun _ => rfl) ?_
    refine dp_s1 hF (i := .iconst 1) rfl (fun _ => rfl) ?_
    refine dp_si (mj := dp_m_X12_refuse) (i := .invokevirtual 460) rfl rfl (Or.inl rfl) rfl (fun _ => rfl) (fun r4 M3 => ?_)
    exact dp_s0 hF (i := .ireturn) rfl (fun _ => rfl)
  refine dp_s1 hF (i := .iload_n 2) rfl (fun _ => rfl) ?_
  refine dp_s1 hF (i := .i2l) rfl (fun _ => rfl) ?_
  refine dp_s1 hF (i := .lconst 0) rfl (fun _ => rfl) ?_
  refine dp_s1 hF (i := .ldc2_w 529) rfl (fun _ => rfl) ?_
  refine dp_si (mj := dp_m_X12_in) (i := .invokestatic 446) rfl rfl (Or.inr rfl) rfl (fun _ => rfl) (fun r6 M5 => ?_)
  refine dp_s2 hF (i := .ifCond .ne 9) (a := (20, [some (.ref 114), some (.int v1), some (.int v2)], [], M5)) (b := (26, [some (.ref 114), some (.int v1), some (.int v2)], [], M5)) rfl (fun _ => rfl) ?_ ?_
  · refine dp_s1 hF (i := .aload_n 0) rfl (fun _ => rfl) ?_
    refine dp_s1 hF (i := .iconst 1) rfl (fun _ => rfl) ?_
    refine dp_si (mj := dp_m_X12_refuse) (i := .invokevirtual 460) rfl rfl (Or.inl rfl) rfl (fun _ => rfl) (fun r8 M7 => ?_)
    exact dp_s0 hF (i := .ireturn) rfl (fun _ => rfl)
  refine dp_s1 hF (i := .aload_n 0) rfl (fun _ => rfl) ?_
  refine dp_s1 hF (i := .iconst 0) rfl (fun _ => rfl) ?_
  refine dp_s1w (dp_setI M5 114 0 (0 : Int32)) (fun (M9 : dp_M) => (31, [some (.ref 114), some (.int v1), some (.int v2)], [], M9)) hF (i := .putfield 1) rfl (fun _ => rfl) (fun M9 => ?_)
  refine dp_s1 hF (i := .iload_n 2) rfl (fun _ => rfl) ?_
  refine dp_s2 hF (i := .ifCond .ne 12) (a := (35, [some (.ref 114), some (.int v1), some (.int v2)], [], M9)) (b := (44, [some (.ref 114), some (.int v1), some (.int v2)], [], M9)) rfl (fun _ => rfl) ?_ ?_
  · refine dp_s1 hF (i := .aload_n 0) rfl (fun _ => rfl) ?_
    refine dp_s1 hF (i := .getfield 13) rfl (fun _ => rfl) ?_
    refine dp_s1 hF (i := .iload_n 1) rfl (fun _ => rfl) ?_
    refine dp_s3 hF (i := .iaload) rfl (fun _ => rfl) ?_
    refine dp_s1 hF (i := .goto 37) rfl (fun _ => rfl) ?_
    exact dp_s0 hF (i := .ireturn) rfl (fun _ => rfl)
  refine dp_s1 hF (i := .iload_n 2) rfl (fun _ => rfl) ?_
  refine dp_s1 hF (i := .iconst 1) rfl (fun _ => rfl) ?_
  refine dp_s2 hF (i := .if_icmp .ne 12) (a := (49, [some (.ref 114), some (.int v1), some (.int v2)], [], M9)) (b := (58, [some (.ref 114), some (.int v1), some (.int v2)], [], M9)) rfl (fun _ => rfl) ?_ ?_
  · refine dp_s1 hF (i := .aload_n 0) rfl (fun _ => rfl) ?_
    refine dp_s1 hF (i := .getfield 17) rfl (fun _ => rfl) ?_
    refine dp_s1 hF (i := .iload_n 1) rfl (fun _ => rfl) ?_
    refine dp_s3 hF (i := .iaload) rfl (fun _ => rfl) ?_
    refine dp_s1 hF (i := .goto 23) rfl (fun _ => rfl) ?_
    exact dp_s0 hF (i := .ireturn) rfl (fun _ => rfl)
  refine dp_s1 hF (i := .iload_n 2) rfl (fun _ => rfl) ?_
  refine dp_s1 hF (i := .iconst 2) rfl (fun _ => rfl) ?_
  refine dp_s2 hF (i := .if_icmp .ne 12) (a := (63, [some (.ref 114), some (.int v1), some (.int v2)], [], M9)) (b := (72, [some (.ref 114), some (.int v1), some (.int v2)], [], M9)) rfl (fun _ => rfl) ?_ ?_
  · refine dp_s1 hF (i := .aload_n 0) rfl (fun _ => rfl) ?_
    refine dp_s1 hF (i := .getfield 20) rfl (fun _ => rfl) ?_
    refine dp_s1 hF (i := .iload_n 1) rfl (fun _ => rfl) ?_
    refine dp_s3 hF (i := .iaload) rfl (fun _ => rfl) ?_
    refine dp_s1 hF (i := .goto 9) rfl (fun _ => rfl) ?_
    exact dp_s0 hF (i := .ireturn) rfl (fun _ => rfl)
  refine dp_s1 hF (i := .aload_n 0) rfl (fun _ => rfl) ?_
  refine dp_s1 hF (i := .getfield 23) rfl (fun _ => rfl) ?_
  refine dp_s1 hF (i := .iload_n 1) rfl (fun _ => rfl) ?_
  refine dp_s3 hF (i := .iaload) rfl (fun _ => rfl) ?_
  exact dp_s0 hF (i := .ireturn) rfl (fun _ => rfl)
noncomputable def D_X12_isYardRow_0 (xs : Nat → Int32) (xl d : Nat) (v1 : Int32) (M : dp_M) : Option dp_Res := dp_lim true xs xl (dp_den true xs xl d) dp_m_X12_isYardRow (0, [some (.ref 114), some (.int v1)], [], M)
theorem D_X12_isYardRow_0_den (xs : Nat → Int32) (xl d : Nat) (a0 : Int32) (M : dp_M) : dp_den true xs xl (d + 1) 395 [.ref 114, .int a0] M = D_X12_isYardRow_0 xs xl d a0 M := rfl
set_option maxRecDepth 20000 in
theorem D_X12_isYardRow_0_eq (xs : Nat → Int32) (xl d : Nat) (v1 : Int32) (M : dp_M) : D_X12_isYardRow_0 xs xl d v1 M = if v1 < 0 then (some (.inl (some (.int (0 : Int32))), M)) else (if (dp_I M 114 25) ≤ v1 then (some (.inl (some (.int (0 : Int32))), M)) else (some (.inl (some (.int (1 : Int32))), M))) := by
  have hF := dp_den_grow (md := true) (xs := xs) (xl := xl) d
  unfold D_X12_isYardRow_0
  refine dp_s1 hF (i := .iload_n 1) rfl (fun _ => rfl) ?_
  refine dp_s2 hF (i := .ifCond .lt 15) (a := (16, [some (.ref 114), some (.int v1)], [], M)) (b := (4, [some (.ref 114), some (.int v1)], [], M)) rfl (fun _ => rfl) ?_ ?_
  · refine dp_s1 hF (i := .iconst 0) rfl (fun _ => rfl) ?_
    exact dp_s0 hF (i := .ireturn) rfl (fun _ => rfl)
  refine dp_s1 hF (i := .iload_n 1) rfl (fun _ => rfl) ?_
  refine dp_s1 hF (i := .aload_n 0) rfl (fun _ => rfl) ?_
  refine dp_s1 hF (i := .getfield 426) rfl (fun _ => rfl) ?_
  refine dp_s2 hF (i := .if_icmp .ge 7) (a := (16, [some (.ref 114), some (.int v1)], [], M)) (b := (12, [some (.ref 114), some (.int v1)], [], M)) rfl (fun _ => rfl) ?_ ?_
  · refine dp_s1 hF (i := .iconst 0) rfl (fun _ => rfl) ?_
    exact dp_s0 hF (i := .ireturn) rfl (fun _ => rfl)
  refine dp_s1 hF (i := .iconst 1) rfl (fun _ => rfl) ?_
  refine dp_s1 hF (i := .goto 4) rfl (fun _ => rfl) ?_
  exact dp_s0 hF (i := .ireturn) rfl (fun _ => rfl)
noncomputable def D_X12_heightOf_0 (xs : Nat → Int32) (xl d : Nat) (v1 : Int32) (M : dp_M) : Option dp_Res := dp_lim true xs xl (dp_den true xs xl d) dp_m_X12_heightOf (0, [some (.ref 114), some (.int v1), none, none], [], M)
noncomputable def D_X12_heightOf_4 (xs : Nat → Int32) (xl d : Nat) (v1 : Int32) (v2 : Int32) (v3 : Int32) (M : dp_M) : Option dp_Res := dp_lim true xs xl (dp_den true xs xl d) dp_m_X12_heightOf (4, [some (.ref 114), some (.int v1), some (.int v2), some (.int v3)], [], M)
theorem D_X12_heightOf_0_den (xs : Nat → Int32) (xl d : Nat) (a0 : Int32) (M : dp_M) : dp_den true xs xl (d + 1) 396 [.ref 114, .int a0] M = D_X12_heightOf_0 xs xl d a0 M := rfl
set_option maxRecDepth 20000 in
theorem D_X12_heightOf_0_eq (xs : Nat → Int32) (xl d : Nat) (v1 : Int32) (M : dp_M) : D_X12_heightOf_0 xs xl d v1 M = dp_w (0 : Int32) (fun y1 => dp_w (0 : Int32) (fun y2 => D_X12_heightOf_4 xs xl d v1 y1 y2 M)) := by
  have hF := dp_den_grow (md := true) (xs := xs) (xl := xl) d
  unfold D_X12_heightOf_0
  refine dp_s1 hF (i := .iconst 0) rfl (fun _ => rfl) ?_
  refine dp_s1w (0 : Int32) (fun (y1 : Int32) => (2, [some (.ref 114), some (.int v1), some (.int y1), none], [], M)) hF (i := .istore_n 2) rfl (fun _ => rfl) (fun y1 => ?_)
  refine dp_s1 hF (i := .iconst 0) rfl (fun _ => rfl) ?_
  refine dp_s1w (0 : Int32) (fun (y2 : Int32) => (4, [some (.ref 114), some (.int v1), some (.int y1), some (.int y2)], [], M)) hF (i := .istore_n 3) rfl (fun _ => rfl) (fun y2 => ?_)
  exact rfl
set_option maxRecDepth 20000 in
theorem D_X12_heightOf_4_eq (xs : Nat → Int32) (xl d : Nat) (v1 : Int32) (v2 : Int32) (v3 : Int32) (M : dp_M) : D_X12_heightOf_4 xs xl d v1 v2 v3 M = if (dp_I M 114 3) ≤ v3 then (some (.inl (some (.int v2)), M)) else (if v3 < 0 ∨ 100 ≤ Int32.toNatClampNeg v3 then none else (if (dp_I M 140 (Int32.toNatClampNeg v3)) = v1 then (dp_w (v2 + (1 : Int32)) (fun y1 => dp_w (v3 + (1 : Int32)) (fun y2 => D_X12_heightOf_4 xs xl d v1 y1 y2 M))) else (dp_w (v2 + (0 : Int32)) (fun y3 => dp_w (v3 + (1 : Int32)) (fun y4 => D_X12_heightOf_4 xs xl d v1 y3 y4 M))))) := by
  have hF := dp_den_grow (md := true) (xs := xs) (xl := xl) d
  unfold D_X12_heightOf_4
  refine dp_s1 hF (i := .iload_n 3) rfl (fun _ => rfl) ?_
  refine dp_s1 hF (i := .aload_n 0) rfl (fun _ => rfl) ?_
  refine dp_s1 hF (i := .getfield 437) rfl (fun _ => rfl) ?_
  refine dp_s2 hF (i := .if_icmp .ge 27) (a := (36, [some (.ref 114), some (.int v1), some (.int v2), some (.int v3)], [], M)) (b := (12, [some (.ref 114), some (.int v1), some (.int v2), some (.int v3)], [], M)) rfl (fun _ => rfl) ?_ ?_
  · refine dp_s1 hF (i := .iload_n 2) rfl (fun _ => rfl) ?_
    exact dp_s0 hF (i := .ireturn) rfl (fun _ => rfl)
  refine dp_s1 hF (i := .iload_n 2) rfl (fun _ => rfl) ?_
  refine dp_s1 hF (i := .aload_n 0) rfl (fun _ => rfl) ?_
  refine dp_s1 hF (i := .getfield 91) rfl (fun _ => rfl) ?_
  refine dp_s1 hF (i := .iload_n 3) rfl (fun _ => rfl) ?_
  refine dp_s3 hF (i := .iaload) rfl (fun _ => rfl) ?_
  refine dp_s1 hF (i := .iload_n 1) rfl (fun _ => rfl) ?_
  refine dp_s2 hF (i := .if_icmp .ne 7) (a := (23, [some (.ref 114), some (.int v1), some (.int v2), some (.int v3)], [.int v2], M)) (b := (27, [some (.ref 114), some (.int v1), some (.int v2), some (.int v3)], [.int v2], M)) rfl (fun _ => rfl) ?_ ?_
  · refine dp_s1 hF (i := .iconst 1) rfl (fun _ => rfl) ?_
    refine dp_s1 hF (i := .goto 4) rfl (fun _ => rfl) ?_
    refine dp_s1 hF (i := .iadd) rfl (fun _ => rfl) ?_
    refine dp_s1w (v2 + (1 : Int32)) (fun (y1 : Int32) => (30, [some (.ref 114), some (.int v1), some (.int y1), some (.int v3)], [], M)) hF (i := .istore_n 2) rfl (fun _ => rfl) (fun y1 => ?_)
    refine dp_s1w (v3 + (1 : Int32)) (fun (y2 : Int32) => (33, [some (.ref 114), some (.int v1), some (.int y1), some (.int y2)], [], M)) hF (i := .iinc 3 1) rfl (fun _ => rfl) (fun y2 => ?_)
    refine dp_s1 hF (i := .goto (-29)) rfl (fun _ => rfl) ?_
    exact rfl
  refine dp_s1 hF (i := .iconst 0) rfl (fun _ => rfl) ?_
  refine dp_s1 hF (i := .iadd) rfl (fun _ => rfl) ?_
  refine dp_s1w (v2 + (0 : Int32)) (fun (y3 : Int32) => (30, [some (.ref 114), some (.int v1), some (.int y3), some (.int v3)], [], M)) hF (i := .istore_n 2) rfl (fun _ => rfl) (fun y3 => ?_)
  refine dp_s1w (v3 + (1 : Int32)) (fun (y4 : Int32) => (33, [some (.ref 114), some (.int v1), some (.int y3), some (.int y4)], [], M)) hF (i := .iinc 3 1) rfl (fun _ => rfl) (fun y4 => ?_)
  refine dp_s1 hF (i := .goto (-29)) rfl (fun _ => rfl) ?_
  exact rfl
noncomputable def D_X12_weightOf_0 (xs : Nat → Int32) (xl d : Nat) (v1 : Int32) (M : dp_M) : Option dp_Res := dp_lim true xs xl (dp_den true xs xl d) dp_m_X12_weightOf (0, [some (.ref 114), some (.int v1), none, none], [], M)
noncomputable def D_X12_weightOf_4 (xs : Nat → Int32) (xl d : Nat) (v1 : Int32) (v2 : Int32) (v3 : Int32) (M : dp_M) : Option dp_Res := dp_lim true xs xl (dp_den true xs xl d) dp_m_X12_weightOf (4, [some (.ref 114), some (.int v1), some (.int v2), some (.int v3)], [], M)
theorem D_X12_weightOf_0_den (xs : Nat → Int32) (xl d : Nat) (a0 : Int32) (M : dp_M) : dp_den true xs xl (d + 1) 397 [.ref 114, .int a0] M = D_X12_weightOf_0 xs xl d a0 M := rfl
set_option maxRecDepth 20000 in
theorem D_X12_weightOf_0_eq (xs : Nat → Int32) (xl d : Nat) (v1 : Int32) (M : dp_M) : D_X12_weightOf_0 xs xl d v1 M = dp_w (0 : Int32) (fun y1 => dp_w (0 : Int32) (fun y2 => D_X12_weightOf_4 xs xl d v1 y1 y2 M)) := by
  have hF := dp_den_grow (md := true) (xs := xs) (xl := xl) d
  unfold D_X12_weightOf_0
  refine dp_s1 hF (i := .iconst 0) rfl (fun _ => rfl) ?_
  refine dp_s1w (0 : Int32) (fun (y1 : Int32) => (2, [some (.ref 114), some (.int v1), some (.int y1), none], [], M)) hF (i := .istore_n 2) rfl (fun _ => rfl) (fun y1 => ?_)
  refine dp_s1 hF (i := .iconst 0) rfl (fun _ => rfl) ?_
  refine dp_s1w (0 : Int32) (fun (y2 : Int32) => (4, [some (.ref 114), some (.int v1), some (.int y1), some (.int y2)], [], M)) hF (i := .istore_n 3) rfl (fun _ => rfl) (fun y2 => ?_)
  exact rfl
set_option maxRecDepth 20000 in
theorem D_X12_weightOf_4_eq (xs : Nat → Int32) (xl d : Nat) (v1 : Int32) (v2 : Int32) (v3 : Int32) (M : dp_M) : D_X12_weightOf_4 xs xl d v1 v2 v3 M = if (dp_I M 114 3) ≤ v3 then (some (.inl (some (.int v2)), M)) else (if v3 < 0 ∨ 100 ≤ Int32.toNatClampNeg v3 then none else (if (dp_I M 140 (Int32.toNatClampNeg v3)) = v1 then (if v3 < 0 ∨ 100 ≤ Int32.toNatClampNeg v3 then none else (dp_w (v2 + (dp_I M 137 (Int32.toNatClampNeg v3))) (fun y1 => dp_w (v3 + (1 : Int32)) (fun y2 => D_X12_weightOf_4 xs xl d v1 y1 y2 M)))) else (dp_w (v2 + (0 : Int32)) (fun y3 => dp_w (v3 + (1 : Int32)) (fun y4 => D_X12_weightOf_4 xs xl d v1 y3 y4 M))))) := by
  have hF := dp_den_grow (md := true) (xs := xs) (xl := xl) d
  unfold D_X12_weightOf_4
  refine dp_s1 hF (i := .iload_n 3) rfl (fun _ => rfl) ?_
  refine dp_s1 hF (i := .aload_n 0) rfl (fun _ => rfl) ?_
  refine dp_s1 hF (i := .getfield 437) rfl (fun _ => rfl) ?_
  refine dp_s2 hF (i := .if_icmp .ge 32) (a := (41, [some (.ref 114), some (.int v1), some (.int v2), some (.int v3)], [], M)) (b := (12, [some (.ref 114), some (.int v1), some (.int v2), some (.int v3)], [], M)) rfl (fun _ => rfl) ?_ ?_
  · refine dp_s1 hF (i := .iload_n 2) rfl (fun _ => rfl) ?_
    exact dp_s0 hF (i := .ireturn) rfl (fun _ => rfl)
  refine dp_s1 hF (i := .iload_n 2) rfl (fun _ => rfl) ?_
  refine dp_s1 hF (i := .aload_n 0) rfl (fun _ => rfl) ?_
  refine dp_s1 hF (i := .getfield 91) rfl (fun _ => rfl) ?_
  refine dp_s1 hF (i := .iload_n 3) rfl (fun _ => rfl) ?_
  refine dp_s3 hF (i := .iaload) rfl (fun _ => rfl) ?_
  refine dp_s1 hF (i := .iload_n 1) rfl (fun _ => rfl) ?_
  refine dp_s2 hF (i := .if_icmp .ne 12) (a := (23, [some (.ref 114), some (.int v1), some (.int v2), some (.int v3)], [.int v2], M)) (b := (32, [some (.ref 114), some (.int v1), some (.int v2), some (.int v3)], [.int v2], M)) rfl (fun _ => rfl) ?_ ?_
  · refine dp_s1 hF (i := .aload_n 0) rfl (fun _ => rfl) ?_
    refine dp_s1 hF (i := .getfield 82) rfl (fun _ => rfl) ?_
    refine dp_s1 hF (i := .iload_n 3) rfl (fun _ => rfl) ?_
    refine dp_s3 hF (i := .iaload) rfl (fun _ => rfl) ?_
    refine dp_s1 hF (i := .goto 4) rfl (fun _ => rfl) ?_
    refine dp_s1 hF (i := .iadd) rfl (fun _ => rfl) ?_
    refine dp_s1w (v2 + (dp_I M 137 (Int32.toNatClampNeg v3))) (fun (y1 : Int32) => (35, [some (.ref 114), some (.int v1), some (.int y1), some (.int v3)], [], M)) hF (i := .istore_n 2) rfl (fun _ => rfl) (fun y1 => ?_)
    refine dp_s1w (v3 + (1 : Int32)) (fun (y2 : Int32) => (38, [some (.ref 114), some (.int v1), some (.int y1), some (.int y2)], [], M)) hF (i := .iinc 3 1) rfl (fun _ => rfl) (fun y2 => ?_)
    refine dp_s1 hF (i := .goto (-34)) rfl (fun _ => rfl) ?_
    exact rfl
  refine dp_s1 hF (i := .iconst 0) rfl (fun _ => rfl) ?_
  refine dp_s1 hF (i := .iadd) rfl (fun _ => rfl) ?_
  refine dp_s1w (v2 + (0 : Int32)) (fun (y3 : Int32) => (35, [some (.ref 114), some (.int v1), some (.int y3), some (.int v3)], [], M)) hF (i := .istore_n 2) rfl (fun _ => rfl) (fun y3 => ?_)
  refine dp_s1w (v3 + (1 : Int32)) (fun (y4 : Int32) => (38, [some (.ref 114), some (.int v1), some (.int y3), some (.int y4)], [], M)) hF (i := .iinc 3 1) rfl (fun _ => rfl) (fun y4 => ?_)
  refine dp_s1 hF (i := .goto (-34)) rfl (fun _ => rfl) ?_
  exact rfl
noncomputable def D_X12_boxAt_0 (xs : Nat → Int32) (xl d : Nat) (v1 : Int32) (v2 : Int32) (M : dp_M) : Option dp_Res := dp_lim true xs xl (dp_den true xs xl d) dp_m_X12_boxAt (0, [some (.ref 114), some (.int v1), some (.int v2), none, none], [], M)
noncomputable def D_X12_boxAt_5 (xs : Nat → Int32) (xl d : Nat) (v1 : Int32) (v2 : Int32) (v3 : Int32) (v4 : Int32) (M : dp_M) : Option dp_Res := dp_lim true xs xl (dp_den true xs xl d) dp_m_X12_boxAt (5, [some (.ref 114), some (.int v1), some (.int v2), some (.int v3), some (.int v4)], [], M)
theorem D_X12_boxAt_0_den (xs : Nat → Int32) (xl d : Nat) (a0 : Int32) (a1 : Int32) (M : dp_M) : dp_den true xs xl (d + 1) 398 [.ref 114, .int a0, .int a1] M = D_X12_boxAt_0 xs xl d a0 a1 M := rfl
set_option maxRecDepth 20000 in
theorem D_X12_boxAt_0_eq (xs : Nat → Int32) (xl d : Nat) (v1 : Int32) (v2 : Int32) (M : dp_M) : D_X12_boxAt_0 xs xl d v1 v2 M = dp_w (-1 : Int32) (fun y1 => dp_w (0 : Int32) (fun y2 => D_X12_boxAt_5 xs xl d v1 v2 y1 y2 M)) := by
  have hF := dp_den_grow (md := true) (xs := xs) (xl := xl) d
  unfold D_X12_boxAt_0
  refine dp_s1 hF (i := .iconst (-1)) rfl (fun _ => rfl) ?_
  refine dp_s1w (-1 : Int32) (fun (y1 : Int32) => (2, [some (.ref 114), some (.int v1), some (.int v2), some (.int y1), none], [], M)) hF (i := .istore_n 3) rfl (fun _ => rfl) (fun y1 => ?_)
  refine dp_s1 hF (i := .iconst 0) rfl (fun _ => rfl) ?_
  refine dp_s1w (0 : Int32) (fun (y2 : Int32) => (5, [some (.ref 114), some (.int v1), some (.int v2), some (.int y1), some (.int y2)], [], M)) hF (i := .istore 4) rfl (fun _ => rfl) (fun y2 => ?_)
  exact rfl
set_option maxRecDepth 20000 in
theorem D_X12_boxAt_5_eq (xs : Nat → Int32) (xl d : Nat) (v1 : Int32) (v2 : Int32) (v3 : Int32) (v4 : Int32) (M : dp_M) : D_X12_boxAt_5 xs xl d v1 v2 v3 v4 M = if (dp_I M 114 3) ≤ v4 then (some (.inl (some (.int v3)), M)) else (if v4 < 0 ∨ 100 ≤ Int32.toNatClampNeg v4 then none else (if (dp_I M 140 (Int32.toNatClampNeg v4)) = v1 then (if v4 < 0 ∨ 100 ≤ Int32.toNatClampNeg v4 then none else (if (dp_I M 141 (Int32.toNatClampNeg v4)) = v2 then (dp_w (v4 + (1 : Int32)) (fun y1 => D_X12_boxAt_5 xs xl d v1 v2 v4 y1 M)) else (dp_w (v4 + (1 : Int32)) (fun y2 => D_X12_boxAt_5 xs xl d v1 v2 v3 y2 M)))) else (dp_w (v4 + (1 : Int32)) (fun y3 => D_X12_boxAt_5 xs xl d v1 v2 v3 y3 M)))) := by
  have hF := dp_den_grow (md := true) (xs := xs) (xl := xl) d
  unfold D_X12_boxAt_5
  refine dp_s1 hF (i := .iload 4) rfl (fun _ => rfl) ?_
  refine dp_s1 hF (i := .aload_n 0) rfl (fun _ => rfl) ?_
  refine dp_s1 hF (i := .getfield 437) rfl (fun _ => rfl) ?_
  refine dp_s2 hF (i := .if_icmp .ge 38) (a := (49, [some (.ref 114), some (.int v1), some (.int v2), some (.int v3), some (.int v4)], [], M)) (b := (14, [some (.ref 114), some (.int v1), some (.int v2), some (.int v3), some (.int v4)], [], M)) rfl (fun _ => rfl) ?_ ?_
  · refine dp_s1 hF (i := .iload_n 3) rfl (fun _ => rfl) ?_
    exact dp_s0 hF (i := .ireturn) rfl (fun _ => rfl)
  refine dp_s1 hF (i := .aload_n 0) rfl (fun _ => rfl) ?_
  refine dp_s1 hF (i := .getfield 91) rfl (fun _ => rfl) ?_
  refine dp_s1 hF (i := .iload 4) rfl (fun _ => rfl) ?_
  refine dp_s3 hF (i := .iaload) rfl (fun _ => rfl) ?_
  refine dp_s1 hF (i := .iload_n 1) rfl (fun _ => rfl) ?_
  refine dp_s2 hF (i := .if_icmp .ne 19) (a := (25, [some (.ref 114), some (.int v1), some (.int v2), some (.int v3), some (.int v4)], [], M)) (b := (41, [some (.ref 114), some (.int v1), some (.int v2), some (.int v3), some (.int v4)], [], M)) rfl (fun _ => rfl) ?_ ?_
  · refine dp_s1 hF (i := .aload_n 0) rfl (fun _ => rfl) ?_
    refine dp_s1 hF (i := .getfield 94) rfl (fun _ => rfl) ?_
    refine dp_s1 hF (i := .iload 4) rfl (fun _ => rfl) ?_
    refine dp_s3 hF (i := .iaload) rfl (fun _ => rfl) ?_
    refine dp_s1 hF (i := .iload_n 2) rfl (fun _ => rfl) ?_
    refine dp_s2 hF (i := .if_icmp .ne 8) (a := (36, [some (.ref 114), some (.int v1), some (.int v2), some (.int v3), some (.int v4)], [], M)) (b := (41, [some (.ref 114), some (.int v1), some (.int v2), some (.int v3), some (.int v4)], [], M)) rfl (fun _ => rfl) ?_ ?_
    · refine dp_s1 hF (i := .iload 4) rfl (fun _ => rfl) ?_
      refine dp_s1 hF (i := .goto 4) rfl (fun _ => rfl) ?_
      refine dp_s1 hF (i := .istore_n 3) rfl (fun _ => rfl) ?_
      refine dp_s1w (v4 + (1 : Int32)) (fun (y1 : Int32) => (46, [some (.ref 114), some (.int v1), some (.int v2), some (.int v4), some (.int y1)], [], M)) hF (i := .iinc 4 1) rfl (fun _ => rfl) (fun y1 => ?_)
      refine dp_s1 hF (i := .goto (-41)) rfl (fun _ => rfl) ?_
      exact rfl
    refine dp_s1 hF (i := .iload_n 3) rfl (fun _ => rfl) ?_
    refine dp_s1 hF (i := .istore_n 3) rfl (fun _ => rfl) ?_
    refine dp_s1w (v4 + (1 : Int32)) (fun (y2 : Int32) => (46, [some (.ref 114), some (.int v1), some (.int v2), some (.int v3), some (.int y2)], [], M)) hF (i := .iinc 4 1) rfl (fun _ => rfl) (fun y2 => ?_)
    refine dp_s1 hF (i := .goto (-41)) rfl (fun _ => rfl) ?_
    exact rfl
  refine dp_s1 hF (i := .iload_n 3) rfl (fun _ => rfl) ?_
  refine dp_s1 hF (i := .istore_n 3) rfl (fun _ => rfl) ?_
  refine dp_s1w (v4 + (1 : Int32)) (fun (y3 : Int32) => (46, [some (.ref 114), some (.int v1), some (.int v2), some (.int v3), some (.int y3)], [], M)) hF (i := .iinc 4 1) rfl (fun _ => rfl) (fun y3 => ?_)
  refine dp_s1 hF (i := .goto (-41)) rfl (fun _ => rfl) ?_
  exact rfl
noncomputable def D_X12_isTop_0 (xs : Nat → Int32) (xl d : Nat) (v1 : Int32) (M : dp_M) : Option dp_Res := dp_lim true xs xl (dp_den true xs xl d) dp_m_X12_isTop (0, [some (.ref 114), some (.int v1)], [], M)
theorem D_X12_isTop_0_den (xs : Nat → Int32) (xl d : Nat) (a0 : Int32) (M : dp_M) : dp_den true xs xl (d + 1) 399 [.ref 114, .int a0] M = D_X12_isTop_0 xs xl d a0 M := rfl
set_option maxRecDepth 20000 in
theorem D_X12_isTop_0_eq (xs : Nat → Int32) (xl d : Nat) (v1 : Int32) (M : dp_M) : D_X12_isTop_0 xs xl d v1 M = if v1 < 0 ∨ 100 ≤ Int32.toNatClampNeg v1 then none else (if (dp_I M 140 (Int32.toNatClampNeg v1)) < 0 then (some (.inl (some (.int (0 : Int32))), M)) else (if v1 < 0 ∨ 100 ≤ Int32.toNatClampNeg v1 then none else (if v1 < 0 ∨ 100 ≤ Int32.toNatClampNeg v1 then none else (dp_bi (dp_den true xs xl d 396 [.ref 114, .int (dp_I M 140 (Int32.toNatClampNeg v1))] M) (fun r2 M1 => if (dp_I M 141 (Int32.toNatClampNeg v1)) = (r2 - (1 : Int32)) then (some (.inl (some (.int (1 : Int32))), M1)) else (some (.inl (some (.int (0 : Int32))), M1))))))) := by
  have hF := dp_den_grow (md := true) (xs := xs) (xl := xl) d
  unfold D_X12_isTop_0
  refine dp_s1 hF (i := .aload_n 0) rfl (fun _ => rfl) ?_
  refine dp_s1 hF (i := .getfield 91) rfl (fun _ => rfl) ?_
  refine dp_s1 hF (i := .iload_n 1) rfl (fun _ => rfl) ?_
  refine dp_s3 hF (i := .iaload) rfl (fun _ => rfl) ?_
  refine dp_s2 hF (i := .ifCond .lt 28) (a := (34, [some (.ref 114), some (.int v1)], [], M)) (b := (9, [some (.ref 114), some (.int v1)], [], M)) rfl (fun _ => rfl) ?_ ?_
  · refine dp_s1 hF (i := .iconst 0) rfl (fun _ => rfl) ?_
    exact dp_s0 hF (i := .ireturn) rfl (fun _ => rfl)
  refine dp_s1 hF (i := .aload_n 0) rfl (fun _ => rfl) ?_
  refine dp_s1 hF (i := .getfield 94) rfl (fun _ => rfl) ?_
  refine dp_s1 hF (i := .iload_n 1) rfl (fun _ => rfl) ?_
  refine dp_s3 hF (i := .iaload) rfl (fun _ => rfl) ?_
  refine dp_s1 hF (i := .aload_n 0) rfl (fun _ => rfl) ?_
  refine dp_s1 hF (i := .aload_n 0) rfl (fun _ => rfl) ?_
  refine dp_s1 hF (i := .getfield 91) rfl (fun _ => rfl) ?_
  refine dp_s1 hF (i := .iload_n 1) rfl (fun _ => rfl) ?_
  refine dp_s3 hF (i := .iaload) rfl (fun _ => rfl) ?_
  refine dp_si (mj := dp_m_X12_heightOf) (i := .invokevirtual 547) rfl rfl (Or.inl rfl) rfl (fun _ => rfl) (fun r2 M1 => ?_)
  refine dp_s1 hF (i := .iconst 1) rfl (fun _ => rfl) ?_
  refine dp_s1 hF (i := .isub) rfl (fun _ => rfl) ?_
  refine dp_s2 hF (i := .if_icmp .ne 7) (a := (30, [some (.ref 114), some (.int v1)], [], M1)) (b := (34, [some (.ref 114), some (.int v1)], [], M1)) rfl (fun _ => rfl) ?_ ?_
  · refine dp_s1 hF (i := .iconst 1) rfl (fun _ => rfl) ?_
    refine dp_s1 hF (i := .goto 4) rfl (fun _ => rfl) ?_
    exact dp_s0 hF (i := .ireturn) rfl (fun _ => rfl)
  refine dp_s1 hF (i := .iconst 0) rfl (fun _ => rfl) ?_
  exact dp_s0 hF (i := .ireturn) rfl (fun _ => rfl)
noncomputable def D_X12_hasOtherSize_0 (xs : Nat → Int32) (xl d : Nat) (v1 : Int32) (v2 : Int32) (M : dp_M) : Option dp_Res := dp_lim true xs xl (dp_den true xs xl d) dp_m_X12_hasOtherSize (0, [some (.ref 114), some (.int v1), some (.int v2), none, none], [], M)
noncomputable def D_X12_hasOtherSize_5 (xs : Nat → Int32) (xl d : Nat) (v1 : Int32) (v2 : Int32) (v3 : Int32) (v4 : Int32) (M : dp_M) : Option dp_Res := dp_lim true xs xl (dp_den true xs xl d) dp_m_X12_hasOtherSize (5, [some (.ref 114), some (.int v1), some (.int v2), some (.int v3), some (.int v4)], [], M)
theorem D_X12_hasOtherSize_0_den (xs : Nat → Int32) (xl d : Nat) (a0 : Int32) (a1 : Int32) (M : dp_M) : dp_den true xs xl (d + 1) 400 [.ref 114, .int a0, .int a1] M = D_X12_hasOtherSize_0 xs xl d a0 a1 M := rfl
set_option maxRecDepth 20000 in
theorem D_X12_hasOtherSize_0_eq (xs : Nat → Int32) (xl d : Nat) (v1 : Int32) (v2 : Int32) (M : dp_M) : D_X12_hasOtherSize_0 xs xl d v1 v2 M = dp_w (0 : Int32) (fun y1 => dp_w (0 : Int32) (fun y2 => D_X12_hasOtherSize_5 xs xl d v1 v2 y1 y2 M)) := by
  have hF := dp_den_grow (md := true) (xs := xs) (xl := xl) d
  unfold D_X12_hasOtherSize_0
  refine dp_s1 hF (i := .iconst 0) rfl (fun _ => rfl) ?_
  refine dp_s1w (0 : Int32) (fun (y1 : Int32) => (2, [some (.ref 114), some (.int v1), some (.int v2), some (.int y1), none], [], M)) hF (i := .istore_n 3) rfl (fun _ => rfl) (fun y1 => ?_)
  refine dp_s1 hF (i := .iconst 0) rfl (fun _ => rfl) ?_
  refine dp_s1w (0 : Int32) (fun (y2 : Int32) => (5, [some (.ref 114), some (.int v1), some (.int v2), some (.int y1), some (.int y2)], [], M)) hF (i := .istore 4) rfl (fun _ => rfl) (fun y2 => ?_)
  exact rfl
set_option maxRecDepth 20000 in
theorem D_X12_hasOtherSize_5_eq (xs : Nat → Int32) (xl d : Nat) (v1 : Int32) (v2 : Int32) (v3 : Int32) (v4 : Int32) (M : dp_M) : D_X12_hasOtherSize_5 xs xl d v1 v2 v3 v4 M = if (dp_I M 114 3) ≤ v4 then (if v3 = 0 ∨ v3 = 1 then some (.inl (some (.int v3)), M) else none) else (if v3 = 0 then (if v4 < 0 ∨ 100 ≤ Int32.toNatClampNeg v4 then none else (if (dp_I M 140 (Int32.toNatClampNeg v4)) = v2 then (if v4 < 0 ∨ 100 ≤ Int32.toNatClampNeg v4 then none else (if v1 < 0 ∨ 100 ≤ Int32.toNatClampNeg v1 then none else (if (dp_I M 135 (Int32.toNatClampNeg v4)) = (dp_I M 135 (Int32.toNatClampNeg v1)) then (dp_w (0 : Int32) (fun y1 => dp_w (v4 + (1 : Int32)) (fun y2 => D_X12_hasOtherSize_5 xs xl d v1 v2 y1 y2 M))) else (dp_w (1 : Int32) (fun y3 => dp_w (v4 + (1 : Int32)) (fun y4 => D_X12_hasOtherSize_5 xs xl d v1 v2 y3 y4 M)))))) else (dp_w (0 : Int32) (fun y5 => dp_w (v4 + (1 : Int32)) (fun y6 => D_X12_hasOtherSize_5 xs xl d v1 v2 y5 y6 M))))) else (dp_w (1 : Int32) (fun y7 => dp_w (v4 + (1 : Int32)) (fun y8 => D_X12_hasOtherSize_5 xs xl d v1 v2 y7 y8 M)))) := by
  have hF := dp_den_grow (md := true) (xs := xs) (xl := xl) d
  unfold D_X12_hasOtherSize_5
  refine dp_s1 hF (i := .iload 4) rfl (fun _ => rfl) ?_
  refine dp_s1 hF (i := .aload_n 0) rfl (fun _ => rfl) ?_
  refine dp_s1 hF (i := .getfield 437) rfl (fun _ => rfl) ?_
  refine dp_s2 hF (i := .if_icmp .ge 46) (a := (57, [some (.ref 114), some (.int v1), some (.int v2), some (.int v3), some (.int v4)], [], M)) (b := (14, [some (.ref 114), some (.int v1), some (.int v2), some (.int v3), some (.int v4)], [], M)) rfl (fun _ => rfl) ?_ ?_
  · refine dp_s1 hF (i := .iload_n 3) rfl (fun _ => rfl) ?_
    exact dp_s0 hF (i := .ireturn) rfl (fun _ => rfl)
  refine dp_s1 hF (i := .iload_n 3) rfl (fun _ => rfl) ?_
  refine dp_s2 hF (i := .ifCond .ne 30) (a := (18, [some (.ref 114), some (.int v1), some (.int v2), some (.int v3), some (.int v4)], [], M)) (b := (45, [some (.ref 114), some (.int v1), some (.int v2), some (.int v3), some (.int v4)], [], M)) rfl (fun _ => rfl) ?_ ?_
  · refine dp_s1 hF (i := .aload_n 0) rfl (fun _ => rfl) ?_
    refine dp_s1 hF (i := .getfield 91) rfl (fun _ => rfl) ?_
    refine dp_s1 hF (i := .iload 4) rfl (fun _ => rfl) ?_
    refine dp_s3 hF (i := .iaload) rfl (fun _ => rfl) ?_
    refine dp_s1 hF (i := .iload_n 2) rfl (fun _ => rfl) ?_
    refine dp_s2 hF (i := .if_icmp .ne 23) (a := (29, [some (.ref 114), some (.int v1), some (.int v2), some (.int v3), some (.int v4)], [], M)) (b := (49, [some (.ref 114), some (.int v1), some (.int v2), some (.int v3), some (.int v4)], [], M)) rfl (fun _ => rfl) ?_ ?_
    · refine dp_s1 hF (i := .aload_n 0) rfl (fun _ => rfl) ?_
      refine dp_s1 hF (i := .getfield 76) rfl (fun _ => rfl) ?_
      refine dp_s1 hF (i := .iload 4) rfl (fun _ => rfl) ?_
      refine dp_s3 hF (i := .iaload) rfl (fun _ => rfl) ?_
      refine dp_s1 hF (i := .aload_n 0) rfl (fun _ => rfl) ?_
      refine dp_s1 hF (i := .getfield 76) rfl (fun _ => rfl) ?_
      refine dp_s1 hF (i := .iload_n 1) rfl (fun _ => rfl) ?_
      refine dp_s3 hF (i := .iaload) rfl (fun _ => rfl) ?_
      refine dp_s2 hF (i := .if_icmp .eq 7) (a := (49, [some (.ref 114), some (.int v1), some (.int v2), some (.int v3), some (.int v4)], [], M)) (b := (45, [some (.ref 114), some (.int v1), some (.int v2), some (.int v3), some (.int v4)], [], M)) rfl (fun _ => rfl) ?_ ?_
      · refine dp_s1 hF (i := .iconst 0) rfl (fun _ => rfl) ?_
        refine dp_s1w (0 : Int32) (fun (y1 : Int32) => (51, [some (.ref 114), some (.int v1), some (.int v2), some (.int y1), some (.int v4)], [], M)) hF (i := .istore_n 3) rfl (fun _ => rfl) (fun y1 => ?_)
        refine dp_s1w (v4 + (1 : Int32)) (fun (y2 : Int32) => (54, [some (.ref 114), some (.int v1), some (.int v2), some (.int y1), some (.int y2)], [], M)) hF (i := .iinc 4 1) rfl (fun _ => rfl) (fun y2 => ?_)
        refine dp_s1 hF (i := .goto (-49)) rfl (fun _ => rfl) ?_
        exact rfl
      refine dp_s1 hF (i := .iconst 1) rfl (fun _ => rfl) ?_
      refine dp_s1 hF (i := .goto 4) rfl (fun _ => rfl) ?_
      refine dp_s1w (1 : Int32) (fun (y3 : Int32) => (51, [some (.ref 114), some (.int v1), some (.int v2), some (.int y3), some (.int v4)], [], M)) hF (i := .istore_n 3) rfl (fun _ => rfl) (fun y3 => ?_)
      refine dp_s1w (v4 + (1 : Int32)) (fun (y4 : Int32) => (54, [some (.ref 114), some (.int v1), some (.int v2), some (.int y3), some (.int y4)], [], M)) hF (i := .iinc 4 1) rfl (fun _ => rfl) (fun y4 => ?_)
      refine dp_s1 hF (i := .goto (-49)) rfl (fun _ => rfl) ?_
      exact rfl
    refine dp_s1 hF (i := .iconst 0) rfl (fun _ => rfl) ?_
    refine dp_s1w (0 : Int32) (fun (y5 : Int32) => (51, [some (.ref 114), some (.int v1), some (.int v2), some (.int y5), some (.int v4)], [], M)) hF (i := .istore_n 3) rfl (fun _ => rfl) (fun y5 => ?_)
    refine dp_s1w (v4 + (1 : Int32)) (fun (y6 : Int32) => (54, [some (.ref 114), some (.int v1), some (.int v2), some (.int y5), some (.int y6)], [], M)) hF (i := .iinc 4 1) rfl (fun _ => rfl) (fun y6 => ?_)
    refine dp_s1 hF (i := .goto (-49)) rfl (fun _ => rfl) ?_
    exact rfl
  refine dp_s1 hF (i := .iconst 1) rfl (fun _ => rfl) ?_
  refine dp_s1 hF (i := .goto 4) rfl (fun _ => rfl) ?_
  refine dp_s1w (1 : Int32) (fun (y7 : Int32) => (51, [some (.ref 114), some (.int v1), some (.int v2), some (.int y7), some (.int v4)], [], M)) hF (i := .istore_n 3) rfl (fun _ => rfl) (fun y7 => ?_)
  refine dp_s1w (v4 + (1 : Int32)) (fun (y8 : Int32) => (54, [some (.ref 114), some (.int v1), some (.int v2), some (.int y7), some (.int y8)], [], M)) hF (i := .iinc 4 1) rfl (fun _ => rfl) (fun y8 => ?_)
  refine dp_s1 hF (i := .goto (-49)) rfl (fun _ => rfl) ?_
  exact rfl
noncomputable def D_X12_sooner_0 (xs : Nat → Int32) (xl d : Nat) (v1 : Int32) (v2 : Int32) (v3 : Int32) (M : dp_M) : Option dp_Res := dp_lim true xs xl (dp_den true xs xl d) dp_m_X12_sooner (0, [some (.ref 114), some (.int v1), some (.int v2), some (.int v3), none, none], [], M)
noncomputable def D_X12_sooner_6 (xs : Nat → Int32) (xl d : Nat) (v1 : Int32) (v2 : Int32) (v3 : Int32) (v4 : Int32) (v5 : Int32) (M : dp_M) : Option dp_Res := dp_lim true xs xl (dp_den true xs xl d) dp_m_X12_sooner (6, [some (.ref 114), some (.int v1), some (.int v2), some (.int v3), some (.int v4), some (.int v5)], [], M)
theorem D_X12_sooner_0_den (xs : Nat → Int32) (xl d : Nat) (a0 : Int32) (a1 : Int32) (a2 : Int32) (M : dp_M) : dp_den true xs xl (d + 1) 401 [.ref 114, .int a0, .int a1, .int a2] M = D_X12_sooner_0 xs xl d a0 a1 a2 M := rfl
set_option maxRecDepth 20000 in
theorem D_X12_sooner_0_eq (xs : Nat → Int32) (xl d : Nat) (v1 : Int32) (v2 : Int32) (v3 : Int32) (M : dp_M) : D_X12_sooner_0 xs xl d v1 v2 v3 M = dp_w (0 : Int32) (fun y1 => dp_w (0 : Int32) (fun y2 => D_X12_sooner_6 xs xl d v1 v2 v3 y1 y2 M)) := by
  have hF := dp_den_grow (md := true) (xs := xs) (xl := xl) d
  unfold D_X12_sooner_0
  refine dp_s1 hF (i := .iconst 0) rfl (fun _ => rfl) ?_
  refine dp_s1w (0 : Int32) (fun (y1 : Int32) => (3, [some (.ref 114), some (.int v1), some (.int v2), some (.int v3), some (.int y1), none], [], M)) hF (i := .istore 4) rfl (fun _ => rfl) (fun y1 => ?_)
  refine dp_s1 hF (i := .iconst 0) rfl (fun _ => rfl) ?_
  refine dp_s1w (0 : Int32) (fun (y2 : Int32) => (6, [some (.ref 114), some (.int v1), some (.int v2), some (.int v3), some (.int y1), some (.int y2)], [], M)) hF (i := .istore 5) rfl (fun _ => rfl) (fun y2 => ?_)
  exact rfl
set_option maxRecDepth 20000 in
theorem D_X12_sooner_6_eq (xs : Nat → Int32) (xl d : Nat) (v1 : Int32) (v2 : Int32) (v3 : Int32) (v4 : Int32) (v5 : Int32) (M : dp_M) : D_X12_sooner_6 xs xl d v1 v2 v3 v4 v5 M = if (dp_I M 114 3) ≤ v5 then (some (.inl (some (.int v4)), M)) else (if v5 < 0 ∨ 100 ≤ Int32.toNatClampNeg v5 then none else (if (dp_I M 140 (Int32.toNatClampNeg v5)) = v2 then (if v5 < 0 ∨ 100 ≤ Int32.toNatClampNeg v5 then none else (if v3 ≤ (dp_I M 141 (Int32.toNatClampNeg v5)) then (dp_w (v4 + (0 : Int32)) (fun y1 => dp_w (v5 + (1 : Int32)) (fun y2 => D_X12_sooner_6 xs xl d v1 v2 v3 y1 y2 M))) else (if v5 < 0 ∨ 100 ≤ Int32.toNatClampNeg v5 then none else (if v1 < 0 ∨ 100 ≤ Int32.toNatClampNeg v1 then none else (if (dp_I M 138 (Int32.toNatClampNeg v1)) ≤ (dp_I M 138 (Int32.toNatClampNeg v5)) then (dp_w (v4 + (0 : Int32)) (fun y3 => dp_w (v5 + (1 : Int32)) (fun y4 => D_X12_sooner_6 xs xl d v1 v2 v3 y3 y4 M))) else (dp_w (v4 + (1 : Int32)) (fun y5 => dp_w (v5 + (1 : Int32)) (fun y6 => D_X12_sooner_6 xs xl d v1 v2 v3 y5 y6 M)))))))) else (dp_w (v4 + (0 : Int32)) (fun y7 => dp_w (v5 + (1 : Int32)) (fun y8 => D_X12_sooner_6 xs xl d v1 v2 v3 y7 y8 M))))) := by
  have hF := dp_den_grow (md := true) (xs := xs) (xl := xl) d
  unfold D_X12_sooner_6
  refine dp_s1 hF (i := .iload 5) rfl (fun _ => rfl) ?_
  refine dp_s1 hF (i := .aload_n 0) rfl (fun _ => rfl) ?_
  refine dp_s1 hF (i := .getfield 437) rfl (fun _ => rfl) ?_
  refine dp_s2 hF (i := .if_icmp .ge 57) (a := (69, [some (.ref 114), some (.int v1), some (.int v2), some (.int v3), some (.int v4), some (.int v5)], [], M)) (b := (15, [some (.ref 114), some (.int v1), some (.int v2), some (.int v3), some (.int v4), some (.int v5)], [], M)) rfl (fun _ => rfl) ?_ ?_
  · refine dp_s1 hF (i := .iload 4) rfl (fun _ => rfl) ?_
    exact dp_s0 hF (i := .ireturn) rfl (fun _ => rfl)
  refine dp_s1 hF (i := .iload 4) rfl (fun _ => rfl) ?_
  refine dp_s1 hF (i := .aload_n 0) rfl (fun _ => rfl) ?_
  refine dp_s1 hF (i := .getfield 91) rfl (fun _ => rfl) ?_
  refine dp_s1 hF (i := .iload 5) rfl (fun _ => rfl) ?_
  refine dp_s3 hF (i := .iaload) rfl (fun _ => rfl) ?_
  refine dp_s1 hF (i := .iload_n 2) rfl (fun _ => rfl) ?_
  refine dp_s2 hF (i := .if_icmp .ne 34) (a := (28, [some (.ref 114), some (.int v1), some (.int v2), some (.int v3), some (.int v4), some (.int v5)], [.int v4], M)) (b := (59, [some (.ref 114), some (.int v1), some (.int v2), some (.int v3), some (.int v4), some (.int v5)], [.int v4], M)) rfl (fun _ => rfl) ?_ ?_
  · refine dp_s1 hF (i := .aload_n 0) rfl (fun _ => rfl) ?_
    refine dp_s1 hF (i := .getfield 94) rfl (fun _ => rfl) ?_
    refine dp_s1 hF (i := .iload 5) rfl (fun _ => rfl) ?_
    refine dp_s3 hF (i := .iaload) rfl (fun _ => rfl) ?_
    refine dp_s1 hF (i := .iload_n 3) rfl (fun _ => rfl) ?_
    refine dp_s2 hF (i := .if_icmp .ge 23) (a := (59, [some (.ref 114), some (.int v1), some (.int v2), some (.int v3), some (.int v4), some (.int v5)], [.int v4], M)) (b := (39, [some (.ref 114), some (.int v1), some (.int v2), some (.int v3), some (.int v4), some (.int v5)], [.int v4], M)) rfl (fun _ => rfl) ?_ ?_
    · refine dp_s1 hF (i := .iconst 0) rfl (fun _ => rfl) ?_
      refine dp_s1 hF (i := .iadd) rfl (fun _ => rfl) ?_
      refine dp_s1w (v4 + (0 : Int32)) (fun (y1 : Int32) => (63, [some (.ref 114), some (.int v1), some (.int v2), some (.int v3), some (.int y1), some (.int v5)], [], M)) hF (i := .istore 4) rfl (fun _ => rfl) (fun y1 => ?_)
      refine dp_s1w (v5 + (1 : Int32)) (fun (y2 : Int32) => (66, [some (.ref 114), some (.int v1), some (.int v2), some (.int v3), some (.int y1), some (.int y2)], [], M)) hF (i := .iinc 5 1) rfl (fun _ => rfl) (fun y2 => ?_)
      refine dp_s1 hF (i := .goto (-60)) rfl (fun _ => rfl) ?_
      exact rfl
    refine dp_s1 hF (i := .aload_n 0) rfl (fun _ => rfl) ?_
    refine dp_s1 hF (i := .getfield 85) rfl (fun _ => rfl) ?_
    refine dp_s1 hF (i := .iload 5) rfl (fun _ => rfl) ?_
    refine dp_s3 hF (i := .iaload) rfl (fun _ => rfl) ?_
    refine dp_s1 hF (i := .aload_n 0) rfl (fun _ => rfl) ?_
    refine dp_s1 hF (i := .getfield 85) rfl (fun _ => rfl) ?_
    refine dp_s1 hF (i := .iload_n 1) rfl (fun _ => rfl) ?_
    refine dp_s3 hF (i := .iaload) rfl (fun _ => rfl) ?_
    refine dp_s2 hF (i := .if_icmp .ge 7) (a := (59, [some (.ref 114), some (.int v1), some (.int v2), some (.int v3), some (.int v4), some (.int v5)], [.int v4], M)) (b := (55, [some (.ref 114), some (.int v1), some (.int v2), some (.int v3), some (.int v4), some (.int v5)], [.int v4], M)) rfl (fun _ => rfl) ?_ ?_
    · refine dp_s1 hF (i := .iconst 0) rfl (fun _ => rfl) ?_
      refine dp_s1 hF (i := .iadd) rfl (fun _ => rfl) ?_
      refine dp_s1w (v4 + (0 : Int32)) (fun (y3 : Int32) => (63, [some (.ref 114), some (.int v1), some (.int v2), some (.int v3), some (.int y3), some (.int v5)], [], M)) hF (i := .istore 4) rfl (fun _ => rfl) (fun y3 => ?_)
      refine dp_s1w (v5 + (1 : Int32)) (fun (y4 : Int32) => (66, [some (.ref 114), some (.int v1), some (.int v2), some (.int v3), some (.int y3), some (.int y4)], [], M)) hF (i := .iinc 5 1) rfl (fun _ => rfl) (fun y4 => ?_)
      refine dp_s1 hF (i := .goto (-60)) rfl (fun _ => rfl) ?_
      exact rfl
    refine dp_s1 hF (i := .iconst 1) rfl (fun _ => rfl) ?_
    refine dp_s1 hF (i := .goto 4) rfl (fun _ => rfl) ?_
    refine dp_s1 hF (i := .iadd) rfl (fun _ => rfl) ?_
    refine dp_s1w (v4 + (1 : Int32)) (fun (y5 : Int32) => (63, [some (.ref 114), some (.int v1), some (.int v2), some (.int v3), some (.int y5), some (.int v5)], [], M)) hF (i := .istore 4) rfl (fun _ => rfl) (fun y5 => ?_)
    refine dp_s1w (v5 + (1 : Int32)) (fun (y6 : Int32) => (66, [some (.ref 114), some (.int v1), some (.int v2), some (.int v3), some (.int y5), some (.int y6)], [], M)) hF (i := .iinc 5 1) rfl (fun _ => rfl) (fun y6 => ?_)
    refine dp_s1 hF (i := .goto (-60)) rfl (fun _ => rfl) ?_
    exact rfl
  refine dp_s1 hF (i := .iconst 0) rfl (fun _ => rfl) ?_
  refine dp_s1 hF (i := .iadd) rfl (fun _ => rfl) ?_
  refine dp_s1w (v4 + (0 : Int32)) (fun (y7 : Int32) => (63, [some (.ref 114), some (.int v1), some (.int v2), some (.int v3), some (.int y7), some (.int v5)], [], M)) hF (i := .istore 4) rfl (fun _ => rfl) (fun y7 => ?_)
  refine dp_s1w (v5 + (1 : Int32)) (fun (y8 : Int32) => (66, [some (.ref 114), some (.int v1), some (.int v2), some (.int v3), some (.int y7), some (.int y8)], [], M)) hF (i := .iinc 5 1) rfl (fun _ => rfl) (fun y8 => ?_)
  refine dp_s1 hF (i := .goto (-60)) rfl (fun _ => rfl) ?_
  exact rfl
