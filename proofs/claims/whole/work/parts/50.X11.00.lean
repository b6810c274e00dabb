noncomputable def D_X11_heldTo_0 (xs : Nat → Int32) (xl d : Nat) (v0 : Int32) (v1 : Int32) (M : dp_M) : Option dp_Res := dp_lim true xs xl (dp_den true xs xl d) dp_m_X11_heldTo (0, [some (.int v0), some (.int v1)], [], M)
theorem D_X11_heldTo_0_den (xs : Nat → Int32) (xl d : Nat) (a0 : Int32) (a1 : Int32) (M : dp_M) : dp_den true xs xl (d + 1) 250 [.int a0, .int a1] M = D_X11_heldTo_0 xs xl d a0 a1 M := rfl
set_option maxRecDepth 20000 in
theorem D_X11_heldTo_0_eq (xs : Nat → Int32) (xl d : Nat) (v0 : Int32) (v1 : Int32) (M : dp_M) : D_X11_heldTo_0 xs xl d v0 v1 M = some (.inl (some (.int (if (1 : Int32) < (if v1 < v0 then v1 else v0) then (if v1 < v0 then v1 else v0) else (1 : Int32)))), M) := by
  have hF := dp_den_grow (md := true) (xs := xs) (xl := xl) d
  unfold D_X11_heldTo_0
  refine dp_s1 hF (i := .iconst 1) rfl (fun _ => rfl) ?_
  refine dp_s1 hF (i := .iload_n 0) rfl (fun _ => rfl) ?_
  refine dp_s1 hF (i := .iload_n 1) rfl (fun _ => rfl) ?_
  refine dp_s1 hF (i := .invokestatic 84) rfl (fun _ => rfl) ?_
  refine dp_s1 hF (i := .invokestatic 89) rfl (fun _ => rfl) ?_
  exact dp_s0 hF (i := .ireturn) rfl (fun _ => rfl)
noncomputable def D_X11_within_0 (xs : Nat → Int32) (xl d : Nat) (v0 : Int64) (v2 : Int64) (v4 : Int64) (M : dp_M) : Option dp_Res := dp_lim true xs xl (dp_den true xs xl d) dp_m_X11_within (0, [some (.long v0), none, some (.long v2), none, some (.long v4), none], [], M)
theorem D_X11_within_0_den (xs : Nat → Int32) (xl d : Nat) (a0 : Int64) (a1 : Int64) (a2 : Int64) (M : dp_M) : dp_den true xs xl (d + 1) 251 [.long a0, .long a1, .long a2] M = D_X11_within_0 xs xl d a0 a1 a2 M := rfl
set_option maxRecDepth 20000 in
theorem D_X11_within_0_eq (xs : Nat → Int32) (xl d : Nat) (v0 : Int64) (v2 : Int64) (v4 : Int64) (M : dp_M) : D_X11_within_0 xs xl d v0 v2 v4 M = if (lg_cmp v0 v2) < 0 then (some (.inl (some (.int (0 : Int32))), M)) else (if 0 < (lg_cmp v0 v4) then (some (.inl (some (.int (0 : Int32))), M)) else (some (.inl (some (.int (1 : Int32))), M))) := by
  have hF := dp_den_grow (md := true) (xs := xs) (xl := xl) d
  unfold D_X11_within_0
  refine dp_s1 hF (i := .lload_n 0) rfl (fun _ => rfl) ?_
  refine dp_s1 hF (i := .lload_n 2) rfl (fun _ => rfl) ?_
  refine dp_s1 hF (i := .lcmp) rfl (fun _ => rfl) ?_
  refine dp_s2 hF (i := .ifCond .lt 14) (a := (17, [some (.long v0), none, some (.long v2), none, some (.long v4), none], [], M)) (b := (6, [some (.long v0), none, some (.long v2), none, some (.long v4), none], [], M)) rfl (fun _ => rfl) ?_ ?_
  · refine dp_s1 hF (i := .iconst 0) rfl (fun _ => rfl) ?_
    exact dp_s0 hF (i := .ireturn) rfl (fun _ => rfl)
  refine dp_s1 hF (i := .lload_n 0) rfl (fun _ => rfl) ?_
  refine dp_s1 hF (i := .lload 4) rfl (fun _ => rfl) ?_
  refine dp_s1 hF (i := .lcmp) rfl (fun _ => rfl) ?_
  refine dp_s2 hF (i := .ifCond .gt 7) (a := (17, [some (.long v0), none, some (.long v2), none, some (.long v4), none], [], M)) (b := (13, [some (.long v0), none, some (.long v2), none, some (.long v4), none], [], M)) rfl (fun _ => rfl) ?_ ?_
  · refine dp_s1 hF (i := .iconst 0) rfl (fun _ => rfl) ?_
    exact dp_s0 hF (i := .ireturn) rfl (fun _ => rfl)
  refine dp_s1 hF (i := .iconst 1) rfl (fun _ => rfl) ?_
  refine dp_s1 hF (i := .goto 4) rfl (fun _ => rfl) ?_
  exact dp_s0 hF (i := .ireturn) rfl (fun _ => rfl)
noncomputable def D_X11_isBay_0 (xs : Nat → Int32) (xl d : Nat) (v1 : Int32) (M : dp_M) : Option dp_Res := dp_lim true xs xl (dp_den true xs xl d) dp_m_X11_isBay (0, [some (.ref 0), some (.int v1)], [], M)
theorem D_X11_isBay_0_den (xs : Nat → Int32) (xl d : Nat) (a0 : Int32) (M : dp_M) : dp_den true xs xl (d + 1) 252 [.ref 0, .int a0] M = D_X11_isBay_0 xs xl d a0 M := rfl
set_option maxRecDepth 20000 in
theorem D_X11_isBay_0_eq (xs : Nat → Int32) (xl d : Nat) (v1 : Int32) (M : dp_M) : D_X11_isBay_0 xs xl d v1 M = dp_bi (dp_den true xs xl d 251 [.long (Int32.toInt64 v1), .long (0 : Int64), .long (Int32.toInt64 ((dp_I M 1 0) - (1 : Int32)))] M) (fun r2 M1 => if r2 = 0 ∨ r2 = 1 then some (.inl (some (.int r2)), M1) else none) := by
  have hF := dp_den_grow (md := true) (xs := xs) (xl := xl) d
  unfold D_X11_isBay_0
  refine dp_s1 hF (i := .iload_n 1) rfl (fun _ => rfl) ?_
  refine dp_s1 hF (i := .i2l) rfl (fun _ => rfl) ?_
  refine dp_s1 hF (i := .lconst 0) rfl (fun _ => rfl) ?_
  refine dp_s1 hF (i := .aload_n 0) rfl (fun _ => rfl) ?_
  refine dp_s1 hF (i := .getfield 18) rfl (fun _ => rfl) ?_
  refine dp_s1 hF (i := .getfield 92) rfl (fun _ => rfl) ?_
  refine dp_s1 hF (i := .iconst 1) rfl (fun _ => rfl) ?_
  refine dp_s1 hF (i := .isub) rfl (fun _ => rfl) ?_
  refine dp_s1 hF (i := .i2l) rfl (fun _ => rfl) ?_
  refine dp_si (mj := dp_m_X11_within) (i := .invokestatic 96) rfl rfl (Or.inr rfl) rfl (fun _ => rfl) (fun r2 M1 => ?_)
  exact dp_s0 hF (i := .ireturn) rfl (fun _ => rfl)
noncomputable def D_X11_isBox_0 (xs : Nat → Int32) (xl d : Nat) (v1 : Int32) (M : dp_M) : Option dp_Res := dp_lim true xs xl (dp_den true xs xl d) dp_m_X11_isBox (0, [some (.ref 0), some (.int v1)], [], M)
theorem D_X11_isBox_0_den (xs : Nat → Int32) (xl d : Nat) (a0 : Int32) (M : dp_M) : dp_den true xs xl (d + 1) 253 [.ref 0, .int a0] M = D_X11_isBox_0 xs xl d a0 M := rfl
set_option maxRecDepth 20000 in
theorem D_X11_isBox_0_eq (xs : Nat → Int32) (xl d : Nat) (v1 : Int32) (M : dp_M) : D_X11_isBox_0 xs xl d v1 M = dp_bi (dp_den true xs xl d 251 [.long (Int32.toInt64 v1), .long (0 : Int64), .long (Int32.toInt64 ((dp_I M 1 2) - (1 : Int32)))] M) (fun r2 M1 => if r2 = 0 ∨ r2 = 1 then some (.inl (some (.int r2)), M1) else none) := by
  have hF := dp_den_grow (md := true) (xs := xs) (xl := xl) d
  unfold D_X11_isBox_0
  refine dp_s1 hF (i := .iload_n 1) rfl (fun _ => rfl) ?_
  refine dp_s1 hF (i := .i2l) rfl (fun _ => rfl) ?_
  refine dp_s1 hF (i := .lconst 0) rfl (fun _ => rfl) ?_
  refine dp_s1 hF (i := .aload_n 0) rfl (fun _ => rfl) ?_
  refine dp_s1 hF (i := .getfield 18) rfl (fun _ => rfl) ?_
  refine dp_s1 hF (i := .getfield 100) rfl (fun _ => rfl) ?_
  refine dp_s1 hF (i := .iconst 1) rfl (fun _ => rfl) ?_
  refine dp_s1 hF (i := .isub) rfl (fun _ => rfl) ?_
  refine dp_s1 hF (i := .i2l) rfl (fun _ => rfl) ?_
  refine dp_si (mj := dp_m_X11_within) (i := .invokestatic 96) rfl rfl (Or.inr rfl) rfl (fun _ => rfl) (fun r2 M1 => ?_)
  exact dp_s0 hF (i := .ireturn) rfl (fun _ => rfl)
noncomputable def D_X11_isYardRow_0 (xs : Nat → Int32) (xl d : Nat) (v1 : Int32) (M : dp_M) : Option dp_Res := dp_lim true xs xl (dp_den true xs xl d) dp_m_X11_isYardRow (0, [some (.ref 0), some (.int v1)], [], M)
theorem D_X11_isYardRow_0_den (xs : Nat → Int32) (xl d : Nat) (a0 : Int32) (M : dp_M) : dp_den true xs xl (d + 1) 254 [.ref 0, .int a0] M = D_X11_isYardRow_0 xs xl d a0 M := rfl
set_option maxRecDepth 20000 in
theorem D_X11_isYardRow_0_eq (xs : Nat → Int32) (xl d : Nat) (v1 : Int32) (M : dp_M) : D_X11_isYardRow_0 xs xl d v1 M = dp_bi (dp_den true xs xl d 251 [.long (Int32.toInt64 v1), .long (0 : Int64), .long (Int32.toInt64 ((dp_I M 28 1) - (1 : Int32)))] M) (fun r2 M1 => if r2 = 0 ∨ r2 = 1 then some (.inl (some (.int r2)), M1) else none) := by
  have hF := dp_den_grow (md := true) (xs := xs) (xl := xl) d
  unfold D_X11_isYardRow_0
  refine dp_s1 hF (i := .iload_n 1) rfl (fun _ => rfl) ?_
  refine dp_s1 hF (i := .i2l) rfl (fun _ => rfl) ?_
  refine dp_s1 hF (i := .lconst 0) rfl (fun _ => rfl) ?_
  refine dp_s1 hF (i := .aload_n 0) rfl (fun _ => rfl) ?_
  refine dp_s1 hF (i := .getfield 27) rfl (fun _ => rfl) ?_
  refine dp_s1 hF (i := .getfield 103) rfl (fun _ => rfl) ?_
  refine dp_s1 hF (i := .iconst 1) rfl (fun _ => rfl) ?_
  refine dp_s1 hF (i := .isub) rfl (fun _ => rfl) ?_
  refine dp_s1 hF (i := .i2l) rfl (fun _ => rfl) ?_
  refine dp_si (mj := dp_m_X11_within) (i := .invokestatic 96) rfl rfl (Or.inr rfl) rfl (fun _ => rfl) (fun r2 M1 => ?_)
  exact dp_s0 hF (i := .ireturn) rfl (fun _ => rfl)
noncomputable def D_X11_isMeasure_0 (xs : Nat → Int32) (xl d : Nat) (v1 : Int32) (M : dp_M) : Option dp_Res := dp_lim true xs xl (dp_den true xs xl d) dp_m_X11_isMeasure (0, [some (.ref 0), some (.int v1)], [], M)
theorem D_X11_isMeasure_0_den (xs : Nat → Int32) (xl d : Nat) (a0 : Int32) (M : dp_M) : dp_den true xs xl (d + 1) 255 [.ref 0, .int a0] M = D_X11_isMeasure_0 xs xl d a0 M := rfl
set_option maxRecDepth 20000 in
theorem D_X11_isMeasure_0_eq (xs : Nat → Int32) (xl d : Nat) (v1 : Int32) (M : dp_M) : D_X11_isMeasure_0 xs xl d v1 M = dp_bi (dp_den true xs xl d 251 [.long (Int32.toInt64 v1), .long (1 : Int64), .long (Int32.toInt64 (dp_I M 51 0))] M) (fun r2 M1 => if r2 = 0 ∨ r2 = 1 then some (.inl (some (.int r2)), M1) else none) := by
  have hF := dp_den_grow (md := true) (xs := xs) (xl := xl) d
  unfold D_X11_isMeasure_0
  refine dp_s1 hF (i := .iload_n 1) rfl (fun _ => rfl) ?_
  refine dp_s1 hF (i := .i2l) rfl (fun _ => rfl) ?_
  refine dp_s1 hF (i := .lconst 1) rfl (fun _ => rfl) ?_
  refine dp_s1 hF (i := .aload_n 0) rfl (fun _ => rfl) ?_
  refine dp_s1 hF (i := .getfield 43) rfl (fun _ => rfl) ?_
  refine dp_s1 hF (i := .getfield 106) rfl (fun _ => rfl) ?_
  refine dp_s1 hF (i := .i2l) rfl (fun _ => rfl) ?_
  refine dp_si (mj := dp_m_X11_within) (i := .invokestatic 96) rfl rfl (Or.inr rfl) rfl (fun _ => rfl) (fun r2 M1 => ?_)
  exact dp_s0 hF (i := .ireturn) rfl (fun _ => rfl)
noncomputable def D_X11_isOrder_0 (xs : Nat → Int32) (xl d : Nat) (v1 : Int32) (M : dp_M) : Option dp_Res := dp_lim true xs xl (dp_den true xs xl d) dp_m_X11_isOrder (0, [some (.ref 0), some (.int v1)], [], M)
theorem D_X11_isOrder_0_den (xs : Nat → Int32) (xl d : Nat) (a0 : Int32) (M : dp_M) : dp_den true xs xl (d + 1) 256 [.ref 0, .int a0] M = D_X11_isOrder_0 xs xl d a0 M := rfl
set_option maxRecDepth 20000 in
theorem D_X11_isOrder_0_eq (xs : Nat → Int32) (xl d : Nat) (v1 : Int32) (M : dp_M) : D_X11_isOrder_0 xs xl d v1 M = dp_bi (dp_den true xs xl d 251 [.long (Int32.toInt64 v1), .long (0 : Int64), .long (Int32.toInt64 ((dp_I M 75 0) - (1 : Int32)))] M) (fun r2 M1 => if r2 = 0 ∨ r2 = 1 then some (.inl (some (.int r2)), M1) else none) := by
  have hF := dp_den_grow (md := true) (xs := xs) (xl := xl) d
  unfold D_X11_isOrder_0
  refine dp_s1 hF (i := .iload_n 1) rfl (fun _ => rfl) ?_
  refine dp_s1 hF (i := .i2l) rfl (fun _ => rfl) ?_
  refine dp_s1 hF (i := .lconst 0) rfl (fun _ => rfl) ?_
  refine dp_s1 hF (i := .aload_n 0) rfl (fun _ => rfl) ?_
  refine dp_s1 hF (i := .getfield 57) rfl (fun _ => rfl) ?_
  refine dp_s1 hF (i := .getfield 107) rfl (fun _ => rfl) ?_
  refine dp_s1 hF (i := .iconst 1) rfl (fun _ => rfl) ?_
  refine dp_s1 hF (i := .isub) rfl (fun _ => rfl) ?_
  refine dp_s1 hF (i := .i2l) rfl (fun _ => rfl) ?_
  refine dp_si (mj := dp_m_X11_within) (i := .invokestatic 96) rfl rfl (Or.inr rfl) rfl (fun _ => rfl) (fun r2 M1 => ?_)
  exact dp_s0 hF (i := .ireturn) rfl (fun _ => rfl)
noncomputable def D_X11_isGuarantee_0 (xs : Nat → Int32) (xl d : Nat) (v1 : Int32) (M : dp_M) : Option dp_Res := dp_lim true xs xl (dp_den true xs xl d) dp_m_X11_isGuarantee (0, [some (.ref 0), some (.int v1)], [], M)
theorem D_X11_isGuarantee_0_den (xs : Nat → Int32) (xl d : Nat) (a0 : Int32) (M : dp_M) : dp_den true xs xl (d + 1) 257 [.ref 0, .int a0] M = D_X11_isGuarantee_0 xs xl d a0 M := rfl
set_option maxRecDepth 20000 in
theorem D_X11_isGuarantee_0_eq (xs : Nat → Int32) (xl d : Nat) (v1 : Int32) (M : dp_M) : D_X11_isGuarantee_0 xs xl d v1 M = dp_bi (dp_den true xs xl d 251 [.long (Int32.toInt64 v1), .long (1 : Int64), .long (Int32.toInt64 (dp_I M 90 0))] M) (fun r2 M1 => if r2 = 0 ∨ r2 = 1 then some (.inl (some (.int r2)), M1) else none) := by
  have hF := dp_den_grow (md := true) (xs := xs) (xl := xl) d
  unfold D_X11_isGuarantee_0
  refine dp_s1 hF (i := .iload_n 1) rfl (fun _ => rfl) ?_
  refine dp_s1 hF (i := .i2l) rfl (fun _ => rfl) ?_
  refine dp_s1 hF (i := .lconst 1) rfl (fun _ => rfl) ?_
  refine dp_s1 hF (i := .aload_n 0) rfl (fun _ => rfl) ?_
  refine dp_s1 hF (i := .getfield 64) rfl (fun _ => rfl) ?_
  refine dp_s1 hF (i := .getfield 110) rfl (fun _ => rfl) ?_
  refine dp_s1 hF (i := .i2l) rfl (fun _ => rfl) ?_
  refine dp_si (mj := dp_m_X11_within) (i := .invokestatic 96) rfl rfl (Or.inr rfl) rfl (fun _ => rfl) (fun r2 M1 => ?_)
  exact dp_s0 hF (i := .ireturn) rfl (fun _ => rfl)
noncomputable def D_X11_isBatch_0 (xs : Nat → Int32) (xl d : Nat) (v1 : Int32) (M : dp_M) : Option dp_Res := dp_lim true xs xl (dp_den true xs xl d) dp_m_X11_isBatch (0, [some (.ref 0), some (.int v1)], [], M)
theorem D_X11_isBatch_0_den (xs : Nat → Int32) (xl d : Nat) (a0 : Int32) (M : dp_M) : dp_den true xs xl (d + 1) 258 [.ref 0, .int a0] M = D_X11_isBatch_0 xs xl d a0 M := rfl
set_option maxRecDepth 20000 in
theorem D_X11_isBatch_0_eq (xs : Nat → Int32) (xl d : Nat) (v1 : Int32) (M : dp_M) : D_X11_isBatch_0 xs xl d v1 M = dp_bi (dp_den true xs xl d 251 [.long (Int32.toInt64 v1), .long (0 : Int64), .long (Int32.toInt64 ((dp_I M 97 0) - (1 : Int32)))] M) (fun r2 M1 => if r2 = 0 ∨ r2 = 1 then some (.inl (some (.int r2)), M1) else none) := by
  have hF := dp_den_grow (md := true) (xs := xs) (xl := xl) d
  unfold D_X11_isBatch_0
  refine dp_s1 hF (i := .iload_n 1) rfl (fun _ => rfl) ?_
  refine dp_s1 hF (i := .i2l) rfl (fun _ => rfl) ?_
  refine dp_s1 hF (i := .lconst 0) rfl (fun _ => rfl) ?_
  refine dp_s1 hF (i := .aload_n 0) rfl (fun _ => rfl) ?_
  refine dp_s1 hF (i := .getfield 71) rfl (fun _ => rfl) ?_
  refine dp_s1 hF (i := .getfield 113) rfl (fun _ => rfl) ?_
  refine dp_s1 hF (i := .iconst 1) rfl (fun _ => rfl) ?_
  refine dp_s1 hF (i := .isub) rfl (fun _ => rfl) ?_
  refine dp_s1 hF (i := .i2l) rfl (fun _ => rfl) ?_
  refine dp_si (mj := dp_m_X11_within) (i := .invokestatic 96) rfl rfl (Or.inr rfl) rfl (fun _ => rfl) (fun r2 M1 => ?_)
  exact dp_s0 hF (i := .ireturn) rfl (fun _ => rfl)
noncomputable def D_X11_isDeclaration_0 (xs : Nat → Int32) (xl d : Nat) (v1 : Int32) (M : dp_M) : Option dp_Res := dp_lim true xs xl (dp_den true xs xl d) dp_m_X11_isDeclaration (0, [some (.ref 0), some (.int v1)], [], M)
theorem D_X11_isDeclaration_0_den (xs : Nat → Int32) (xl d : Nat) (a0 : Int32) (M : dp_M) : dp_den true xs xl (d + 1) 259 [.ref 0, .int a0] M = D_X11_isDeclaration_0 xs xl d a0 M := rfl
set_option maxRecDepth 20000 in
theorem D_X11_isDeclaration_0_eq (xs : Nat → Int32) (xl d : Nat) (v1 : Int32) (M : dp_M) : D_X11_isDeclaration_0 xs xl d v1 M = dp_bi (dp_den true xs xl d 251 [.long (Int32.toInt64 v1), .long (0 : Int64), .long (Int32.toInt64 ((dp_I M 108 5) - (1 : Int32)))] M) (fun r2 M1 => if r2 = 0 ∨ r2 = 1 then some (.inl (some (.int r2)), M1) else none) := by
  have hF := dp_den_grow (md := true) (xs := xs) (xl := xl) d
  unfold D_X11_isDeclaration_0
  refine dp_s1 hF (i := .iload_n 1) rfl (fun _ => rfl) ?_
  refine dp_s1 hF (i := .i2l) rfl (fun _ => rfl) ?_
  refine dp_s1 hF (i := .lconst 0) rfl (fun _ => rfl) ?_
  refine dp_s1 hF (i := .aload_n 0) rfl (fun _ => rfl) ?_
  refine dp_s1 hF (i := .getfield 80) rfl (fun _ => rfl) ?_
  refine dp_s1 hF (i := .getfield 116) rfl (fun _ => rfl) ?_
  refine dp_s1 hF (i := .iconst 1) rfl (fun _ => rfl) ?_
  refine dp_s1 hF (i := .isub) rfl (fun _ => rfl) ?_
  refine dp_s1 hF (i := .i2l) rfl (fun _ => rfl) ?_
  refine dp_si (mj := dp_m_X11_within) (i := .invokestatic 96) rfl rfl (Or.inr rfl) rfl (fun _ => rfl) (fun r2 M1 => ?_)
  exact dp_s0 hF (i := .ireturn) rfl (fun _ => rfl)
noncomputable def D_X11_isDeclarationIn_0 (xs : Nat → Int32) (xl d : Nat) (v1 : Int32) (v2 : Int32) (M : dp_M) : Option dp_Res := dp_lim true xs xl (dp_den true xs xl d) dp_m_X11_isDeclarationIn (0, [some (.ref 0), some (.int v1), some (.int v2)], [], M)
theorem D_X11_isDeclarationIn_0_den (xs : Nat → Int32) (xl d : Nat) (a0 : Int32) (a1 : Int32) (M : dp_M) : dp_den true xs xl (d + 1) 260 [.ref 0, .int a0, .int a1] M = D_X11_isDeclarationIn_0 xs xl d a0 a1 M := rfl
set_option maxRecDepth 20000 in
theorem D_X11_isDeclarationIn_0_eq (xs : Nat → Int32) (xl d : Nat) (v1 : Int32) (v2 : Int32) (M : dp_M) : D_X11_isDeclarationIn_0 xs xl d v1 v2 M = dp_bi (dp_den true xs xl d 259 [.ref 0, .int v1] M) (fun r2 M1 => if r2 = 0 then (some (.inl (some (.int (0 : Int32))), M1)) else (dp_bi (dp_den true xs xl d 5 [.ref 108, .int v1] M1) (fun r4 M3 => if r4 = v2 then (some (.inl (some (.int (1 : Int32))), M3)) else (some (.inl (some (.int (0 : Int32))), M3))))) := by
  have hF := dp_den_grow (md := true) (xs := xs) (xl := xl) d
  unfold D_X11_isDeclarationIn_0
  refine dp_s1 hF (i := .aload_n 0) rfl (fun _ => rfl) ?_
  refine dp_s1 hF (i := .iload_n 1) rfl (fun _ => rfl) ?_
  refine dp_si (mj := dp_m_X11_isDeclaration) (i := .invokevirtual 119) rfl rfl (Or.inr rfl) rfl (fun _ => rfl) (fun r2 M1 => ?_)
  refine dp_s2 hF (i := .ifCond .eq 19) (a := (24, [some (.ref 0), some (.int v1), some (.int v2)], [], M1)) (b := (8, [some (.ref 0), some (.int v1), some (.int v2)], [], M1)) rfl (fun _ => rfl) ?_ ?_
  · refine dp_s1 hF (i := .iconst 0) rfl (fun _ => rfl) ?_
    exact dp_s0 hF (i := .ireturn) rfl (fun _ => rfl)
  refine dp_s1 hF (i := .aload_n 0) rfl (fun _ => rfl) ?_
  refine dp_s1 hF (i := .getfield 80) rfl (fun _ => rfl) ?_
  refine dp_s1 hF (i := .iload_n 1) rfl (fun _ => rfl) ?_
  refine dp_si (mj := dp_m_X0_stateOf) (i := .invokevirtual 123) rfl rfl (Or.inl rfl) rfl (fun _ => rfl) (fun r4 M3 => ?_)
  refine dp_s1 hF (i := .iload_n 2) rfl (fun _ => rfl) ?_
  refine dp_s2 hF (i := .if_icmp .ne 7) (a := (20, [some (.ref 0), some (.int v1), some (.int v2)], [], M3)) (b := (24, [some (.ref 0), some (.int v1), some (.int v2)], [], M3)) rfl (fun _ => rfl) ?_ ?_
  · refine dp_s1 hF (i := .iconst 1) rfl (fun _ => rfl) ?_
    refine dp_s1 hF (i := .goto 4) rfl (fun _ => rfl) ?_
    exact dp_s0 hF (i := .ireturn) rfl (fun _ => rfl)
  refine dp_s1 hF (i := .iconst 0) rfl (fun _ => rfl) ?_
  exact dp_s0 hF (i := .ireturn) rfl (fun _ => rfl)
noncomputable def D_X11_isDay_0 (xs : Nat → Int32) (xl d : Nat) (v0 : Int32) (M : dp_M) : Option dp_Res := dp_lim true xs xl (dp_den true xs xl d) dp_m_X11_isDay (0, [some (.int v0)], [], M)
theorem D_X11_isDay_0_den (xs : Nat → Int32) (xl d : Nat) (a0 : Int32) (M : dp_M) : dp_den true xs xl (d + 1) 261 [.int a0] M = D_X11_isDay_0 xs xl d a0 M := rfl
set_option maxRecDepth 20000 in
theorem D_X11_isDay_0_eq (xs : Nat → Int32) (xl d : Nat) (v0 : Int32) (M : dp_M) : D_X11_isDay_0 xs xl d v0 M = dp_bi (dp_den true xs xl d 251 [.long (Int32.toInt64 v0), .long (0 : Int64), .long (10000 : Int64)] M) (fun r2 M1 => if r2 = 0 ∨ r2 = 1 then some (.inl (some (.int r2)), M1) else none) := by
  have hF := dp_den_grow (md := true) (xs := xs) (xl := xl) d
  unfold D_X11_isDay_0
  refine dp_s1 hF (i := .iload_n 0) rfl (fun _ => rfl) ?_
  refine dp_s1 hF (i := .i2l) rfl (fun _ => rfl) ?_
  refine dp_s1 hF (i := .lconst 0) rfl (fun _ => rfl) ?_
  refine dp_s1 hF (i := .ldc2_w 127) rfl (fun _ => rfl) ?_
  refine dp_si (mj := dp_m_X11_within) (i := .invokestatic 96) rfl rfl (Or.inr rfl) rfl (fun _ => rfl) (fun r2 M1 => ?_)
  exact dp_s0 hF (i := .ireturn) rfl (fun _ => rfl)
noncomputable def D_X11_isLastDay_0 (xs : Nat → Int32) (xl d : Nat) (v0 : Int32) (M : dp_M) : Option dp_Res := dp_lim true xs xl (dp_den true xs xl d) dp_m_X11_isLastDay (0, [some (.int v0)], [], M)
theorem D_X11_isLastDay_0_den (xs : Nat → Int32) (xl d : Nat) (a0 : Int32) (M : dp_M) : dp_den true xs xl (d + 1) 262 [.int a0] M = D_X11_isLastDay_0 xs xl d a0 M := rfl
set_option maxRecDepth 20000 in
theorem D_X11_isLastDay_0_eq (xs : Nat → Int32) (xl d : Nat) (v0 : Int32) (M : dp_M) : D_X11_isLastDay_0 xs xl d v0 M = dp_bi (dp_den true xs xl d 261 [.int v0] M) (fun r2 M1 => if r2 = 0 then (if v0 = (20000 : Int32) then (some (.inl (some (.int (1 : Int32))), M1)) else (some (.inl (some (.int (0 : Int32))), M1))) else (some (.inl (some (.int (1 : Int32))), M1))) := by
  have hF := dp_den_grow (md := true) (xs := xs) (xl := xl) d
  unfold D_X11_isLastDay_0
  refine dp_s1 hF (i := .iload_n 0) rfl (fun _ => rfl) ?_
  refine dp_si (mj := dp_m_X11_isDay) (i := .invokestatic 129) rfl rfl (Or.inr rfl) rfl (fun _ => rfl) (fun r2 M1 => ?_)
  refine dp_s2 hF (i := .ifCond .ne 10) (a := (7, [some (.int v0)], [], M1)) (b := (14, [some (.int v0)], [], M1)) rfl (fun _ => rfl) ?_ ?_
  · refine dp_s1 hF (i := .iload_n 0) rfl (fun _ => rfl) ?_
    refine dp_s1 hF (i := .sipush 20000) rfl (fun _ => rfl) ?_
    refine dp_s2 hF (i := .if_icmp .ne 7) (a := (14, [some (.int v0)], [], M1)) (b := (18, [some (.int v0)], [], M1)) rfl (fun _ => rfl) ?_ ?_
    · refine dp_s1 hF (i := .iconst 1) rfl (fun _ => rfl) ?_
      refine dp_s1 hF (i := .goto 4) rfl (fun _ => rfl) ?_
      exact dp_s0 hF (i := .ireturn) rfl (fun _ => rfl)
    refine dp_s1 hF (i := .iconst 0) rfl (fun _ => rfl) ?_
    exact dp_s0 hF (i := .ireturn) rfl (fun _ => rfl)
  refine dp_s1 hF (i := .iconst 1) rfl (fun _ => rfl) ?_
  refine dp_s1 hF (i := .goto 4) rfl (fun _ => rfl) ?_
  exact dp_s0 hF (i := .ireturn) rfl (fun _ => rfl)
noncomputable def D_X11_isBookDay_0 (xs : Nat → Int32) (xl d : Nat) (v0 : Int32) (M : dp_M) : Option dp_Res := dp_lim true xs xl (dp_den true xs xl d) dp_m_X11_isBookDay (0, [some (.int v0)], [], M)
theorem D_X11_isBookDay_0_den (xs : Nat → Int32) (xl d : Nat) (a0 : Int32) (M : dp_M) : dp_den true xs xl (d + 1) 263 [.int a0] M = D_X11_isBookDay_0 xs xl d a0 M := rfl
set_option maxRecDepth 20000 in
theorem D_X11_isBookDay_0_eq (xs : Nat → Int32) (xl d : Nat) (v0 : Int32) (M : dp_M) : D_X11_isBookDay_0 xs xl d v0 M = dp_bi (dp_den true xs xl d 251 [.long (Int32.toInt64 v0), .long (0 : Int64), .long (100000 : Int64)] M) (fun r2 M1 => if r2 = 0 ∨ r2 = 1 then some (.inl (some (.int r2)), M1) else none) := by
  have hF := dp_den_grow (md := true) (xs := xs) (xl := xl) d
  unfold D_X11_isBookDay_0
  refine dp_s1 hF (i := .iload_n 0) rfl (fun _ => rfl) ?_
  refine dp_s1 hF (i := .i2l) rfl (fun _ => rfl) ?_
  refine dp_s1 hF (i := .lconst 0) rfl (fun _ => rfl) ?_
  refine dp_s1 hF (i := .ldc2_w 132) rfl (fun _ => rfl) ?_
  refine dp_si (mj := dp_m_X11_within) (i := .invokestatic 96) rfl rfl (Or.inr rfl) rfl (fun _ => rfl) (fun r2 M1 => ?_)
  exact dp_s0 hF (i := .ireturn) rfl (fun _ => rfl)
noncomputable def D_X11_box_0 (xs : Nat → Int32) (xl d : Nat) (v1 : Int32) (v2 : Int32) (v3 : Int32) (v4 : Int32) (v5 : Int32) (v6 : Int32) (v7 : Int32) (M : dp_M) : Option dp_Res := dp_lim true xs xl (dp_den true xs xl d) dp_m_X11_box (0, [some (.ref 0), some (.int v1), some (.int v2), some (.int v3), some (.int v4), some (.int v5), some (.int v6), some (.int v7)], [], M)
theorem D_X11_box_0_den (xs : Nat → Int32) (xl d : Nat) (a0 : Int32) (a1 : Int32) (a2 : Int32) (a3 : Int32) (a4 : Int32) (a5 : Int32) (a6 : Int32) (M : dp_M) : dp_den true xs xl (d + 1) 264 [.ref 0, .int a0, .int a1, .int a2, .int a3, .int a4, .int a5, .int a6] M = D_X11_box_0 xs xl d a0 a1 a2 a3 a4 a5 a6 M := rfl
set_option maxRecDepth 20000 in
theorem D_X11_box_0_eq (xs : Nat → Int32) (xl d : Nat) (v1 : Int32) (v2 : Int32) (v3 : Int32) (v4 : Int32) (v5 : Int32) (v6 : Int32) (v7 : Int32) (M : dp_M) : D_X11_box_0 xs xl d v1 v2 v3 v4 v5 v6 v7 M = dp_bi (dp_den true xs xl d 252 [.ref 0, .int v1] M) (fun r2 M1 => if r2 = 0 then (dp_nk M1 0 (some (.inr 0, dp_new M1 0 0 6))) else (dp_bi (dp_den true xs xl d 251 [.long (Int32.toInt64 v2), .long (0 : Int64), .long (2 : Int64)] M1) (fun r4 M3 => if r4 = 0 then (dp_nk M3 0 (some (.inr 0, dp_new M3 0 0 6))) else (dp_bi (dp_den true xs xl d 251 [.long (Int32.toInt64 v3), .long (0 : Int64), .long (5 : Int64)] M3) (fun r6 M5 => if r6 = 0 then (dp_nk M5 0 (some (.inr 0, dp_new M5 0 0 6))) else (dp_bi (dp_den true xs xl d 251 [.long (Int32.toInt64 v4), .long (0 : Int64), .long (8 : Int64)] M5) (fun r8 M7 => if r8 = 0 then (dp_nk M7 0 (some (.inr 0, dp_new M7 0 0 6))) else (dp_bi (dp_den true xs xl d 251 [.long (Int32.toInt64 v5), .long (1 : Int64), .long (40 : Int64)] M7) (fun r10 M9 => if r10 = 0 then (dp_nk M9 0 (some (.inr 0, dp_new M9 0 0 6))) else (dp_bi (dp_den true xs xl d 251 [.long (Int32.toInt64 v6), .long (0 : Int64), .long (1000 : Int64)] M9) (fun r12 M11 => if r12 = 0 then (dp_nk M11 0 (some (.inr 0, dp_new M11 0 0 6))) else (dp_bi (dp_den true xs xl d 251 [.long (Int32.toInt64 v7), .long (1 : Int64), .long (9 : Int64)] M11) (fun r14 M13 => if r14 = 0 then (dp_nk M13 0 (some (.inr 0, dp_new M13 0 0 6))) else (if (100 : Int32) ≤ (dp_I M13 1 2) then (dp_nk M13 0 (some (.inr 1, dp_new M13 0 0 6))) else (dp_bi (dp_den true xs xl d 57 [.ref 1, .int v1] M13) (fun r16 M15 => if (4 : Int32) ≤ r16 then (dp_nk M15 0 (some (.inr 1, dp_new M15 0 0 6))) else (dp_bi (dp_den true xs xl d 58 [.ref 1, .int v1, .int v2] M15) (fun r18 M17 => if r18 < (dp_I M17 1 1) then (dp_bi (dp_den true xs xl d 59 [.ref 1, .int v1, .int v2, .int v3, .int v4, .int v5, .int v6, .int v7] M17) (fun r20 M19 => some (.inl (some (.int r20)), M19))) else (dp_nk M17 0 (some (.inr 1, dp_new M17 0 0 6))))))))))))))))))))) := by
  have hF := dp_den_grow (md := true) (xs := xs) (xl := xl) d
  unfold D_X11_box_0
  refine dp_s1 hF (i := .aload_n 0) rfl (fun _ => rfl) ?_
  refine dp_s1 hF (i := .iload_n 1) rfl (fun _ => rfl) ?_
  refine dp_si (mj := dp_m_X11_isBay) (i := .invokevirtual 134) rfl rfl (Or.inr rfl) rfl (fun _ => rfl) (fun r2 M1 => ?_)
  refine dp_s2 hF (i := .ifCond .eq 27) (a := (32, [some (.ref 0), some (.int v1), some (.int v2), some (.int v3), some (.int v4), some (.int v5), some (.int v6), some (.int v7)], [], M1)) (b := (8, [some (.ref 0), some (.int v1), some (.int v2), some (.int v3), some (.int v4), some (.int v5), some (.int v6), some (.int v7)], [], M1)) rfl (fun _ => rfl) ?_ ?_
  · exact dp_s0 hF (i := .new 141) rfl (fun _ => rfl)
  refine dp_s1 hF (i := .iload_n 2) rfl (fun _ => rfl) ?_
  refine dp_s1 hF (i := .i2l) rfl (fun _ => rfl) ?_
  refine dp_s1 hF (i := .lconst 0) rfl (fun _ => rfl) ?_
  refine dp_s1 hF (i := .ldc2_w 137) rfl (fun _ => rfl) ?_
  refine dp_si (mj := dp_m_X11_within) (i := .invokestatic 96) rfl rfl (Or.inr rfl) rfl (fun _ => rfl) (fun r4 M3 => ?_)
  refine dp_s2 hF (i := .ifCond .eq 15) (a := (32, [some (.ref 0), some (.int v1), some (.int v2), some (.int v3), some (.int v4), some (.int v5), some (.int v6), some (.int v7)], [], M3)) (b := (20, [some (.ref 0), some (.int v1), some (.int v2), some (.int v3), some (.int v4), some (.int v5), some (.int v6), some (.int v7)], [], M3)) rfl (fun _ => rfl) ?_ ?_
  · exact dp_s0 hF (i := .new 141) rfl (fun _ => rfl)
  refine dp_s1 hF (i := .iload_n 3) rfl (fun _ => rfl) ?_
  refine dp_s1 hF (i := .i2l) rfl (fun _ => rfl) ?_
  refine dp_s1 hF (i := .lconst 0) rfl (fun _ => rfl) ?_
  refine dp_s1 hF (i := .ldc2_w 139) rfl (fun _ => rfl) ?_
  refine dp_si (mj := dp_m_X11_within) (i := .invokestatic 96) rfl rfl (Or.inr rfl) rfl (fun _ => rfl) (fun r6 M5 => ?_)
  refine dp_s2 hF (i := .ifCond .ne 13) (a := (32, [some (.ref 0), some (.int v1), some (.int v2), some (.int v3), some (.int v4), some (.int v5), some (.int v6), some (.int v7)], [], M5)) (b := (42, [some (.ref 0), some (.int v1), some (.int v2), some (.int v3), some (.int v4), some (.int v5), some (.int v6), some (.int v7)], [], M5)) rfl (fun _ => rfl) ?_ ?_
  · exact dp_s0 hF (i := .new 141) rfl (fun _ => rfl)
  refine dp_s1 hF (i := .iload 4) rfl (fun _ => rfl) ?_
  refine dp_s1 hF (i := .i2l) rfl (fun _ => rfl) ?_
  refine dp_s1 hF (i := .lconst 0) rfl (fun _ => rfl) ?_
  refine dp_s1 hF (i := .ldc2_w 148) rfl (fun _ => rfl) ?_
  refine dp_si (mj := dp_m_X11_within) (i := .invokestatic 96) rfl rfl (Or.inr rfl) rfl (fun _ => rfl) (fun r8 M7 => ?_)
  refine dp_s2 hF (i := .ifCond .eq 42) (a := (94, [some (.ref 0), some (.int v1), some (.int v2), some (.int v3), some (.int v4), some (.int v5), some (.int v6), some (.int v7)], [], M7)) (b := (55, [some (.ref 0), some (.int v1), some (.int v2), some (.int v3), some (.int v4), some (.int v5), some (.int v6), some (.int v7)], [], M7)) rfl (fun _ => rfl) ?_ ?_
  · exact dp_s0 hF (i := .new 141) rfl (fun _ => rfl)
  refine dp_s1 hF (i := .iload 5) rfl (fun _ => rfl) ?_
  refine dp_s1 hF (i := .i2l) rfl (fun _ => rfl) ?_
  refine dp_s1 hF (i := .lconst 1) rfl (fun _ => rfl) ?_
  refine dp_s1 hF (i := .ldc2_w 150) rfl (fun _ => rfl) ?_
  refine dp_si (mj := dp_m_X11_within) (i := .invokestatic 96) rfl rfl (Or.inr rfl) rfl (fun _ => rfl) (fun r10 M9 => ?_)
  refine dp_s2 hF (i := .ifCond .eq 29) (a := (94, [some (.ref 0), some (.int v1), some (.int v2), some (.int v3), some (.int v4), some (.int v5), some (.int v6), some (.int v7)], [], M9)) (b := (68, [some (.ref 0), some (.int v1), some (.int v2), some (.int v3), some (.int v4), some (.int v5), some (.int v6), some (.int v7)], [], M9)) rfl (fun _ => rfl) ?_ ?_
  · exact dp_s0 hF (i := .new 141) rfl (fun _ => rfl)
  refine dp_s1 hF (i := .iload 6) rfl (fun _ => rfl) ?_
  refine dp_s1 hF (i := .i2l) rfl (fun _ => rfl) ?_
  refine dp_s1 hF (i := .lconst 0) rfl (fun _ => rfl) ?_
  refine dp_s1 hF (i := .ldc2_w 152) rfl (fun _ => rfl) ?_
  refine dp_si (mj := dp_m_X11_within) (i := .invokestatic 96) rfl rfl (Or.inr rfl) rfl (fun _ => rfl) (fun r12 M11 => ?_)
  refine dp_s2 hF (i := .ifCond .eq 16) (a := (94, [some (.ref 0), some (.int v1), some (.int v2), some (.int v3), some (.int v4), some (.int v5), some (.int v6), some (.int v7)], [], M11)) (b := (81, [some (.ref 0), some (.int v1), some (.int v2), some (.int v3), some (.int v4), some (.int v5), some (.int v6), some (.int v7)], [], M11)) rfl (fun _ => rfl) ?_ ?_
  · exact dp_s0 hF (i := .new 141) rfl (fun _ => rfl)
  refine dp_s1 hF (i := .iload 7) rfl (fun _ => rfl) ?_
  refine dp_s1 hF (i := .i2l) rfl (fun _ => rfl) ?_
  refine dp_s1 hF (i := .lconst 1) rfl (fun _ => rfl) ?_
  refine dp_s1 hF (i := .ldc2_w 154) rfl (fun _ => rfl) ?_
  refine dp_si (mj := dp_m_X11_within) (i := .invokestatic 96) rfl rfl (Or.inr rfl) rfl (fun _ => rfl) (fun r14 M13 => ?_)
  refine dp_s2 hF (i := .ifCond .ne 13) (a := (94, [some (.ref 0), some (.int v1), some (.int v2), some (.int v3), some (.int v4), some (.int v5), some (.int v6), some (.int v7)], [], M13)) (b := (104, [some (.ref 0), some (.int v1), some (.int v2), some (.int v3), some (.int v4), some (.int v5), some (.int v6), some (.int v7)], [], M13)) rfl (fun _ => rfl) ?_ ?_
  · exact dp_s0 hF (i := .new 141) rfl (fun _ => rfl)
  refine dp_s1 hF (i := .aload_n 0) rfl (fun _ => rfl) ?_
  refine dp_s1 hF (i := .getfield 18) rfl (fun _ => rfl) ?_
  refine dp_s1 hF (i := .getfield 100) rfl (fun _ => rfl) ?_
  refine dp_s1 hF (i := .bipush 100) rfl (fun _ => rfl) ?_
  refine dp_s2 hF (i := .if_icmp .ge 34) (a := (147, [some (.ref 0), some (.int v1), some (.int v2), some (.int v3), some (.int v4), some (.int v5), some (.int v6), some (.int v7)], [], M13)) (b := (116, [some (.ref 0), some (.int v1), some (.int v2), some (.int v3), some (.int v4), some (.int v5), some (.int v6), some (.int v7)], [], M13)) rfl (fun _ => rfl) ?_ ?_
  · exact dp_s0 hF (i := .new 167) rfl (fun _ => rfl)
  refine dp_s1 hF (i := .aload_n 0) rfl (fun _ => rfl) ?_
  refine dp_s1 hF (i := .getfield 18) rfl (fun _ => rfl) ?_
  refine dp_s1 hF (i := .iload_n 1) rfl (fun _ => rfl) ?_
  refine dp_si (mj := dp_m_X2_lyingIn) (i := .invokevirtual 158) rfl rfl (Or.inl rfl) rfl (fun _ => rfl) (fun r16 M15 => ?_)
  refine dp_s1 hF (i := .iconst 4) rfl (fun _ => rfl) ?_
  refine dp_s2 hF (i := .if_icmp .ge 22) (a := (147, [some (.ref 0), some (.int v1), some (.int v2), some (.int v3), some (.int v4), some (.int v5), some (.int v6), some (.int v7)], [], M15)) (b := (128, [some (.ref 0), some (.int v1), some (.int v2), some (.int v3), some (.int v4), some (.int v5), some (.int v6), some (.int v7)], [], M15)) rfl (fun _ => rfl) ?_ ?_
  · exact dp_s0 hF (i := .new 167) rfl (fun _ => rfl)
  refine dp_s1 hF (i := .aload_n 0) rfl (fun _ => rfl) ?_
  refine dp_s1 hF (i := .getfield 18) rfl (fun _ => rfl) ?_
  refine dp_s1 hF (i := .iload_n 1) rfl (fun _ => rfl) ?_
  refine dp_s1 hF (i := .iload_n 2) rfl (fun _ => rfl) ?_
  refine dp_si (mj := dp_m_X2_heightOf) (i := .invokevirtual 161) rfl rfl (Or.inl rfl) rfl (fun _ => rfl) (fun r18 M17 => ?_)
  refine dp_s1 hF (i := .aload_n 0) rfl (fun _ => rfl) ?_
  refine dp_s1 hF (i := .getfield 18) rfl (fun _ => rfl) ?_
  refine dp_s1 hF (i := .getfield 164) rfl (fun _ => rfl) ?_
  refine dp_s2 hF (i := .if_icmp .lt 13) (a := (157, [some (.ref 0), some (.int v1), some (.int v2), some (.int v3), some (.int v4), some (.int v5), some (.int v6), some (.int v7)], [], M17)) (b := (147, [some (.ref 0), some (.int v1), some (.int v2), some (.int v3), some (.int v4), some (.int v5), some (.int v6), some (.int v7)], [], M17)) rfl (fun _ => rfl) ?_ ?_
  · refine dp_s1 hF (i := .aload_n 0) rfl (fun _ => rfl) ?_
    refine dp_s1 hF (i := .getfield 18) rfl (fun _ => rfl) ?_
    refine dp_s1 hF (i := .iload_n 1) rfl (fun _ => rfl) ?_
    refine dp_s1 hF (i := .iload_n 2) rfl (fun _ => rfl) ?_
    refine dp_s1 hF (i := .iload_n 3) rfl (fun _ => rfl) ?_
    refine dp_s1 hF (i := .iload 4) rfl (fun _ => rfl) ?_
    refine dp_s1 hF (i := .iload 5) rfl (fun _ => rfl) ?_
    refine dp_s1 hF (i := .iload 6) rfl (fun _ => rfl) ?_
    refine dp_s1 hF (i := .iload 7) rfl (fun _ => rfl) ?_
    refine dp_si (mj := dp_m_X2_add) (i := .invokevirtual 172) rfl rfl (Or.inl rfl) rfl (fun _ => rfl) (fun r20 M19 => ?_)
    exact dp_s0 hF (i := .ireturn) rfl (fun _ => rfl)
  exact dp_s0 hF (i := .new 167) rfl (fun _ => rfl)
noncomputable def D_X11_before_0 (xs : Nat → Int32) (xl d : Nat) (v1 : Int32) (v2 : Int32) (M : dp_M) : Option dp_Res := dp_lim true xs xl (dp_den true xs xl d) dp_m_X11_before (0, [some (.ref 0), some (.int v1), some (.int v2)], [], M)
theorem D_X11_before_0_den (xs : Nat → Int32) (xl d : Nat) (a0 : Int32) (a1 : Int32) (M : dp_M) : dp_den true xs xl (d + 1) 265 [.ref 0, .int a0, .int a1] M = D_X11_before_0 xs xl d a0 a1 M := rfl
set_option maxRecDepth 20000 in
theorem D_X11_before_0_eq (xs : Nat → Int32) (xl d : Nat) (v1 : Int32) (v2 : Int32) (M : dp_M) : D_X11_before_0 xs xl d v1 v2 M = dp_bi (dp_den true xs xl d 253 [.ref 0, .int v1] M) (fun r2 M1 => if r2 = 0 then (some (.inl (some (.int (0 : Int32))), M1)) else (dp_bi (dp_den true xs xl d 253 [.ref 0, .int v2] M1) (fun r4 M3 => if r4 = 0 then (some (.inl (some (.int (0 : Int32))), M3)) else (dp_bi (dp_den true xs xl d 61 [.ref 1, .int v1, .int v2] M3) (fun r6 M5 => if r6 = 0 then (some (.inl (some (.int (0 : Int32))), M5)) else (some (.inl (some (.int (1 : Int32))), M5))))))) := by
  have hF := dp_den_grow (md := true) (xs := xs) (xl := xl) d
  unfold D_X11_before_0
  refine dp_s1 hF (i := .aload_n 0) rfl (fun _ => rfl) ?_
  refine dp_s1 hF (i := .iload_n 1) rfl (fun _ => rfl) ?_
  refine dp_si (mj := dp_m_X11_isBox) (i := .invokevirtual 176) rfl rfl (Or.inr rfl) rfl (fun _ => rfl) (fun r2 M1 => ?_)
  refine dp_s2 hF (i := .ifCond .eq 27) (a := (32, [some (.ref 0), some (.int v1), some (.int v2)], [], M1)) (b := (8, [some (.ref 0), some (.int v1), some (.int v2)], [], M1)) rfl (fun _ => rfl) ?_ ?_
  · refine dp_s1 hF (i := .iconst 0) rfl (fun _ => rfl) ?_
    exact dp_s0 hF (i := .ireturn) rfl (fun _ => rfl)
  refine dp_s1 hF (i := .aload_n 0) rfl (fun _ => rfl) ?_
  refine dp_s1 hF (i := .iload_n 2) rfl (fun _ => rfl) ?_
  refine dp_si (mj := dp_m_X11_isBox) (i := .invokevirtual 176) rfl rfl (Or.inr rfl) rfl (fun _ => rfl) (fun r4 M3 => ?_)
  refine dp_s2 hF (i := .ifCond .eq 19) (a := (32, [some (.ref 0), some (.int v1), some (.int v2)], [], M3)) (b := (16, [some (.ref 0), some (.int v1), some (.int v2)], [], M3)) rfl (fun _ => rfl) ?_ ?_
  · refine dp_s1 hF (i := .iconst 0) rfl (fun _ => rfl) ?_
    exact dp_s0 hF (i := .ireturn) rfl (fun _ => rfl)
  refine dp_s1 hF (i := .aload_n 0) rfl (fun _ => rfl) ?_
  refine dp_s1 hF (i := .getfield 18) rfl (fun _ => rfl) ?_
  refine dp_s1 hF (i := .iload_n 1) rfl (fun _ => rfl) ?_
  refine dp_s1 hF (i := .iload_n 2) rfl (fun _ => rfl) ?_
  refine dp_si (mj := dp_m_X2_addNeed) (i := .invokevirtual 179) rfl rfl (Or.inr rfl) rfl (fun _ => rfl) (fun r6 M5 => ?_)
  refine dp_s2 hF (i := .ifCond .eq 7) (a := (32, [some (.ref 0), some (.int v1), some (.int v2)], [], M5)) (b := (28, [some (.ref 0), some (.int v1), some (.int v2)], [], M5)) rfl (fun _ => rfl) ?_ ?_
  · refine dp_s1 hF (i := .iconst 0) rfl (fun _ => rfl) ?_
    exact dp_s0 hF (i := .ireturn) rfl (fun _ => rfl)
  refine dp_s1 hF (i := .iconst 1) rfl (fun _ => rfl) ?_
  refine dp_s1 hF (i := .goto 4) rfl (fun _ => rfl) ?_
  exact dp_s0 hF (i := .ireturn) rfl (fun _ => rfl)
noncomputable def D_X11_plan_0 (xs : Nat → Int32) (xl d : Nat) (v1 : Int32) (M : dp_M) : Option dp_Res := dp_lim true xs xl (dp_den true xs xl d) dp_m_X11_plan (0, [some (.ref 0), some (.int v1)], [], M)
theorem D_X11_plan_0_den (xs : Nat → Int32) (xl d : Nat) (a0 : Int32) (M : dp_M) : dp_den true xs xl (d + 1) 266 [.ref 0, .int a0] M = D_X11_plan_0 xs xl d a0 M := rfl
set_option maxRecDepth 20000 in
theorem D_X11_plan_0_eq (xs : Nat → Int32) (xl d : Nat) (v1 : Int32) (M : dp_M) : D_X11_plan_0 xs xl d v1 M = dp_bi (dp_den true xs xl d 252 [.ref 0, .int v1] M) (fun r2 M1 => if r2 = 0 then (dp_nk M1 0 (some (.inr 0, dp_new M1 0 0 6))) else (dp_bi (dp_den true xs xl d 67 [.ref 1, .int v1] M1) (fun r4 M3 => some (.inl (some (.int r4)), M3)))) := by
  have hF := dp_den_grow (md := true) (xs := xs) (xl := xl) d
  unfold D_X11_plan_0
  refine dp_s1 hF (i := .aload_n 0) rfl (fun _ => rfl) ?_
  refine dp_s1 hF (i := .iload_n 1) rfl (fun _ => rfl) ?_
  refine dp_si (mj := dp_m_X11_isBay) (i := .invokevirtual 134) rfl rfl (Or.inr rfl) rfl (fun _ => rfl) (fun r2 M1 => ?_)
  refine dp_s2 hF (i := .ifCond .ne 13) (a := (8, [some (.ref 0), some (.int v1)], [], M1)) (b := (18, [some (.ref 0), some (.int v1)], [], M1)) rfl (fun _ => rfl) ?_ ?_
  · exact dp_s0 hF (i := .new 141) rfl (fun _ => rfl)
  refine dp_s1 hF (i := .aload_n 0) rfl (fun _ => rfl) ?_
  refine dp_s1 hF (i := .getfield 18) rfl (fun _ => rfl) ?_
  refine dp_s1 hF (i := .iload_n 1) rfl (fun _ => rfl) ?_
  refine dp_si (mj := dp_m_X2_makePlan) (i := .invokevirtual 185) rfl rfl (Or.inl rfl) rfl (fun _ => rfl) (fun r4 M3 => ?_)
  exact dp_s0 hF (i := .ireturn) rfl (fun _ => rfl)
noncomputable def D_X11_move_0 (xs : Nat → Int32) (xl d : Nat) (v1 : Int32) (v2 : Int32) (v3 : Int32) (M : dp_M) : Option dp_Res := dp_lim true xs xl (dp_den true xs xl d) dp_m_X11_move (0, [some (.ref 0), some (.int v1), some (.int v2), some (.int v3)], [], M)
theorem D_X11_move_0_den (xs : Nat → Int32) (xl d : Nat) (a0 : Int32) (a1 : Int32) (a2 : Int32) (M : dp_M) : dp_den true xs xl (d + 1) 267 [.ref 0, .int a0, .int a1, .int a2] M = D_X11_move_0 xs xl d a0 a1 a2 M := rfl
set_option maxRecDepth 20000 in
theorem D_X11_move_0_eq (xs : Nat → Int32) (xl d : Nat) (v1 : Int32) (v2 : Int32) (v3 : Int32) (M : dp_M) : D_X11_move_0 xs xl d v1 v2 v3 M = dp_bi (dp_den true xs xl d 252 [.ref 0, .int v1] M) (fun r2 M1 => if r2 = 0 then (dp_nk M1 0 (some (.inr 2, dp_new M1 0 0 6))) else (if v1 < 0 ∨ dp_len M1 25 ≤ Int32.toNatClampNeg v1 then none else (dp_bi (dp_den true xs xl d 251 [.long (Int32.toInt64 v2), .long (0 : Int64), .long (Int32.toInt64 ((dp_I M1 25 (Int32.toNatClampNeg v1)) - (1 : Int32)))] M1) (fun r4 M3 => if r4 = 0 then (dp_nk M3 0 (some (.inr 2, dp_new M3 0 0 6))) else (dp_bi (dp_den true xs xl d 251 [.long (Int32.toInt64 v3), .long (0 : Int64), .long (3 : Int64)] M3) (fun r6 M5 => if r6 = 0 then (dp_nk M5 0 (some (.inr 2, dp_new M5 0 0 6))) else (dp_bi (dp_den true xs xl d 68 [.ref 1, .int v1, .int v2, .int v3] M5) (fun r8 M7 => some (.inl (some (.int r8)), M7))))))))) := by
  have hF := dp_den_grow (md := true) (xs := xs) (xl := xl) d
  unfold D_X11_move_0
  refine dp_s1 hF (i := .aload_n 0) rfl (fun _ => rfl) ?_
  refine dp_s1 hF (i := .iload_n 1) rfl (fun _ => rfl) ?_
  refine dp_si (mj := dp_m_X11_isBay) (i := .invokevirtual 134) rfl rfl (Or.inr rfl) rfl (fun _ => rfl) (fun r2 M1 => ?_)
  refine dp_s2 hF (i := .ifCond .eq 36) (a := (41, [some (.ref 0), some (.int v1), some (.int v2), some (.int v3)], [], M1)) (b := (8, [some (.ref 0), some (.int v1), some (.int v2), some (.int v3)], [], M1)) rfl (fun _ => rfl) ?_ ?_
  · exact dp_s0 hF (i := .new 194) rfl (fun _ => rfl)
  refine dp_s1 hF (i := .iload_n 2) rfl (fun _ => rfl) ?_
  refine dp_s1 hF (i := .i2l) rfl (fun _ => rfl) ?_
  refine dp_s1 hF (i := .lconst 0) rfl (fun _ => rfl) ?_
  refine dp_s1 hF (i := .aload_n 0) rfl (fun _ => rfl) ?_
  refine dp_s1 hF (i := .getfield 18) rfl (fun _ => rfl) ?_
  refine dp_s1 hF (i := .getfield 188) rfl (fun _ => rfl) ?_
  refine dp_s1 hF (i := .iload_n 1) rfl (fun _ => rfl) ?_
  refine dp_s3 hF (i := .iaload) rfl (fun _ => rfl) ?_
  refine dp_s1 hF (i := .iconst 1) rfl (fun _ => rfl) ?_
  refine dp_s1 hF (i := .isub) rfl (fun _ => rfl) ?_
  refine dp_s1 hF (i := .i2l) rfl (fun _ => rfl) ?_
  refine dp_si (mj := dp_m_X11_within) (i := .invokestatic 96) rfl rfl (Or.inr rfl) rfl (fun _ => rfl) (fun r4 M3 => ?_)
  refine dp_s2 hF (i := .ifCond .eq 15) (a := (41, [some (.ref 0), some (.int v1), some (.int v2), some (.int v3)], [], M3)) (b := (29, [some (.ref 0), some (.int v1), some (.int v2), some (.int v3)], [], M3)) rfl (fun _ => rfl) ?_ ?_
  · exact dp_s0 hF (i := .new 194) rfl (fun _ => rfl)
  refine dp_s1 hF (i := .iload_n 3) rfl (fun _ => rfl) ?_
  refine dp_s1 hF (i := .i2l) rfl (fun _ => rfl) ?_
  refine dp_s1 hF (i := .lconst 0) rfl (fun _ => rfl) ?_
  refine dp_s1 hF (i := .ldc2_w 192) rfl (fun _ => rfl) ?_
  refine dp_si (mj := dp_m_X11_within) (i := .invokestatic 96) rfl rfl (Or.inr rfl) rfl (fun _ => rfl) (fun r6 M5 => ?_)
  refine dp_s2 hF (i := .ifCond .ne 13) (a := (41, [some (.ref 0), some (.int v1), some (.int v2), some (.int v3)], [], M5)) (b := (51, [some (.ref 0), some (.int v1), some (.int v2), some (.int v3)], [], M5)) rfl (fun _ => rfl) ?_ ?_
  · exact dp_s0 hF (i := .new 194) rfl (fun _ => rfl)
  refine dp_s1 hF (i := .aload_n 0) rfl (fun _ => rfl) ?_
  refine dp_s1 hF (i := .getfield 18) rfl (fun _ => rfl) ?_
  refine dp_s1 hF (i := .iload_n 1) rfl (fun _ => rfl) ?_
  refine dp_s1 hF (i := .iload_n 2) rfl (fun _ => rfl) ?_
  refine dp_s1 hF (i := .iload_n 3) rfl (fun _ => rfl) ?_
  refine dp_si (mj := dp_m_X2_plannedMove) (i := .invokevirtual 199) rfl rfl (Or.inl rfl) rfl (fun _ => rfl) (fun r8 M7 => ?_)
  exact dp_s0 hF (i := .ireturn) rfl (fun _ => rfl)
noncomputable def D_X11_work_0 (xs : Nat → Int32) (xl d : Nat) (v1 : Int32) (M : dp_M) : Option dp_Res := dp_lim true xs xl (dp_den true xs xl d) dp_m_X11_work (0, [some (.ref 0), some (.int v1), none, none, none, none], [], M)
noncomputable def D_X11_work_90 (xs : Nat → Int32) (xl d : Nat) (v1 : Int32) (v2 : Int32) (v3 : Int32) (v4 : Int32) (vs0 : Int32) (M : dp_M) : Option dp_Res := dp_lim true xs xl (dp_den true xs xl d) dp_m_X11_work (90, [some (.ref 0), some (.int v1), some (.int v2), some (.int v3), some (.int v4), none], [.int vs0], M)
theorem D_X11_work_0_den (xs : Nat → Int32) (xl d : Nat) (a0 : Int32) (M : dp_M) : dp_den true xs xl (d + 1) 268 [.ref 0, .int a0] M = D_X11_work_0 xs xl d a0 M := rfl
set_option maxRecDepth 20000 in
theorem D_X11_work_0_eq (xs : Nat → Int32) (xl d : Nat) (v1 : Int32) (M : dp_M) : D_X11_work_0 xs xl d v1 M = dp_bi (dp_den true xs xl d 252 [.ref 0, .int v1] M) (fun r2 M1 => if r2 = 0 then (dp_nk M1 0 (some (.inr 0, dp_new M1 0 0 6))) else (dp_bi (dp_den true xs xl d 69 [.ref 1, .int v1] M1) (fun r4 M3 => if 0 < r4 then (if v1 < 0 ∨ dp_len M3 26 ≤ Int32.toNatClampNeg v1 then none else (dp_w (dp_I M3 26 (Int32.toNatClampNeg v1)) (fun y5 => dp_bi (dp_den true xs xl d 68 [.ref 1, .int v1, .int y5, .int (0 : Int32)] M3) (fun r7 M6 => dp_bi (dp_den true xs xl d 68 [.ref 1, .int v1, .int y5, .int (2 : Int32)] M6) (fun r9 M8 => if r9 = (3 : Int32) then (dp_bi (dp_den true xs xl d 242 [.ref 28, .int r7] M8) (fun r11 M10 => D_X11_work_90 xs xl d v1 y5 r7 r9 r11 M10)) else (D_X11_work_90 xs xl d v1 y5 r7 r9 (0 : Int32) M8)))))) else (dp_nk M3 0 (some (.inr 1, dp_new M3 0 0 6)))))) := by
  have hF := dp_den_grow (md := true) (xs := xs) (xl := xl) d
  unfold D_X11_work_0
  refine dp_s1 hF (i := .aload_n 0) rfl (fun _ => rfl) ?_
  refine dp_s1 hF (i := .iload_n 1) rfl (fun _ => rfl) ?_
  refine dp_si (mj := dp_m_X11_isBay) (i := .invokevirtual 134) rfl rfl (Or.inr rfl) rfl (fun _ => rfl) (fun r2 M1 => ?_)
  refine dp_s2 hF (i := .ifCond .ne 13) (a := (8, [some (.ref 0), some (.int v1), none, none, none, none], [], M1)) (b := (18, [some (.ref 0), some (.int v1), none, none, none, none], [], M1)) rfl (fun _ => rfl) ?_ ?_
  · exact dp_s0 hF (i := .new 141) rfl (fun _ => rfl)
  refine dp_s1 hF (i := .aload_n 0) rfl (fun _ => rfl) ?_
  refine dp_s1 hF (i := .getfield 18) rfl (fun _ => rfl) ?_
  refine dp_s1 hF (i := .iload_n 1) rfl (fun _ => rfl) ?_
  refine dp_si (mj := dp_m_X2_movesLeft) (i := .invokevirtual 203) rfl rfl (Or.inl rfl) rfl (fun _ => rfl) (fun r4 M3 => ?_)
  refine dp_s2 hF (i := .ifCond .gt 13) (a := (39, [some (.ref 0), some (.int v1), none, none, none, none], [], M3)) (b := (29, [some (.ref 0), some (.int v1), none, none, none, none], [], M3)) rfl (fun _ => rfl) ?_ ?_
  · refine dp_s1 hF (i := .aload_n 0) rfl (fun _ => rfl) ?_
    refine dp_s1 hF (i := .getfield 18) rfl (fun _ => rfl) ?_
    refine dp_s1 hF (i := .getfield 208) rfl (fun _ => rfl) ?_
    refine dp_s1 hF (i := .iload_n 1) rfl (fun _ => rfl) ?_
    refine dp_s3 hF (i := .iaload) rfl (fun _ => rfl) ?_
    refine dp_s1w (dp_I M3 26 (Int32.toNatClampNeg v1)) (fun (y5 : Int32) => (49, [some (.ref 0), some (.int v1), some (.int y5), none, none, none], [], M3)) hF (i := .istore_n 2) rfl (fun _ => rfl) (fun y5 => ?_)
    refine dp_s1 hF (i := .aload_n 0) rfl (fun _ => rfl) ?_
    refine dp_s1 hF (i := .getfield 18) rfl (fun _ => rfl) ?_
    refine dp_s1 hF (i := .iload_n 1) rfl (fun _ => rfl) ?_
    refine dp_s1 hF (i := .iload_n 2) rfl (fun _ => rfl) ?_
    refine dp_s1 hF (i := .iconst 0) rfl (fun _ => rfl) ?_
    refine dp_si (mj := dp_m_X2_plannedMove) (i := .invokevirtual 199) rfl rfl (Or.inl rfl) rfl (fun _ => rfl) (fun r7 M6 => ?_)
    refine dp_s1 hF (i := .istore_n 3) rfl (fun _ => rfl) ?_
    refine dp_s1 hF (i := .aload_n 0) rfl (fun _ => rfl) ?_
    refine dp_s1 hF (i := .getfield 18) rfl (fun _ => rfl) ?_
    refine dp_s1 hF (i := .iload_n 1) rfl (fun _ => rfl) ?_
    refine dp_s1 hF (i := .iload_n 2) rfl (fun _ => rfl) ?_
    refine dp_s1 hF (i := .iconst 2) rfl (fun _ => rfl) ?_
    refine dp_si (mj := dp_m_X2_plannedMove) (i := .invokevirtual 199) rfl rfl (Or.inl rfl) rfl (fun _ => rfl) (fun r9 M8 => ?_)
    refine dp_s1 hF (i := .istore 4) rfl (fun _ => rfl) ?_
    refine dp_s1 hF (i := .iload 4) rfl (fun _ => rfl) ?_
    refine dp_s1 hF (i := .iconst 3) rfl (fun _ => rfl) ?_
    refine dp_s2 hF (i := .if_icmp .ne 14) (a := (78, [some (.ref 0), some (.int v1), some (.int y5), some (.int r7), some (.int r9), none], [], M8)) (b := (89, [some (.ref 0), some (.int v1), some (.int y5), some (.int r7), some (.int r9), none], [], M8)) rfl (fun _ => rfl) ?_ ?_
    · refine dp_s1 hF (i := .aload_n 0) rfl (fun _ => rfl) ?_
      refine dp_s1 hF (i := .getfield 27) rfl (fun _ => rfl) ?_
      refine dp_s1 hF (i := .iload_n 3) rfl (fun _ => rfl) ?_
      refine dp_si (mj := dp_m_X10_bestRow) (i := .invokevirtual 211) rfl rfl (Or.inl rfl) rfl (fun _ => rfl) (fun r11 M10 => ?_)
      refine dp_s1 hF (i := .goto 4) rfl (fun _ => rfl) ?_
      exact rfl
    refine dp_s1 hF (i := .iconst 0) rfl (fun _ => rfl) ?_
    exact rfl
  exact dp_s0 hF (i := .new 167) rfl (fun _ => rfl)
set_option maxRecDepth 20000 in
theorem D_X11_work_90_eq (xs : Nat → Int32) (xl d : Nat) (v1 : Int32) (v2 : Int32) (v3 : Int32) (v4 : Int32) (vs0 : Int32) (M : dp_M) : D_X11_work_90 xs xl d v1 v2 v3 v4 vs0 M = if vs0 = (-1 : Int32) then (some (.inl (some (.int (-1 : Int32))), M)) else (dp_bv (dp_den true xs xl d 70 [.ref 1, .int v1] M) (fun M1 => if v4 = (3 : Int32) then (dp_bv (dp_den true xs xl d 246 [.ref 28, .int v3, .int vs0] M1) (fun M2 => dp_bi (dp_den true xs xl d 69 [.ref 1, .int v1] M2) (fun r4 M3 => some (.inl (some (.int r4)), M3)))) else (dp_bi (dp_den true xs xl d 69 [.ref 1, .int v1] M1) (fun r6 M5 => some (.inl (some (.int r6)), M5))))) := by
  have hF := dp_den_grow (md := true) (xs := xs) (xl := xl) d
  unfold D_X11_work_90
  refine dp_s1 hF (i := .istore 5) rfl (fun _ => rfl) ?_
  refine dp_s1 hF (i := .iload 5) rfl (fun _ => rfl) ?_
  refine dp_s1 hF (i := .iconst (-1)) rfl (fun _ => rfl) ?_
  refine dp_s2 hF (i := .if_icmp .ne 5) (a := (98, [some (.ref 0), some (.int v1), some (.int v2), some (.int v3), some (.int v4), some (.int vs0)], [], M)) (b := (100, [some (.ref 0), some (.int v1), some (.int v2), some (.int v3), some (.int v4), some (.int vs0)], [], M)) rfl (fun _ => rfl) ?_ ?_
  · refine dp_s1 hF (i := .iconst (-1)) rfl (fun _ => rfl) ?_
    exact dp_s0 hF (i := .ireturn) rfl (fun _ => rfl)
  refine dp_s1 hF (i := .aload_n 0) rfl (fun _ => rfl) ?_
  refine dp_s1 hF (i := .getfield 18) rfl (fun _ => rfl) ?_
  refine dp_s1 hF (i := .iload_n 1) rfl (fun _ => rfl) ?_
  refine dp_sv (mj := dp_m_X2_workNext) (i := .invokevirtual 214) rfl rfl rfl rfl (fun _ => rfl) (fun M1 => ?_)
  refine dp_s1 hF (i := .iload 4) rfl (fun _ => rfl) ?_
  refine dp_s1 hF (i := .iconst 3) rfl (fun _ => rfl) ?_
  refine dp_s2 hF (i := .if_icmp .ne 13) (a := (114, [some (.ref 0), some (.int v1), some (.int v2), some (.int v3), some (.int v4), some (.int vs0)], [], M1)) (b := (124, [some (.ref 0), some (.int v1), some (.int v2), some (.int v3), some (.int v4), some (.int vs0)], [], M1)) rfl (fun _ => rfl) ?_ ?_
  · refine dp_s1 hF (i := .aload_n 0) rfl (fun _ => rfl) ?_
    refine dp_s1 hF (i := .getfield 27) rfl (fun _ => rfl) ?_
    refine dp_s1 hF (i := .iload_n 3) rfl (fun _ => rfl) ?_
    refine dp_s1 hF (i := .iload 5) rfl (fun _ => rfl) ?_
    refine dp_sv (mj := dp_m_X10_bring) (i := .invokevirtual 218) rfl rfl rfl rfl (fun _ => rfl) (fun M2 => ?_)
    refine dp_s1 hF (i := .aload_n 0) rfl (fun _ => rfl) ?_
    refine dp_s1 hF (i := .getfield 18) rfl (fun _ => rfl) ?_
    refine dp_s1 hF (i := .iload_n 1) rfl (fun _ => rfl) ?_
    refine dp_si (mj := dp_m_X2_movesLeft) (i := .invokevirtual 203) rfl rfl (Or.inl rfl) rfl (fun _ => rfl) (fun r4 M3 => ?_)
    exact dp_s0 hF (i := .ireturn) rfl (fun _ => rfl)
  refine dp_s1 hF (i := .aload_n 0) rfl (fun _ => rfl) ?_
  refine dp_s1 hF (i := .getfield 18) rfl (fun _ => rfl) ?_
  refine dp_s1 hF (i := .iload_n 1) rfl (fun _ => rfl) ?_
  refine dp_si (mj := dp_m_X2_movesLeft) (i := .invokevirtual 203) rfl rfl (Or.inl rfl) rfl (fun _ => rfl) (fun r6 M5 => ?_)
  exact dp_s0 hF (i := .ireturn) rfl (fun _ => rfl)
noncomputable def D_X11_least_0 (xs : Nat → Int32) (xl d : Nat) (v1 : Int32) (M : dp_M) : Option dp_Res := dp_lim true xs xl (dp_den true xs xl d) dp_m_X11_least (0, [some (.ref 0), some (.int v1)], [], M)
theorem D_X11_least_0_den (xs : Nat → Int32) (xl d : Nat) (a0 : Int32) (M : dp_M) : dp_den true xs xl (d + 1) 269 [.ref 0, .int a0] M = D_X11_least_0 xs xl d a0 M := rfl
set_option maxRecDepth 20000 in
theorem D_X11_least_0_eq (xs : Nat → Int32) (xl d : Nat) (v1 : Int32) (M : dp_M) : D_X11_least_0 xs xl d v1 M = dp_bi (dp_den true xs xl d 252 [.ref 0, .int v1] M) (fun r2 M1 => if r2 = 0 then (dp_nk M1 0 (some (.inr 0, dp_new M1 0 0 6))) else (dp_bi (dp_den true xs xl d 71 [.ref 1, .int v1] M1) (fun r4 M3 => some (.inl (some (.int r4)), M3)))) := by
  have hF := dp_den_grow (md := true) (xs := xs) (xl := xl) d
  unfold D_X11_least_0
  refine dp_s1 hF (i := .aload_n 0) rfl (fun _ => rfl) ?_
  refine dp_s1 hF (i := .iload_n 1) rfl (fun _ => rfl) ?_
  refine dp_si (mj := dp_m_X11_isBay) (i := .invokevirtual 134) rfl rfl (Or.inr rfl) rfl (fun _ => rfl) (fun r2 M1 => ?_)
  refine dp_s2 hF (i := .ifCond .ne 13) (a := (8, [some (.ref 0), some (.int v1)], [], M1)) (b := (18, [some (.ref 0), some (.int v1)], [], M1)) rfl (fun _ => rfl) ?_ ?_
  · exact dp_s0 hF (i := .new 141) rfl (fun _ => rfl)
  refine dp_s1 hF (i := .aload_n 0) rfl (fun _ => rfl) ?_
  refine dp_s1 hF (i := .getfield 18) rfl (fun _ => rfl) ?_
  refine dp_s1 hF (i := .iload_n 1) rfl (fun _ => rfl) ?_
  refine dp_si (mj := dp_m_X2_boundOf) (i := .invokevirtual 221) rfl rfl (Or.inl rfl) rfl (fun _ => rfl) (fun r4 M3 => ?_)
  exact dp_s0 hF (i := .ireturn) rfl (fun _ => rfl)
noncomputable def D_X11_swap_0 (xs : Nat → Int32) (xl d : Nat) (v1 : Int32) (v2 : Int32) (M : dp_M) : Option dp_Res := dp_lim true xs xl (dp_den true xs xl d) dp_m_X11_swap (0, [some (.ref 0), some (.int v1), some (.int v2)], [], M)
theorem D_X11_swap_0_den (xs : Nat → Int32) (xl d : Nat) (a0 : Int32) (a1 : Int32) (M : dp_M) : dp_den true xs xl (d + 1) 270 [.ref 0, .int a0, .int a1] M = D_X11_swap_0 xs xl d a0 a1 M := rfl
set_option maxRecDepth 20000 in
theorem D_X11_swap_0_eq (xs : Nat → Int32) (xl d : Nat) (v1 : Int32) (v2 : Int32) (M : dp_M) : D_X11_swap_0 xs xl d v1 v2 M = dp_bi (dp_den true xs xl d 253 [.ref 0, .int v1] M) (fun r2 M1 => if r2 = 0 then (dp_nk M1 0 (some (.inr 0, dp_new M1 0 0 6))) else (dp_bi (dp_den true xs xl d 253 [.ref 0, .int v2] M1) (fun r4 M3 => if r4 = 0 then (dp_nk M3 0 (some (.inr 0, dp_new M3 0 0 6))) else (dp_bi (dp_den true xs xl d 75 [.ref 1, .int v1, .int v2] M3) (fun r6 M5 => if r6 = 0 then (some (.inl (some (.int (0 : Int32))), M5)) else (some (.inl (some (.int (1 : Int32))), M5))))))) := by
  have hF := dp_den_grow (md := true) (xs := xs) (xl := xl) d
  unfold D_X11_swap_0
  refine dp_s1 hF (i := .aload_n 0) rfl (fun _ => rfl) ?_
  refine dp_s1 hF (i := .iload_n 1) rfl (fun _ => rfl) ?_
  refine dp_si (mj := dp_m_X11_isBox) (i := .invokevirtual 176) rfl rfl (Or.inr rfl) rfl (fun _ => rfl) (fun r2 M1 => ?_)
  refine dp_s2 hF (i := .ifCond .eq 11) (a := (16, [some (.ref 0), some (.int v1), some (.int v2)], [], M1)) (b := (8, [some (.ref 0), some (.int v1), some (.int v2)], [], M1)) rfl (fun _ => rfl) ?_ ?_
  · exact dp_s0 hF (i := .new 141) rfl (fun _ => rfl)
  refine dp_s1 hF (i := .aload_n 0) rfl (fun _ => rfl) ?_
  refine dp_s1 hF (i := .iload_n 2) rfl (fun _ => rfl) ?_
  refine dp_si (mj := dp_m_X11_isBox) (i := .invokevirtual 176) rfl rfl (Or.inr rfl) rfl (fun _ => rfl) (fun r4 M3 => ?_)
  refine dp_s2 hF (i := .ifCond .ne 13) (a := (16, [some (.ref 0), some (.int v1), some (.int v2)], [], M3)) (b := (26, [some (.ref 0), some (.int v1), some (.int v2)], [], M3)) rfl (fun _ => rfl) ?_ ?_
  · exact dp_s0 hF (i := .new 141) rfl (fun _ => rfl)
  refine dp_s1 hF (i := .aload_n 0) rfl (fun _ => rfl) ?_
  refine dp_s1 hF (i := .getfield 18) rfl (fun _ => rfl) ?_
  refine dp_s1 hF (i := .iload_n 1) rfl (fun _ => rfl) ?_
  refine dp_s1 hF (i := .iload_n 2) rfl (fun _ => rfl) ?_
  refine dp_si (mj := dp_m_X2_exchange) (i := .invokevirtual 224) rfl rfl (Or.inr rfl) rfl (fun _ => rfl) (fun r6 M5 => ?_)
  refine dp_s2 hF (i := .ifCond .eq 7) (a := (42, [some (.ref 0), some (.int v1), some (.int v2)], [], M5)) (b := (38, [some (.ref 0), some (.int v1), some (.int v2)], [], M5)) rfl (fun _ => rfl) ?_ ?_
  · refine dp_s1 hF (i := .iconst 0) rfl (fun _ => rfl) ?_
    exact dp_s0 hF (i := .ireturn) rfl (fun _ => rfl)
  refine dp_s1 hF (i := .iconst 1) rfl (fun _ => rfl) ?_
  refine dp_s1 hF (i := .goto 4) rfl (fun _ => rfl) ?_
  exact dp_s0 hF (i := .ireturn) rfl (fun _ => rfl)
noncomputable def D_X11_aboard_0 (xs : Nat → Int32) (xl d : Nat) (v1 : Int32) (v2 : Int32) (M : dp_M) : Option dp_Res := dp_lim true xs xl (dp_den true xs xl d) dp_m_X11_aboard (0, [some (.ref 0), some (.int v1), some (.int v2)], [], M)
theorem D_X11_aboard_0_den (xs : Nat → Int32) (xl d : Nat) (a0 : Int32) (a1 : Int32) (M : dp_M) : dp_den true xs xl (d + 1) 271 [.ref 0, .int a0, .int a1] M = D_X11_aboard_0 xs xl d a0 a1 M := rfl
set_option maxRecDepth 20000 in
theorem D_X11_aboard_0_eq (xs : Nat → Int32) (xl d : Nat) (v1 : Int32) (v2 : Int32) (M : dp_M) : D_X11_aboard_0 xs xl d v1 v2 M = dp_bi (dp_den true xs xl d 253 [.ref 0, .int v1] M) (fun r2 M1 => if r2 = 0 then (dp_nk M1 0 (some (.inr 2, dp_new M1 0 0 6))) else (dp_bi (dp_den true xs xl d 251 [.long (Int32.toInt64 v2), .long (0 : Int64), .long (3 : Int64)] M1) (fun r4 M3 => if r4 = 0 then (dp_nk M3 0 (some (.inr 2, dp_new M3 0 0 6))) else (if v2 = (0 : Int32) then (if v1 < 0 ∨ 100 ≤ Int32.toNatClampNeg v1 then none else (some (.inl (some (.int (dp_I M3 2 (Int32.toNatClampNeg v1)))), M3))) else if v2 = (1 : Int32) then (if v1 < 0 ∨ 100 ≤ Int32.toNatClampNeg v1 then none else (some (.inl (some (.int (dp_I M3 8 (Int32.toNatClampNeg v1)))), M3))) else if v2 = (2 : Int32) then (if v1 < 0 ∨ 100 ≤ Int32.toNatClampNeg v1 then none else (some (.inl (some (.int (dp_I M3 9 (Int32.toNatClampNeg v1)))), M3))) else (if v1 < 0 ∨ 100 ≤ Int32.toNatClampNeg v1 then none else (some (.inl (some (.int (dp_I M3 10 (Int32.toNatClampNeg v1)))), M3))))))) := by
  have hF := dp_den_grow (md := true) (xs := xs) (xl := xl) d
  unfold D_X11_aboard_0
  refine dp_s1 hF (i := .aload_n 0) rfl (fun _ => rfl) ?_
  refine dp_s1 hF (i := .iload_n 1) rfl (fun _ => rfl) ?_
  refine dp_si (mj := dp_m_X11_isBox) (i := .invokevirtual 176) rfl rfl (Or.inr rfl) rfl (fun _ => rfl) (fun r2 M1 => ?_)
  refine dp_s2 hF (i := .ifCond .eq 15) (a := (20, [some (.ref 0), some (.int v1), some (.int v2)], [], M1)) (b := (8, [some (.ref 0), some (.int v1), some (.int v2)], [], M1)) rfl (fun _ => rfl) ?_ ?_
  · exact dp_s0 hF (i := .new 194) rfl (fun _ => rfl)
  refine dp_s1 hF (i := .iload_n 2) rfl (fun _ => rfl) ?_
  refine dp_s1 hF (i := .i2l) rfl (fun _ => rfl) ?_
  refine dp_s1 hF (i := .lconst 0) rfl (fun _ => rfl) ?_
  refine dp_s1 hF (i := .ldc2_w 192) rfl (fun _ => rfl) ?_
  refine dp_si (mj := dp_m_X11_within) (i := .invokestatic 96) rfl rfl (Or.inr rfl) rfl (fun _ => rfl) (fun r4 M3 => ?_)
  refine dp_s2 hF (i := .ifCond .ne 13) (a := (20, [some (.ref 0), some (.int v1), some (.int v2)], [], M3)) (b := (30, [some (.ref 0), some (.int v1), some (.int v2)], [], M3)) rfl (fun _ => rfl) ?_ ?_
  · exact dp_s0 hF (i := .new 194) rfl (fun _ => rfl)
  refine dp_s1 hF (i := .iload_n 2) rfl (fun _ => rfl) ?_
  refine (dp_s (E := fun k => if v2 = (0 : Int32) then k (56, [some (.ref 0), some (.int v1), some (.int v2)], [], M3) else if v2 = (1 : Int32) then k (66, [some (.ref 0), some (.int v1), some (.int v2)], [], M3) else if v2 = (2 : Int32) then k (76, [some (.ref 0), some (.int v1), some (.int v2)], [], M3) else k (86, [some (.ref 0), some (.int v1), some (.int v2)], [], M3)) hF (i := .tableswitch 55 0 2 #[25, 35, 45]) rfl (fun _ => rfl)).trans ?_
  refine dp_ifc ?_ ?_
  · refine dp_s1 hF (i := .aload_n 0) rfl (fun _ => rfl) ?_
    refine dp_s1 hF (i := .getfield 18) rfl (fun _ => rfl) ?_
    refine dp_s1 hF (i := .getfield 227) rfl (fun _ => rfl) ?_
    refine dp_s1 hF (i := .iload_n 1) rfl (fun _ => rfl) ?_
    refine dp_s3 hF (i := .iaload) rfl (fun _ => rfl) ?_
    exact dp_s0 hF (i := .ireturn) rfl (fun _ => rfl)
  refine dp_ifc ?_ ?_
  · refine dp_s1 hF (i := .aload_n 0) rfl (fun _ => rfl) ?_
    refine dp_s1 hF (i := .getfield 18) rfl (fun _ => rfl) ?_
    refine dp_s1 hF (i := .getfield 230) rfl (fun _ => rfl) ?_
    refine dp_s1 hF (i := .iload_n 1) rfl (fun _ => rfl) ?_
    refine dp_s3 hF (i := .iaload) rfl (fun _ => rfl) ?_
    exact dp_s0 hF (i := .ireturn) rfl (fun _ => rfl)
  refine dp_ifc ?_ ?_
  · refine dp_s1 hF (i := .aload_n 0) rfl (fun _ => rfl) ?_
    refine dp_s1 hF (i := .getfield 18) rfl (fun _ => rfl) ?_
    refine dp_s1 hF (i := .getfield 233) rfl (fun _ => rfl) ?_
    refine dp_s1 hF (i := .iload_n 1) rfl (fun _ => rfl) ?_
    refine dp_s3 hF (i := .iaload) rfl (fun _ => rfl) ?_
    exact dp_s0 hF (i := .ireturn) rfl (fun _ => rfl)
  refine dp_s1 hF (i := .aload_n 0) rfl (fun _ => rfl) ?_
  refine dp_s1 hF (i := .getfield 18) rfl (fun _ => rfl) ?_
  refine dp_s1 hF (i := .getfield 236) rfl (fun _ => rfl) ?_
  refine dp_s1 hF (i := .iload_n 1) rfl (fun _ => rfl) ?_
  refine dp_s3 hF (i := .iaload) rfl (fun _ => rfl) ?_
  exact dp_s0 hF (i := .ireturn) rfl (fun _ => rfl)
noncomputable def D_X11_ground_0 (xs : Nat → Int32) (xl d : Nat) (v1 : Int32) (v2 : Int32) (M : dp_M) : Option dp_Res := dp_lim true xs xl (dp_den true xs xl d) dp_m_X11_ground (0, [some (.ref 0), some (.int v1), some (.int v2)], [], M)
theorem D_X11_ground_0_den (xs : Nat → Int32) (xl d : Nat) (a0 : Int32) (a1 : Int32) (M : dp_M) : dp_den true xs xl (d + 1) 272 [.ref 0, .int a0, .int a1] M = D_X11_ground_0 xs xl d a0 a1 M := rfl
set_option maxRecDepth 20000 in
theorem D_X11_ground_0_eq (xs : Nat → Int32) (xl d : Nat) (v1 : Int32) (v2 : Int32) (M : dp_M) : D_X11_ground_0 xs xl d v1 v2 M = dp_bi (dp_den true xs xl d 254 [.ref 0, .int v1] M) (fun r2 M1 => if r2 = 0 then (some (.inl (some (.int (0 : Int32))), M1)) else (dp_bi (dp_den true xs xl d 251 [.long (Int32.toInt64 v2), .long (0 : Int64), .long (2 : Int64)] M1) (fun r4 M3 => if r4 = 0 then (some (.inl (some (.int (0 : Int32))), M3)) else (if v1 < 0 ∨ dp_len M3 33 ≤ Int32.toNatClampNeg v1 then none else (if (dp_I M3 33 (Int32.toNatClampNeg v1)) ≤ 0 then (if v1 < 0 ∨ dp_len M3 34 ≤ Int32.toNatClampNeg v1 then none else dp_w (dp_setI M3 34 (Int32.toNatClampNeg v1) v2) (fun M5 => some (.inl (some (.int (1 : Int32))), M5))) else (some (.inl (some (.int (0 : Int32))), M3))))))) := by
  have hF := dp_den_grow (md := true) (xs := xs) (xl := xl) d
  unfold D_X11_ground_0
  refine dp_s1 hF (i := .aload_n 0) rfl (fun _ => rfl) ?_
  refine dp_s1 hF (i := .iload_n 1) rfl (fun _ => rfl) ?_
  refine dp_si (mj := dp_m_X11_isYardRow) (i := .invokevirtual 239) rfl rfl (Or.inr rfl) rfl (fun _ => rfl) (fun r2 M1 => ?_)
  refine dp_s2 hF (i := .ifCond .eq 27) (a := (32, [some (.ref 0), some (.int v1), some (.int v2)], [], M1)) (b := (8, [some (.ref 0), some (.int v1), some (.int v2)], [], M1)) rfl (fun _ => rfl) ?_ ?_
  · refine dp_s1 hF (i := .iconst 0) rfl (fun _ => rfl) ?_
    exact dp_s0 hF (i := .ireturn) rfl (fun _ => rfl)
  refine dp_s1 hF (i := .iload_n 2) rfl (fun _ => rfl) ?_
  refine dp_s1 hF (i := .i2l) rfl (fun _ => rfl) ?_
  refine dp_s1 hF (i := .lconst 0) rfl (fun _ => rfl) ?_
  refine dp_s1 hF (i := .ldc2_w 137) rfl (fun _ => rfl) ?_
  refine dp_si (mj := dp_m_X11_within) (i := .invokestatic 96) rfl rfl (Or.inr rfl) rfl (fun _ => rfl) (fun r4 M3 => ?_)
  refine dp_s2 hF (i := .ifCond .eq 15) (a := (32, [some (.ref 0), some (.int v1), some (.int v2)], [], M3)) (b := (20, [some (.ref 0), some (.int v1), some (.int v2)], [], M3)) rfl (fun _ => rfl) ?_ ?_
  · refine dp_s1 hF (i := .iconst 0) rfl (fun _ => rfl) ?_
    exact dp_s0 hF (i := .ireturn) rfl (fun _ => rfl)
  refine dp_s1 hF (i := .aload_n 0) rfl (fun _ => rfl) ?_
  refine dp_s1 hF (i := .getfield 27) rfl (fun _ => rfl) ?_
  refine dp_s1 hF (i := .getfield 242) rfl (fun _ => rfl) ?_
  refine dp_s1 hF (i := .iload_n 1) rfl (fun _ => rfl) ?_
  refine dp_s3 hF (i := .iaload) rfl (fun _ => rfl) ?_
  refine dp_s2 hF (i := .ifCond .le 5) (a := (34, [some (.ref 0), some (.int v1), some (.int v2)], [], M3)) (b := (32, [some (.ref 0), some (.int v1), some (.int v2)], [], M3)) rfl (fun _ => rfl) ?_ ?_
  · refine dp_s1 hF (i := .aload_n 0) rfl (fun _ => rfl) ?_
    refine dp_s1 hF (i := .getfield 27) rfl (fun _ => rfl) ?_
    refine dp_s1 hF (i := .getfield 245) rfl (fun _ => rfl) ?_
    refine dp_s1 hF (i := .iload_n 1) rfl (fun _ => rfl) ?_
    refine dp_s1 hF (i := .iload_n 2) rfl (fun _ => rfl) ?_
    refine dp_s3w (dp_setI M3 34 (Int32.toNatClampNeg v1) v2) (fun (M5 : dp_M) => (44, [some (.ref 0), some (.int v1), some (.int v2)], [], M5)) hF (i := .iastore) rfl (fun _ => rfl) (fun M5 => ?_)
    refine dp_s1 hF (i := .iconst 1) rfl (fun _ => rfl) ?_
    exact dp_s0 hF (i := .ireturn) rfl (fun _ => rfl)
  refine dp_s1 hF (i := .iconst 0) rfl (fun _ => rfl) ?_
  exact dp_s0 hF (i := .ireturn) rfl (fun _ => rfl)
noncomputable def D_X11_reserve_0 (xs : Nat → Int32) (xl d : Nat) (v1 : Int32) (v2 : Int32) (M : dp_M) : Option dp_Res := dp_lim true xs xl (dp_den true xs xl d) dp_m_X11_reserve (0, [some (.ref 0), some (.int v1), some (.int v2)], [], M)
theorem D_X11_reserve_0_den (xs : Nat → Int32) (xl d : Nat) (a0 : Int32) (a1 : Int32) (M : dp_M) : dp_den true xs xl (d + 1) 273 [.ref 0, .int a0, .int a1] M = D_X11_reserve_0 xs xl d a0 a1 M := rfl
set_option maxRecDepth 20000 in
theorem D_X11_reserve_0_eq (xs : Nat → Int32) (xl d : Nat) (v1 : Int32) (v2 : Int32) (M : dp_M) : D_X11_reserve_0 xs xl d v1 v2 M = dp_bi (dp_den true xs xl d 254 [.ref 0, .int v1] M) (fun r2 M1 => if r2 = 0 then (some (.inl (some (.int (0 : Int32))), M1)) else (dp_bi (dp_den true xs xl d 251 [.long (Int32.toInt64 v2), .long (0 : Int64), .long (9 : Int64)] M1) (fun r4 M3 => if r4 = 0 then (some (.inl (some (.int (0 : Int32))), M3)) else (if v2 = 0 then (if v1 < 0 ∨ dp_len M3 35 ≤ Int32.toNatClampNeg v1 then none else dp_w (dp_setI M3 35 (Int32.toNatClampNeg v1) v2) (fun M5 => some (.inl (some (.int (1 : Int32))), M5))) else (dp_bi (dp_den true xs xl d 231 [.ref 28, .int v1, .int v2] M3) (fun r7 M6 => if r7 = 0 then (if v1 < 0 ∨ dp_len M6 35 ≤ Int32.toNatClampNeg v1 then none else dp_w (dp_setI M6 35 (Int32.toNatClampNeg v1) v2) (fun M8 => some (.inl (some (.int (1 : Int32))), M8))) else (some (.inl (some (.int (0 : Int32))), M6)))))))) := by
  have hF := dp_den_grow (md := true) (xs := xs) (xl := xl) d
  unfold D_X11_reserve_0
  refine dp_s1 hF (i := .aload_n 0) rfl (fun _ => rfl) ?_
  refine dp_s1 hF (i := .iload_n 1) rfl (fun _ => rfl) ?_
  refine dp_si (mj := dp_m_X11_isYardRow) (i := .invokevirtual 239) rfl rfl (Or.inr rfl) rfl (fun _ => rfl) (fun r2 M1 => ?_)
  refine dp_s2 hF (i := .ifCond .eq 31) (a := (36, [some (.ref 0), some (.int v1), some (.int v2)], [], M1)) (b := (8, [some (.ref 0), some (.int v1), some (.int v2)], [], M1)) rfl (fun _ => rfl) ?_ ?_
  · refine dp_s1 hF (i := .iconst 0) rfl (fun _ => rfl) ?_
    exact dp_s0 hF (i := .ireturn) rfl (fun _ => rfl)
  refine dp_s1 hF (i := .iload_n 2) rfl (fun _ => rfl) ?_
  refine dp_s1 hF (i := .i2l) rfl (fun _ => rfl) ?_
  refine dp_s1 hF (i := .lconst 0) rfl (fun _ => rfl) ?_
  refine dp_s1 hF (i := .ldc2_w 154) rfl (fun _ => rfl) ?_
  refine dp_si (mj := dp_m_X11_within) (i := .invokestatic 96) rfl rfl (Or.inr rfl) rfl (fun _ => rfl) (fun r4 M3 => ?_)
  refine dp_s2 hF (i := .ifCond .eq 19) (a := (36, [some (.ref 0), some (.int v1), some (.int v2)], [], M3)) (b := (20, [some (.ref 0), some (.int v1), some (.int v2)], [], M3)) rfl (fun _ => rfl) ?_ ?_
  · refine dp_s1 hF (i := .iconst 0) rfl (fun _ => rfl) ?_
    exact dp_s0 hF (i := .ireturn) rfl (fun _ => rfl)
  refine dp_s1 hF (i := .iload_n 2) rfl (fun _ => rfl) ?_
  refine dp_s2 hF (i := .ifCond .eq 17) (a := (38, [some (.ref 0), some (.int v1), some (.int v2)], [], M3)) (b := (24, [some (.ref 0), some (.int v1), some (.int v2)], [], M3)) rfl (fun _ => rfl) ?_ ?_
  · refine dp_s1 hF (i := .aload_n 0) rfl (fun _ => rfl) ?_
    refine dp_s1 hF (i := .getfield 27) rfl (fun _ => rfl) ?_
    refine dp_s1 hF (i := .getfield 251) rfl (fun _ => rfl) ?_
    refine dp_s1 hF (i := .iload_n 1) rfl (fun _ => rfl) ?_
    refine dp_s1 hF (i := .iload_n 2) rfl (fun _ => rfl) ?_
    refine dp_s3w (dp_setI M3 35 (Int32.toNatClampNeg v1) v2) (fun (M5 : dp_M) => (48, [some (.ref 0), some (.int v1), some (.int v2)], [], M5)) hF (i := .iastore) rfl (fun _ => rfl) (fun M5 => ?_)
    refine dp_s1 hF (i := .iconst 1) rfl (fun _ => rfl) ?_
    exact dp_s0 hF (i := .ireturn) rfl (fun _ => rfl)
  refine dp_s1 hF (i := .aload_n 0) rfl (fun _ => rfl) ?_
  refine dp_s1 hF (i := .getfield 27) rfl (fun _ => rfl) ?_
  refine dp_s1 hF (i := .iload_n 1) rfl (fun _ => rfl) ?_
  refine dp_s1 hF (i := .iload_n 2) rfl (fun _ => rfl) ?_
  refine dp_si (mj := dp_m_X10_hasOtherShip) (i := .invokevirtual 248) rfl rfl (Or.inr rfl) rfl (fun _ => rfl) (fun r7 M6 => ?_)
  refine dp_s2 hF (i := .ifCond .eq 5) (a := (38, [some (.ref 0), some (.int v1), some (.int v2)], [], M6)) (b := (36, [some (.ref 0), some (.int v1), some (.int v2)], [], M6)) rfl (fun _ => rfl) ?_ ?_
  · refine dp_s1 hF (i := .aload_n 0) rfl (fun _ => rfl) ?_
    refine dp_s1 hF (i := .getfield 27) rfl (fun _ => rfl) ?_
    refine dp_s1 hF (i := .getfield 251) rfl (fun _ => rfl) ?_
    refine dp_s1 hF (i := .iload_n 1) rfl (fun _ => rfl) ?_
    refine dp_s1 hF (i := .iload_n 2) rfl (fun _ => rfl) ?_
    refine dp_s3w (dp_setI M6 35 (Int32.toNatClampNeg v1) v2) (fun (M8 : dp_M) => (48, [some (.ref 0), some (.int v1), some (.int v2)], [], M8)) hF (i := .iastore) rfl (fun _ => rfl) (fun M8 => ?_)
    refine dp_s1 hF (i := .iconst 1) rfl (fun _ => rfl) ?_
    exact dp_s0 hF (i := .ireturn) rfl (fun _ => rfl)
  refine dp_s1 hF (i := .iconst 0) rfl (fun _ => rfl) ?_
  exact dp_s0 hF (i := .ireturn) rfl (fun _ => rfl)
noncomputable def D_X11_put_0 (xs : Nat → Int32) (xl d : Nat) (v1 : Int32) (v2 : Int32) (M : dp_M) : Option dp_Res := dp_lim true xs xl (dp_den true xs xl d) dp_m_X11_put (0, [some (.ref 0), some (.int v1), some (.int v2), none], [], M)
theorem D_X11_put_0_den (xs : Nat → Int32) (xl d : Nat) (a0 : Int32) (a1 : Int32) (M : dp_M) : dp_den true xs xl (d + 1) 274 [.ref 0, .int a0, .int a1] M = D_X11_put_0 xs xl d a0 a1 M := rfl
set_option maxRecDepth 20000 in
theorem D_X11_put_0_eq (xs : Nat → Int32) (xl d : Nat) (v1 : Int32) (v2 : Int32) (M : dp_M) : D_X11_put_0 xs xl d v1 v2 M = dp_bi (dp_den true xs xl d 253 [.ref 0, .int v1] M) (fun r2 M1 => if r2 = 0 then (dp_nk M1 0 (some (.inr 2, dp_new M1 0 0 6))) else (dp_bi (dp_den true xs xl d 254 [.ref 0, .int v2] M1) (fun r4 M3 => if r4 = 0 then (dp_nk M3 0 (some (.inr 2, dp_new M3 0 0 6))) else (dp_bi (dp_den true xs xl d 238 [.ref 28, .int v1, .int v2] M3) (fun r6 M5 => if r6 = 0 then (dp_bv (dp_den true xs xl d 246 [.ref 28, .int v1, .int v2] M5) (fun M7 => some (.inl (some (.int (1 : Int32))), M7))) else (some (.inl (some (.int (-r6))), M5))))))) := by
  have hF := dp_den_grow (md := true) (xs := xs) (xl := xl) d
  unfold D_X11_put_0
  refine dp_s1 hF (i := .aload_n 0) rfl (fun _ => rfl) ?_
  refine dp_s1 hF (i := .iload_n 1) rfl (fun _ => rfl) ?_
  refine dp_si (mj := dp_m_X11_isBox) (i := .invokevirtual 176) rfl rfl (Or.inr rfl) rfl (fun _ => rfl) (fun r2 M1 => ?_)
  refine dp_s2 hF (i := .ifCond .eq 11) (a := (16, [some (.ref 0), some (.int v1), some (.int v2), none], [], M1)) (b := (8, [some (.ref 0), some (.int v1), some (.int v2), none], [], M1)) rfl (fun _ => rfl) ?_ ?_
  · exact dp_s0 hF (i := .new 194) rfl (fun _ => rfl)
  refine dp_s1 hF (i := .aload_n 0) rfl (fun _ => rfl) ?_
  refine dp_s1 hF (i := .iload_n 2) rfl (fun _ => rfl) ?_
  refine dp_si (mj := dp_m_X11_isYardRow) (i := .invokevirtual 239) rfl rfl (Or.inr rfl) rfl (fun _ => rfl) (fun r4 M3 => ?_)
  refine dp_s2 hF (i := .ifCond .ne 13) (a := (16, [some (.ref 0), some (.int v1), some (.int v2), none], [], M3)) (b := (26, [some (.ref 0), some (.int v1), some (.int v2), none], [], M3)) rfl (fun _ => rfl) ?_ ?_
  · exact dp_s0 hF (i := .new 194) rfl (fun _ => rfl)
  refine dp_s1 hF (i := .aload_n 0) rfl (fun _ => rfl) ?_
  refine dp_s1 hF (i := .getfield 27) rfl (fun _ => rfl) ?_
  refine dp_s1 hF (i := .iload_n 1) rfl (fun _ => rfl) ?_
  refine dp_s1 hF (i := .iload_n 2) rfl (fun _ => rfl) ?_
  refine dp_si (mj := dp_m_X10_brokenByPut) (i := .invokevirtual 256) rfl rfl (Or.inl rfl) rfl (fun _ => rfl) (fun r6 M5 => ?_)
  refine dp_s1 hF (i := .istore_n 3) rfl (fun _ => rfl) ?_
  refine dp_s1 hF (i := .iload_n 3) rfl (fun _ => rfl) ?_
  refine dp_s2 hF (i := .ifCond .eq 6) (a := (43, [some (.ref 0), some (.int v1), some (.int v2), some (.int r6)], [], M5)) (b := (40, [some (.ref 0), some (.int v1), some (.int v2), some (.int r6)], [], M5)) rfl (fun _ => rfl) ?_ ?_
  · refine dp_s1 hF (i := .aload_n 0) rfl (fun _ => rfl) ?_
    refine dp_s1 hF (i := .getfield 27) rfl (fun _ => rfl) ?_
    refine dp_s1 hF (i := .iload_n 1) rfl (fun _ => rfl) ?_
    refine dp_s1 hF (i := .iload_n 2) rfl (fun _ => rfl) ?_
    refine dp_sv (mj := dp_m_X10_bring) (i := .invokevirtual 218) rfl rfl rfl rfl (fun _ => rfl) (fun M7 => ?_)
    refine dp_s1 hF (i := .iconst 1) rfl (fun _ => rfl) ?_
    exact dp_s0 hF (i := .ireturn) rfl (fun _ => rfl)
  refine dp_s1 hF (i := .iload_n 3) rfl (fun _ => rfl) ?_
  refine dp_s1 hF (i := .ineg) rfl (fun _ => rfl) ?_
  exact dp_s0 hF (i := .ireturn) rfl (fun _ => rfl)
noncomputable def D_X11_take_0 (xs : Nat → Int32) (xl d : Nat) (v1 : Int32) (M : dp_M) : Option dp_Res := dp_lim true xs xl (dp_den true xs xl d) dp_m_X11_take (0, [some (.ref 0), some (.int v1)], [], M)
theorem D_X11_take_0_den (xs : Nat → Int32) (xl d : Nat) (a0 : Int32) (M : dp_M) : dp_den true xs xl (d + 1) 275 [.ref 0, .int a0] M = D_X11_take_0 xs xl d a0 M := rfl
set_option maxRecDepth 20000 in
theorem D_X11_take_0_eq (xs : Nat → Int32) (xl d : Nat) (v1 : Int32) (M : dp_M) : D_X11_take_0 xs xl d v1 M = dp_bi (dp_den true xs xl d 253 [.ref 0, .int v1] M) (fun r2 M1 => if r2 = 0 then (dp_nk M1 0 (some (.inr 2, dp_new M1 0 0 6))) else (dp_bi (dp_den true xs xl d 228 [.ref 28, .int v1] M1) (fun r4 M3 => if r4 = 0 then (some (.inl (some (.int (0 : Int32))), M3)) else (dp_bv (dp_den true xs xl d 246 [.ref 28, .int v1, .int (-1 : Int32)] M3) (fun M5 => some (.inl (some (.int (1 : Int32))), M5)))))) := by
  have hF := dp_den_grow (md := true) (xs := xs) (xl := xl) d
  unfold D_X11_take_0
  refine dp_s1 hF (i := .aload_n 0) rfl (fun _ => rfl) ?_
  refine dp_s1 hF (i := .iload_n 1) rfl (fun _ => rfl) ?_
  refine dp_si (mj := dp_m_X11_isBox) (i := .invokevirtual 176) rfl rfl (Or.inr rfl) rfl (fun _ => rfl) (fun r2 M1 => ?_)
  refine dp_s2 hF (i := .ifCond .ne 13) (a := (8, [some (.ref 0), some (.int v1)], [], M1)) (b := (18, [some (.ref 0), some (.int v1)], [], M1)) rfl (fun _ => rfl) ?_ ?_
  · exact dp_s0 hF (i := .new 194) rfl (fun _ => rfl)
  refine dp_s1 hF (i := .aload_n 0) rfl (fun _ => rfl) ?_
  refine dp_s1 hF (i := .getfield 27) rfl (fun _ => rfl) ?_
  refine dp_s1 hF (i := .iload_n 1) rfl (fun _ => rfl) ?_
  refine dp_si (mj := dp_m_X10_isOnTop) (i := .invokevirtual 259) rfl rfl (Or.inr rfl) rfl (fun _ => rfl) (fun r4 M3 => ?_)
  refine dp_s2 hF (i := .ifCond .ne 5) (a := (29, [some (.ref 0), some (.int v1)], [], M3)) (b := (31, [some (.ref 0), some (.int v1)], [], M3)) rfl (fun _ => rfl) ?_ ?_
  · refine dp_s1 hF (i := .iconst 0) rfl (fun _ => rfl) ?_
    exact dp_s0 hF (i := .ireturn) rfl (fun _ => rfl)
  refine dp_s1 hF (i := .aload_n 0) rfl (fun _ => rfl) ?_
  refine dp_s1 hF (i := .getfield 27) rfl (fun _ => rfl) ?_
  refine dp_s1 hF (i := .iload_n 1) rfl (fun _ => rfl) ?_
  refine dp_s1 hF (i := .iconst (-1)) rfl (fun _ => rfl) ?_
  refine dp_sv (mj := dp_m_X10_bring) (i := .invokevirtual 218) rfl rfl rfl rfl (fun _ => rfl) (fun M5 => ?_)
  refine dp_s1 hF (i := .iconst 1) rfl (fun _ => rfl) ?_
  exact dp_s0 hF (i := .ireturn) rfl (fun _ => rfl)
noncomputable def D_X11_shift_0 (xs : Nat → Int32) (xl d : Nat) (v1 : Int32) (v2 : Int32) (M : dp_M) : Option dp_Res := dp_lim true xs xl (dp_den true xs xl d) dp_m_X11_shift (0, [some (.ref 0), some (.int v1), some (.int v2), none], [], M)
theorem D_X11_shift_0_den (xs : Nat → Int32) (xl d : Nat) (a0 : Int32) (a1 : Int32) (M : dp_M) : dp_den true xs xl (d + 1) 276 [.ref 0, .int a0, .int a1] M = D_X11_shift_0 xs xl d a0 a1 M := rfl
set_option maxRecDepth 20000 in
theorem D_X11_shift_0_eq (xs : Nat → Int32) (xl d : Nat) (v1 : Int32) (v2 : Int32) (M : dp_M) : D_X11_shift_0 xs xl d v1 v2 M = dp_bi (dp_den true xs xl d 253 [.ref 0, .int v1] M) (fun r2 M1 => if r2 = 0 then (dp_nk M1 0 (some (.inr 2, dp_new M1 0 0 6))) else (dp_bi (dp_den true xs xl d 254 [.ref 0, .int v2] M1) (fun r4 M3 => if r4 = 0 then (dp_nk M3 0 (some (.inr 2, dp_new M3 0 0 6))) else (dp_bi (dp_den true xs xl d 228 [.ref 28, .int v1] M3) (fun r6 M5 => if r6 = 0 then (some (.inl (some (.int (0 : Int32))), M5)) else (dp_bi (dp_den true xs xl d 239 [.ref 28, .int v1, .int v2] M5) (fun r8 M7 => if r8 = 0 then (dp_bv (dp_den true xs xl d 246 [.ref 28, .int v1, .int v2] M7) (fun M9 => some (.inl (some (.int (1 : Int32))), M9))) else (some (.inl (some (.int (-r8))), M7))))))))) := by
  have hF := dp_den_grow (md := true) (xs := xs) (xl := xl) d
  unfold D_X11_shift_0
  refine dp_s1 hF (i := .aload_n 0) rfl (fun _ => rfl) ?_
  refine dp_s1 hF (i := .iload_n 1) rfl (fun _ => rfl) ?_
  refine dp_si (mj := dp_m_X11_isBox) (i := .invokevirtual 176) rfl rfl (Or.inr rfl) rfl (fun _ => rfl) (fun r2 M1 => ?_)
  refine dp_s2 hF (i := .ifCond .eq 11) (a := (16, [some (.ref 0), some (.int v1), some (.int v2), none], [], M1)) (b := (8, [some (.ref 0), some (.int v1), some (.int v2), none], [], M1)) rfl (fun _ => rfl) ?_ ?_
  · exact dp_s0 hF (i := .new 194) rfl (fun _ => rfl)
  refine dp_s1 hF (i := .aload_n 0) rfl (fun _ => rfl) ?_
  refine dp_s1 hF (i := .iload_n 2) rfl (fun _ => rfl) ?_
  refine dp_si (mj := dp_m_X11_isYardRow) (i := .invokevirtual 239) rfl rfl (Or.inr rfl) rfl (fun _ => rfl) (fun r4 M3 => ?_)
  refine dp_s2 hF (i := .ifCond .ne 13) (a := (16, [some (.ref 0), some (.int v1), some (.int v2), none], [], M3)) (b := (26, [some (.ref 0), some (.int v1), some (.int v2), none], [], M3)) rfl (fun _ => rfl) ?_ ?_
  · exact dp_s0 hF (i := .new 194) rfl (fun _ => rfl)
  refine dp_s1 hF (i := .aload_n 0) rfl (fun _ => rfl) ?_
  refine dp_s1 hF (i := .getfield 27) rfl (fun _ => rfl) ?_
  refine dp_s1 hF (i := .iload_n 1) rfl (fun _ => rfl) ?_
  refine dp_si (mj := dp_m_X10_isOnTop) (i := .invokevirtual 259) rfl rfl (Or.inr rfl) rfl (fun _ => rfl) (fun r6 M5 => ?_)
  refine dp_s2 hF (i := .ifCond .ne 5) (a := (37, [some (.ref 0), some (.int v1), some (.int v2), none], [], M5)) (b := (39, [some (.ref 0), some (.int v1), some (.int v2), none], [], M5)) rfl (fun _ => rfl) ?_ ?_
  · refine dp_s1 hF (i := .iconst 0) rfl (fun _ => rfl) ?_
    exact dp_s0 hF (i := .ireturn) rfl (fun _ => rfl)
  refine dp_s1 hF (i := .aload_n 0) rfl (fun _ => rfl) ?_
  refine dp_s1 hF (i := .getfield 27) rfl (fun _ => rfl) ?_
  refine dp_s1 hF (i := .iload_n 1) rfl (fun _ => rfl) ?_
  refine dp_s1 hF (i := .iload_n 2) rfl (fun _ => rfl) ?_
  refine dp_si (mj := dp_m_X10_brokenByShift) (i := .invokevirtual 262) rfl rfl (Or.inl rfl) rfl (fun _ => rfl) (fun r8 M7 => ?_)
  refine dp_s1 hF (i := .istore_n 3) rfl (fun _ => rfl) ?_
  refine dp_s1 hF (i := .iload_n 3) rfl (fun _ => rfl) ?_
  refine dp_s2 hF (i := .ifCond .eq 6) (a := (56, [some (.ref 0), some (.int v1), some (.int v2), some (.int r8)], [], M7)) (b := (53, [some (.ref 0), some (.int v1), some (.int v2), some (.int r8)], [], M7)) rfl (fun _ => rfl) ?_ ?_
  · refine dp_s1 hF (i := .aload_n 0) rfl (fun _ => rfl) ?_
    refine dp_s1 hF (i := .getfield 27) rfl (fun _ => rfl) ?_
    refine dp_s1 hF (i := .iload_n 1) rfl (fun _ => rfl) ?_
    refine dp_s1 hF (i := .iload_n 2) rfl (fun _ => rfl) ?_
    refine dp_sv (mj := dp_m_X10_bring) (i := .invokevirtual 218) rfl rfl rfl rfl (fun _ => rfl) (fun M9 => ?_)
    refine dp_s1 hF (i := .iconst 1) rfl (fun _ => rfl) ?_
    exact dp_s0 hF (i := .ireturn) rfl (fun _ => rfl)
  refine dp_s1 hF (i := .iload_n 3) rfl (fun _ => rfl) ?_
  refine dp_s1 hF (i := .ineg) rfl (fun _ => rfl) ?_
  exact dp_s0 hF (i := .ireturn) rfl (fun _ => rfl)
noncomputable def D_X11_choose_0 (xs : Nat → Int32) (xl d : Nat) (v1 : Int32) (M : dp_M) : Option dp_Res := dp_lim true xs xl (dp_den true xs xl d) dp_m_X11_choose (0, [some (.ref 0), some (.int v1)], [], M)
theorem D_X11_choose_0_den (xs : Nat → Int32) (xl d : Nat) (a0 : Int32) (M : dp_M) : dp_den true xs xl (d + 1) 277 [.ref 0, .int a0] M = D_X11_choose_0 xs xl d a0 M := rfl
set_option maxRecDepth 20000 in
theorem D_X11_choose_0_eq (xs : Nat → Int32) (xl d : Nat) (v1 : Int32) (M : dp_M) : D_X11_choose_0 xs xl d v1 M = dp_bi (dp_den true xs xl d 253 [.ref 0, .int v1] M) (fun r2 M1 => if r2 = 0 then (dp_nk M1 0 (some (.inr 2, dp_new M1 0 0 6))) else (dp_bi (dp_den true xs xl d 53 [.ref 1, .int v1] M1) (fun r4 M3 => if r4 = 0 then (some (.inl (some (.int (-1 : Int32))), M3)) else (if v1 < 0 ∨ 100 ≤ Int32.toNatClampNeg v1 then none else (if (dp_I M3 29 (Int32.toNatClampNeg v1)) = (-1 : Int32) then (dp_bi (dp_den true xs xl d 242 [.ref 28, .int v1] M3) (fun r6 M5 => some (.inl (some (.int r6)), M5))) else (some (.inl (some (.int (-1 : Int32))), M3))))))) := by
  have hF := dp_den_grow (md := true) (xs := xs) (xl := xl) d
  unfold D_X11_choose_0
  refine dp_s1 hF (i := .aload_n 0) rfl (fun _ => rfl) ?_
  refine dp_s1 hF (i := .iload_n 1) rfl (fun _ => rfl) ?_
  refine dp_si (mj := dp_m_X11_isBox) (i := .invokevirtual 176) rfl rfl (Or.inr rfl) rfl (fun _ => rfl) (fun r2 M1 => ?_)
  refine dp_s2 hF (i := .ifCond .ne 13) (a := (8, [some (.ref 0), some (.int v1)], [], M1)) (b := (18, [some (.ref 0), some (.int v1)], [], M1)) rfl (fun _ => rfl) ?_ ?_
  · exact dp_s0 hF (i := .new 194) rfl (fun _ => rfl)
  refine dp_s1 hF (i := .aload_n 0) rfl (fun _ => rfl) ?_
  refine dp_s1 hF (i := .getfield 18) rfl (fun _ => rfl) ?_
  refine dp_s1 hF (i := .iload_n 1) rfl (fun _ => rfl) ?_
  refine dp_si (mj := dp_m_X2_isHere) (i := .invokevirtual 265) rfl rfl (Or.inr rfl) rfl (fun _ => rfl) (fun r4 M3 => ?_)
  refine dp_s2 hF (i := .ifCond .eq 27) (a := (53, [some (.ref 0), some (.int v1)], [], M3)) (b := (29, [some (.ref 0), some (.int v1)], [], M3)) rfl (fun _ => rfl) ?_ ?_
  · refine dp_s1 hF (i := .iconst (-1)) rfl (fun _ => rfl) ?_
    exact dp_s0 hF (i := .ireturn) rfl (fun _ => rfl)
  refine dp_s1 hF (i := .aload_n 0) rfl (fun _ => rfl) ?_
  refine dp_s1 hF (i := .getfield 27) rfl (fun _ => rfl) ?_
  refine dp_s1 hF (i := .getfield 268) rfl (fun _ => rfl) ?_
  refine dp_s1 hF (i := .iload_n 1) rfl (fun _ => rfl) ?_
  refine dp_s3 hF (i := .iaload) rfl (fun _ => rfl) ?_
  refine dp_s1 hF (i := .iconst (-1)) rfl (fun _ => rfl) ?_
  refine dp_s2 hF (i := .if_icmp .ne 14) (a := (42, [some (.ref 0), some (.int v1)], [], M3)) (b := (53, [some (.ref 0), some (.int v1)], [], M3)) rfl (fun _ => rfl) ?_ ?_
  · refine dp_s1 hF (i := .aload_n 0) rfl (fun _ => rfl) ?_
    refine dp_s1 hF (i := .getfield 27) rfl (fun _ => rfl) ?_
    refine dp_s1 hF (i := .iload_n 1) rfl (fun _ => rfl) ?_
    refine dp_si (mj := dp_m_X10_bestRow) (i := .invokevirtual 211) rfl rfl (Or.inl rfl) rfl (fun _ => rfl) (fun r6 M5 => ?_)
    refine dp_s1 hF (i := .goto 4) rfl (fun _ => rfl) ?_
    exact dp_s0 hF (i := .ireturn) rfl (fun _ => rfl)
  refine dp_s1 hF (i := .iconst (-1)) rfl (fun _ => rfl) ?_
  exact dp_s0 hF (i := .ireturn) rfl (fun _ => rfl)
noncomputable def D_X11_night_0 (xs : Nat → Int32) (xl d : Nat) (v1 : Int32) (M : dp_M) : Option dp_Res := dp_lim true xs xl (dp_den true xs xl d) dp_m_X11_night (0, [some (.ref 0), some (.int v1)], [], M)
theorem D_X11_night_0_den (xs : Nat → Int32) (xl d : Nat) (a0 : Int32) (M : dp_M) : dp_den true xs xl (d + 1) 278 [.ref 0, .int a0] M = D_X11_night_0 xs xl d a0 M := rfl
set_option maxRecDepth 20000 in
theorem D_X11_night_0_eq (xs : Nat → Int32) (xl d : Nat) (v1 : Int32) (M : dp_M) : D_X11_night_0 xs xl d v1 M = dp_bi (dp_den true xs xl d 251 [.long (Int32.toInt64 v1), .long (0 : Int64), .long (50 : Int64)] M) (fun r2 M1 => if r2 = 0 then (dp_nk M1 0 (some (.inr 0, dp_new M1 0 0 6))) else (dp_bi (dp_den true xs xl d 244 [.ref 28, .int v1] M1) (fun r4 M3 => some (.inl (some (.int r4)), M3)))) := by
  have hF := dp_den_grow (md := true) (xs := xs) (xl := xl) d
  unfold D_X11_night_0
  refine dp_s1 hF (i := .iload_n 1) rfl (fun _ => rfl) ?_
  refine dp_s1 hF (i := .i2l) rfl (fun _ => rfl) ?_
  refine dp_s1 hF (i := .lconst 0) rfl (fun _ => rfl) ?_
  refine dp_s1 hF (i := .ldc2_w 271) rfl (fun _ => rfl) ?_
  refine dp_si (mj := dp_m_X11_within) (i := .invokestatic 96) rfl rfl (Or.inr rfl) rfl (fun _ => rfl) (fun r2 M1 => ?_)
  refine dp_s2 hF (i := .ifCond .ne 14) (a := (12, [some (.ref 0), some (.int v1)], [], M1)) (b := (23, [some (.ref 0), some (.int v1)], [], M1)) rfl (fun _ => rfl) ?_ ?_
  · exact dp_s0 hF (i := .new 141) rfl (fun _ => rfl)
  refine dp_s1 hF (i := .aload_n 0) rfl (fun _ => rfl) ?_
  refine dp_s1 hF (i := .getfield 27) rfl (fun _ => rfl) ?_
  refine dp_s1 hF (i := .iload_n 1) rfl (fun _ => rfl) ?_
  refine dp_si (mj := dp_m_X10_tidy) (i := .invokevirtual 275) rfl rfl (Or.inl rfl) rfl (fun _ => rfl) (fun r4 M3 => ?_)
  exact dp_s0 hF (i := .ireturn) rfl (fun _ => rfl)
noncomputable def D_X11_undo_0 (xs : Nat → Int32) (xl d : Nat)  (M : dp_M) : Option dp_Res := dp_lim true xs xl (dp_den true xs xl d) dp_m_X11_undo (0, [some (.ref 0)], [], M)
theorem D_X11_undo_0_den (xs : Nat → Int32) (xl d : Nat)  (M : dp_M) : dp_den true xs xl (d + 1) 279 [.ref 0] M = D_X11_undo_0 xs xl d  M := rfl
set_option maxRecDepth 20000 in
theorem D_X11_undo_0_eq (xs : Nat → Int32) (xl d : Nat)  (M : dp_M) : D_X11_undo_0 xs xl d  M = dp_bi (dp_den true xs xl d 247 [.ref 28] M) (fun r2 M1 => some (.inl (some (.int r2)), M1)) := by
  have hF := dp_den_grow (md := true) (xs := xs) (xl := xl) d
  unfold D_X11_undo_0
  refine dp_s1 hF (i := .aload_n 0) rfl (fun _ => rfl) ?_
  refine dp_s1 hF (i := .getfield 27) rfl (fun _ => rfl) ?_
  refine dp_si (mj := dp_m_X10_takeBack) (i := .invokevirtual 278) rfl rfl (Or.inl rfl) rfl (fun _ => rfl) (fun r2 M1 => ?_)
  exact dp_s0 hF (i := .ireturn) rfl (fun _ => rfl)
noncomputable def D_X11_where_0 (xs : Nat → Int32) (xl d : Nat) (v1 : Int32) (v2 : Int32) (M : dp_M) : Option dp_Res := dp_lim true xs xl (dp_den true xs xl d) dp_m_X11_where (0, [some (.ref 0), some (.int v1), some (.int v2)], [], M)
theorem D_X11_where_0_den (xs : Nat → Int32) (xl d : Nat) (a0 : Int32) (a1 : Int32) (M : dp_M) : dp_den true xs xl (d + 1) 280 [.ref 0, .int a0, .int a1] M = D_X11_where_0 xs xl d a0 a1 M := rfl
set_option maxRecDepth 20000 in
theorem D_X11_where_0_eq (xs : Nat → Int32) (xl d : Nat) (v1 : Int32) (v2 : Int32) (M : dp_M) : D_X11_where_0 xs xl d v1 v2 M = dp_bi (dp_den true xs xl d 253 [.ref 0, .int v1] M) (fun r2 M1 => if r2 = 0 then (dp_nk M1 0 (some (.inr 2, dp_new M1 0 0 6))) else (dp_bi (dp_den true xs xl d 251 [.long (Int32.toInt64 v2), .long (0 : Int64), .long (8 : Int64)] M1) (fun r4 M3 => if r4 = 0 then (dp_nk M3 0 (some (.inr 2, dp_new M3 0 0 6))) else (if v2 = (0 : Int32) then (if v1 < 0 ∨ 100 ≤ Int32.toNatClampNeg v1 then none else (some (.inl (some (.int (dp_I M3 29 (Int32.toNatClampNeg v1)))), M3))) else if v2 = (1 : Int32) then (if v1 < 0 ∨ 100 ≤ Int32.toNatClampNeg v1 then none else (some (.inl (some (.int (dp_I M3 30 (Int32.toNatClampNeg v1)))), M3))) else if v2 = (2 : Int32) then (dp_bi (dp_den true xs xl d 229 [.ref 28, .int v1] M3) (fun r6 M5 => some (.inl (some (.int r6)), M5))) else if v2 = (3 : Int32) then (dp_bi (dp_den true xs xl d 235 [.ref 28, .int v1] M3) (fun r8 M7 => if r8 = 0 then (some (.inl (some (.int (0 : Int32))), M7)) else (some (.inl (some (.int (1 : Int32))), M7)))) else if v2 = (4 : Int32) then (if v1 < 0 ∨ 100 ≤ Int32.toNatClampNeg v1 then none else (some (.inl (some (.int (dp_I M3 4 (Int32.toNatClampNeg v1)))), M3))) else if v2 = (5 : Int32) then (if v1 < 0 ∨ 100 ≤ Int32.toNatClampNeg v1 then none else (some (.inl (some (.int (dp_I M3 5 (Int32.toNatClampNeg v1)))), M3))) else if v2 = (6 : Int32) then (if v1 < 0 ∨ 100 ≤ Int32.toNatClampNeg v1 then none else (some (.inl (some (.int (dp_I M3 6 (Int32.toNatClampNeg v1)))), M3))) else if v2 = (7 : Int32) then (if v1 < 0 ∨ 100 ≤ Int32.toNatClampNeg v1 then none else (some (.inl (some (.int (dp_I M3 7 (Int32.toNatClampNeg v1)))), M3))) else (if v1 < 0 ∨ 100 ≤ Int32.toNatClampNeg v1 then none else (some (.inl (some (.int (dp_I M3 3 (Int32.toNatClampNeg v1)))), M3))))))) := by
  have hF := dp_den_grow (md := true) (xs := xs) (xl := xl) d
  unfold D_X11_where_0
  refine dp_s1 hF (i := .aload_n 0) rfl (fun _ => rfl) ?_
  refine dp_s1 hF (i := .iload_n 1) rfl (fun _ => rfl) ?_
  refine dp_si (mj := dp_m_X11_isBox) (i := .invokevirtual 176) rfl rfl (Or.inr rfl) rfl (fun _ => rfl) (fun r2 M1 => ?_)
  refine dp_s2 hF (i := .ifCond .eq 15) (a := (20, [some (.ref 0), some (.int v1), some (.int v2)], [], M1)) (b := (8, [some (.ref 0), some (.int v1), some (.int v2)], [], M1)) rfl (fun _ => rfl) ?_ ?_
  · exact dp_s0 hF (i := .new 194) rfl (fun _ => rfl)
  refine dp_s1 hF (i := .iload_n 2) rfl (fun _ => rfl) ?_
  refine dp_s1 hF (i := .i2l) rfl (fun _ => rfl) ?_
  refine dp_s1 hF (i := .lconst 0) rfl (fun _ => rfl) ?_
  refine dp_s1 hF (i := .ldc2_w 148) rfl (fun _ => rfl) ?_
  refine dp_si (mj := dp_m_X11_within) (i := .invokestatic 96) rfl rfl (Or.inr rfl) rfl (fun _ => rfl) (fun r4 M3 => ?_)
  refine dp_s2 hF (i := .ifCond .ne 13) (a := (20, [some (.ref 0), some (.int v1), some (.int v2)], [], M3)) (b := (30, [some (.ref 0), some (.int v1), some (.int v2)], [], M3)) rfl (fun _ => rfl) ?_ ?_
  · exact dp_s0 hF (i := .new 194) rfl (fun _ => rfl)
  refine dp_s1 hF (i := .iload_n 2) rfl (fun _ => rfl) ?_
  refine (dp_s (E := fun k => if v2 = (0 : Int32) then k (76, [some (.ref 0), some (.int v1), some (.int v2)], [], M3) else if v2 = (1 : Int32) then k (86, [some (.ref 0), some (.int v1), some (.int v2)], [], M3) else if v2 = (2 : Int32) then k (96, [some (.ref 0), some (.int v1), some (.int v2)], [], M3) else if v2 = (3 : Int32) then k (105, [some (.ref 0), some (.int v1), some (.int v2)], [], M3) else if v2 = (4 : Int32) then k (122, [some (.ref 0), some (.int v1), some (.int v2)], [], M3) else if v2 = (5 : Int32) then k (132, [some (.ref 0), some (.int v1), some (.int v2)], [], M3) else if v2 = (6 : Int32) then k (142, [some (.ref 0), some (.int v1), some (.int v2)], [], M3) else if v2 = (7 : Int32) then k (152, [some (.ref 0), some (.int v1), some (.int v2)], [], M3) else k (162, [some (.ref 0), some (.int v1), some (.int v2)], [], M3)) hF (i := .tableswitch 131 0 7 #[45, 55, 65, 74, 91, 101, 111, 121]) rfl (fun _ => rfl)).trans ?_
  refine dp_ifc ?_ ?_
  · refine dp_s1 hF (i := .aload_n 0) rfl (fun _ => rfl) ?_
    refine dp_s1 hF (i := .getfield 27) rfl (fun _ => rfl) ?_
    refine dp_s1 hF (i := .getfield 268) rfl (fun _ => rfl) ?_
    refine dp_s1 hF (i := .iload_n 1) rfl (fun _ => rfl) ?_
    refine dp_s3 hF (i := .iaload) rfl (fun _ => rfl) ?_
    exact dp_s0 hF (i := .ireturn) rfl (fun _ => rfl)
  refine dp_ifc ?_ ?_
  · refine dp_s1 hF (i := .aload_n 0) rfl (fun _ => rfl) ?_
    refine dp_s1 hF (i := .getfield 27) rfl (fun _ => rfl) ?_
    refine dp_s1 hF (i := .getfield 282) rfl (fun _ => rfl) ?_
    refine dp_s1 hF (i := .iload_n 1) rfl (fun _ => rfl) ?_
    refine dp_s3 hF (i := .iaload) rfl (fun _ => rfl) ?_
    exact dp_s0 hF (i := .ireturn) rfl (fun _ => rfl)
  refine dp_ifc ?_ ?_
  · refine dp_s1 hF (i := .aload_n 0) rfl (fun _ => rfl) ?_
    refine dp_s1 hF (i := .getfield 27) rfl (fun _ => rfl) ?_
    refine dp_s1 hF (i := .iload_n 1) rfl (fun _ => rfl) ?_
    refine dp_si (mj := dp_m_X10_above) (i := .invokevirtual 285) rfl rfl (Or.inl rfl) rfl (fun _ => rfl) (fun r6 M5 => ?_)
    exact dp_s0 hF (i := .ireturn) rfl (fun _ => rfl)
  refine dp_ifc ?_ ?_
  · refine dp_s1 hF (i := .aload_n 0) rfl (fun _ => rfl) ?_
    refine dp_s1 hF (i := .getfield 27) rfl (fun _ => rfl) ?_
    refine dp_s1 hF (i := .iload_n 1) rfl (fun _ => rfl) ?_
    refine dp_si (mj := dp_m_X10_isInTheWay) (i := .invokevirtual 288) rfl rfl (Or.inr rfl) rfl (fun _ => rfl) (fun r8 M7 => ?_)
    refine dp_s2 hF (i := .ifCond .eq 7) (a := (120, [some (.ref 0), some (.int v1), some (.int v2)], [], M7)) (b := (116, [some (.ref 0), some (.int v1), some (.int v2)], [], M7)) rfl (fun _ => rfl) ?_ ?_
    · refine dp_s1 hF (i := .iconst 0) rfl (fun _ => rfl) ?_
      exact dp_s0 hF (i := .ireturn) rfl (fun _ => rfl)
    refine dp_s1 hF (i := .iconst 1) rfl (fun _ => rfl) ?_
    refine dp_s1 hF (i := .goto 4) rfl (fun _ => rfl) ?_
    exact dp_s0 hF (i := .ireturn) rfl (fun _ => rfl)
  refine dp_ifc ?_ ?_
  · refine dp_s1 hF (i := .aload_n 0) rfl (fun _ => rfl) ?_
    refine dp_s1 hF (i := .getfield 18) rfl (fun _ => rfl) ?_
    refine dp_s1 hF (i := .getfield 291) rfl (fun _ => rfl) ?_
    refine dp_s1 hF (i := .iload_n 1) rfl (fun _ => rfl) ?_
    refine dp_s3 hF (i := .iaload) rfl (fun _ => rfl) ?_
    exact dp_s0 hF (i := .ireturn) rfl (fun _ => rfl)
  refine dp_ifc ?_ ?_
  · refine dp_s1 hF (i := .aload_n 0) rfl (fun _ => rfl) ?_
    refine dp_s1 hF (i := .getfield 18) rfl (fun _ => rfl) ?_
    refine dp_s1 hF (i := .getfield 293) rfl (fun _ => rfl) ?_
    refine dp_s1 hF (i := .iload_n 1) rfl (fun _ => rfl) ?_
    refine dp_s3 hF (i := .iaload) rfl (fun _ => rfl) ?_
    exact dp_s0 hF (i := .ireturn) rfl (fun _ => rfl)
  refine dp_ifc ?_ ?_
  · refine dp_s1 hF (i := .aload_n 0) rfl (fun _ => rfl) ?_
    refine dp_s1 hF (i := .getfield 18) rfl (fun _ => rfl) ?_
    refine dp_s1 hF (i := .getfield 296) rfl (fun _ => rfl) ?_
    refine dp_s1 hF (i := .iload_n 1) rfl (fun _ => rfl) ?_
    refine dp_s3 hF (i := .iaload) rfl (fun _ => rfl) ?_
    exact dp_s0 hF (i := .ireturn) rfl (fun _ => rfl)
  refine dp_ifc ?_ ?_
  · refine dp_s1 hF (i := .aload_n 0) rfl (fun _ => rfl) ?_
    refine dp_s1 hF (i := .getfield 18) rfl (fun _ => rfl) ?_
    refine dp_s1 hF (i := .getfield 299) rfl (fun _ => rfl) ?_
    refine dp_s1 hF (i := .iload_n 1) rfl (fun _ => rfl) ?_
    refine dp_s3 hF (i := .iaload) rfl (fun _ => rfl) ?_
    exact dp_s0 hF (i := .ireturn) rfl (fun _ => rfl)
  refine dp_s1 hF (i := .aload_n 0) rfl (fun _ => rfl) ?_
  refine dp_s1 hF (i := .getfield 18) rfl (fun _ => rfl) ?_
  refine dp_s1 hF (i := .getfield 302) rfl (fun _ => rfl) ?_
  refine dp_s1 hF (i := .iload_n 1) rfl (fun _ => rfl) ?_
  refine dp_s3 hF (i := .iaload) rfl (fun _ => rfl) ?_
  exact dp_s0 hF (i := .ireturn) rfl (fun _ => rfl)
noncomputable def D_X11_at_0 (xs : Nat → Int32) (xl d : Nat) (v1 : Int32) (v2 : Int32) (M : dp_M) : Option dp_Res := dp_lim true xs xl (dp_den true xs xl d) dp_m_X11_at (0, [some (.ref 0), some (.int v1), some (.int v2)], [], M)
theorem D_X11_at_0_den (xs : Nat → Int32) (xl d : Nat) (a0 : Int32) (a1 : Int32) (M : dp_M) : dp_den true xs xl (d + 1) 281 [.ref 0, .int a0, .int a1] M = D_X11_at_0 xs xl d a0 a1 M := rfl
set_option maxRecDepth 20000 in
theorem D_X11_at_0_eq (xs : Nat → Int32) (xl d : Nat) (v1 : Int32) (v2 : Int32) (M : dp_M) : D_X11_at_0 xs xl d v1 v2 M = dp_bi (dp_den true xs xl d 254 [.ref 0, .int v1] M) (fun r2 M1 => if r2 = 0 then (dp_nk M1 0 (some (.inr 2, dp_new M1 0 0 6))) else (dp_bi (dp_den true xs xl d 251 [.long (Int32.toInt64 v2), .long (0 : Int64), .long (Int32.toInt64 ((dp_I M1 28 2) - (1 : Int32)))] M1) (fun r4 M3 => if r4 = 0 then (dp_nk M3 0 (some (.inr 2, dp_new M3 0 0 6))) else (dp_bi (dp_den true xs xl d 226 [.ref 28, .int v1, .int v2] M3) (fun r6 M5 => some (.inl (some (.int r6)), M5)))))) := by
  have hF := dp_den_grow (md := true) (xs := xs) (xl := xl) d
  unfold D_X11_at_0
  refine dp_s1 hF (i := .aload_n 0) rfl (fun _ => rfl) ?_
  refine dp_s1 hF (i := .iload_n 1) rfl (fun _ => rfl) ?_
  refine dp_si (mj := dp_m_X11_isYardRow) (i := .invokevirtual 239) rfl rfl (Or.inr rfl) rfl (fun _ => rfl) (fun r2 M1 => ?_)
  refine dp_s2 hF (i := .ifCond .eq 22) (a := (27, [some (.ref 0), some (.int v1), some (.int v2)], [], M1)) (b := (8, [some (.ref 0), some (.int v1), some (.int v2)], [], M1)) rfl (fun _ => rfl) ?_ ?_
  · exact dp_s0 hF (i := .new 194) rfl (fun _ => rfl)
  refine dp_s1 hF (i := .iload_n 2) rfl (fun _ => rfl) ?_
  refine dp_s1 hF (i := .i2l) rfl (fun _ => rfl) ?_
  refine dp_s1 hF (i := .lconst 0) rfl (fun _ => rfl) ?_
  refine dp_s1 hF (i := .aload_n 0) rfl (fun _ => rfl) ?_
  refine dp_s1 hF (i := .getfield 27) rfl (fun _ => rfl) ?_
  refine dp_s1 hF (i := .getfield 305) rfl (fun _ => rfl) ?_
  refine dp_s1 hF (i := .iconst 1) rfl (fun _ => rfl) ?_
  refine dp_s1 hF (i := .isub) rfl (fun _ => rfl) ?_
  refine dp_s1 hF (i := .i2l) rfl (fun _ => rfl) ?_
  refine dp_si (mj := dp_m_X11_within) (i := .invokestatic 96) rfl rfl (Or.inr rfl) rfl (fun _ => rfl) (fun r4 M3 => ?_)
  refine dp_s2 hF (i := .ifCond .ne 14) (a := (27, [some (.ref 0), some (.int v1), some (.int v2)], [], M3)) (b := (38, [some (.ref 0), some (.int v1), some (.int v2)], [], M3)) rfl (fun _ => rfl) ?_ ?_
  · exact dp_s0 hF (i := .new 194) rfl (fun _ => rfl)
  refine dp_s1 hF (i := .aload_n 0) rfl (fun _ => rfl) ?_
  refine dp_s1 hF (i := .getfield 27) rfl (fun _ => rfl) ?_
  refine dp_s1 hF (i := .iload_n 1) rfl (fun _ => rfl) ?_
  refine dp_s1 hF (i := .iload_n 2) rfl (fun _ => rfl) ?_
  refine dp_si (mj := dp_m_X10_boxAt) (i := .invokevirtual 310) rfl rfl (Or.inl rfl) rfl (fun _ => rfl) (fun r6 M5 => ?_)
  exact dp_s0 hF (i := .ireturn) rfl (fun _ => rfl)
noncomputable def D_X11_goods_0 (xs : Nat → Int32) (xl d : Nat) (v1 : Int32) (v2 : Int32) (M : dp_M) : Option dp_Res := dp_lim true xs xl (dp_den true xs xl d) dp_m_X11_goods (0, [some (.ref 0), some (.int v1), some (.int v2)], [], M)
theorem D_X11_goods_0_den (xs : Nat → Int32) (xl d : Nat) (a0 : Int32) (a1 : Int32) (M : dp_M) : dp_den true xs xl (d + 1) 282 [.ref 0, .int a0, .int a1] M = D_X11_goods_0 xs xl d a0 a1 M := rfl
set_option maxRecDepth 20000 in
theorem D_X11_goods_0_eq (xs : Nat → Int32) (xl d : Nat) (v1 : Int32) (v2 : Int32) (M : dp_M) : D_X11_goods_0 xs xl d v1 v2 M = dp_bi (dp_den true xs xl d 253 [.ref 0, .int v1] M) (fun r2 M1 => if r2 = 0 then (dp_nk M1 0 (some (.inr 0, dp_new M1 0 0 6))) else (dp_bi (dp_den true xs xl d 27 [.ref 37, .int v1] M1) (fun r4 M3 => dp_bi (dp_den true xs xl d 251 [.long (Int32.toInt64 v2), .long (1 : Int64), .long (Int32.toInt64 r4)] M3) (fun r6 M5 => if r6 = 0 then (dp_nk M5 0 (some (.inr 0, dp_new M5 0 0 6))) else (if (dp_I M5 37 2) < (300 : Int32) then (dp_bi (dp_den true xs xl d 28 [.ref 37, .int v1, .int v2] M5) (fun r8 M7 => some (.inl (some (.int r8)), M7))) else (dp_nk M5 0 (some (.inr 1, dp_new M5 0 0 6)))))))) := by
  have hF := dp_den_grow (md := true) (xs := xs) (xl := xl) d
  unfold D_X11_goods_0
  refine dp_s1 hF (i := .aload_n 0) rfl (fun _ => rfl) ?_
  refine dp_s1 hF (i := .iload_n 1) rfl (fun _ => rfl) ?_
  refine dp_si (mj := dp_m_X11_isBox) (i := .invokevirtual 176) rfl rfl (Or.inr rfl) rfl (fun _ => rfl) (fun r2 M1 => ?_)
  refine dp_s2 hF (i := .ifCond .eq 21) (a := (26, [some (.ref 0), some (.int v1), some (.int v2)], [], M1)) (b := (8, [some (.ref 0), some (.int v1), some (.int v2)], [], M1)) rfl (fun _ => rfl) ?_ ?_
  · exact dp_s0 hF (i := .new 141) rfl (fun _ => rfl)
  refine dp_s1 hF (i := .iload_n 2) rfl (fun _ => rfl) ?_
  refine dp_s1 hF (i := .i2l) rfl (fun _ => rfl) ?_
  refine dp_s1 hF (i := .lconst 1) rfl (fun _ => rfl) ?_
  refine dp_s1 hF (i := .aload_n 0) rfl (fun _ => rfl) ?_
  refine dp_s1 hF (i := .getfield 36) rfl (fun _ => rfl) ?_
  refine dp_s1 hF (i := .iload_n 1) rfl (fun _ => rfl) ?_
  refine dp_si (mj := dp_m_X1_roomIn) (i := .invokevirtual 313) rfl rfl (Or.inl rfl) rfl (fun _ => rfl) (fun r4 M3 => ?_)
  refine dp_s1 hF (i := .i2l) rfl (fun _ => rfl) ?_
  refine dp_si (mj := dp_m_X11_within) (i := .invokestatic 96) rfl rfl (Or.inr rfl) rfl (fun _ => rfl) (fun r6 M5 => ?_)
  refine dp_s2 hF (i := .ifCond .ne 14) (a := (26, [some (.ref 0), some (.int v1), some (.int v2)], [], M5)) (b := (37, [some (.ref 0), some (.int v1), some (.int v2)], [], M5)) rfl (fun _ => rfl) ?_ ?_
  · exact dp_s0 hF (i := .new 141) rfl (fun _ => rfl)
  refine dp_s1 hF (i := .aload_n 0) rfl (fun _ => rfl) ?_
  refine dp_s1 hF (i := .getfield 36) rfl (fun _ => rfl) ?_
  refine dp_s1 hF (i := .getfield 318) rfl (fun _ => rfl) ?_
  refine dp_s1 hF (i := .sipush 300) rfl (fun _ => rfl) ?_
  refine dp_s2 hF (i := .if_icmp .lt 14) (a := (61, [some (.ref 0), some (.int v1), some (.int v2)], [], M5)) (b := (50, [some (.ref 0), some (.int v1), some (.int v2)], [], M5)) rfl (fun _ => rfl) ?_ ?_
  · refine dp_s1 hF (i := .aload_n 0) rfl (fun _ => rfl) ?_
    refine dp_s1 hF (i := .getfield 36) rfl (fun _ => rfl) ?_
    refine dp_s1 hF (i := .iload_n 1) rfl (fun _ => rfl) ?_
    refine dp_s1 hF (i := .iload_n 2) rfl (fun _ => rfl) ?_
    refine dp_si (mj := dp_m_X1_addGoods) (i := .invokevirtual 323) rfl rfl (Or.inl rfl) rfl (fun _ => rfl) (fun r8 M7 => ?_)
    exact dp_s0 hF (i := .ireturn) rfl (fun _ => rfl)
  exact dp_s0 hF (i := .new 167) rfl (fun _ => rfl)
noncomputable def D_X11_isBar_0 (xs : Nat → Int32) (xl d : Nat) (v1 : Int32) (v2 : Int32) (v3 : Int32) (M : dp_M) : Option dp_Res := dp_lim true xs xl (dp_den true xs xl d) dp_m_X11_isBar (0, [some (.ref 0), some (.int v1), some (.int v2), some (.int v3)], [], M)
theorem D_X11_isBar_0_den (xs : Nat → Int32) (xl d : Nat) (a0 : Int32) (a1 : Int32) (a2 : Int32) (M : dp_M) : dp_den true xs xl (d + 1) 283 [.ref 0, .int a0, .int a1, .int a2] M = D_X11_isBar_0 xs xl d a0 a1 a2 M := rfl
set_option maxRecDepth 20000 in
theorem D_X11_isBar_0_eq (xs : Nat → Int32) (xl d : Nat) (v1 : Int32) (v2 : Int32) (v3 : Int32) (M : dp_M) : D_X11_isBar_0 xs xl d v1 v2 v3 M = dp_bi (dp_den true xs xl d 251 [.long (Int32.toInt64 v1), .long (0 : Int64), .long (3 : Int64)] M) (fun r2 M1 => if r2 = 0 then (some (.inl (some (.int (0 : Int32))), M1)) else (dp_bi (dp_den true xs xl d 253 [.ref 0, .int v2] M1) (fun r4 M3 => if r4 = 0 then (some (.inl (some (.int (0 : Int32))), M3)) else (dp_bi (dp_den true xs xl d 251 [.long (Int32.toInt64 v3), .long (0 : Int64), .long (9 : Int64)] M3) (fun r6 M5 => if r6 = 0 then (some (.inl (some (.int (0 : Int32))), M5)) else (some (.inl (some (.int (1 : Int32))), M5))))))) := by
  have hF := dp_den_grow (md := true) (xs := xs) (xl := xl) d
  unfold D_X11_isBar_0
  refine dp_s1 hF (i := .iload_n 1) rfl (fun _ => rfl) ?_
  refine dp_s1 hF (i := .i2l) rfl (fun _ => rfl) ?_
  refine dp_s1 hF (i := .lconst 0) rfl (fun _ => rfl) ?_
  refine dp_s1 hF (i := .ldc2_w 192) rfl (fun _ => rfl) ?_
  refine dp_si (mj := dp_m_X11_within) (i := .invokestatic 96) rfl rfl (Or.inr rfl) rfl (fun _ => rfl) (fun r2 M1 => ?_)
  refine dp_s2 hF (i := .ifCond .eq 27) (a := (36, [some (.ref 0), some (.int v1), some (.int v2), some (.int v3)], [], M1)) (b := (12, [some (.ref 0), some (.int v1), some (.int v2), some (.int v3)], [], M1)) rfl (fun _ => rfl) ?_ ?_
  · refine dp_s1 hF (i := .iconst 0) rfl (fun _ => rfl) ?_
    exact dp_s0 hF (i := .ireturn) rfl (fun _ => rfl)
  refine dp_s1 hF (i := .aload_n 0) rfl (fun _ => rfl) ?_
  refine dp_s1 hF (i := .iload_n 2) rfl (fun _ => rfl) ?_
  refine dp_si (mj := dp_m_X11_isBox) (i := .invokevirtual 176) rfl rfl (Or.inr rfl) rfl (fun _ => rfl) (fun r4 M3 => ?_)
  refine dp_s2 hF (i := .ifCond .eq 19) (a := (36, [some (.ref 0), some (.int v1), some (.int v2), some (.int v3)], [], M3)) (b := (20, [some (.ref 0), some (.int v1), some (.int v2), some (.int v3)], [], M3)) rfl (fun _ => rfl) ?_ ?_
  · refine dp_s1 hF (i := .iconst 0) rfl (fun _ => rfl) ?_
    exact dp_s0 hF (i := .ireturn) rfl (fun _ => rfl)
  refine dp_s1 hF (i := .iload_n 3) rfl (fun _ => rfl) ?_
  refine dp_s1 hF (i := .i2l) rfl (fun _ => rfl) ?_
  refine dp_s1 hF (i := .lconst 0) rfl (fun _ => rfl) ?_
  refine dp_s1 hF (i := .ldc2_w 154) rfl (fun _ => rfl) ?_
  refine dp_si (mj := dp_m_X11_within) (i := .invokestatic 96) rfl rfl (Or.inr rfl) rfl (fun _ => rfl) (fun r6 M5 => ?_)
  refine dp_s2 hF (i := .ifCond .eq 7) (a := (36, [some (.ref 0), some (.int v1), some (.int v2), some (.int v3)], [], M5)) (b := (32, [some (.ref 0), some (.int v1), some (.int v2), some (.int v3)], [], M5)) rfl (fun _ => rfl) ?_ ?_
  · refine dp_s1 hF (i := .iconst 0) rfl (fun _ => rfl) ?_
    exact dp_s0 hF (i := .ireturn) rfl (fun _ => rfl)
  refine dp_s1 hF (i := .iconst 1) rfl (fun _ => rfl) ?_
  refine dp_s1 hF (i := .goto 4) rfl (fun _ => rfl) ?_
  exact dp_s0 hF (i := .ireturn) rfl (fun _ => rfl)
noncomputable def D_X11_bar_0 (xs : Nat → Int32) (xl d : Nat) (v1 : Int32) (v2 : Int32) (v3 : Int32) (v4 : Int32) (M : dp_M) : Option dp_Res := dp_lim true xs xl (dp_den true xs xl d) dp_m_X11_bar (0, [some (.ref 0), some (.int v1), some (.int v2), some (.int v3), some (.int v4)], [], M)
theorem D_X11_bar_0_den (xs : Nat → Int32) (xl d : Nat) (a0 : Int32) (a1 : Int32) (a2 : Int32) (a3 : Int32) (M : dp_M) : dp_den true xs xl (d + 1) 284 [.ref 0, .int a0, .int a1, .int a2, .int a3] M = D_X11_bar_0 xs xl d a0 a1 a2 a3 M := rfl
set_option maxRecDepth 20000 in
theorem D_X11_bar_0_eq (xs : Nat → Int32) (xl d : Nat) (v1 : Int32) (v2 : Int32) (v3 : Int32) (v4 : Int32) (M : dp_M) : D_X11_bar_0 xs xl d v1 v2 v3 v4 M = dp_bi (dp_den true xs xl d 283 [.ref 0, .int v1, .int v2, .int v3] M) (fun r2 M1 => if r2 = 0 then (dp_nk M1 0 (some (.inr 0, dp_new M1 0 0 6))) else (dp_bi (dp_den true xs xl d 251 [.long (Int32.toInt64 v4), .long (0 : Int64), .long (15 : Int64)] M1) (fun r4 M3 => if r4 = 0 then (dp_nk M3 0 (some (.inr 0, dp_new M3 0 0 6))) else (dp_bi (dp_den true xs xl d 32 [.ref 37, .int v2, .int v1, .int v3, .int v4] M3) (fun r6 M5 => some (.inl (some (.int r6)), M5)))))) := by
  have hF := dp_den_grow (md := true) (xs := xs) (xl := xl) d
  unfold D_X11_bar_0
  refine dp_s1 hF (i := .aload_n 0) rfl (fun _ => rfl) ?_
  refine dp_s1 hF (i := .iload_n 1) rfl (fun _ => rfl) ?_
  refine dp_s1 hF (i := .iload_n 2) rfl (fun _ => rfl) ?_
  refine dp_s1 hF (i := .iload_n 3) rfl (fun _ => rfl) ?_
  refine dp_si (mj := dp_m_X11_isBar) (i := .invokevirtual 326) rfl rfl (Or.inr rfl) rfl (fun _ => rfl) (fun r2 M1 => ?_)
  refine dp_s2 hF (i := .ifCond .eq 16) (a := (23, [some (.ref 0), some (.int v1), some (.int v2), some (.int v3), some (.int v4)], [], M1)) (b := (10, [some (.ref 0), some (.int v1), some (.int v2), some (.int v3), some (.int v4)], [], M1)) rfl (fun _ => rfl) ?_ ?_
  · exact dp_s0 hF (i := .new 141) rfl (fun _ => rfl)
  refine dp_s1 hF (i := .iload 4) rfl (fun _ => rfl) ?_
  refine dp_s1 hF (i := .i2l) rfl (fun _ => rfl) ?_
  refine dp_s1 hF (i := .lconst 0) rfl (fun _ => rfl) ?_
  refine dp_s1 hF (i := .ldc2_w 330) rfl (fun _ => rfl) ?_
  refine dp_si (mj := dp_m_X11_within) (i := .invokestatic 96) rfl rfl (Or.inr rfl) rfl (fun _ => rfl) (fun r4 M3 => ?_)
  refine dp_s2 hF (i := .ifCond .ne 14) (a := (23, [some (.ref 0), some (.int v1), some (.int v2), some (.int v3), some (.int v4)], [], M3)) (b := (34, [some (.ref 0), some (.int v1), some (.int v2), some (.int v3), some (.int v4)], [], M3)) rfl (fun _ => rfl) ?_ ?_
  · exact dp_s0 hF (i := .new 141) rfl (fun _ => rfl)
  refine dp_s1 hF (i := .aload_n 0) rfl (fun _ => rfl) ?_
  refine dp_s1 hF (i := .getfield 36) rfl (fun _ => rfl) ?_
  refine dp_s1 hF (i := .iload_n 2) rfl (fun _ => rfl) ?_
  refine dp_s1 hF (i := .iload_n 1) rfl (fun _ => rfl) ?_
  refine dp_s1 hF (i := .iload_n 3) rfl (fun _ => rfl) ?_
  refine dp_s1 hF (i := .iload 4) rfl (fun _ => rfl) ?_
  refine dp_si (mj := dp_m_X1_addBar) (i := .invokevirtual 334) rfl rfl (Or.inl rfl) rfl (fun _ => rfl) (fun r6 M5 => ?_)
  exact dp_s0 hF (i := .ireturn) rfl (fun _ => rfl)
noncomputable def D_X11_lift_0 (xs : Nat → Int32) (xl d : Nat) (v1 : Int32) (v2 : Int32) (v3 : Int32) (v4 : Int32) (M : dp_M) : Option dp_Res := dp_lim true xs xl (dp_den true xs xl d) dp_m_X11_lift (0, [some (.ref 0), some (.int v1), some (.int v2), some (.int v3), some (.int v4)], [], M)
theorem D_X11_lift_0_den (xs : Nat → Int32) (xl d : Nat) (a0 : Int32) (a1 : Int32) (a2 : Int32) (a3 : Int32) (M : dp_M) : dp_den true xs xl (d + 1) 285 [.ref 0, .int a0, .int a1, .int a2, .int a3] M = D_X11_lift_0 xs xl d a0 a1 a2 a3 M := rfl
set_option maxRecDepth 20000 in
theorem D_X11_lift_0_eq (xs : Nat → Int32) (xl d : Nat) (v1 : Int32) (v2 : Int32) (v3 : Int32) (v4 : Int32) (M : dp_M) : D_X11_lift_0 xs xl d v1 v2 v3 v4 M = dp_bi (dp_den true xs xl d 283 [.ref 0, .int v1, .int v2, .int v3] M) (fun r2 M1 => if r2 = 0 then (dp_nk M1 0 (some (.inr 0, dp_new M1 0 0 6))) else (dp_bi (dp_den true xs xl d 251 [.long (Int32.toInt64 v4), .long (0 : Int64), .long (65535 : Int64)] M1) (fun r4 M3 => if r4 = 0 then (dp_nk M3 0 (some (.inr 0, dp_new M3 0 0 6))) else (dp_bi (dp_den true xs xl d 33 [.ref 37, .int v2, .int v1, .int v3, .int v4] M3) (fun r6 M5 => some (.inl (some (.int r6)), M5)))))) := by
  have hF := dp_den_grow (md := true) (xs := xs) (xl := xl) d
  unfold D_X11_lift_0
  refine dp_s1 hF (i := .aload_n 0) rfl (fun _ => rfl) ?_
  refine dp_s1 hF (i := .iload_n 1) rfl (fun _ => rfl) ?_
  refine dp_s1 hF (i := .iload_n 2) rfl (fun _ => rfl) ?_
  refine dp_s1 hF (i := .iload_n 3) rfl (fun _ => rfl) ?_
  refine dp_si (mj := dp_m_X11_isBar) (i := .invokevirtual 326) rfl rfl (Or.inr rfl) rfl (fun _ => rfl) (fun r2 M1 => ?_)
  refine dp_s2 hF (i := .ifCond .eq 16) (a := (23, [some (.ref 0), some (.int v1), some (.int v2), some (.int v3), some (.int v4)], [], M1)) (b := (10, [some (.ref 0), some (.int v1), some (.int v2), some (.int v3), some (.int v4)], [], M1)) rfl (fun _ => rfl) ?_ ?_
  · exact dp_s0 hF (i := .new 141) rfl (fun _ => rfl)
  refine dp_s1 hF (i := .iload 4) rfl (fun _ => rfl) ?_
  refine dp_s1 hF (i := .i2l) rfl (fun _ => rfl) ?_
  refine dp_s1 hF (i := .lconst 0) rfl (fun _ => rfl) ?_
  refine dp_s1 hF (i := .ldc2_w 338) rfl (fun _ => rfl) ?_
  refine dp_si (mj := dp_m_X11_within) (i := .invokestatic 96) rfl rfl (Or.inr rfl) rfl (fun _ => rfl) (fun r4 M3 => ?_)
  refine dp_s2 hF (i := .ifCond .ne 14) (a := (23, [some (.ref 0), some (.int v1), some (.int v2), some (.int v3), some (.int v4)], [], M3)) (b := (34, [some (.ref 0), some (.int v1), some (.int v2), some (.int v3), some (.int v4)], [], M3)) rfl (fun _ => rfl) ?_ ?_
  · exact dp_s0 hF (i := .new 141) rfl (fun _ => rfl)
  refine dp_s1 hF (i := .aload_n 0) rfl (fun _ => rfl) ?_
  refine dp_s1 hF (i := .getfield 36) rfl (fun _ => rfl) ?_
  refine dp_s1 hF (i := .iload_n 2) rfl (fun _ => rfl) ?_
  refine dp_s1 hF (i := .iload_n 1) rfl (fun _ => rfl) ?_
  refine dp_s1 hF (i := .iload_n 3) rfl (fun _ => rfl) ?_
  refine dp_s1 hF (i := .iload 4) rfl (fun _ => rfl) ?_
  refine dp_si (mj := dp_m_X1_takeBar) (i := .invokevirtual 340) rfl rfl (Or.inl rfl) rfl (fun _ => rfl) (fun r6 M5 => ?_)
  exact dp_s0 hF (i := .ireturn) rfl (fun _ => rfl)
noncomputable def D_X11_join_0 (xs : Nat → Int32) (xl d : Nat) (v1 : Int32) (v2 : Int32) (M : dp_M) : Option dp_Res := dp_lim true xs xl (dp_den true xs xl d) dp_m_X11_join (0, [some (.ref 0), some (.int v1), some (.int v2)], [], M)
theorem D_X11_join_0_den (xs : Nat → Int32) (xl d : Nat) (a0 : Int32) (a1 : Int32) (M : dp_M) : dp_den true xs xl (d + 1) 286 [.ref 0, .int a0, .int a1] M = D_X11_join_0 xs xl d a0 a1 M := rfl
set_option maxRecDepth 20000 in
theorem D_X11_join_0_eq (xs : Nat → Int32) (xl d : Nat) (v1 : Int32) (v2 : Int32) (M : dp_M) : D_X11_join_0 xs xl d v1 v2 M = dp_bi (dp_den true xs xl d 253 [.ref 0, .int v1] M) (fun r2 M1 => if r2 = 0 then (dp_nk M1 0 (some (.inr 0, dp_new M1 0 0 6))) else (dp_bi (dp_den true xs xl d 253 [.ref 0, .int v2] M1) (fun r4 M3 => if r4 = 0 then (dp_nk M3 0 (some (.inr 0, dp_new M3 0 0 6))) else (if v1 = v2 then (dp_nk M3 0 (some (.inr 0, dp_new M3 0 0 6))) else (dp_bi (dp_den true xs xl d 35 [.ref 37, .int v1, .int v2] M3) (fun r6 M5 => if r6 = 0 then (some (.inl (some (.int (0 : Int32))), M5)) else (some (.inl (some (.int (1 : Int32))), M5)))))))) := by
  have hF := dp_den_grow (md := true) (xs := xs) (xl := xl) d
  unfold D_X11_join_0
  refine dp_s1 hF (i := .aload_n 0) rfl (fun _ => rfl) ?_
  refine dp_s1 hF (i := .iload_n 1) rfl (fun _ => rfl) ?_
  refine dp_si (mj := dp_m_X11_isBox) (i := .invokevirtual 176) rfl rfl (Or.inr rfl) rfl (fun _ => rfl) (fun r2 M1 => ?_)
  refine dp_s2 hF (i := .ifCond .eq 16) (a := (21, [some (.ref 0), some (.int v1), some (.int v2)], [], M1)) (b := (8, [some (.ref 0), some (.int v1), some (.int v2)], [], M1)) rfl (fun _ => rfl) ?_ ?_
  · exact dp_s0 hF (i := .new 141) rfl (fun _ => rfl)
  refine dp_s1 hF (i := .aload_n 0) rfl (fun _ => rfl) ?_
  refine dp_s1 hF (i := .iload_n 2) rfl (fun _ => rfl) ?_
  refine dp_si (mj := dp_m_X11_isBox) (i := .invokevirtual 176) rfl rfl (Or.inr rfl) rfl (fun _ => rfl) (fun r4 M3 => ?_)
  refine dp_s2 hF (i := .ifCond .eq 8) (a := (21, [some (.ref 0), some (.int v1), some (.int v2)], [], M3)) (b := (16, [some (.ref 0), some (.int v1), some (.int v2)], [], M3)) rfl (fun _ => rfl) ?_ ?_
  · exact dp_s0 hF (i := .new 141) rfl (fun _ => rfl)
  refine dp_s1 hF (i := .iload_n 1) rfl (fun _ => rfl) ?_
  refine dp_s1 hF (i := .iload_n 2) rfl (fun _ => rfl) ?_
  refine dp_s2 hF (i := .if_icmp .ne 14) (a := (21, [some (.ref 0), some (.int v1), some (.int v2)], [], M3)) (b := (32, [some (.ref 0), some (.int v1), some (.int v2)], [], M3)) rfl (fun _ => rfl) ?_ ?_
  · exact dp_s0 hF (i := .new 141) rfl (fun _ => rfl)
  refine dp_s1 hF (i := .aload_n 0) rfl (fun _ => rfl) ?_
  refine dp_s1 hF (i := .getfield 36) rfl (fun _ => rfl) ?_
  refine dp_s1 hF (i := .iload_n 1) rfl (fun _ => rfl) ?_
  refine dp_s1 hF (i := .iload_n 2) rfl (fun _ => rfl) ?_
  refine dp_si (mj := dp_m_X1_unite) (i := .invokevirtual 345) rfl rfl (Or.inr rfl) rfl (fun _ => rfl) (fun r6 M5 => ?_)
  refine dp_s2 hF (i := .ifCond .eq 7) (a := (48, [some (.ref 0), some (.int v1), some (.int v2)], [], M5)) (b := (44, [some (.ref 0), some (.int v1), some (.int v2)], [], M5)) rfl (fun _ => rfl) ?_ ?_
  · refine dp_s1 hF (i := .iconst 0) rfl (fun _ => rfl) ?_
    exact dp_s0 hF (i := .ireturn) rfl (fun _ => rfl)
  refine dp_s1 hF (i := .iconst 1) rfl (fun _ => rfl) ?_
  refine dp_s1 hF (i := .goto 4) rfl (fun _ => rfl) ?_
  exact dp_s0 hF (i := .ireturn) rfl (fun _ => rfl)
noncomputable def D_X11_rule_0 (xs : Nat → Int32) (xl d : Nat) (v1 : Int32) (v2 : Int32) (v3 : Int32) (M : dp_M) : Option dp_Res := dp_lim true xs xl (dp_den true xs xl d) dp_m_X11_rule (0, [some (.ref 0), some (.int v1), some (.int v2), some (.int v3)], [], M)
theorem D_X11_rule_0_den (xs : Nat → Int32) (xl d : Nat) (a0 : Int32) (a1 : Int32) (a2 : Int32) (M : dp_M) : dp_den true xs xl (d + 1) 287 [.ref 0, .int a0, .int a1, .int a2] M = D_X11_rule_0 xs xl d a0 a1 a2 M := rfl
set_option maxRecDepth 20000 in
theorem D_X11_rule_0_eq (xs : Nat → Int32) (xl d : Nat) (v1 : Int32) (v2 : Int32) (v3 : Int32) (M : dp_M) : D_X11_rule_0 xs xl d v1 v2 v3 M = dp_bi (dp_den true xs xl d 251 [.long (Int32.toInt64 v1), .long (0 : Int64), .long (3 : Int64)] M) (fun r2 M1 => if r2 = 0 then (some (.inl (some (.int (0 : Int32))), M1)) else (dp_bi (dp_den true xs xl d 251 [.long (Int32.toInt64 v2), .long (0 : Int64), .long (4 : Int64)] M1) (fun r4 M3 => if r4 = 0 then (some (.inl (some (.int (0 : Int32))), M3)) else (if v2 = (1 : Int32) then (dp_bi (dp_den true xs xl d 251 [.long (Int32.toInt64 v3), .long (0 : Int64), .long (40000 : Int64)] M3) (fun r6 M5 => if r6 = 0 then (some (.inl (some (.int (0 : Int32))), M5)) else (if v1 < 0 ∨ 4 ≤ Int32.toNatClampNeg v1 then none else dp_w (dp_setI M5 38 (Int32.toNatClampNeg v1) v2) (fun M7 => if v1 < 0 ∨ 4 ≤ Int32.toNatClampNeg v1 then none else dp_w (dp_setI M7 39 (Int32.toNatClampNeg v1) v3) (fun M8 => some (.inl (some (.int (1 : Int32))), M8)))))) else (if v1 < 0 ∨ 4 ≤ Int32.toNatClampNeg v1 then none else dp_w (dp_setI M3 38 (Int32.toNatClampNeg v1) v2) (fun M9 => if v1 < 0 ∨ 4 ≤ Int32.toNatClampNeg v1 then none else dp_w (dp_setI M9 39 (Int32.toNatClampNeg v1) v3) (fun M10 => some (.inl (some (.int (1 : Int32))), M10)))))))) := by
  have hF := dp_den_grow (md := true) (xs := xs) (xl := xl) d
  unfold D_X11_rule_0
  refine dp_s1 hF (i := .iload_n 1) rfl (fun _ => rfl) ?_
  refine dp_s1 hF (i := .i2l) rfl (fun _ => rfl) ?_
  refine dp_s1 hF (i := .lconst 0) rfl (fun _ => rfl) ?_
  refine dp_s1 hF (i := .ldc2_w 192) rfl (fun _ => rfl) ?_
  refine dp_si (mj := dp_m_X11_within) (i := .invokestatic 96) rfl rfl (Or.inr rfl) rfl (fun _ => rfl) (fun r2 M1 => ?_)
  refine dp_s2 hF (i := .ifCond .eq 32) (a := (41, [some (.ref 0), some (.int v1), some (.int v2), some (.int v3)], [], M1)) (b := (12, [some (.ref 0), some (.int v1), some (.int v2), some (.int v3)], [], M1)) rfl (fun _ => rfl) ?_ ?_
  · refine dp_s1 hF (i := .iconst 0) rfl (fun _ => rfl) ?_
    exact dp_s0 hF (i := .ireturn) rfl (fun _ => rfl)
  refine dp_s1 hF (i := .iload_n 2) rfl (fun _ => rfl) ?_
  refine dp_s1 hF (i := .i2l) rfl (fun _ => rfl) ?_
  refine dp_s1 hF (i := .lconst 0) rfl (fun _ => rfl) ?_
  refine dp_s1 hF (i := .ldc2_w 348) rfl (fun _ => rfl) ?_
  refine dp_si (mj := dp_m_X11_within) (i := .invokestatic 96) rfl rfl (Or.inr rfl) rfl (fun _ => rfl) (fun r4 M3 => ?_)
  refine dp_s2 hF (i := .ifCond .eq 20) (a := (41, [some (.ref 0), some (.int v1), some (.int v2), some (.int v3)], [], M3)) (b := (24, [some (.ref 0), some (.int v1), some (.int v2), some (.int v3)], [], M3)) rfl (fun _ => rfl) ?_ ?_
  · refine dp_s1 hF (i := .iconst 0) rfl (fun _ => rfl) ?_
    exact dp_s0 hF (i := .ireturn) rfl (fun _ => rfl)
  refine dp_s1 hF (i := .iload_n 2) rfl (fun _ => rfl) ?_
  refine dp_s1 hF (i := .iconst 1) rfl (fun _ => rfl) ?_
  refine dp_s2 hF (i := .if_icmp .ne 17) (a := (29, [some (.ref 0), some (.int v1), some (.int v2), some (.int v3)], [], M3)) (b := (43, [some (.ref 0), some (.int v1), some (.int v2), some (.int v3)], [], M3)) rfl (fun _ => rfl) ?_ ?_
  · refine dp_s1 hF (i := .iload_n 3) rfl (fun _ => rfl) ?_
    refine dp_s1 hF (i := .i2l) rfl (fun _ => rfl) ?_
    refine dp_s1 hF (i := .lconst 0) rfl (fun _ => rfl) ?_
    refine dp_s1 hF (i := .ldc2_w 350) rfl (fun _ => rfl) ?_
    refine dp_si (mj := dp_m_X11_within) (i := .invokestatic 96) rfl rfl (Or.inr rfl) rfl (fun _ => rfl) (fun r6 M5 => ?_)
    refine dp_s2 hF (i := .ifCond .ne 5) (a := (41, [some (.ref 0), some (.int v1), some (.int v2), some (.int v3)], [], M5)) (b := (43, [some (.ref 0), some (.int v1), some (.int v2), some (.int v3)], [], M5)) rfl (fun _ => rfl) ?_ ?_
    · refine dp_s1 hF (i := .iconst 0) rfl (fun _ => rfl) ?_
      exact dp_s0 hF (i := .ireturn) rfl (fun _ => rfl)
    refine dp_s1 hF (i := .aload_n 0) rfl (fun _ => rfl) ?_
    refine dp_s1 hF (i := .getfield 36) rfl (fun _ => rfl) ?_
    refine dp_s1 hF (i := .getfield 352) rfl (fun _ => rfl) ?_
    refine dp_s1 hF (i := .iload_n 1) rfl (fun _ => rfl) ?_
    refine dp_s1 hF (i := .iload_n 2) rfl (fun _ => rfl) ?_
    refine dp_s3w (dp_setI M5 38 (Int32.toNatClampNeg v1) v2) (fun (M7 : dp_M) => (53, [some (.ref 0), some (.int v1), some (.int v2), some (.int v3)], [], M7)) hF (i := .iastore) rfl (fun _ => rfl) (fun M7 => ?_)
    refine dp_s1 hF (i := .aload_n 0) rfl (fun _ => rfl) ?_
    refine dp_s1 hF (i := .getfield 36) rfl (fun _ => rfl) ?_
    refine dp_s1 hF (i := .getfield 355) rfl (fun _ => rfl) ?_
    refine dp_s1 hF (i := .iload_n 1) rfl (fun _ => rfl) ?_
    refine dp_s1 hF (i := .iload_n 3) rfl (fun _ => rfl) ?_
    refine dp_s3w (dp_setI M7 39 (Int32.toNatClampNeg v1) v3) (fun (M8 : dp_M) => (63, [some (.ref 0), some (.int v1), some (.int v2), some (.int v3)], [], M8)) hF (i := .iastore) rfl (fun _ => rfl) (fun M8 => ?_)
    refine dp_s1 hF (i := .iconst 1) rfl (fun _ => rfl) ?_
    exact dp_s0 hF (i := .ireturn) rfl (fun _ => rfl)
  refine dp_s1 hF (i := .aload_n 0) rfl (fun _ => rfl) ?_
  refine dp_s1 hF (i := .getfield 36) rfl (fun _ => rfl) ?_
  refine dp_s1 hF (i := .getfield 352) rfl (fun _ => rfl) ?_
  refine dp_s1 hF (i := .iload_n 1) rfl (fun _ => rfl) ?_
  refine dp_s1 hF (i := .iload_n 2) rfl (fun _ => rfl) ?_
  refine dp_s3w (dp_setI M3 38 (Int32.toNatClampNeg v1) v2) (fun (M9 : dp_M) => (53, [some (.ref 0), some (.int v1), some (.int v2), some (.int v3)], [], M9)) hF (i := .iastore) rfl (fun _ => rfl) (fun M9 => ?_)
  refine dp_s1 hF (i := .aload_n 0) rfl (fun _ => rfl) ?_
  refine dp_s1 hF (i := .getfield 36) rfl (fun _ => rfl) ?_
  refine dp_s1 hF (i := .getfield 355) rfl (fun _ => rfl) ?_
  refine dp_s1 hF (i := .iload_n 1) rfl (fun _ => rfl) ?_
  refine dp_s1 hF (i := .iload_n 3) rfl (fun _ => rfl) ?_
  refine dp_s3w (dp_setI M9 39 (Int32.toNatClampNeg v1) v3) (fun (M10 : dp_M) => (63, [some (.ref 0), some (.int v1), some (.int v2), some (.int v3)], [], M10)) hF (i := .iastore) rfl (fun _ => rfl) (fun M10 => ?_)
  refine dp_s1 hF (i := .iconst 1) rfl (fun _ => rfl) ?_
  exact dp_s0 hF (i := .ireturn) rfl (fun _ => rfl)
noncomputable def D_X11_release_0 (xs : Nat → Int32) (xl d : Nat) (v1 : Int32) (M : dp_M) : Option dp_Res := dp_lim true xs xl (dp_den true xs xl d) dp_m_X11_release (0, [some (.ref 0), some (.int v1)], [], M)
theorem D_X11_release_0_den (xs : Nat → Int32) (xl d : Nat) (a0 : Int32) (M : dp_M) : dp_den true xs xl (d + 1) 288 [.ref 0, .int a0] M = D_X11_release_0 xs xl d a0 M := rfl
set_option maxRecDepth 20000 in
theorem D_X11_release_0_eq (xs : Nat → Int32) (xl d : Nat) (v1 : Int32) (M : dp_M) : D_X11_release_0 xs xl d v1 M = dp_bi (dp_den true xs xl d 253 [.ref 0, .int v1] M) (fun r2 M1 => if r2 = 0 then (dp_nk M1 0 (some (.inr 0, dp_new M1 0 0 6))) else (dp_bi (dp_den true xs xl d 39 [.ref 37, .int v1] M1) (fun r4 M3 => if r4 = 0 then (some (.inl (some (.int (0 : Int32))), M3)) else (some (.inl (some (.int (1 : Int32))), M3))))) := by
  have hF := dp_den_grow (md := true) (xs := xs) (xl := xl) d
  unfold D_X11_release_0
  refine dp_s1 hF (i := .aload_n 0) rfl (fun _ => rfl) ?_
  refine dp_s1 hF (i := .iload_n 1) rfl (fun _ => rfl) ?_
  refine dp_si (mj := dp_m_X11_isBox) (i := .invokevirtual 176) rfl rfl (Or.inr rfl) rfl (fun _ => rfl) (fun r2 M1 => ?_)
  refine dp_s2 hF (i := .ifCond .ne 13) (a := (8, [some (.ref 0), some (.int v1)], [], M1)) (b := (18, [some (.ref 0), some (.int v1)], [], M1)) rfl (fun _ => rfl) ?_ ?_
  · exact dp_s0 hF (i := .new 141) rfl (fun _ => rfl)
  refine dp_s1 hF (i := .aload_n 0) rfl (fun _ => rfl) ?_
  refine dp_s1 hF (i := .getfield 36) rfl (fun _ => rfl) ?_
  refine dp_s1 hF (i := .iload_n 1) rfl (fun _ => rfl) ?_
  refine dp_si (mj := dp_m_X1_askRelease) (i := .invokevirtual 358) rfl rfl (Or.inr rfl) rfl (fun _ => rfl) (fun r4 M3 => ?_)
  refine dp_s2 hF (i := .ifCond .eq 7) (a := (33, [some (.ref 0), some (.int v1)], [], M3)) (b := (29, [some (.ref 0), some (.int v1)], [], M3)) rfl (fun _ => rfl) ?_ ?_
  · refine dp_s1 hF (i := .iconst 0) rfl (fun _ => rfl) ?_
    exact dp_s0 hF (i := .ireturn) rfl (fun _ => rfl)
  refine dp_s1 hF (i := .iconst 1) rfl (fun _ => rfl) ?_
  refine dp_s1 hF (i := .goto 4) rfl (fun _ => rfl) ?_
  exact dp_s0 hF (i := .ireturn) rfl (fun _ => rfl)
noncomputable def D_X11_bars_0 (xs : Nat → Int32) (xl d : Nat) (v1 : Int32) (v2 : Int32) (M : dp_M) : Option dp_Res := dp_lim true xs xl (dp_den true xs xl d) dp_m_X11_bars (0, [some (.ref 0), some (.int v1), some (.int v2)], [], M)
theorem D_X11_bars_0_den (xs : Nat → Int32) (xl d : Nat) (a0 : Int32) (a1 : Int32) (M : dp_M) : dp_den true xs xl (d + 1) 289 [.ref 0, .int a0, .int a1] M = D_X11_bars_0 xs xl d a0 a1 M := rfl
set_option maxRecDepth 20000 in
theorem D_X11_bars_0_eq (xs : Nat → Int32) (xl d : Nat) (v1 : Int32) (v2 : Int32) (M : dp_M) : D_X11_bars_0 xs xl d v1 v2 M = dp_bi (dp_den true xs xl d 253 [.ref 0, .int v1] M) (fun r2 M1 => if r2 = 0 then (dp_nk M1 0 (some (.inr 0, dp_new M1 0 0 6))) else (dp_bi (dp_den true xs xl d 41 [.ref 37, .int v1, .int v2] M1) (fun r4 M3 => some (.inl (some (.int r4)), M3)))) := by
  have hF := dp_den_grow (md := true) (xs := xs) (xl := xl) d
  unfold D_X11_bars_0
  refine dp_s1 hF (i := .aload_n 0) rfl (fun _ => rfl) ?_
  refine dp_s1 hF (i := .iload_n 1) rfl (fun _ => rfl) ?_
  refine dp_si (mj := dp_m_X11_isBox) (i := .invokevirtual 176) rfl rfl (Or.inr rfl) rfl (fun _ => rfl) (fun r2 M1 => ?_)
  refine dp_s2 hF (i := .ifCond .ne 13) (a := (8, [some (.ref 0), some (.int v1), some (.int v2)], [], M1)) (b := (18, [some (.ref 0), some (.int v1), some (.int v2)], [], M1)) rfl (fun _ => rfl) ?_ ?_
  · exact dp_s0 hF (i := .new 141) rfl (fun _ => rfl)
  refine dp_s1 hF (i := .aload_n 0) rfl (fun _ => rfl) ?_
  refine dp_s1 hF (i := .getfield 36) rfl (fun _ => rfl) ?_
  refine dp_s1 hF (i := .iload_n 1) rfl (fun _ => rfl) ?_
  refine dp_s1 hF (i := .iload_n 2) rfl (fun _ => rfl) ?_
  refine dp_si (mj := dp_m_X1_barOfGroup) (i := .invokevirtual 361) rfl rfl (Or.inl rfl) rfl (fun _ => rfl) (fun r4 M3 => ?_)
  exact dp_s0 hF (i := .ireturn) rfl (fun _ => rfl)
noncomputable def D_X11_part_0 (xs : Nat → Int32) (xl d : Nat) (v1 : Int32) (v2 : Int32) (M : dp_M) : Option dp_Res := dp_lim true xs xl (dp_den true xs xl d) dp_m_X11_part (0, [some (.ref 0), some (.int v1), some (.int v2)], [], M)
theorem D_X11_part_0_den (xs : Nat → Int32) (xl d : Nat) (a0 : Int32) (a1 : Int32) (M : dp_M) : dp_den true xs xl (d + 1) 290 [.ref 0, .int a0, .int a1] M = D_X11_part_0 xs xl d a0 a1 M := rfl
set_option maxRecDepth 20000 in
theorem D_X11_part_0_eq (xs : Nat → Int32) (xl d : Nat) (v1 : Int32) (v2 : Int32) (M : dp_M) : D_X11_part_0 xs xl d v1 v2 M = dp_bi (dp_den true xs xl d 253 [.ref 0, .int v1] M) (fun r2 M1 => if r2 = 0 then (dp_nk M1 0 (some (.inr 0, dp_new M1 0 0 6))) else (if (1 : Int32) ≤ v2 then (dp_bi (dp_den true xs xl d 45 [.ref 37, .int v1, .int v2] M1) (fun r4 M3 => some (.inl (some (.int r4)), M3))) else (dp_nk M1 0 (some (.inr 0, dp_new M1 0 0 6))))) := by
  have hF := dp_den_grow (md := true) (xs := xs) (xl := xl) d
  unfold D_X11_part_0
  refine dp_s1 hF (i := .aload_n 0) rfl (fun _ => rfl) ?_
  refine dp_s1 hF (i := .iload_n 1) rfl (fun _ => rfl) ?_
  refine dp_si (mj := dp_m_X11_isBox) (i := .invokevirtual 176) rfl rfl (Or.inr rfl) rfl (fun _ => rfl) (fun r2 M1 => ?_)
  refine dp_s2 hF (i := .ifCond .eq 8) (a := (13, [some (.ref 0), some (.int v1), some (.int v2)], [], M1)) (b := (8, [some (.ref 0), some (.int v1), some (.int v2)], [], M1)) rfl (fun _ => rfl) ?_ ?_
  · exact dp_s0 hF (i := .new 141) rfl (fun _ => rfl)
  refine dp_s1 hF (i := .iload_n 2) rfl (fun _ => rfl) ?_
  refine dp_s1 hF (i := .iconst 1) rfl (fun _ => rfl) ?_
  refine dp_s2 hF (i := .if_icmp .ge 14) (a := (24, [some (.ref 0), some (.int v1), some (.int v2)], [], M1)) (b := (13, [some (.ref 0), some (.int v1), some (.int v2)], [], M1)) rfl (fun _ => rfl) ?_ ?_
  · refine dp_s1 hF (i := .aload_n 0) rfl (fun _ => rfl) ?_
    refine dp_s1 hF (i := .getfield 36) rfl (fun _ => rfl) ?_
    refine dp_s1 hF (i := .iload_n 1) rfl (fun _ => rfl) ?_
    refine dp_s1 hF (i := .iload_n 2) rfl (fun _ => rfl) ?_
    refine dp_si (mj := dp_m_X1_releasePart) (i := .invokevirtual 366) rfl rfl (Or.inl rfl) rfl (fun _ => rfl) (fun r4 M3 => ?_)
    exact dp_s0 hF (i := .ireturn) rfl (fun _ => rfl)
  exact dp_s0 hF (i := .new 141) rfl (fun _ => rfl)
noncomputable def D_X11_withdraw_0 (xs : Nat → Int32) (xl d : Nat) (v1 : Int32) (M : dp_M) : Option dp_Res := dp_lim true xs xl (dp_den true xs xl d) dp_m_X11_withdraw (0, [some (.ref 0), some (.int v1)], [], M)
theorem D_X11_withdraw_0_den (xs : Nat → Int32) (xl d : Nat) (a0 : Int32) (M : dp_M) : dp_den true xs xl (d + 1) 291 [.ref 0, .int a0] M = D_X11_withdraw_0 xs xl d a0 M := rfl
set_option maxRecDepth 20000 in
theorem D_X11_withdraw_0_eq (xs : Nat → Int32) (xl d : Nat) (v1 : Int32) (M : dp_M) : D_X11_withdraw_0 xs xl d v1 M = dp_bi (dp_den true xs xl d 253 [.ref 0, .int v1] M) (fun r2 M1 => if r2 = 0 then (dp_nk M1 0 (some (.inr 0, dp_new M1 0 0 6))) else (dp_bi (dp_den true xs xl d 46 [.ref 37, .int v1] M1) (fun r4 M3 => some (.inl (some (.int r4)), M3)))) := by
  have hF := dp_den_grow (md := true) (xs := xs) (xl := xl) d
  unfold D_X11_withdraw_0
  refine dp_s1 hF (i := .aload_n 0) rfl (fun _ => rfl) ?_
  refine dp_s1 hF (i := .iload_n 1) rfl (fun _ => rfl) ?_
  refine dp_si (mj := dp_m_X11_isBox) (i := .invokevirtual 176) rfl rfl (Or.inr rfl) rfl (fun _ => rfl) (fun r2 M1 => ?_)
  refine dp_s2 hF (i := .ifCond .ne 13) (a := (8, [some (.ref 0), some (.int v1)], [], M1)) (b := (18, [some (.ref 0), some (.int v1)], [], M1)) rfl (fun _ => rfl) ?_ ?_
  · exact dp_s0 hF (i := .new 141) rfl (fun _ => rfl)
  refine dp_s1 hF (i := .aload_n 0) rfl (fun _ => rfl) ?_
  refine dp_s1 hF (i := .getfield 36) rfl (fun _ => rfl) ?_
  refine dp_s1 hF (i := .iload_n 1) rfl (fun _ => rfl) ?_
  refine dp_si (mj := dp_m_X1_takeBackRelease) (i := .invokevirtual 369) rfl rfl (Or.inl rfl) rfl (fun _ => rfl) (fun r4 M3 => ?_)
  exact dp_s0 hF (i := .ireturn) rfl (fun _ => rfl)
noncomputable def D_X11_gate_0 (xs : Nat → Int32) (xl d : Nat) (v1 : Int32) (M : dp_M) : Option dp_Res := dp_lim true xs xl (dp_den true xs xl d) dp_m_X11_gate (0, [some (.ref 0), some (.int v1)], [], M)
theorem D_X11_gate_0_den (xs : Nat → Int32) (xl d : Nat) (a0 : Int32) (M : dp_M) : dp_den true xs xl (d + 1) 292 [.ref 0, .int a0] M = D_X11_gate_0 xs xl d a0 M := rfl
set_option maxRecDepth 20000 in
theorem D_X11_gate_0_eq (xs : Nat → Int32) (xl d : Nat) (v1 : Int32) (M : dp_M) : D_X11_gate_0 xs xl d v1 M = dp_bi (dp_den true xs xl d 253 [.ref 0, .int v1] M) (fun r2 M1 => if r2 = 0 then (dp_nk M1 0 (some (.inr 0, dp_new M1 0 0 6))) else (dp_bi (dp_den true xs xl d 48 [.ref 37, .int v1] M1) (fun r4 M3 => if r4 = 0 then (some (.inl (some (.int (0 : Int32))), M3)) else (some (.inl (some (.int (1 : Int32))), M3))))) := by
  have hF := dp_den_grow (md := true) (xs := xs) (xl := xl) d
  unfold D_X11_gate_0
  refine dp_s1 hF (i := .aload_n 0) rfl (fun _ => rfl) ?_
  refine dp_s1 hF (i := .iload_n 1) rfl (fun _ => rfl) ?_
  refine dp_si (mj := dp_m_X11_isBox) (i := .invokevirtual 176) rfl rfl (Or.inr rfl) rfl (fun _ => rfl) (fun r2 M1 => ?_)
  refine dp_s2 hF (i := .ifCond .ne 13) (a := (8, [some (.ref 0), some (.int v1)], [], M1)) (b := (18, [some (.ref 0), some (.int v1)], [], M1)) rfl (fun _ => rfl) ?_ ?_
  · exact dp_s0 hF (i := .new 141) rfl (fun _ => rfl)
  refine dp_s1 hF (i := .aload_n 0) rfl (fun _ => rfl) ?_
  refine dp_s1 hF (i := .getfield 36) rfl (fun _ => rfl) ?_
  refine dp_s1 hF (i := .iload_n 1) rfl (fun _ => rfl) ?_
  refine dp_si (mj := dp_m_X1_letOut) (i := .invokevirtual 372) rfl rfl (Or.inr rfl) rfl (fun _ => rfl) (fun r4 M3 => ?_)
  refine dp_s2 hF (i := .ifCond .eq 7) (a := (33, [some (.ref 0), some (.int v1)], [], M3)) (b := (29, [some (.ref 0), some (.int v1)], [], M3)) rfl (fun _ => rfl) ?_ ?_
  · refine dp_s1 hF (i := .iconst 0) rfl (fun _ => rfl) ?_
    exact dp_s0 hF (i := .ireturn) rfl (fun _ => rfl)
  refine dp_s1 hF (i := .iconst 1) rfl (fun _ => rfl) ?_
  refine dp_s1 hF (i := .goto 4) rfl (fun _ => rfl) ?_
  exact dp_s0 hF (i := .ireturn) rfl (fun _ => rfl)
noncomputable def D_X11_away_0 (xs : Nat → Int32) (xl d : Nat) (v1 : Int32) (v2 : Int32) (v3 : Int32) (M : dp_M) : Option dp_Res := dp_lim true xs xl (dp_den true xs xl d) dp_m_X11_away (0, [some (.ref 0), some (.int v1), some (.int v2), some (.int v3)], [], M)
theorem D_X11_away_0_den (xs : Nat → Int32) (xl d : Nat) (a0 : Int32) (a1 : Int32) (a2 : Int32) (M : dp_M) : dp_den true xs xl (d + 1) 293 [.ref 0, .int a0, .int a1, .int a2] M = D_X11_away_0 xs xl d a0 a1 a2 M := rfl
set_option maxRecDepth 20000 in
theorem D_X11_away_0_eq (xs : Nat → Int32) (xl d : Nat) (v1 : Int32) (v2 : Int32) (v3 : Int32) (M : dp_M) : D_X11_away_0 xs xl d v1 v2 v3 M = dp_bi (dp_den true xs xl d 253 [.ref 0, .int v1] M) (fun r2 M1 => if r2 = 0 then (some (.inl (some (.int (0 : Int32))), M1)) else (if ((v2 >>> ((15 : Int32) &&& 31)) &&& (1 : Int32)) = (1 : Int32) then (dp_bi (dp_den true xs xl d 49 [.ref 37, .int v1, .int v3] M1) (fun r4 M3 => if r4 = 0 then (some (.inl (some (.int (0 : Int32))), M3)) else (some (.inl (some (.int (1 : Int32))), M3)))) else (some (.inl (some (.int (0 : Int32))), M1)))) := by
  have hF := dp_den_grow (md := true) (xs := xs) (xl := xl) d
  unfold D_X11_away_0
  refine dp_s1 hF (i := .aload_n 0) rfl (fun _ => rfl) ?_
  refine dp_s1 hF (i := .iload_n 1) rfl (fun _ => rfl) ?_
  refine dp_si (mj := dp_m_X11_isBox) (i := .invokevirtual 176) rfl rfl (Or.inr rfl) rfl (fun _ => rfl) (fun r2 M1 => ?_)
  refine dp_s2 hF (i := .ifCond .eq 29) (a := (34, [some (.ref 0), some (.int v1), some (.int v2), some (.int v3)], [], M1)) (b := (8, [some (.ref 0), some (.int v1), some (.int v2), some (.int v3)], [], M1)) rfl (fun _ => rfl) ?_ ?_
  · refine dp_s1 hF (i := .iconst 0) rfl (fun _ => rfl) ?_
    exact dp_s0 hF (i := .ireturn) rfl (fun _ => rfl)
  refine dp_s1 hF (i := .iload_n 2) rfl (fun _ => rfl) ?_
  refine dp_s1 hF (i := .bipush 15) rfl (fun _ => rfl) ?_
  refine dp_s1 hF (i := .ishr) rfl (fun _ => rfl) ?_
  refine dp_s1 hF (i := .iconst 1) rfl (fun _ => rfl) ?_
  refine dp_s1 hF (i := .iand) rfl (fun _ => rfl) ?_
  refine dp_s1 hF (i := .iconst 1) rfl (fun _ => rfl) ?_
  refine dp_s2 hF (i := .if_icmp .ne 19) (a := (18, [some (.ref 0), some (.int v1), some (.int v2), some (.int v3)], [], M1)) (b := (34, [some (.ref 0), some (.int v1), some (.int v2), some (.int v3)], [], M1)) rfl (fun _ => rfl) ?_ ?_
  · refine dp_s1 hF (i := .aload_n 0) rfl (fun _ => rfl) ?_
    refine dp_s1 hF (i := .getfield 36) rfl (fun _ => rfl) ?_
    refine dp_s1 hF (i := .iload_n 1) rfl (fun _ => rfl) ?_
    refine dp_s1 hF (i := .iload_n 3) rfl (fun _ => rfl) ?_
    refine dp_si (mj := dp_m_X1_bond) (i := .invokevirtual 375) rfl rfl (Or.inr rfl) rfl (fun _ => rfl) (fun r4 M3 => ?_)
    refine dp_s2 hF (i := .ifCond .eq 7) (a := (34, [some (.ref 0), some (.int v1), some (.int v2), some (.int v3)], [], M3)) (b := (30, [some (.ref 0), some (.int v1), some (.int v2), some (.int v3)], [], M3)) rfl (fun _ => rfl) ?_ ?_
    · refine dp_s1 hF (i := .iconst 0) rfl (fun _ => rfl) ?_
      exact dp_s0 hF (i := .ireturn) rfl (fun _ => rfl)
    refine dp_s1 hF (i := .iconst 1) rfl (fun _ => rfl) ?_
    refine dp_s1 hF (i := .goto 4) rfl (fun _ => rfl) ?_
    exact dp_s0 hF (i := .ireturn) rfl (fun _ => rfl)
  refine dp_s1 hF (i := .iconst 0) rfl (fun _ => rfl) ?_
  exact dp_s0 hF (i := .ireturn) rfl (fun _ => rfl)
noncomputable def D_X11_notice_0 (xs : Nat → Int32) (xl d : Nat) (v1 : Int32) (M : dp_M) : Option dp_Res := dp_lim true xs xl (dp_den true xs xl d) dp_m_X11_notice (0, [some (.ref 0), some (.int v1)], [], M)
theorem D_X11_notice_0_den (xs : Nat → Int32) (xl d : Nat) (a0 : Int32) (M : dp_M) : dp_den true xs xl (d + 1) 294 [.ref 0, .int a0] M = D_X11_notice_0 xs xl d a0 M := rfl
set_option maxRecDepth 20000 in
theorem D_X11_notice_0_eq (xs : Nat → Int32) (xl d : Nat) (v1 : Int32) (M : dp_M) : D_X11_notice_0 xs xl d v1 M = dp_bi (dp_den true xs xl d 51 [.ref 37, .int v1] M) (fun r2 M1 => some (.inl (some (.int r2)), M1)) := by
  have hF := dp_den_grow (md := true) (xs := xs) (xl := xl) d
  unfold D_X11_notice_0
  refine dp_s1 hF (i := .aload_n 0) rfl (fun _ => rfl) ?_
  refine dp_s1 hF (i := .getfield 36) rfl (fun _ => rfl) ?_
  refine dp_s1 hF (i := .iload_n 1) rfl (fun _ => rfl) ?_
  refine dp_si (mj := dp_m_X1_keptNotice) (i := .invokevirtual 379) rfl rfl (Or.inl rfl) rfl (fun _ => rfl) (fun r2 M1 => ?_)
  exact dp_s0 hF (i := .ireturn) rfl (fun _ => rfl)
noncomputable def D_X11_look_0 (xs : Nat → Int32) (xl d : Nat) (v1 : Int32) (v2 : Int32) (M : dp_M) : Option dp_Res := dp_lim true xs xl (dp_den true xs xl d) dp_m_X11_look (0, [some (.ref 0), some (.int v1), some (.int v2)], [], M)
theorem D_X11_look_0_den (xs : Nat → Int32) (xl d : Nat) (a0 : Int32) (a1 : Int32) (M : dp_M) : dp_den true xs xl (d + 1) 295 [.ref 0, .int a0, .int a1] M = D_X11_look_0 xs xl d a0 a1 M := rfl
set_option maxRecDepth 20000 in
theorem D_X11_look_0_eq (xs : Nat → Int32) (xl d : Nat) (v1 : Int32) (v2 : Int32) (M : dp_M) : D_X11_look_0 xs xl d v1 v2 M = dp_bi (dp_den true xs xl d 253 [.ref 0, .int v1] M) (fun r2 M1 => if r2 = 0 then (dp_nk M1 0 (some (.inr 2, dp_new M1 0 0 6))) else (dp_bi (dp_den true xs xl d 251 [.long (Int32.toInt64 v2), .long (0 : Int64), .long (5 : Int64)] M1) (fun r4 M3 => if r4 = 0 then (dp_nk M3 0 (some (.inr 2, dp_new M3 0 0 6))) else (if v2 = (0 : Int32) then (if v1 < 0 ∨ 100 ≤ Int32.toNatClampNeg v1 then none else (some (.inl (some (.int (dp_I M3 11 (Int32.toNatClampNeg v1)))), M3))) else if v2 = (1 : Int32) then (if v1 < 0 ∨ 100 ≤ Int32.toNatClampNeg v1 then none else (some (.inl (some (.int (dp_I M3 41 (Int32.toNatClampNeg v1)))), M3))) else if v2 = (2 : Int32) then (dp_bi (dp_den true xs xl d 34 [.ref 37, .int v1] M3) (fun r8 M7 => some (.inl (some (.int r8)), M7))) else if v2 = (3 : Int32) then (if v1 < 0 ∨ 100 ≤ Int32.toNatClampNeg v1 then none else (some (.inl (some (.int (dp_I M3 42 (Int32.toNatClampNeg v1)))), M3))) else if v2 = (4 : Int32) then (if v1 < 0 ∨ 100 ≤ Int32.toNatClampNeg v1 then none else (some (.inl (some (.int (dp_I M3 43 (Int32.toNatClampNeg v1)))), M3))) else (dp_bi (dp_den true xs xl d 36 [.ref 37, .int v1] M3) (fun r6 M5 => some (.inl (some (.int r6)), M5))))))) := by
  have hF := dp_den_grow (md := true) (xs := xs) (xl := xl) d
  unfold D_X11_look_0
  refine dp_s1 hF (i := .aload_n 0) rfl (fun _ => rfl) ?_
  refine dp_s1 hF (i := .iload_n 1) rfl (fun _ => rfl) ?_
  refine dp_si (mj := dp_m_X11_isBox) (i := .invokevirtual 176) rfl rfl (Or.inr rfl) rfl (fun _ => rfl) (fun r2 M1 => ?_)
  refine dp_s2 hF (i := .ifCond .eq 15) (a := (20, [some (.ref 0), some (.int v1), some (.int v2)], [], M1)) (b := (8, [some (.ref 0), some (.int v1), some (.int v2)], [], M1)) rfl (fun _ => rfl) ?_ ?_
  · exact dp_s0 hF (i := .new 194) rfl (fun _ => rfl)
  refine dp_s1 hF (i := .iload_n 2) rfl (fun _ => rfl) ?_
  refine dp_s1 hF (i := .i2l) rfl (fun _ => rfl) ?_
  refine dp_s1 hF (i := .lconst 0) rfl (fun _ => rfl) ?_
  refine dp_s1 hF (i := .ldc2_w 139) rfl (fun _ => rfl) ?_
  refine dp_si (mj := dp_m_X11_within) (i := .invokestatic 96) rfl rfl (Or.inr rfl) rfl (fun _ => rfl) (fun r4 M3 => ?_)
  refine dp_s2 hF (i := .ifCond .ne 13) (a := (20, [some (.ref 0), some (.int v1), some (.int v2)], [], M3)) (b := (30, [some (.ref 0), some (.int v1), some (.int v2)], [], M3)) rfl (fun _ => rfl) ?_ ?_
  · exact dp_s0 hF (i := .new 194) rfl (fun _ => rfl)
  refine dp_s1 hF (i := .iload_n 2) rfl (fun _ => rfl) ?_
  refine (dp_s (E := fun k => if v2 = (0 : Int32) then k (64, [some (.ref 0), some (.int v1), some (.int v2)], [], M3) else if v2 = (1 : Int32) then k (74, [some (.ref 0), some (.int v1), some (.int v2)], [], M3) else if v2 = (2 : Int32) then k (84, [some (.ref 0), some (.int v1), some (.int v2)], [], M3) else if v2 = (3 : Int32) then k (93, [some (.ref 0), some (.int v1), some (.int v2)], [], M3) else if v2 = (4 : Int32) then k (103, [some (.ref 0), some (.int v1), some (.int v2)], [], M3) else k (113, [some (.ref 0), some (.int v1), some (.int v2)], [], M3)) hF (i := .tableswitch 82 0 4 #[33, 43, 53, 62, 72]) rfl (fun _ => rfl)).trans ?_
  refine dp_ifc ?_ ?_
  · refine dp_s1 hF (i := .aload_n 0) rfl (fun _ => rfl) ?_
    refine dp_s1 hF (i := .getfield 18) rfl (fun _ => rfl) ?_
    refine dp_s1 hF (i := .getfield 382) rfl (fun _ => rfl) ?_
    refine dp_s1 hF (i := .iload_n 1) rfl (fun _ => rfl) ?_
    refine dp_s3 hF (i := .iaload) rfl (fun _ => rfl) ?_
    exact dp_s0 hF (i := .ireturn) rfl (fun _ => rfl)
  refine dp_ifc ?_ ?_
  · refine dp_s1 hF (i := .aload_n 0) rfl (fun _ => rfl) ?_
    refine dp_s1 hF (i := .getfield 36) rfl (fun _ => rfl) ?_
    refine dp_s1 hF (i := .getfield 385) rfl (fun _ => rfl) ?_
    refine dp_s1 hF (i := .iload_n 1) rfl (fun _ => rfl) ?_
    refine dp_s3 hF (i := .iaload) rfl (fun _ => rfl) ?_
    exact dp_s0 hF (i := .ireturn) rfl (fun _ => rfl)
  refine dp_ifc ?_ ?_
  · refine dp_s1 hF (i := .aload_n 0) rfl (fun _ => rfl) ?_
    refine dp_s1 hF (i := .getfield 36) rfl (fun _ => rfl) ?_
    refine dp_s1 hF (i := .iload_n 1) rfl (fun _ => rfl) ?_
    refine dp_si (mj := dp_m_X1_ownBars) (i := .invokevirtual 388) rfl rfl (Or.inl rfl) rfl (fun _ => rfl) (fun r8 M7 => ?_)
    exact dp_s0 hF (i := .ireturn) rfl (fun _ => rfl)
  refine dp_ifc ?_ ?_
  · refine dp_s1 hF (i := .aload_n 0) rfl (fun _ => rfl) ?_
    refine dp_s1 hF (i := .getfield 36) rfl (fun _ => rfl) ?_
    refine dp_s1 hF (i := .getfield 391) rfl (fun _ => rfl) ?_
    refine dp_s1 hF (i := .iload_n 1) rfl (fun _ => rfl) ?_
    refine dp_s3 hF (i := .iaload) rfl (fun _ => rfl) ?_
    exact dp_s0 hF (i := .ireturn) rfl (fun _ => rfl)
  refine dp_ifc ?_ ?_
  · refine dp_s1 hF (i := .aload_n 0) rfl (fun _ => rfl) ?_
    refine dp_s1 hF (i := .getfield 36) rfl (fun _ => rfl) ?_
    refine dp_s1 hF (i := .getfield 394) rfl (fun _ => rfl) ?_
    refine dp_s1 hF (i := .iload_n 1) rfl (fun _ => rfl) ?_
    refine dp_s3 hF (i := .iaload) rfl (fun _ => rfl) ?_
    exact dp_s0 hF (i := .ireturn) rfl (fun _ => rfl)
  refine dp_s1 hF (i := .aload_n 0) rfl (fun _ => rfl) ?_
  refine dp_s1 hF (i := .getfield 36) rfl (fun _ => rfl) ?_
  refine dp_s1 hF (i := .iload_n 1) rfl (fun _ => rfl) ?_
  refine dp_si (mj := dp_m_X1_groupSize) (i := .invokevirtual 397) rfl rfl (Or.inl rfl) rfl (fun _ => rfl) (fun r6 M5 => ?_)
  exact dp_s0 hF (i := .ireturn) rfl (fun _ => rfl)
noncomputable def D_X11_isCode_0 (xs : Nat → Int32) (xl d : Nat) (v0 : Int32) (M : dp_M) : Option dp_Res := dp_lim true xs xl (dp_den true xs xl d) dp_m_X11_isCode (0, [some (.int v0)], [], M)
theorem D_X11_isCode_0_den (xs : Nat → Int32) (xl d : Nat) (a0 : Int32) (M : dp_M) : dp_den true xs xl (d + 1) 296 [.int a0] M = D_X11_isCode_0 xs xl d a0 M := rfl
set_option maxRecDepth 20000 in
theorem D_X11_isCode_0_eq (xs : Nat → Int32) (xl d : Nat) (v0 : Int32) (M : dp_M) : D_X11_isCode_0 xs xl d v0 M = dp_bi (dp_den true xs xl d 251 [.long (Int32.toInt64 v0), .long (10 : Int64), .long (99 : Int64)] M) (fun r2 M1 => if r2 = 0 then (dp_bi (dp_den true xs xl d 251 [.long (Int32.toInt64 v0), .long (1000 : Int64), .long (9999 : Int64)] M1) (fun r4 M3 => if r4 = 0 then (dp_bi (dp_den true xs xl d 297 [.int v0] M3) (fun r6 M5 => if r6 = 0 then (some (.inl (some (.int (0 : Int32))), M5)) else (some (.inl (some (.int (1 : Int32))), M5)))) else (some (.inl (some (.int (1 : Int32))), M3)))) else (some (.inl (some (.int (1 : Int32))), M1))) := by
  have hF := dp_den_grow (md := true) (xs := xs) (xl := xl) d
  unfold D_X11_isCode_0
  refine dp_s1 hF (i := .iload_n 0) rfl (fun _ => rfl) ?_
  refine dp_s1 hF (i := .i2l) rfl (fun _ => rfl) ?_
  refine dp_s1 hF (i := .ldc2_w 400) rfl (fun _ => rfl) ?_
  refine dp_s1 hF (i := .ldc2_w 402) rfl (fun _ => rfl) ?_
  refine dp_si (mj := dp_m_X11_within) (i := .invokestatic 96) rfl rfl (Or.inr rfl) rfl (fun _ => rfl) (fun r2 M1 => ?_)
  refine dp_s2 hF (i := .ifCond .ne 24) (a := (14, [some (.int v0)], [], M1)) (b := (35, [some (.int v0)], [], M1)) rfl (fun _ => rfl) ?_ ?_
  · refine dp_s1 hF (i := .iload_n 0) rfl (fun _ => rfl) ?_
    refine dp_s1 hF (i := .i2l) rfl (fun _ => rfl) ?_
    refine dp_s1 hF (i := .ldc2_w 152) rfl (fun _ => rfl) ?_
    refine dp_s1 hF (i := .ldc2_w 404) rfl (fun _ => rfl) ?_
    refine dp_si (mj := dp_m_X11_within) (i := .invokestatic 96) rfl rfl (Or.inr rfl) rfl (fun _ => rfl) (fun r4 M3 => ?_)
    refine dp_s2 hF (i := .ifCond .ne 10) (a := (28, [some (.int v0)], [], M3)) (b := (35, [some (.int v0)], [], M3)) rfl (fun _ => rfl) ?_ ?_
    · refine dp_s1 hF (i := .iload_n 0) rfl (fun _ => rfl) ?_
      refine dp_si (mj := dp_m_X11_isFullCode) (i := .invokestatic 406) rfl rfl (Or.inr rfl) rfl (fun _ => rfl) (fun r6 M5 => ?_)
      refine dp_s2 hF (i := .ifCond .eq 7) (a := (39, [some (.int v0)], [], M5)) (b := (35, [some (.int v0)], [], M5)) rfl (fun _ => rfl) ?_ ?_
      · refine dp_s1 hF (i := .iconst 0) rfl (fun _ => rfl) ?_
        exact dp_s0 hF (i := .ireturn) rfl (fun _ => rfl)
      refine dp_s1 hF (i := .iconst 1) rfl (fun _ => rfl) ?_
      refine dp_s1 hF (i := .goto 4) rfl (fun _ => rfl) ?_
      exact dp_s0 hF (i := .ireturn) rfl (fun _ => rfl)
    refine dp_s1 hF (i := .iconst 1) rfl (fun _ => rfl) ?_
    refine dp_s1 hF (i := .goto 4) rfl (fun _ => rfl) ?_
    exact dp_s0 hF (i := .ireturn) rfl (fun _ => rfl)
  refine dp_s1 hF (i := .iconst 1) rfl (fun _ => rfl) ?_
  refine dp_s1 hF (i := .goto 4) rfl (fun _ => rfl) ?_
  exact dp_s0 hF (i := .ireturn) rfl (fun _ => rfl)
noncomputable def D_X11_isFullCode_0 (xs : Nat → Int32) (xl d : Nat) (v0 : Int32) (M : dp_M) : Option dp_Res := dp_lim true xs xl (dp_den true xs xl d) dp_m_X11_isFullCode (0, [some (.int v0)], [], M)
theorem D_X11_isFullCode_0_den (xs : Nat → Int32) (xl d : Nat) (a0 : Int32) (M : dp_M) : dp_den true xs xl (d + 1) 297 [.int a0] M = D_X11_isFullCode_0 xs xl d a0 M := rfl
set_option maxRecDepth 20000 in
theorem D_X11_isFullCode_0_eq (xs : Nat → Int32) (xl d : Nat) (v0 : Int32) (M : dp_M) : D_X11_isFullCode_0 xs xl d v0 M = dp_bi (dp_den true xs xl d 251 [.long (Int32.toInt64 v0), .long (100000 : Int64), .long (999999 : Int64)] M) (fun r2 M1 => if r2 = 0 ∨ r2 = 1 then some (.inl (some (.int r2)), M1) else none) := by
  have hF := dp_den_grow (md := true) (xs := xs) (xl := xl) d
  unfold D_X11_isFullCode_0
  refine dp_s1 hF (i := .iload_n 0) rfl (fun _ => rfl) ?_
  refine dp_s1 hF (i := .i2l) rfl (fun _ => rfl) ?_
  refine dp_s1 hF (i := .ldc2_w 132) rfl (fun _ => rfl) ?_
  refine dp_s1 hF (i := .ldc2_w 409) rfl (fun _ => rfl) ?_
  refine dp_si (mj := dp_m_X11_within) (i := .invokestatic 96) rfl rfl (Or.inr rfl) rfl (fun _ => rfl) (fun r2 M1 => ?_)
  exact dp_s0 hF (i := .ireturn) rfl (fun _ => rfl)
noncomputable def D_X11_isLand_0 (xs : Nat → Int32) (xl d : Nat) (v0 : Int32) (M : dp_M) : Option dp_Res := dp_lim true xs xl (dp_den true xs xl d) dp_m_X11_isLand (0, [some (.int v0)], [], M)
theorem D_X11_isLand_0_den (xs : Nat → Int32) (xl d : Nat) (a0 : Int32) (M : dp_M) : dp_den true xs xl (d + 1) 298 [.int a0] M = D_X11_isLand_0 xs xl d a0 M := rfl
set_option maxRecDepth 20000 in
theorem D_X11_isLand_0_eq (xs : Nat → Int32) (xl d : Nat) (v0 : Int32) (M : dp_M) : D_X11_isLand_0 xs xl d v0 M = dp_bi (dp_den true xs xl d 251 [.long (Int32.toInt64 v0), .long (0 : Int64), .long (15 : Int64)] M) (fun r2 M1 => if r2 = 0 ∨ r2 = 1 then some (.inl (some (.int r2)), M1) else none) := by
  have hF := dp_den_grow (md := true) (xs := xs) (xl := xl) d
  unfold D_X11_isLand_0
  refine dp_s1 hF (i := .iload_n 0) rfl (fun _ => rfl) ?_
  refine dp_s1 hF (i := .i2l) rfl (fun _ => rfl) ?_
  refine dp_s1 hF (i := .lconst 0) rfl (fun _ => rfl) ?_
  refine dp_s1 hF (i := .ldc2_w 330) rfl (fun _ => rfl) ?_
  refine dp_si (mj := dp_m_X11_within) (i := .invokestatic 96) rfl rfl (Or.inr rfl) rfl (fun _ => rfl) (fun r2 M1 => ?_)
  exact dp_s0 hF (i := .ireturn) rfl (fun _ => rfl)
noncomputable def D_X11_member_0 (xs : Nat → Int32) (xl d : Nat) (v1 : Int32) (v2 : Int32) (M : dp_M) : Option dp_Res := dp_lim true xs xl (dp_den true xs xl d) dp_m_X11_member (0, [some (.ref 0), some (.int v1), some (.int v2)], [], M)
theorem D_X11_member_0_den (xs : Nat → Int32) (xl d : Nat) (a0 : Int32) (a1 : Int32) (M : dp_M) : dp_den true xs xl (d + 1) 299 [.ref 0, .int a0, .int a1] M = D_X11_member_0 xs xl d a0 a1 M := rfl
set_option maxRecDepth 20000 in
theorem D_X11_member_0_eq (xs : Nat → Int32) (xl d : Nat) (v1 : Int32) (v2 : Int32) (M : dp_M) : D_X11_member_0 xs xl d v1 v2 M = dp_bi (dp_den true xs xl d 251 [.long (Int32.toInt64 v1), .long (16 : Int64), .long (23 : Int64)] M) (fun r2 M1 => if r2 = 0 then (some (.inl (some (.int (0 : Int32))), M1)) else (dp_bi (dp_den true xs xl d 251 [.long (Int32.toInt64 v2), .long (0 : Int64), .long (23 : Int64)] M1) (fun r4 M3 => if r4 = 0 then (some (.inl (some (.int (0 : Int32))), M3)) else (dp_bi (dp_den true xs xl d 209 [.ref 51, .int v1, .int v2] M3) (fun r6 M5 => if r6 = 0 then (some (.inl (some (.int (0 : Int32))), M5)) else (some (.inl (some (.int (1 : Int32))), M5))))))) := by
  have hF := dp_den_grow (md := true) (xs := xs) (xl := xl) d
  unfold D_X11_member_0
  refine dp_s1 hF (i := .iload_n 1) rfl (fun _ => rfl) ?_
  refine dp_s1 hF (i := .i2l) rfl (fun _ => rfl) ?_
  refine dp_s1 hF (i := .ldc2_w 411) rfl (fun _ => rfl) ?_
  refine dp_s1 hF (i := .ldc2_w 413) rfl (fun _ => rfl) ?_
  refine dp_si (mj := dp_m_X11_within) (i := .invokestatic 96) rfl rfl (Or.inr rfl) rfl (fun _ => rfl) (fun r2 M1 => ?_)
  refine dp_s2 hF (i := .ifCond .eq 31) (a := (42, [some (.ref 0), some (.int v1), some (.int v2)], [], M1)) (b := (14, [some (.ref 0), some (.int v1), some (.int v2)], [], M1)) rfl (fun _ => rfl) ?_ ?_
  · refine dp_s1 hF (i := .iconst 0) rfl (fun _ => rfl) ?_
    exact dp_s0 hF (i := .ireturn) rfl (fun _ => rfl)
  refine dp_s1 hF (i := .iload_n 2) rfl (fun _ => rfl) ?_
  refine dp_s1 hF (i := .i2l) rfl (fun _ => rfl) ?_
  refine dp_s1 hF (i := .lconst 0) rfl (fun _ => rfl) ?_
  refine dp_s1 hF (i := .ldc2_w 413) rfl (fun _ => rfl) ?_
  refine dp_si (mj := dp_m_X11_within) (i := .invokestatic 96) rfl rfl (Or.inr rfl) rfl (fun _ => rfl) (fun r4 M3 => ?_)
  refine dp_s2 hF (i := .ifCond .eq 19) (a := (42, [some (.ref 0), some (.int v1), some (.int v2)], [], M3)) (b := (26, [some (.ref 0), some (.int v1), some (.int v2)], [], M3)) rfl (fun _ => rfl) ?_ ?_
  · refine dp_s1 hF (i := .iconst 0) rfl (fun _ => rfl) ?_
    exact dp_s0 hF (i := .ireturn) rfl (fun _ => rfl)
  refine dp_s1 hF (i := .aload_n 0) rfl (fun _ => rfl) ?_
  refine dp_s1 hF (i := .getfield 43) rfl (fun _ => rfl) ?_
  refine dp_s1 hF (i := .iload_n 1) rfl (fun _ => rfl) ?_
  refine dp_s1 hF (i := .iload_n 2) rfl (fun _ => rfl) ?_
  refine dp_si (mj := dp_m_X9_addMember) (i := .invokevirtual 415) rfl rfl (Or.inr rfl) rfl (fun _ => rfl) (fun r6 M5 => ?_)
  refine dp_s2 hF (i := .ifCond .eq 7) (a := (42, [some (.ref 0), some (.int v1), some (.int v2)], [], M5)) (b := (38, [some (.ref 0), some (.int v1), some (.int v2)], [], M5)) rfl (fun _ => rfl) ?_ ?_
  · refine dp_s1 hF (i := .iconst 0) rfl (fun _ => rfl) ?_
    exact dp_s0 hF (i := .ireturn) rfl (fun _ => rfl)
  refine dp_s1 hF (i := .iconst 1) rfl (fun _ => rfl) ?_
  refine dp_s1 hF (i := .goto 4) rfl (fun _ => rfl) ?_
  exact dp_s0 hF (i := .ireturn) rfl (fun _ => rfl)
noncomputable def D_X11_row_0 (xs : Nat → Int32) (xl d : Nat) (v1 : Int32) (v2 : Int32) (v3 : Int32) (v4 : Int32) (v5 : Int32) (v6 : Int32) (v7 : Int32) (M : dp_M) : Option dp_Res := dp_lim true xs xl (dp_den true xs xl d) dp_m_X11_row (0, [some (.ref 0), some (.int v1), some (.int v2), some (.int v3), some (.int v4), some (.int v5), some (.int v6), some (.int v7)], [], M)
noncomputable def D_X11_row_36 (xs : Nat → Int32) (xl d : Nat) (v1 : Int32) (v2 : Int32) (v3 : Int32) (v4 : Int32) (v5 : Int32) (v6 : Int32) (v7 : Int32) (M : dp_M) : Option dp_Res := dp_lim true xs xl (dp_den true xs xl d) dp_m_X11_row (36, [some (.ref 0), some (.int v1), some (.int v2), some (.int v3), some (.int v4), some (.int v5), some (.int v6), some (.int v7)], [], M)
theorem D_X11_row_0_den (xs : Nat → Int32) (xl d : Nat) (a0 : Int32) (a1 : Int32) (a2 : Int32) (a3 : Int32) (a4 : Int32) (a5 : Int32) (a6 : Int32) (M : dp_M) : dp_den true xs xl (d + 1) 300 [.ref 0, .int a0, .int a1, .int a2, .int a3, .int a4, .int a5, .int a6] M = D_X11_row_0 xs xl d a0 a1 a2 a3 a4 a5 a6 M := rfl
set_option maxRecDepth 20000 in
theorem D_X11_row_0_eq (xs : Nat → Int32) (xl d : Nat) (v1 : Int32) (v2 : Int32) (v3 : Int32) (v4 : Int32) (v5 : Int32) (v6 : Int32) (v7 : Int32) (M : dp_M) : D_X11_row_0 xs xl d v1 v2 v3 v4 v5 v6 v7 M = dp_bi (dp_den true xs xl d 296 [.int v1] M) (fun r2 M1 => if r2 = 0 then (dp_nk M1 0 (some (.inr 0, dp_new M1 0 0 6))) else (dp_bi (dp_den true xs xl d 251 [.long (Int32.toInt64 v2), .long (0 : Int64), .long (23 : Int64)] M1) (fun r4 M3 => if r4 = 0 then (if v2 = (31 : Int32) then (D_X11_row_36 xs xl d v1 v2 v3 v4 v5 v6 v7 M3) else (dp_nk M3 0 (some (.inr 0, dp_new M3 0 0 6)))) else (D_X11_row_36 xs xl d v1 v2 v3 v4 v5 v6 v7 M3)))) := by
  have hF := dp_den_grow (md := true) (xs := xs) (xl := xl) d
  unfold D_X11_row_0
  refine dp_s1 hF (i := .iload_n 1) rfl (fun _ => rfl) ?_
  refine dp_si (mj := dp_m_X11_isCode) (i := .invokestatic 418) rfl rfl (Or.inr rfl) rfl (fun _ => rfl) (fun r2 M1 => ?_)
  refine dp_s2 hF (i := .ifCond .eq 21) (a := (25, [some (.ref 0), some (.int v1), some (.int v2), some (.int v3), some (.int v4), some (.int v5), some (.int v6), some (.int v7)], [], M1)) (b := (7, [some (.ref 0), some (.int v1), some (.int v2), some (.int v3), some (.int v4), some (.int v5), some (.int v6), some (.int v7)], [], M1)) rfl (fun _ => rfl) ?_ ?_
  · exact dp_s0 hF (i := .new 141) rfl (fun _ => rfl)
  refine dp_s1 hF (i := .iload_n 2) rfl (fun _ => rfl) ?_
  refine dp_s1 hF (i := .i2l) rfl (fun _ => rfl) ?_
  refine dp_s1 hF (i := .lconst 0) rfl (fun _ => rfl) ?_
  refine dp_s1 hF (i := .ldc2_w 413) rfl (fun _ => rfl) ?_
  refine dp_si (mj := dp_m_X11_within) (i := .invokestatic 96) rfl rfl (Or.inr rfl) rfl (fun _ => rfl) (fun r4 M3 => ?_)
  refine dp_s2 hF (i := .ifCond .ne 20) (a := (19, [some (.ref 0), some (.int v1), some (.int v2), some (.int v3), some (.int v4), some (.int v5), some (.int v6), some (.int v7)], [], M3)) (b := (36, [some (.ref 0), some (.int v1), some (.int v2), some (.int v3), some (.int v4), some (.int v5), some (.int v6), some (.int v7)], [], M3)) rfl (fun _ => rfl) ?_ ?_
  · refine dp_s1 hF (i := .iload_n 2) rfl (fun _ => rfl) ?_
    refine dp_s1 hF (i := .bipush 31) rfl (fun _ => rfl) ?_
    refine dp_s2 hF (i := .if_icmp .eq 14) (a := (36, [some (.ref 0), some (.int v1), some (.int v2), some (.int v3), some (.int v4), some (.int v5), some (.int v6), some (.int v7)], [], M3)) (b := (25, [some (.ref 0), some (.int v1), some (.int v2), some (.int v3), some (.int v4), some (.int v5), some (.int v6), some (.int v7)], [], M3)) rfl (fun _ => rfl) ?_ ?_
    · exact rfl
    exact dp_s0 hF (i := .new 141) rfl (fun _ => rfl)
  exact rfl
set_option maxRecDepth 20000 in
theorem D_X11_row_36_eq (xs : Nat → Int32) (xl d : Nat) (v1 : Int32) (v2 : Int32) (v3 : Int32) (v4 : Int32) (v5 : Int32) (v6 : Int32) (v7 : Int32) (M : dp_M) : D_X11_row_36 xs xl d v1 v2 v3 v4 v5 v6 v7 M = dp_bi (dp_den true xs xl d 261 [.int v3] M) (fun r2 M1 => if r2 = 0 then (dp_nk M1 0 (some (.inr 0, dp_new M1 0 0 6))) else (dp_bi (dp_den true xs xl d 262 [.int v4] M1) (fun r4 M3 => if r4 = 0 then (dp_nk M3 0 (some (.inr 0, dp_new M3 0 0 6))) else (if v4 < v3 then (dp_nk M3 0 (some (.inr 0, dp_new M3 0 0 6))) else (dp_bi (dp_den true xs xl d 261 [.int v7] M3) (fun r6 M5 => if r6 = 0 then (dp_nk M5 0 (some (.inr 0, dp_new M5 0 0 6))) else (dp_bi (dp_den true xs xl d 251 [.long (Int32.toInt64 v5), .long (0 : Int64), .long (7 : Int64)] M5) (fun r8 M7 => if r8 = 0 then (dp_nk M7 0 (some (.inr 0, dp_new M7 0 0 6))) else (dp_bi (dp_den true xs xl d 251 [.long (Int32.toInt64 v6), .long (0 : Int64), .long (9 : Int64)] M7) (fun r10 M9 => if r10 = 0 then (dp_nk M9 0 (some (.inr 0, dp_new M9 0 0 6))) else (if (dp_I M9 51 0) < (300 : Int32) then (dp_bi (dp_den true xs xl d 213 [.ref 51, .int v1, .int v2, .int v3, .int v4, .int v5, .int v6, .int v7] M9) (fun r12 M11 => some (.inl (some (.int r12)), M11))) else (dp_nk M9 0 (some (.inr 1, dp_new M9 0 0 6)))))))))))))) := by
  have hF := dp_den_grow (md := true) (xs := xs) (xl := xl) d
  unfold D_X11_row_36
  refine dp_s1 hF (i := .iload_n 3) rfl (fun _ => rfl) ?_
  refine dp_si (mj := dp_m_X11_isDay) (i := .invokestatic 129) rfl rfl (Or.inr rfl) rfl (fun _ => rfl) (fun r2 M1 => ?_)
  refine dp_s2 hF (i := .ifCond .eq 25) (a := (65, [some (.ref 0), some (.int v1), some (.int v2), some (.int v3), some (.int v4), some (.int v5), some (.int v6), some (.int v7)], [], M1)) (b := (43, [some (.ref 0), some (.int v1), some (.int v2), some (.int v3), some (.int v4), some (.int v5), some (.int v6), some (.int v7)], [], M1)) rfl (fun _ => rfl) ?_ ?_
  · exact dp_s0 hF (i := .new 141) rfl (fun _ => rfl)
  refine dp_s1 hF (i := .iload 4) rfl (fun _ => rfl) ?_
  refine dp_si (mj := dp_m_X11_isLastDay) (i := .invokestatic 423) rfl rfl (Or.inr rfl) rfl (fun _ => rfl) (fun r4 M3 => ?_)
  refine dp_s2 hF (i := .ifCond .eq 17) (a := (65, [some (.ref 0), some (.int v1), some (.int v2), some (.int v3), some (.int v4), some (.int v5), some (.int v6), some (.int v7)], [], M3)) (b := (51, [some (.ref 0), some (.int v1), some (.int v2), some (.int v3), some (.int v4), some (.int v5), some (.int v6), some (.int v7)], [], M3)) rfl (fun _ => rfl) ?_ ?_
  · exact dp_s0 hF (i := .new 141) rfl (fun _ => rfl)
  refine dp_s1 hF (i := .iload 4) rfl (fun _ => rfl) ?_
  refine dp_s1 hF (i := .iload_n 3) rfl (fun _ => rfl) ?_
  refine dp_s2 hF (i := .if_icmp .lt 11) (a := (65, [some (.ref 0), some (.int v1), some (.int v2), some (.int v3), some (.int v4), some (.int v5), some (.int v6), some (.int v7)], [], M3)) (b := (57, [some (.ref 0), some (.int v1), some (.int v2), some (.int v3), some (.int v4), some (.int v5), some (.int v6), some (.int v7)], [], M3)) rfl (fun _ => rfl) ?_ ?_
  · exact dp_s0 hF (i := .new 141) rfl (fun _ => rfl)
  refine dp_s1 hF (i := .iload 7) rfl (fun _ => rfl) ?_
  refine dp_si (mj := dp_m_X11_isDay) (i := .invokestatic 129) rfl rfl (Or.inr rfl) rfl (fun _ => rfl) (fun r6 M5 => ?_)
  refine dp_s2 hF (i := .ifCond .ne 14) (a := (65, [some (.ref 0), some (.int v1), some (.int v2), some (.int v3), some (.int v4), some (.int v5), some (.int v6), some (.int v7)], [], M5)) (b := (76, [some (.ref 0), some (.int v1), some (.int v2), some (.int v3), some (.int v4), some (.int v5), some (.int v6), some (.int v7)], [], M5)) rfl (fun _ => rfl) ?_ ?_
  · exact dp_s0 hF (i := .new 141) rfl (fun _ => rfl)
  refine dp_s1 hF (i := .iload 5) rfl (fun _ => rfl) ?_
  refine dp_s1 hF (i := .i2l) rfl (fun _ => rfl) ?_
  refine dp_s1 hF (i := .lconst 0) rfl (fun _ => rfl) ?_
  refine dp_s1 hF (i := .ldc2_w 428) rfl (fun _ => rfl) ?_
  refine dp_si (mj := dp_m_X11_within) (i := .invokestatic 96) rfl rfl (Or.inr rfl) rfl (fun _ => rfl) (fun r8 M7 => ?_)
  refine dp_s2 hF (i := .ifCond .eq 16) (a := (102, [some (.ref 0), some (.int v1), some (.int v2), some (.int v3), some (.int v4), some (.int v5), some (.int v6), some (.int v7)], [], M7)) (b := (89, [some (.ref 0), some (.int v1), some (.int v2), some (.int v3), some (.int v4), some (.int v5), some (.int v6), some (.int v7)], [], M7)) rfl (fun _ => rfl) ?_ ?_
  · exact dp_s0 hF (i := .new 141) rfl (fun _ => rfl)
  refine dp_s1 hF (i := .iload 6) rfl (fun _ => rfl) ?_
  refine dp_s1 hF (i := .i2l) rfl (fun _ => rfl) ?_
  refine dp_s1 hF (i := .lconst 0) rfl (fun _ => rfl) ?_
  refine dp_s1 hF (i := .ldc2_w 154) rfl (fun _ => rfl) ?_
  refine dp_si (mj := dp_m_X11_within) (i := .invokestatic 96) rfl rfl (Or.inr rfl) rfl (fun _ => rfl) (fun r10 M9 => ?_)
  refine dp_s2 hF (i := .ifCond .ne 14) (a := (102, [some (.ref 0), some (.int v1), some (.int v2), some (.int v3), some (.int v4), some (.int v5), some (.int v6), some (.int v7)], [], M9)) (b := (113, [some (.ref 0), some (.int v1), some (.int v2), some (.int v3), some (.int v4), some (.int v5), some (.int v6), some (.int v7)], [], M9)) rfl (fun _ => rfl) ?_ ?_
  · exact dp_s0 hF (i := .new 141) rfl (fun _ => rfl)
  refine dp_s1 hF (i := .aload_n 0) rfl (fun _ => rfl) ?_
  refine dp_s1 hF (i := .getfield 43) rfl (fun _ => rfl) ?_
  refine dp_s1 hF (i := .getfield 106) rfl (fun _ => rfl) ?_
  refine dp_s1 hF (i := .sipush 300) rfl (fun _ => rfl) ?_
  refine dp_s2 hF (i := .if_icmp .lt 14) (a := (137, [some (.ref 0), some (.int v1), some (.int v2), some (.int v3), some (.int v4), some (.int v5), some (.int v6), some (.int v7)], [], M9)) (b := (126, [some (.ref 0), some (.int v1), some (.int v2), some (.int v3), some (.int v4), some (.int v5), some (.int v6), some (.int v7)], [], M9)) rfl (fun _ => rfl) ?_ ?_
  · refine dp_s1 hF (i := .aload_n 0) rfl (fun _ => rfl) ?_
    refine dp_s1 hF (i := .getfield 43) rfl (fun _ => rfl) ?_
    refine dp_s1 hF (i := .iload_n 1) rfl (fun _ => rfl) ?_
    refine dp_s1 hF (i := .iload_n 2) rfl (fun _ => rfl) ?_
    refine dp_s1 hF (i := .iload_n 3) rfl (fun _ => rfl) ?_
    refine dp_s1 hF (i := .iload 4) rfl (fun _ => rfl) ?_
    refine dp_s1 hF (i := .iload 5) rfl (fun _ => rfl) ?_
    refine dp_s1 hF (i := .iload 6) rfl (fun _ => rfl) ?_
    refine dp_s1 hF (i := .iload 7) rfl (fun _ => rfl) ?_
    refine dp_si (mj := dp_m_X9_addRow) (i := .invokevirtual 434) rfl rfl (Or.inl rfl) rfl (fun _ => rfl) (fun r12 M11 => ?_)
    exact dp_s0 hF (i := .ireturn) rfl (fun _ => rfl)
  exact dp_s0 hF (i := .new 167) rfl (fun _ => rfl)
noncomputable def D_X11_exclude_0 (xs : Nat → Int32) (xl d : Nat) (v1 : Int32) (v2 : Int32) (M : dp_M) : Option dp_Res := dp_lim true xs xl (dp_den true xs xl d) dp_m_X11_exclude (0, [some (.ref 0), some (.int v1), some (.int v2)], [], M)
theorem D_X11_exclude_0_den (xs : Nat → Int32) (xl d : Nat) (a0 : Int32) (a1 : Int32) (M : dp_M) : dp_den true xs xl (d + 1) 301 [.ref 0, .int a0, .int a1] M = D_X11_exclude_0 xs xl d a0 a1 M := rfl
set_option maxRecDepth 20000 in
theorem D_X11_exclude_0_eq (xs : Nat → Int32) (xl d : Nat) (v1 : Int32) (v2 : Int32) (M : dp_M) : D_X11_exclude_0 xs xl d v1 v2 M = dp_bi (dp_den true xs xl d 255 [.ref 0, .int v1] M) (fun r2 M1 => if r2 = 0 then (some (.inl (some (.int (0 : Int32))), M1)) else (dp_bi (dp_den true xs xl d 298 [.int v2] M1) (fun r4 M3 => if r4 = 0 then (some (.inl (some (.int (0 : Int32))), M3)) else (dp_bi (dp_den true xs xl d 216 [.ref 55, .int v1, .int v2] M3) (fun r6 M5 => if r6 = 0 then (some (.inl (some (.int (0 : Int32))), M5)) else (some (.inl (some (.int (1 : Int32))), M5))))))) := by
  have hF := dp_den_grow (md := true) (xs := xs) (xl := xl) d
  unfold D_X11_exclude_0
  refine dp_s1 hF (i := .aload_n 0) rfl (fun _ => rfl) ?_
  refine dp_s1 hF (i := .iload_n 1) rfl (fun _ => rfl) ?_
  refine dp_si (mj := dp_m_X11_isMeasure) (i := .invokevirtual 437) rfl rfl (Or.inr rfl) rfl (fun _ => rfl) (fun r2 M1 => ?_)
  refine dp_s2 hF (i := .ifCond .eq 29) (a := (34, [some (.ref 0), some (.int v1), some (.int v2)], [], M1)) (b := (8, [some (.ref 0), some (.int v1), some (.int v2)], [], M1)) rfl (fun _ => rfl) ?_ ?_
  · refine dp_s1 hF (i := .iconst 0) rfl (fun _ => rfl) ?_
    exact dp_s0 hF (i := .ireturn) rfl (fun _ => rfl)
  refine dp_s1 hF (i := .iload_n 2) rfl (fun _ => rfl) ?_
  refine dp_si (mj := dp_m_X11_isLand) (i := .invokestatic 440) rfl rfl (Or.inr rfl) rfl (fun _ => rfl) (fun r4 M3 => ?_)
  refine dp_s2 hF (i := .ifCond .eq 22) (a := (34, [some (.ref 0), some (.int v1), some (.int v2)], [], M3)) (b := (15, [some (.ref 0), some (.int v1), some (.int v2)], [], M3)) rfl (fun _ => rfl) ?_ ?_
  · refine dp_s1 hF (i := .iconst 0) rfl (fun _ => rfl) ?_
    exact dp_s0 hF (i := .ireturn) rfl (fun _ => rfl)
  refine dp_s1 hF (i := .aload_n 0) rfl (fun _ => rfl) ?_
  refine dp_s1 hF (i := .getfield 43) rfl (fun _ => rfl) ?_
  refine dp_s1 hF (i := .getfield 443) rfl (fun _ => rfl) ?_
  refine dp_s1 hF (i := .iload_n 1) rfl (fun _ => rfl) ?_
  refine dp_s1 hF (i := .iload_n 2) rfl (fun _ => rfl) ?_
  refine dp_si (mj := dp_m_X9_addOneOfFour) (i := .invokestatic 446) rfl rfl (Or.inr rfl) rfl (fun _ => rfl) (fun r6 M5 => ?_)
  refine dp_s2 hF (i := .ifCond .eq 7) (a := (34, [some (.ref 0), some (.int v1), some (.int v2)], [], M5)) (b := (30, [some (.ref 0), some (.int v1), some (.int v2)], [], M5)) rfl (fun _ => rfl) ?_ ?_
  · refine dp_s1 hF (i := .iconst 0) rfl (fun _ => rfl) ?_
    exact dp_s0 hF (i := .ireturn) rfl (fun _ => rfl)
  refine dp_s1 hF (i := .iconst 1) rfl (fun _ => rfl) ?_
  refine dp_s1 hF (i := .goto 4) rfl (fun _ => rfl) ?_
  exact dp_s0 hF (i := .ireturn) rfl (fun _ => rfl)
noncomputable def D_X11_condition_0 (xs : Nat → Int32) (xl d : Nat) (v1 : Int32) (v2 : Int32) (M : dp_M) : Option dp_Res := dp_lim true xs xl (dp_den true xs xl d) dp_m_X11_condition (0, [some (.ref 0), some (.int v1), some (.int v2)], [], M)
theorem D_X11_condition_0_den (xs : Nat → Int32) (xl d : Nat) (a0 : Int32) (a1 : Int32) (M : dp_M) : dp_den true xs xl (d + 1) 302 [.ref 0, .int a0, .int a1] M = D_X11_condition_0 xs xl d a0 a1 M := rfl
set_option maxRecDepth 20000 in
theorem D_X11_condition_0_eq (xs : Nat → Int32) (xl d : Nat) (v1 : Int32) (v2 : Int32) (M : dp_M) : D_X11_condition_0 xs xl d v1 v2 M = dp_bi (dp_den true xs xl d 255 [.ref 0, .int v1] M) (fun r2 M1 => if r2 = 0 then (some (.inl (some (.int (0 : Int32))), M1)) else (dp_bi (dp_den true xs xl d 251 [.long (Int32.toInt64 v2), .long (0 : Int64), .long (15 : Int64)] M1) (fun r4 M3 => if r4 = 0 then (some (.inl (some (.int (0 : Int32))), M3)) else (dp_bi (dp_den true xs xl d 216 [.ref 56, .int v1, .int v2] M3) (fun r6 M5 => if r6 = 0 then (some (.inl (some (.int (0 : Int32))), M5)) else (some (.inl (some (.int (1 : Int32))), M5))))))) := by
  have hF := dp_den_grow (md := true) (xs := xs) (xl := xl) d
  unfold D_X11_condition_0
  refine dp_s1 hF (i := .aload_n 0) rfl (fun _ => rfl) ?_
  refine dp_s1 hF (i := .iload_n 1) rfl (fun _ => rfl) ?_
  refine dp_si (mj := dp_m_X11_isMeasure) (i := .invokevirtual 437) rfl rfl (Or.inr rfl) rfl (fun _ => rfl) (fun r2 M1 => ?_)
  refine dp_s2 hF (i := .ifCond .eq 34) (a := (39, [some (.ref 0), some (.int v1), some (.int v2)], [], M1)) (b := (8, [some (.ref 0), some (.int v1), some (.int v2)], [], M1)) rfl (fun _ => rfl) ?_ ?_
  · refine dp_s1 hF (i := .iconst 0) rfl (fun _ => rfl) ?_
    exact dp_s0 hF (i := .ireturn) rfl (fun _ => rfl)
  refine dp_s1 hF (i := .iload_n 2) rfl (fun _ => rfl) ?_
  refine dp_s1 hF (i := .i2l) rfl (fun _ => rfl) ?_
  refine dp_s1 hF (i := .lconst 0) rfl (fun _ => rfl) ?_
  refine dp_s1 hF (i := .ldc2_w 330) rfl (fun _ => rfl) ?_
  refine dp_si (mj := dp_m_X11_within) (i := .invokestatic 96) rfl rfl (Or.inr rfl) rfl (fun _ => rfl) (fun r4 M3 => ?_)
  refine dp_s2 hF (i := .ifCond .eq 22) (a := (39, [some (.ref 0), some (.int v1), some (.int v2)], [], M3)) (b := (20, [some (.ref 0), some (.int v1), some (.int v2)], [], M3)) rfl (fun _ => rfl) ?_ ?_
  · refine dp_s1 hF (i := .iconst 0) rfl (fun _ => rfl) ?_
    exact dp_s0 hF (i := .ireturn) rfl (fun _ => rfl)
  refine dp_s1 hF (i := .aload_n 0) rfl (fun _ => rfl) ?_
  refine dp_s1 hF (i := .getfield 43) rfl (fun _ => rfl) ?_
  refine dp_s1 hF (i := .getfield 450) rfl (fun _ => rfl) ?_
  refine dp_s1 hF (i := .iload_n 1) rfl (fun _ => rfl) ?_
  refine dp_s1 hF (i := .iload_n 2) rfl (fun _ => rfl) ?_
  refine dp_si (mj := dp_m_X9_addOneOfFour) (i := .invokestatic 446) rfl rfl (Or.inr rfl) rfl (fun _ => rfl) (fun r6 M5 => ?_)
  refine dp_s2 hF (i := .ifCond .eq 7) (a := (39, [some (.ref 0), some (.int v1), some (.int v2)], [], M5)) (b := (35, [some (.ref 0), some (.int v1), some (.int v2)], [], M5)) rfl (fun _ => rfl) ?_ ?_
  · refine dp_s1 hF (i := .iconst 0) rfl (fun _ => rfl) ?_
    exact dp_s0 hF (i := .ireturn) rfl (fun _ => rfl)
  refine dp_s1 hF (i := .iconst 1) rfl (fun _ => rfl) ?_
  refine dp_s1 hF (i := .goto 4) rfl (fun _ => rfl) ?_
  exact dp_s0 hF (i := .ireturn) rfl (fun _ => rfl)
noncomputable def D_X11_end_0 (xs : Nat → Int32) (xl d : Nat) (v1 : Int32) (v2 : Int32) (v3 : Int32) (M : dp_M) : Option dp_Res := dp_lim true xs xl (dp_den true xs xl d) dp_m_X11_end (0, [some (.ref 0), some (.int v1), some (.int v2), some (.int v3)], [], M)
theorem D_X11_end_0_den (xs : Nat → Int32) (xl d : Nat) (a0 : Int32) (a1 : Int32) (a2 : Int32) (M : dp_M) : dp_den true xs xl (d + 1) 303 [.ref 0, .int a0, .int a1, .int a2] M = D_X11_end_0 xs xl d a0 a1 a2 M := rfl
set_option maxRecDepth 20000 in
theorem D_X11_end_0_eq (xs : Nat → Int32) (xl d : Nat) (v1 : Int32) (v2 : Int32) (v3 : Int32) (M : dp_M) : D_X11_end_0 xs xl d v1 v2 v3 M = dp_bi (dp_den true xs xl d 255 [.ref 0, .int v1] M) (fun r2 M1 => if r2 = 0 then (dp_nk M1 0 (some (.inr 2, dp_new M1 0 0 6))) else (dp_bi (dp_den true xs xl d 262 [.int v2] M1) (fun r4 M3 => if r4 = 0 then (dp_nk M3 0 (some (.inr 0, dp_new M3 0 0 6))) else (dp_bi (dp_den true xs xl d 261 [.int v3] M3) (fun r6 M5 => if r6 = 0 then (dp_nk M5 0 (some (.inr 0, dp_new M5 0 0 6))) else (if v1 < 0 ∨ 301 ≤ Int32.toNatClampNeg v1 then none else (if (dp_I M5 54 (Int32.toNatClampNeg v1)) < (8 : Int32) then (if v1 < 0 ∨ 301 ≤ Int32.toNatClampNeg v1 then none else (if (dp_I M5 52 (Int32.toNatClampNeg v1)) ≤ v2 then (dp_bi (dp_den true xs xl d 215 [.ref 51, .int v1, .int v2, .int v3] M5) (fun r8 M7 => some (.inl (some (.int r8)), M7))) else (some (.inl (some (.int (0 : Int32))), M5)))) else (dp_nk M5 0 (some (.inr 1, dp_new M5 0 0 6)))))))))) := by
  have hF := dp_den_grow (md := true) (xs := xs) (xl := xl) d
  unfold D_X11_end_0
  refine dp_s1 hF (i := .aload_n 0) rfl (fun _ => rfl) ?_
  refine dp_s1 hF (i := .iload_n 1) rfl (fun _ => rfl) ?_
  refine dp_si (mj := dp_m_X11_isMeasure) (i := .invokevirtual 437) rfl rfl (Or.inr rfl) rfl (fun _ => rfl) (fun r2 M1 => ?_)
  refine dp_s2 hF (i := .ifCond .ne 14) (a := (8, [some (.ref 0), some (.int v1), some (.int v2), some (.int v3)], [], M1)) (b := (19, [some (.ref 0), some (.int v1), some (.int v2), some (.int v3)], [], M1)) rfl (fun _ => rfl) ?_ ?_
  · exact dp_s0 hF (i := .new 194) rfl (fun _ => rfl)
  refine dp_s1 hF (i := .iload_n 2) rfl (fun _ => rfl) ?_
  refine dp_si (mj := dp_m_X11_isLastDay) (i := .invokestatic 423) rfl rfl (Or.inr rfl) rfl (fun _ => rfl) (fun r4 M3 => ?_)
  refine dp_s2 hF (i := .ifCond .eq 10) (a := (33, [some (.ref 0), some (.int v1), some (.int v2), some (.int v3)], [], M3)) (b := (26, [some (.ref 0), some (.int v1), some (.int v2), some (.int v3)], [], M3)) rfl (fun _ => rfl) ?_ ?_
  · exact dp_s0 hF (i := .new 141) rfl (fun _ => rfl)
  refine dp_s1 hF (i := .iload_n 3) rfl (fun _ => rfl) ?_
  refine dp_si (mj := dp_m_X11_isDay) (i := .invokestatic 129) rfl rfl (Or.inr rfl) rfl (fun _ => rfl) (fun r6 M5 => ?_)
  refine dp_s2 hF (i := .ifCond .ne 14) (a := (33, [some (.ref 0), some (.int v1), some (.int v2), some (.int v3)], [], M5)) (b := (44, [some (.ref 0), some (.int v1), some (.int v2), some (.int v3)], [], M5)) rfl (fun _ => rfl) ?_ ?_
  · exact dp_s0 hF (i := .new 141) rfl (fun _ => rfl)
  refine dp_s1 hF (i := .aload_n 0) rfl (fun _ => rfl) ?_
  refine dp_s1 hF (i := .getfield 43) rfl (fun _ => rfl) ?_
  refine dp_s1 hF (i := .getfield 455) rfl (fun _ => rfl) ?_
  refine dp_s1 hF (i := .iload_n 1) rfl (fun _ => rfl) ?_
  refine dp_s3 hF (i := .iaload) rfl (fun _ => rfl) ?_
  refine dp_s1 hF (i := .bipush 8) rfl (fun _ => rfl) ?_
  refine dp_s2 hF (i := .if_icmp .lt 14) (a := (69, [some (.ref 0), some (.int v1), some (.int v2), some (.int v3)], [], M5)) (b := (58, [some (.ref 0), some (.int v1), some (.int v2), some (.int v3)], [], M5)) rfl (fun _ => rfl) ?_ ?_
  · refine dp_s1 hF (i := .iload_n 2) rfl (fun _ => rfl) ?_
    refine dp_s1 hF (i := .aload_n 0) rfl (fun _ => rfl) ?_
    refine dp_s1 hF (i := .getfield 43) rfl (fun _ => rfl) ?_
    refine dp_s1 hF (i := .getfield 460) rfl (fun _ => rfl) ?_
    refine dp_s1 hF (i := .iload_n 1) rfl (fun _ => rfl) ?_
    refine dp_s3 hF (i := .iaload) rfl (fun _ => rfl) ?_
    refine dp_s2 hF (i := .if_icmp .ge 7) (a := (86, [some (.ref 0), some (.int v1), some (.int v2), some (.int v3)], [], M5)) (b := (82, [some (.ref 0), some (.int v1), some (.int v2), some (.int v3)], [], M5)) rfl (fun _ => rfl) ?_ ?_
    · refine dp_s1 hF (i := .aload_n 0) rfl (fun _ => rfl) ?_
      refine dp_s1 hF (i := .getfield 43) rfl (fun _ => rfl) ?_
      refine dp_s1 hF (i := .iload_n 1) rfl (fun _ => rfl) ?_
      refine dp_s1 hF (i := .iload_n 2) rfl (fun _ => rfl) ?_
      refine dp_s1 hF (i := .iload_n 3) rfl (fun _ => rfl) ?_
      refine dp_si (mj := dp_m_X9_addEnd) (i := .invokevirtual 463) rfl rfl (Or.inl rfl) rfl (fun _ => rfl) (fun r8 M7 => ?_)
      exact dp_s0 hF (i := .ireturn) rfl (fun _ => rfl)
    refine dp_s1 hF (i := .iconst 0) rfl (fun _ => rfl) ?_
    refine dp_s1 hF (i := .goto 13) rfl (fun _ => rfl) ?_
    exact dp_s0 hF (i := .ireturn) rfl (fun _ => rfl)
  exact dp_s0 hF (i := .new 167) rfl (fun _ => rfl)
noncomputable def D_X11_papers_0 (xs : Nat → Int32) (xl d : Nat) (v1 : Int32) (M : dp_M) : Option dp_Res := dp_lim true xs xl (dp_den true xs xl d) dp_m_X11_papers (0, [some (.ref 0), some (.int v1)], [], M)
theorem D_X11_papers_0_den (xs : Nat → Int32) (xl d : Nat) (a0 : Int32) (M : dp_M) : dp_den true xs xl (d + 1) 304 [.ref 0, .int a0] M = D_X11_papers_0 xs xl d a0 M := rfl
set_option maxRecDepth 20000 in
theorem D_X11_papers_0_eq (xs : Nat → Int32) (xl d : Nat) (v1 : Int32) (M : dp_M) : D_X11_papers_0 xs xl d v1 M = dp_w (dp_setI M 51 1 (v1 &&& (65535 : Int32))) (fun M1 => some (.inl none, M1)) := by
  have hF := dp_den_grow (md := true) (xs := xs) (xl := xl) d
  unfold D_X11_papers_0
  refine dp_s1 hF (i := .aload_n 0) rfl (fun _ => rfl) ?_
  refine dp_s1 hF (i := .getfield 43) rfl (fun _ => rfl) ?_
  refine dp_s1 hF (i := .iload_n 1) rfl (fun _ => rfl) ?_
  refine dp_s1 hF (i := .ldc_w 466) rfl (fun _ => rfl) ?_
  refine dp_s1 hF (i := .iand) rfl (fun _ => rfl) ?_
  refine dp_s1w (dp_setI M 51 1 (v1 &&& (65535 : Int32))) (fun (M1 : dp_M) => (12, [some (.ref 0), some (.int v1)], [], M1)) hF (i := .putfield 467) rfl (fun _ => rfl) (fun M1 => ?_)
  exact dp_s0 hF (i := .return_) rfl (fun _ => rfl)
noncomputable def D_X11_apply_0 (xs : Nat → Int32) (xl d : Nat) (v1 : Int32) (v2 : Int32) (v3 : Int32) (v4 : Int32) (M : dp_M) : Option dp_Res := dp_lim true xs xl (dp_den true xs xl d) dp_m_X11_apply (0, [some (.ref 0), some (.int v1), some (.int v2), some (.int v3), some (.int v4)], [], M)
theorem D_X11_apply_0_den (xs : Nat → Int32) (xl d : Nat) (a0 : Int32) (a1 : Int32) (a2 : Int32) (a3 : Int32) (M : dp_M) : dp_den true xs xl (d + 1) 305 [.ref 0, .int a0, .int a1, .int a2, .int a3] M = D_X11_apply_0 xs xl d a0 a1 a2 a3 M := rfl
set_option maxRecDepth 20000 in
theorem D_X11_apply_0_eq (xs : Nat → Int32) (xl d : Nat) (v1 : Int32) (v2 : Int32) (v3 : Int32) (v4 : Int32) (M : dp_M) : D_X11_apply_0 xs xl d v1 v2 v3 v4 M = dp_bi (dp_den true xs xl d 297 [.int v1] M) (fun r2 M1 => if r2 = 0 then (dp_nk M1 0 (some (.inr 0, dp_new M1 0 0 6))) else (dp_bi (dp_den true xs xl d 298 [.int v2] M1) (fun r4 M3 => if r4 = 0 then (dp_nk M3 0 (some (.inr 0, dp_new M3 0 0 6))) else (dp_bi (dp_den true xs xl d 261 [.int v3] M3) (fun r6 M5 => if r6 = 0 then (dp_nk M5 0 (some (.inr 0, dp_new M5 0 0 6))) else (dp_bi (dp_den true xs xl d 261 [.int v4] M5) (fun r8 M7 => if r8 = 0 then (dp_nk M7 0 (some (.inr 0, dp_new M7 0 0 6))) else (dp_bi (dp_den true xs xl d 223 [.ref 51, .int v1, .int v2, .int v3, .int v4] M7) (fun r10 M9 => dp_bi (dp_den true xs xl d 224 [.ref 51] M9) (fun r12 M11 => some (.inl (some (.int r12)), M11))))))))))) := by
  have hF := dp_den_grow (md := true) (xs := xs) (xl := xl) d
  unfold D_X11_apply_0
  refine dp_s1 hF (i := .iload_n 1) rfl (fun _ => rfl) ?_
  refine dp_si (mj := dp_m_X11_isFullCode) (i := .invokestatic 406) rfl rfl (Or.inr rfl) rfl (fun _ => rfl) (fun r2 M1 => ?_)
  refine dp_s2 hF (i := .ifCond .eq 25) (a := (29, [some (.ref 0), some (.int v1), some (.int v2), some (.int v3), some (.int v4)], [], M1)) (b := (7, [some (.ref 0), some (.int v1), some (.int v2), some (.int v3), some (.int v4)], [], M1)) rfl (fun _ => rfl) ?_ ?_
  · exact dp_s0 hF (i := .new 141) rfl (fun _ => rfl)
  refine dp_s1 hF (i := .iload_n 2) rfl (fun _ => rfl) ?_
  refine dp_si (mj := dp_m_X11_isLand) (i := .invokestatic 440) rfl rfl (Or.inr rfl) rfl (fun _ => rfl) (fun r4 M3 => ?_)
  refine dp_s2 hF (i := .ifCond .eq 18) (a := (29, [some (.ref 0), some (.int v1), some (.int v2), some (.int v3), some (.int v4)], [], M3)) (b := (14, [some (.ref 0), some (.int v1), some (.int v2), some (.int v3), some (.int v4)], [], M3)) rfl (fun _ => rfl) ?_ ?_
  · exact dp_s0 hF (i := .new 141) rfl (fun _ => rfl)
  refine dp_s1 hF (i := .iload_n 3) rfl (fun _ => rfl) ?_
  refine dp_si (mj := dp_m_X11_isDay) (i := .invokestatic 129) rfl rfl (Or.inr rfl) rfl (fun _ => rfl) (fun r6 M5 => ?_)
  refine dp_s2 hF (i := .ifCond .eq 11) (a := (29, [some (.ref 0), some (.int v1), some (.int v2), some (.int v3), some (.int v4)], [], M5)) (b := (21, [some (.ref 0), some (.int v1), some (.int v2), some (.int v3), some (.int v4)], [], M5)) rfl (fun _ => rfl) ?_ ?_
  · exact dp_s0 hF (i := .new 141) rfl (fun _ => rfl)
  refine dp_s1 hF (i := .iload 4) rfl (fun _ => rfl) ?_
  refine dp_si (mj := dp_m_X11_isDay) (i := .invokestatic 129) rfl rfl (Or.inr rfl) rfl (fun _ => rfl) (fun r8 M7 => ?_)
  refine dp_s2 hF (i := .ifCond .ne 14) (a := (29, [some (.ref 0), some (.int v1), some (.int v2), some (.int v3), some (.int v4)], [], M7)) (b := (40, [some (.ref 0), some (.int v1), some (.int v2), some (.int v3), some (.int v4)], [], M7)) rfl (fun _ => rfl) ?_ ?_
  · exact dp_s0 hF (i := .new 141) rfl (fun _ => rfl)
  refine dp_s1 hF (i := .aload_n 0) rfl (fun _ => rfl) ?_
  refine dp_s1 hF (i := .getfield 43) rfl (fun _ => rfl) ?_
  refine dp_s1 hF (i := .iload_n 1) rfl (fun _ => rfl) ?_
  refine dp_s1 hF (i := .iload_n 2) rfl (fun _ => rfl) ?_
  refine dp_s1 hF (i := .iload_n 3) rfl (fun _ => rfl) ?_
  refine dp_s1 hF (i := .iload 4) rfl (fun _ => rfl) ?_
  refine dp_si (mj := dp_m_X9_find) (i := .invokevirtual 472) rfl rfl (Or.inl rfl) rfl (fun _ => rfl) (fun r10 M9 => ?_)
  refine dp_s1 hF (i := .pop) rfl (fun _ => rfl) ?_
  refine dp_s1 hF (i := .aload_n 0) rfl (fun _ => rfl) ?_
  refine dp_s1 hF (i := .getfield 43) rfl (fun _ => rfl) ?_
  refine dp_si (mj := dp_m_X9_keepList) (i := .invokevirtual 475) rfl rfl (Or.inl rfl) rfl (fun _ => rfl) (fun r12 M11 => ?_)
  exact dp_s0 hF (i := .ireturn) rfl (fun _ => rfl)
noncomputable def D_X11_listed_0 (xs : Nat → Int32) (xl d : Nat) (v1 : Int32) (M : dp_M) : Option dp_Res := dp_lim true xs xl (dp_den true xs xl d) dp_m_X11_listed (0, [some (.ref 0), some (.int v1)], [], M)
theorem D_X11_listed_0_den (xs : Nat → Int32) (xl d : Nat) (a0 : Int32) (M : dp_M) : dp_den true xs xl (d + 1) 306 [.ref 0, .int a0] M = D_X11_listed_0 xs xl d a0 M := rfl
set_option maxRecDepth 20000 in
theorem D_X11_listed_0_eq (xs : Nat → Int32) (xl d : Nat) (v1 : Int32) (M : dp_M) : D_X11_listed_0 xs xl d v1 M = dp_bi (dp_den true xs xl d 251 [.long (Int32.toInt64 v1), .long (0 : Int64), .long (Int32.toInt64 ((dp_I M 51 2) - (1 : Int32)))] M) (fun r2 M1 => if r2 = 0 then (some (.inl (some (.int (-1 : Int32))), M1)) else (if v1 < 0 ∨ 300 ≤ Int32.toNatClampNeg v1 then none else (some (.inl (some (.int (dp_I M1 57 (Int32.toNatClampNeg v1)))), M1)))) := by
  have hF := dp_den_grow (md := true) (xs := xs) (xl := xl) d
  unfold D_X11_listed_0
  refine dp_s1 hF (i := .iload_n 1) rfl (fun _ => rfl) ?_
  refine dp_s1 hF (i := .i2l) rfl (fun _ => rfl) ?_
  refine dp_s1 hF (i := .lconst 0) rfl (fun _ => rfl) ?_
  refine dp_s1 hF (i := .aload_n 0) rfl (fun _ => rfl) ?_
  refine dp_s1 hF (i := .getfield 43) rfl (fun _ => rfl) ?_
  refine dp_s1 hF (i := .getfield 478) rfl (fun _ => rfl) ?_
  refine dp_s1 hF (i := .iconst 1) rfl (fun _ => rfl) ?_
  refine dp_s1 hF (i := .isub) rfl (fun _ => rfl) ?_
  refine dp_s1 hF (i := .i2l) rfl (fun _ => rfl) ?_
  refine dp_si (mj := dp_m_X11_within) (i := .invokestatic 96) rfl rfl (Or.inr rfl) rfl (fun _ => rfl) (fun r2 M1 => ?_)
  refine dp_s2 hF (i := .ifCond .eq 15) (a := (31, [some (.ref 0), some (.int v1)], [], M1)) (b := (19, [some (.ref 0), some (.int v1)], [], M1)) rfl (fun _ => rfl) ?_ ?_
  · refine dp_s1 hF (i := .iconst (-1)) rfl (fun _ => rfl) ?_
    exact dp_s0 hF (i := .ireturn) rfl (fun _ => rfl)
  refine dp_s1 hF (i := .aload_n 0) rfl (fun _ => rfl) ?_
  refine dp_s1 hF (i := .getfield 43) rfl (fun _ => rfl) ?_
  refine dp_s1 hF (i := .getfield 481) rfl (fun _ => rfl) ?_
  refine dp_s1 hF (i := .iload_n 1) rfl (fun _ => rfl) ?_
  refine dp_s3 hF (i := .iaload) rfl (fun _ => rfl) ?_
  refine dp_s1 hF (i := .goto 4) rfl (fun _ => rfl) ?_
  exact dp_s0 hF (i := .ireturn) rfl (fun _ => rfl)
noncomputable def D_X11_type_0 (xs : Nat → Int32) (xl d : Nat) (v1 : Int64) (v3 : Int32) (M : dp_M) : Option dp_Res := dp_lim true xs xl (dp_den true xs xl d) dp_m_X11_type (0, [some (.ref 0), some (.long v1), none, some (.int v3)], [], M)
theorem D_X11_type_0_den (xs : Nat → Int32) (xl d : Nat) (a0 : Int64) (a1 : Int32) (M : dp_M) : dp_den true xs xl (d + 1) 307 [.ref 0, .long a0, .int a1] M = D_X11_type_0 xs xl d a0 a1 M := rfl
set_option maxRecDepth 20000 in
theorem D_X11_type_0_eq (xs : Nat → Int32) (xl d : Nat) (v1 : Int64) (v3 : Int32) (M : dp_M) : D_X11_type_0 xs xl d v1 v3 M = dp_bi (dp_den true xs xl d 251 [.long (Int32.toInt64 v3), .long (1 : Int64), .long (8 : Int64)] M) (fun r2 M1 => if r2 = 0 then (some (.inl (some (.int (0 : Int32))), M1)) else (dp_bi (dp_den true xs xl d 143 [.ref 68, .long v1, .int v3] M1) (fun r4 M3 => if r4 = 0 then (some (.inl (some (.int (0 : Int32))), M3)) else (some (.inl (some (.int (1 : Int32))), M3))))) := by
  have hF := dp_den_grow (md := true) (xs := xs) (xl := xl) d
  unfold D_X11_type_0
  refine dp_s1 hF (i := .iload_n 3) rfl (fun _ => rfl) ?_
  refine dp_s1 hF (i := .i2l) rfl (fun _ => rfl) ?_
  refine dp_s1 hF (i := .lconst 1) rfl (fun _ => rfl) ?_
  refine dp_s1 hF (i := .ldc2_w 148) rfl (fun _ => rfl) ?_
  refine dp_si (mj := dp_m_X11_within) (i := .invokestatic 96) rfl rfl (Or.inr rfl) rfl (fun _ => rfl) (fun r2 M1 => ?_)
  refine dp_s2 hF (i := .ifCond .eq 19) (a := (28, [some (.ref 0), some (.long v1), none, some (.int v3)], [], M1)) (b := (12, [some (.ref 0), some (.long v1), none, some (.int v3)], [], M1)) rfl (fun _ => rfl) ?_ ?_
  · refine dp_s1 hF (i := .iconst 0) rfl (fun _ => rfl) ?_
    exact dp_s0 hF (i := .ireturn) rfl (fun _ => rfl)
  refine dp_s1 hF (i := .aload_n 0) rfl (fun _ => rfl) ?_
  refine dp_s1 hF (i := .getfield 50) rfl (fun _ => rfl) ?_
  refine dp_s1 hF (i := .lload_n 1) rfl (fun _ => rfl) ?_
  refine dp_s1 hF (i := .iload_n 3) rfl (fun _ => rfl) ?_
  refine dp_si (mj := dp_m_X7_addSigns) (i := .invokevirtual 484) rfl rfl (Or.inr rfl) rfl (fun _ => rfl) (fun r4 M3 => ?_)
  refine dp_s2 hF (i := .ifCond .eq 7) (a := (28, [some (.ref 0), some (.long v1), none, some (.int v3)], [], M3)) (b := (24, [some (.ref 0), some (.long v1), none, some (.int v3)], [], M3)) rfl (fun _ => rfl) ?_ ?_
  · refine dp_s1 hF (i := .iconst 0) rfl (fun _ => rfl) ?_
    exact dp_s0 hF (i := .ireturn) rfl (fun _ => rfl)
  refine dp_s1 hF (i := .iconst 1) rfl (fun _ => rfl) ?_
  refine dp_s1 hF (i := .goto 4) rfl (fun _ => rfl) ?_
  exact dp_s0 hF (i := .ireturn) rfl (fun _ => rfl)
noncomputable def D_X11_rateOf_0 (xs : Nat → Int32) (xl d : Nat) (v1 : Int32) (M : dp_M) : Option dp_Res := dp_lim true xs xl (dp_den true xs xl d) dp_m_X11_rateOf (0, [some (.ref 0), some (.int v1)], [], M)
theorem D_X11_rateOf_0_den (xs : Nat → Int32) (xl d : Nat) (a0 : Int32) (M : dp_M) : dp_den true xs xl (d + 1) 309 [.ref 0, .int a0] M = D_X11_rateOf_0 xs xl d a0 M := rfl
set_option maxRecDepth 20000 in
theorem D_X11_rateOf_0_eq (xs : Nat → Int32) (xl d : Nat) (v1 : Int32) (M : dp_M) : D_X11_rateOf_0 xs xl d v1 M = dp_bi (dp_den true xs xl d 255 [.ref 0, .int v1] M) (fun r2 M1 => if r2 = 0 then (some (.inl (some .null), M1)) else (if v1 < 0 ∨ 301 ≤ Int32.toNatClampNeg v1 then none else dp_o (dp_R M1 59 (Int32.toNatClampNeg v1)) (some (.inl (some .null), M1)) (fun q3 => some (.inl (some (.ref q3)), M1)))) := by
  have hF := dp_den_grow (md := true) (xs := xs) (xl := xl) d
  unfold D_X11_rateOf_0
  refine dp_s1 hF (i := .aload_n 0) rfl (fun _ => rfl) ?_
  refine dp_s1 hF (i := .iload_n 1) rfl (fun _ => rfl) ?_
  refine dp_si (mj := dp_m_X11_isMeasure) (i := .invokevirtual 437) rfl rfl (Or.inr rfl) rfl (fun _ => rfl) (fun r2 M1 => ?_)
  refine dp_s2 hF (i := .ifCond .eq 15) (a := (20, [some (.ref 0), some (.int v1)], [], M1)) (b := (8, [some (.ref 0), some (.int v1)], [], M1)) rfl (fun _ => rfl) ?_ ?_
  · refine dp_s1 hF (i := .aconst_null) rfl (fun _ => rfl) ?_
    exact dp_s0 hF (i := .areturn) rfl (fun _ => rfl)
  refine dp_s1 hF (i := .aload_n 0) rfl (fun _ => rfl) ?_
  refine dp_s1 hF (i := .getfield 43) rfl (fun _ => rfl) ?_
  refine dp_s1 hF (i := .getfield 498) rfl (fun _ => rfl) ?_
  refine dp_s1 hF (i := .iload_n 1) rfl (fun _ => rfl) ?_
  refine dp_s3o hF (i := .aaload) (x := dp_R M1 59 (Int32.toNatClampNeg v1)) rfl (fun _ => rfl) ?_ (fun q3 => ?_)
  · refine dp_s1 hF (i := .goto 4) rfl (fun _ => rfl) ?_
    exact dp_s0 hF (i := .areturn) rfl (fun _ => rfl)
  refine dp_s1 hF (i := .goto 4) rfl (fun _ => rfl) ?_
  exact dp_s0 hF (i := .areturn) rfl (fun _ => rfl)
noncomputable def D_X11_node_0 (xs : Nat → Int32) (xl d : Nat) (v1 : Int32) (v2 : Int32) (v3 : Int32) (M : dp_M) : Option dp_Res := dp_lim true xs xl (dp_den true xs xl d) dp_m_X11_node (0, [some (.ref 0), some (.int v1), some (.int v2), some (.int v3), none], [], M)
theorem D_X11_node_0_den (xs : Nat → Int32) (xl d : Nat) (a0 : Int32) (a1 : Int32) (a2 : Int32) (M : dp_M) : dp_den true xs xl (d + 1) 310 [.ref 0, .int a0, .int a1, .int a2] M = D_X11_node_0 xs xl d a0 a1 a2 M := rfl
set_option maxRecDepth 20000 in
theorem D_X11_node_0_eq (xs : Nat → Int32) (xl d : Nat) (v1 : Int32) (v2 : Int32) (v3 : Int32) (M : dp_M) : D_X11_node_0 xs xl d v1 v2 v3 M = dp_bo (dp_den true xs xl d 309 [.ref 0, .int v1] M) (fun M1 => dp_nk M1 0 (some (.inr 2, dp_new M1 0 0 6))) (fun q2 M3 => if dp_t true M3 q2 = 16 then (dp_bi (dp_den true xs xl d 251 [.long (Int32.toInt64 v2), .long (0 : Int64), .long (Int32.toInt64 ((dp_I M3 q2 0) - (1 : Int32)))] M3) (fun r5 M4 => if r5 = 0 then (dp_nk M4 0 (some (.inr 2, dp_new M4 0 0 6))) else (dp_bi (dp_den true xs xl d 251 [.long (Int32.toInt64 v3), .long (0 : Int64), .long (5 : Int64)] M4) (fun r7 M6 => if r7 = 0 then (dp_nk M6 0 (some (.inr 2, dp_new M6 0 0 6))) else (if dp_t true M6 q2 = 16 then dp_bi (dp_den true xs xl d 135 [.ref q2, .int v2, .int v3] M6) (fun r9 M8 => some (.inl (some (.int r9)), M8)) else none))))) else none) := by
  have hF := dp_den_grow (md := true) (xs := xs) (xl := xl) d
  unfold D_X11_node_0
  refine dp_s1 hF (i := .aload_n 0) rfl (fun _ => rfl) ?_
  refine dp_s1 hF (i := .iload_n 1) rfl (fun _ => rfl) ?_
  refine dp_so (mj := dp_m_X11_rateOf) (i := .invokevirtual 507) rfl rfl ⟨_, rfl⟩ rfl (fun _ => rfl) (fun M1 => ?_) (fun q2 M3 => ?_) (fun _ h => dp_den_ob (mi := dp_m_X11_rateOf) rfl rfl h)
  · refine dp_s1 hF (i := .astore 4) rfl (fun _ => rfl) ?_
    refine dp_s1 hF (i := .aload 4) rfl (fun _ => rfl) ?_
    refine dp_s1 hF (i := .ifnull 32) rfl (fun _ => rfl) ?_
    exact dp_s0 hF (i := .new 194) rfl (fun _ => rfl)
  refine dp_s1 hF (i := .astore 4) rfl (fun _ => rfl) ?_
  refine dp_s1 hF (i := .aload 4) rfl (fun _ => rfl) ?_
  refine dp_s1 hF (i := .ifnull 32) rfl (fun _ => rfl) ?_
  refine dp_s1 hF (i := .iload_n 2) rfl (fun _ => rfl) ?_
  refine dp_s1 hF (i := .i2l) rfl (fun _ => rfl) ?_
  refine dp_s1 hF (i := .lconst 0) rfl (fun _ => rfl) ?_
  refine dp_s1 hF (i := .aload 4) rfl (fun _ => rfl) ?_
  refine dp_s4 hF (i := .getfield 502) rfl (fun _ => rfl) ?_
  refine dp_s1 hF (i := .iconst 1) rfl (fun _ => rfl) ?_
  refine dp_s1 hF (i := .isub) rfl (fun _ => rfl) ?_
  refine dp_s1 hF (i := .i2l) rfl (fun _ => rfl) ?_
  refine dp_si (mj := dp_m_X11_within) (i := .invokestatic 96) rfl rfl (Or.inr rfl) rfl (fun _ => rfl) (fun r5 M4 => ?_)
  refine dp_s2 hF (i := .ifCond .eq 15) (a := (41, [some (.ref 0), some (.int v1), some (.int v2), some (.int v3), some (.ref q2)], [], M4)) (b := (29, [some (.ref 0), some (.int v1), some (.int v2), some (.int v3), some (.ref q2)], [], M4)) rfl (fun _ => rfl) ?_ ?_
  · exact dp_s0 hF (i := .new 194) rfl (fun _ => rfl)
  refine dp_s1 hF (i := .iload_n 3) rfl (fun _ => rfl) ?_
  refine dp_s1 hF (i := .i2l) rfl (fun _ => rfl) ?_
  refine dp_s1 hF (i := .lconst 0) rfl (fun _ => rfl) ?_
  refine dp_s1 hF (i := .ldc2_w 139) rfl (fun _ => rfl) ?_
  refine dp_si (mj := dp_m_X11_within) (i := .invokestatic 96) rfl rfl (Or.inr rfl) rfl (fun _ => rfl) (fun r7 M6 => ?_)
  refine dp_s2 hF (i := .ifCond .ne 14) (a := (41, [some (.ref 0), some (.int v1), some (.int v2), some (.int v3), some (.ref q2)], [], M6)) (b := (52, [some (.ref 0), some (.int v1), some (.int v2), some (.int v3), some (.ref q2)], [], M6)) rfl (fun _ => rfl) ?_ ?_
  · exact dp_s0 hF (i := .new 194) rfl (fun _ => rfl)
  refine dp_s1 hF (i := .aload 4) rfl (fun _ => rfl) ?_
  refine dp_s1 hF (i := .iload_n 2) rfl (fun _ => rfl) ?_
  refine dp_s1 hF (i := .iload_n 3) rfl (fun _ => rfl) ?_
  refine dp_si4 (mj := dp_m_X6_fact) (i := .invokevirtual 513) rfl rfl (Or.inl rfl) rfl (fun _ => rfl) (fun r9 M8 => ?_)
  exact dp_s0 hF (i := .ireturn) rfl (fun _ => rfl)
noncomputable def D_X11_print_0 (xs : Nat → Int32) (xl d : Nat) (v1 : Int32) (M : dp_M) : Option dp_Res := dp_lim true xs xl (dp_den true xs xl d) dp_m_X11_print (0, [some (.ref 0), some (.int v1), none], [], M)
theorem D_X11_print_0_den (xs : Nat → Int32) (xl d : Nat) (a0 : Int32) (M : dp_M) : dp_den true xs xl (d + 1) 311 [.ref 0, .int a0] M = D_X11_print_0 xs xl d a0 M := rfl
set_option maxRecDepth 20000 in
theorem D_X11_print_0_eq (xs : Nat → Int32) (xl d : Nat) (v1 : Int32) (M : dp_M) : D_X11_print_0 xs xl d v1 M = dp_bo (dp_den true xs xl d 309 [.ref 0, .int v1] M) (fun M1 => dp_nk M1 0 (some (.inr 0, dp_new M1 0 0 6))) (fun q2 M3 => dp_bi (dp_den true xs xl d 173 [.ref 68, .ref q2] M3) (fun r5 M4 => some (.inl (some (.int r5)), M4))) := by
  have hF := dp_den_grow (md := true) (xs := xs) (xl := xl) d
  unfold D_X11_print_0
  refine dp_s1 hF (i := .aload_n 0) rfl (fun _ => rfl) ?_
  refine dp_s1 hF (i := .iload_n 1) rfl (fun _ => rfl) ?_
  refine dp_so (mj := dp_m_X11_rateOf) (i := .invokevirtual 507) rfl rfl ⟨_, rfl⟩ rfl (fun _ => rfl) (fun M1 => ?_) (fun q2 M3 => ?_) (fun _ h => dp_den_ob (mi := dp_m_X11_rateOf) rfl rfl h)
  · refine dp_s1 hF (i := .astore_n 2) rfl (fun _ => rfl) ?_
    refine dp_s1 hF (i := .aload_n 2) rfl (fun _ => rfl) ?_
    refine dp_s1 hF (i := .ifnonnull 14) rfl (fun _ => rfl) ?_
    exact dp_s0 hF (i := .new 141) rfl (fun _ => rfl)
  refine dp_s1 hF (i := .astore_n 2) rfl (fun _ => rfl) ?_
  refine dp_s1 hF (i := .aload_n 2) rfl (fun _ => rfl) ?_
  refine dp_s1 hF (i := .ifnonnull 14) rfl (fun _ => rfl) ?_
  refine dp_s1 hF (i := .aload_n 0) rfl (fun _ => rfl) ?_
  refine dp_s1 hF (i := .getfield 50) rfl (fun _ => rfl) ?_
  refine dp_s1 hF (i := .aload_n 2) rfl (fun _ => rfl) ?_
  refine dp_si (mj := dp_m_X7_printRate) (i := .invokevirtual 518) rfl rfl (Or.inl rfl) rfl (fun _ => rfl) (fun r5 M4 => ?_)
  exact dp_s0 hF (i := .ireturn) rfl (fun _ => rfl)
noncomputable def D_X11_printed_0 (xs : Nat → Int32) (xl d : Nat) (v1 : Int32) (M : dp_M) : Option dp_Res := dp_lim true xs xl (dp_den true xs xl d) dp_m_X11_printed (0, [some (.ref 0), some (.int v1)], [], M)
theorem D_X11_printed_0_den (xs : Nat → Int32) (xl d : Nat) (a0 : Int32) (M : dp_M) : dp_den true xs xl (d + 1) 312 [.ref 0, .int a0] M = D_X11_printed_0 xs xl d a0 M := rfl
set_option maxRecDepth 20000 in
theorem D_X11_printed_0_eq (xs : Nat → Int32) (xl d : Nat) (v1 : Int32) (M : dp_M) : D_X11_printed_0 xs xl d v1 M = dp_bi (dp_den true xs xl d 251 [.long (Int32.toInt64 v1), .long (0 : Int64), .long (Int32.toInt64 ((dp_I M 68 1) - (1 : Int32)))] M) (fun r2 M1 => if r2 = 0 then (dp_nk M1 0 (some (.inr 2, dp_new M1 0 0 6))) else (if v1 < 0 ∨ 1024 ≤ Int32.toNatClampNeg v1 then none else (some (.inl (some (.int (dp_I M1 69 (Int32.toNatClampNeg v1)))), M1)))) := by
  have hF := dp_den_grow (md := true) (xs := xs) (xl := xl) d
  unfold D_X11_printed_0
  refine dp_s1 hF (i := .iload_n 1) rfl (fun _ => rfl) ?_
  refine dp_s1 hF (i := .i2l) rfl (fun _ => rfl) ?_
  refine dp_s1 hF (i := .lconst 0) rfl (fun _ => rfl) ?_
  refine dp_s1 hF (i := .aload_n 0) rfl (fun _ => rfl) ?_
  refine dp_s1 hF (i := .getfield 50) rfl (fun _ => rfl) ?_
  refine dp_s1 hF (i := .getfield 522) rfl (fun _ => rfl) ?_
  refine dp_s1 hF (i := .iconst 1) rfl (fun _ => rfl) ?_
  refine dp_s1 hF (i := .isub) rfl (fun _ => rfl) ?_
  refine dp_s1 hF (i := .i2l) rfl (fun _ => rfl) ?_
  refine dp_si (mj := dp_m_X11_within) (i := .invokestatic 96) rfl rfl (Or.inr rfl) rfl (fun _ => rfl) (fun r2 M1 => ?_)
  refine dp_s2 hF (i := .ifCond .ne 14) (a := (19, [some (.ref 0), some (.int v1)], [], M1)) (b := (30, [some (.ref 0), some (.int v1)], [], M1)) rfl (fun _ => rfl) ?_ ?_
  · exact dp_s0 hF (i := .new 194) rfl (fun _ => rfl)
  refine dp_s1 hF (i := .aload_n 0) rfl (fun _ => rfl) ?_
  refine dp_s1 hF (i := .getfield 50) rfl (fun _ => rfl) ?_
  refine dp_s1 hF (i := .getfield 527) rfl (fun _ => rfl) ?_
  refine dp_s1 hF (i := .iload_n 1) rfl (fun _ => rfl) ?_
  refine dp_s3 hF (i := .caload) rfl (fun _ => rfl) ?_
  exact dp_s0 hF (i := .ireturn) rfl (fun _ => rfl)
noncomputable def D_X11_worth_0 (xs : Nat → Int32) (xl d : Nat) (v1 : Int32) (v2 : Int64) (v4 : Int32) (v5 : Int64) (M : dp_M) : Option dp_Res := dp_lim true xs xl (dp_den true xs xl d) dp_m_X11_worth (0, [some (.ref 0), some (.int v1), some (.long v2), none, some (.int v4), some (.long v5), none, none], [], M)
theorem D_X11_worth_0_den (xs : Nat → Int32) (xl d : Nat) (a0 : Int32) (a1 : Int64) (a2 : Int32) (a3 : Int64) (M : dp_M) : dp_den true xs xl (d + 1) 313 [.ref 0, .int a0, .long a1, .int a2, .long a3] M = D_X11_worth_0 xs xl d a0 a1 a2 a3 M := rfl
set_option maxRecDepth 20000 in
theorem D_X11_worth_0_eq (xs : Nat → Int32) (xl d : Nat) (v1 : Int32) (v2 : Int64) (v4 : Int32) (v5 : Int64) (M : dp_M) : D_X11_worth_0 xs xl d v1 v2 v4 v5 M = dp_bo (dp_den true xs xl d 309 [.ref 0, .int v1] M) (fun M1 => dp_nk M1 0 (some (.inr 0, dp_new M1 0 0 6))) (fun q2 M3 => dp_bi (dp_den true xs xl d 251 [.long v2, .long (0 : Int64), .long (100000000 : Int64)] M3) (fun r5 M4 => if r5 = 0 then (dp_nk M4 0 (some (.inr 0, dp_new M4 0 0 6))) else (dp_bi (dp_den true xs xl d 251 [.long (Int32.toInt64 v4), .long (0 : Int64), .long (7 : Int64)] M4) (fun r7 M6 => if r7 = 0 then (dp_nk M6 0 (some (.inr 0, dp_new M6 0 0 6))) else (dp_bi (dp_den true xs xl d 251 [.long v5, .long (0 : Int64), .long (100000000 : Int64)] M6) (fun r9 M8 => if r9 = 0 then (dp_nk M8 0 (some (.inr 0, dp_new M8 0 0 6))) else (if dp_t true M8 q2 = 16 then (if ((dp_I M8 q2 1) &&& (((1 : Int32) <<< (v4 &&& 31)) ^^^ (-1 : Int32))) = 0 then (dp_bl (dp_den true xs xl d 12 [.ref 108, .ref q2, .long v2, .int v4, .long v5] M8) (fun r11 M10 => some (.inl (some (.long r11)), M10))) else (dp_nk M8 0 (some (.inr 3, dp_new M8 0 0 6)))) else none))))))) := by
  have hF := dp_den_grow (md := true) (xs := xs) (xl := xl) d
  unfold D_X11_worth_0
  refine dp_s1 hF (i := .aload_n 0) rfl (fun _ => rfl) ?_
  refine dp_s1 hF (i := .iload_n 1) rfl (fun _ => rfl) ?_
  refine dp_so (mj := dp_m_X11_rateOf) (i := .invokevirtual 507) rfl rfl ⟨_, rfl⟩ rfl (fun _ => rfl) (fun M1 => ?_) (fun q2 M3 => ?_) (fun _ h => dp_den_ob (mi := dp_m_X11_rateOf) rfl rfl h)
  · refine dp_s1 hF (i := .astore 7) rfl (fun _ => rfl) ?_
    refine dp_s1 hF (i := .aload 7) rfl (fun _ => rfl) ?_
    refine dp_s1 hF (i := .ifnull 39) rfl (fun _ => rfl) ?_
    exact dp_s0 hF (i := .new 141) rfl (fun _ => rfl)
  refine dp_s1 hF (i := .astore 7) rfl (fun _ => rfl) ?_
  refine dp_s1 hF (i := .aload 7) rfl (fun _ => rfl) ?_
  refine dp_s1 hF (i := .ifnull 39) rfl (fun _ => rfl) ?_
  refine dp_s1 hF (i := .lload_n 2) rfl (fun _ => rfl) ?_
  refine dp_s1 hF (i := .lconst 0) rfl (fun _ => rfl) ?_
  refine dp_s1 hF (i := .ldc2_w 531) rfl (fun _ => rfl) ?_
  refine dp_si (mj := dp_m_X11_within) (i := .invokestatic 96) rfl rfl (Or.inr rfl) rfl (fun _ => rfl) (fun r5 M4 => ?_)
  refine dp_s2 hF (i := .ifCond .eq 28) (a := (48, [some (.ref 0), some (.int v1), some (.long v2), none, some (.int v4), some (.long v5), none, some (.ref q2)], [], M4)) (b := (23, [some (.ref 0), some (.int v1), some (.long v2), none, some (.int v4), some (.long v5), none, some (.ref q2)], [], M4)) rfl (fun _ => rfl) ?_ ?_
  · exact dp_s0 hF (i := .new 141) rfl (fun _ => rfl)
  refine dp_s1 hF (i := .iload 4) rfl (fun _ => rfl) ?_
  refine dp_s1 hF (i := .i2l) rfl (fun _ => rfl) ?_
  refine dp_s1 hF (i := .lconst 0) rfl (fun _ => rfl) ?_
  refine dp_s1 hF (i := .ldc2_w 428) rfl (fun _ => rfl) ?_
  refine dp_si (mj := dp_m_X11_within) (i := .invokestatic 96) rfl rfl (Or.inr rfl) rfl (fun _ => rfl) (fun r7 M6 => ?_)
  refine dp_s2 hF (i := .ifCond .eq 15) (a := (48, [some (.ref 0), some (.int v1), some (.long v2), none, some (.int v4), some (.long v5), none, some (.ref q2)], [], M6)) (b := (36, [some (.ref 0), some (.int v1), some (.long v2), none, some (.int v4), some (.long v5), none, some (.ref q2)], [], M6)) rfl (fun _ => rfl) ?_ ?_
  · exact dp_s0 hF (i := .new 141) rfl (fun _ => rfl)
  refine dp_s1 hF (i := .lload 5) rfl (fun _ => rfl) ?_
  refine dp_s1 hF (i := .lconst 0) rfl (fun _ => rfl) ?_
  refine dp_s1 hF (i := .ldc2_w 531) rfl (fun _ => rfl) ?_
  refine dp_si (mj := dp_m_X11_within) (i := .invokestatic 96) rfl rfl (Or.inr rfl) rfl (fun _ => rfl) (fun r9 M8 => ?_)
  refine dp_s2 hF (i := .ifCond .ne 14) (a := (48, [some (.ref 0), some (.int v1), some (.long v2), none, some (.int v4), some (.long v5), none, some (.ref q2)], [], M8)) (b := (59, [some (.ref 0), some (.int v1), some (.long v2), none, some (.int v4), some (.long v5), none, some (.ref q2)], [], M8)) rfl (fun _ => rfl) ?_ ?_
  · exact dp_s0 hF (i := .new 141) rfl (fun _ => rfl)
  refine dp_s1 hF (i := .aload 7) rfl (fun _ => rfl) ?_
  refine dp_s4 hF (i := .getfield 535) rfl (fun _ => rfl) ?_
  refine dp_s1 hF (i := .iconst 1) rfl (fun _ => rfl) ?_
  refine dp_s1 hF (i := .iload 4) rfl (fun _ => rfl) ?_
  refine dp_s1 hF (i := .ishl) rfl (fun _ => rfl) ?_
  refine dp_s1 hF (i := .iconst (-1)) rfl (fun _ => rfl) ?_
  refine dp_s1 hF (i := .ixor) rfl (fun _ => rfl) ?_
  refine dp_s1 hF (i := .iand) rfl (fun _ => rfl) ?_
  refine dp_s2 hF (i := .ifCond .eq 14) (a := (85, [some (.ref 0), some (.int v1), some (.long v2), none, some (.int v4), some (.long v5), none, some (.ref q2)], [], M8)) (b := (74, [some (.ref 0), some (.int v1), some (.long v2), none, some (.int v4), some (.long v5), none, some (.ref q2)], [], M8)) rfl (fun _ => rfl) ?_ ?_
  · refine dp_s1 hF (i := .aload_n 0) rfl (fun _ => rfl) ?_
    refine dp_s1 hF (i := .getfield 80) rfl (fun _ => rfl) ?_
    refine dp_s1 hF (i := .aload 7) rfl (fun _ => rfl) ?_
    refine dp_s1 hF (i := .lload_n 2) rfl (fun _ => rfl) ?_
    refine dp_s1 hF (i := .iload 4) rfl (fun _ => rfl) ?_
    refine dp_s1 hF (i := .lload 5) rfl (fun _ => rfl) ?_
    refine dp_sl9 (mj := dp_m_X0_valueWithOne) (i := .invokevirtual 543) rfl rfl rfl rfl (fun _ => rfl) (fun r11 M10 => ?_)
    exact dp_s0 hF (i := .lreturn) rfl (fun _ => rfl)
  exact dp_s0 hF (i := .new 538) rfl (fun _ => rfl)
noncomputable def D_X11_order_0 (xs : Nat → Int32) (xl d : Nat) (v1 : Int64) (v3 : Int32) (v4 : Int32) (M : dp_M) : Option dp_Res := dp_lim true xs xl (dp_den true xs xl d) dp_m_X11_order (0, [some (.ref 0), some (.long v1), none, some (.int v3), some (.int v4)], [], M)
theorem D_X11_order_0_den (xs : Nat → Int32) (xl d : Nat) (a0 : Int64) (a1 : Int32) (a2 : Int32) (M : dp_M) : dp_den true xs xl (d + 1) 314 [.ref 0, .long a0, .int a1, .int a2] M = D_X11_order_0 xs xl d a0 a1 a2 M := rfl
set_option maxRecDepth 20000 in
theorem D_X11_order_0_eq (xs : Nat → Int32) (xl d : Nat) (v1 : Int64) (v3 : Int32) (v4 : Int32) (M : dp_M) : D_X11_order_0 xs xl d v1 v3 v4 M = dp_bi (dp_den true xs xl d 251 [.long v1, .long (1 : Int64), .long (1000000000 : Int64)] M) (fun r2 M1 => if r2 = 0 then (dp_nk M1 0 (some (.inr 0, dp_new M1 0 0 6))) else (dp_bi (dp_den true xs xl d 251 [.long (Int32.toInt64 v3), .long (0 : Int64), .long (400 : Int64)] M1) (fun r4 M3 => if r4 = 0 then (dp_nk M3 0 (some (.inr 0, dp_new M3 0 0 6))) else (dp_bi (dp_den true xs xl d 251 [.long (Int32.toInt64 v4), .long (Int32.toInt64 v3), .long (400 : Int64)] M3) (fun r6 M5 => if r6 = 0 then (dp_nk M5 0 (some (.inr 0, dp_new M5 0 0 6))) else (if (dp_I M5 75 0) < (16 : Int32) then (dp_bi (dp_den true xs xl d 116 [.ref 75, .long v1, .int v3, .int v4] M5) (fun r8 M7 => some (.inl (some (.int r8)), M7))) else (dp_nk M5 0 (some (.inr 1, dp_new M5 0 0 6))))))))) := by
  have hF := dp_den_grow (md := true) (xs := xs) (xl := xl) d
  unfold D_X11_order_0
  refine dp_s1 hF (i := .lload_n 1) rfl (fun _ => rfl) ?_
  refine dp_s1 hF (i := .lconst 1) rfl (fun _ => rfl) ?_
  refine dp_s1 hF (i := .ldc2_w 547) rfl (fun _ => rfl) ?_
  refine dp_si (mj := dp_m_X11_within) (i := .invokestatic 96) rfl rfl (Or.inr rfl) rfl (fun _ => rfl) (fun r2 M1 => ?_)
  refine dp_s2 hF (i := .ifCond .eq 29) (a := (37, [some (.ref 0), some (.long v1), none, some (.int v3), some (.int v4)], [], M1)) (b := (11, [some (.ref 0), some (.long v1), none, some (.int v3), some (.int v4)], [], M1)) rfl (fun _ => rfl) ?_ ?_
  · exact dp_s0 hF (i := .new 141) rfl (fun _ => rfl)
  refine dp_s1 hF (i := .iload_n 3) rfl (fun _ => rfl) ?_
  refine dp_s1 hF (i := .i2l) rfl (fun _ => rfl) ?_
  refine dp_s1 hF (i := .lconst 0) rfl (fun _ => rfl) ?_
  refine dp_s1 hF (i := .ldc2_w 549) rfl (fun _ => rfl) ?_
  refine dp_si (mj := dp_m_X11_within) (i := .invokestatic 96) rfl rfl (Or.inr rfl) rfl (fun _ => rfl) (fun r4 M3 => ?_)
  refine dp_s2 hF (i := .ifCond .eq 17) (a := (37, [some (.ref 0), some (.long v1), none, some (.int v3), some (.int v4)], [], M3)) (b := (23, [some (.ref 0), some (.long v1), none, some (.int v3), some (.int v4)], [], M3)) rfl (fun _ => rfl) ?_ ?_
  · exact dp_s0 hF (i := .new 141) rfl (fun _ => rfl)
  refine dp_s1 hF (i := .iload 4) rfl (fun _ => rfl) ?_
  refine dp_s1 hF (i := .i2l) rfl (fun _ => rfl) ?_
  refine dp_s1 hF (i := .iload_n 3) rfl (fun _ => rfl) ?_
  refine dp_s1 hF (i := .i2l) rfl (fun _ => rfl) ?_
  refine dp_s1 hF (i := .ldc2_w 549) rfl (fun _ => rfl) ?_
  refine dp_si (mj := dp_m_X11_within) (i := .invokestatic 96) rfl rfl (Or.inr rfl) rfl (fun _ => rfl) (fun r6 M5 => ?_)
  refine dp_s2 hF (i := .ifCond .ne 14) (a := (37, [some (.ref 0), some (.long v1), none, some (.int v3), some (.int v4)], [], M5)) (b := (48, [some (.ref 0), some (.long v1), none, some (.int v3), some (.int v4)], [], M5)) rfl (fun _ => rfl) ?_ ?_
  · exact dp_s0 hF (i := .new 141) rfl (fun _ => rfl)
  refine dp_s1 hF (i := .aload_n 0) rfl (fun _ => rfl) ?_
  refine dp_s1 hF (i := .getfield 57) rfl (fun _ => rfl) ?_
  refine dp_s1 hF (i := .getfield 107) rfl (fun _ => rfl) ?_
  refine dp_s1 hF (i := .bipush 16) rfl (fun _ => rfl) ?_
  refine dp_s2 hF (i := .if_icmp .lt 14) (a := (71, [some (.ref 0), some (.long v1), none, some (.int v3), some (.int v4)], [], M5)) (b := (60, [some (.ref 0), some (.long v1), none, some (.int v3), some (.int v4)], [], M5)) rfl (fun _ => rfl) ?_ ?_
  · refine dp_s1 hF (i := .aload_n 0) rfl (fun _ => rfl) ?_
    refine dp_s1 hF (i := .getfield 57) rfl (fun _ => rfl) ?_
    refine dp_s1 hF (i := .lload_n 1) rfl (fun _ => rfl) ?_
    refine dp_s1 hF (i := .iload_n 3) rfl (fun _ => rfl) ?_
    refine dp_s1 hF (i := .iload 4) rfl (fun _ => rfl) ?_
    refine dp_si (mj := dp_m_X5_addOrder) (i := .invokevirtual 555) rfl rfl (Or.inl rfl) rfl (fun _ => rfl) (fun r8 M7 => ?_)
    exact dp_s0 hF (i := .ireturn) rfl (fun _ => rfl)
  exact dp_s0 hF (i := .new 167) rfl (fun _ => rfl)
noncomputable def D_X11_run_0 (xs : Nat → Int32) (xl d : Nat) (v1 : Int32) (v2 : Int32) (M : dp_M) : Option dp_Res := dp_lim true xs xl (dp_den true xs xl d) dp_m_X11_run (0, [some (.ref 0), some (.int v1), some (.int v2)], [], M)
theorem D_X11_run_0_den (xs : Nat → Int32) (xl d : Nat) (a0 : Int32) (a1 : Int32) (M : dp_M) : dp_den true xs xl (d + 1) 315 [.ref 0, .int a0, .int a1] M = D_X11_run_0 xs xl d a0 a1 M := rfl
set_option maxRecDepth 20000 in
theorem D_X11_run_0_eq (xs : Nat → Int32) (xl d : Nat) (v1 : Int32) (v2 : Int32) (M : dp_M) : D_X11_run_0 xs xl d v1 v2 M = dp_bi (dp_den true xs xl d 256 [.ref 0, .int v1] M) (fun r2 M1 => if r2 = 0 then (dp_nk M1 0 (some (.inr 2, dp_new M1 0 0 6))) else (dp_bi (dp_den true xs xl d 251 [.long (Int32.toInt64 v2), .long (0 : Int64), .long (400 : Int64)] M1) (fun r4 M3 => if r4 = 0 then (dp_nk M3 0 (some (.inr 0, dp_new M3 0 0 6))) else (if v1 < 0 ∨ 16 ≤ Int32.toNatClampNeg v1 then none else (if (dp_I M3 79 (Int32.toNatClampNeg v1)) < v2 then (dp_bi (dp_den true xs xl d 121 [.ref 75, .int v1, .int v2] M3) (fun r6 M5 => some (.inl (some (.int r6)), M5))) else (dp_nk M3 0 (some (.inr 0, dp_new M3 0 0 6)))))))) := by
  have hF := dp_den_grow (md := true) (xs := xs) (xl := xl) d
  unfold D_X11_run_0
  refine dp_s1 hF (i := .aload_n 0) rfl (fun _ => rfl) ?_
  refine dp_s1 hF (i := .iload_n 1) rfl (fun _ => rfl) ?_
  refine dp_si (mj := dp_m_X11_isOrder) (i := .invokevirtual 559) rfl rfl (Or.inr rfl) rfl (fun _ => rfl) (fun r2 M1 => ?_)
  refine dp_s2 hF (i := .ifCond .ne 14) (a := (8, [some (.ref 0), some (.int v1), some (.int v2)], [], M1)) (b := (19, [some (.ref 0), some (.int v1), some (.int v2)], [], M1)) rfl (fun _ => rfl) ?_ ?_
  · exact dp_s0 hF (i := .new 194) rfl (fun _ => rfl)
  refine dp_s1 hF (i := .iload_n 2) rfl (fun _ => rfl) ?_
  refine dp_s1 hF (i := .i2l) rfl (fun _ => rfl) ?_
  refine dp_s1 hF (i := .lconst 0) rfl (fun _ => rfl) ?_
  refine dp_s1 hF (i := .ldc2_w 549) rfl (fun _ => rfl) ?_
  refine dp_si (mj := dp_m_X11_within) (i := .invokestatic 96) rfl rfl (Or.inr rfl) rfl (fun _ => rfl) (fun r4 M3 => ?_)
  refine dp_s2 hF (i := .ifCond .eq 16) (a := (44, [some (.ref 0), some (.int v1), some (.int v2)], [], M3)) (b := (31, [some (.ref 0), some (.int v1), some (.int v2)], [], M3)) rfl (fun _ => rfl) ?_ ?_
  · exact dp_s0 hF (i := .new 141) rfl (fun _ => rfl)
  refine dp_s1 hF (i := .iload_n 2) rfl (fun _ => rfl) ?_
  refine dp_s1 hF (i := .aload_n 0) rfl (fun _ => rfl) ?_
  refine dp_s1 hF (i := .getfield 57) rfl (fun _ => rfl) ?_
  refine dp_s1 hF (i := .getfield 564) rfl (fun _ => rfl) ?_
  refine dp_s1 hF (i := .iload_n 1) rfl (fun _ => rfl) ?_
  refine dp_s3 hF (i := .iaload) rfl (fun _ => rfl) ?_
  refine dp_s2 hF (i := .if_icmp .gt 14) (a := (55, [some (.ref 0), some (.int v1), some (.int v2)], [], M3)) (b := (44, [some (.ref 0), some (.int v1), some (.int v2)], [], M3)) rfl (fun _ => rfl) ?_ ?_
  · refine dp_s1 hF (i := .aload_n 0) rfl (fun _ => rfl) ?_
    refine dp_s1 hF (i := .getfield 57) rfl (fun _ => rfl) ?_
    refine dp_s1 hF (i := .iload_n 1) rfl (fun _ => rfl) ?_
    refine dp_s1 hF (i := .iload_n 2) rfl (fun _ => rfl) ?_
    refine dp_si (mj := dp_m_X5_runTo) (i := .invokevirtual 569) rfl rfl (Or.inl rfl) rfl (fun _ => rfl) (fun r6 M5 => ?_)
    exact dp_s0 hF (i := .ireturn) rfl (fun _ => rfl)
  exact dp_s0 hF (i := .new 141) rfl (fun _ => rfl)
noncomputable def D_X11_block_0 (xs : Nat → Int32) (xl d : Nat) (v1 : Int32) (v2 : Int32) (v3 : Int32) (M : dp_M) : Option dp_Res := dp_lim true xs xl (dp_den true xs xl d) dp_m_X11_block (0, [some (.ref 0), some (.int v1), some (.int v2), some (.int v3)], [], M)
theorem D_X11_block_0_den (xs : Nat → Int32) (xl d : Nat) (a0 : Int32) (a1 : Int32) (a2 : Int32) (M : dp_M) : dp_den true xs xl (d + 1) 316 [.ref 0, .int a0, .int a1, .int a2] M = D_X11_block_0 xs xl d a0 a1 a2 M := rfl
set_option maxRecDepth 20000 in
theorem D_X11_block_0_eq (xs : Nat → Int32) (xl d : Nat) (v1 : Int32) (v2 : Int32) (v3 : Int32) (M : dp_M) : D_X11_block_0 xs xl d v1 v2 v3 M = dp_bi (dp_den true xs xl d 256 [.ref 0, .int v1] M) (fun r2 M1 => if r2 = 0 then (dp_nk M1 0 (some (.inr 2, dp_new M1 0 0 6))) else (dp_bi (dp_den true xs xl d 117 [.ref 75, .int v1, .int v2] M1) (fun r4 M3 => if r4 = 0 then (some (.inl (some (.int (0 : Int32))), M3)) else (dp_bi (dp_den true xs xl d 122 [.ref 75, .int v1, .int v2, .int v3] M3) (fun r6 M5 => if r6 = 0 then (some (.inl (some (.int (0 : Int32))), M5)) else (some (.inl (some (.int (1 : Int32))), M5))))))) := by
  have hF := dp_den_grow (md := true) (xs := xs) (xl := xl) d
  unfold D_X11_block_0
  refine dp_s1 hF (i := .aload_n 0) rfl (fun _ => rfl) ?_
  refine dp_s1 hF (i := .iload_n 1) rfl (fun _ => rfl) ?_
  refine dp_si (mj := dp_m_X11_isOrder) (i := .invokevirtual 559) rfl rfl (Or.inr rfl) rfl (fun _ => rfl) (fun r2 M1 => ?_)
  refine dp_s2 hF (i := .ifCond .ne 14) (a := (8, [some (.ref 0), some (.int v1), some (.int v2), some (.int v3)], [], M1)) (b := (19, [some (.ref 0), some (.int v1), some (.int v2), some (.int v3)], [], M1)) rfl (fun _ => rfl) ?_ ?_
  · exact dp_s0 hF (i := .new 194) rfl (fun _ => rfl)
  refine dp_s1 hF (i := .aload_n 0) rfl (fun _ => rfl) ?_
  refine dp_s1 hF (i := .getfield 57) rfl (fun _ => rfl) ?_
  refine dp_s1 hF (i := .iload_n 1) rfl (fun _ => rfl) ?_
  refine dp_s1 hF (i := .iload_n 2) rfl (fun _ => rfl) ?_
  refine dp_si (mj := dp_m_X5_isInSpan) (i := .invokevirtual 572) rfl rfl (Or.inr rfl) rfl (fun _ => rfl) (fun r4 M3 => ?_)
  refine dp_s2 hF (i := .ifCond .eq 20) (a := (48, [some (.ref 0), some (.int v1), some (.int v2), some (.int v3)], [], M3)) (b := (31, [some (.ref 0), some (.int v1), some (.int v2), some (.int v3)], [], M3)) rfl (fun _ => rfl) ?_ ?_
  · refine dp_s1 hF (i := .iconst 0) rfl (fun _ => rfl) ?_
    exact dp_s0 hF (i := .ireturn) rfl (fun _ => rfl)
  refine dp_s1 hF (i := .aload_n 0) rfl (fun _ => rfl) ?_
  refine dp_s1 hF (i := .getfield 57) rfl (fun _ => rfl) ?_
  refine dp_s1 hF (i := .iload_n 1) rfl (fun _ => rfl) ?_
  refine dp_s1 hF (i := .iload_n 2) rfl (fun _ => rfl) ?_
  refine dp_s1 hF (i := .iload_n 3) rfl (fun _ => rfl) ?_
  refine dp_si (mj := dp_m_X5_setBlocked) (i := .invokevirtual 575) rfl rfl (Or.inr rfl) rfl (fun _ => rfl) (fun r6 M5 => ?_)
  refine dp_s2 hF (i := .ifCond .eq 7) (a := (48, [some (.ref 0), some (.int v1), some (.int v2), some (.int v3)], [], M5)) (b := (44, [some (.ref 0), some (.int v1), some (.int v2), some (.int v3)], [], M5)) rfl (fun _ => rfl) ?_ ?_
  · refine dp_s1 hF (i := .iconst 0) rfl (fun _ => rfl) ?_
    exact dp_s0 hF (i := .ireturn) rfl (fun _ => rfl)
  refine dp_s1 hF (i := .iconst 1) rfl (fun _ => rfl) ?_
  refine dp_s1 hF (i := .goto 4) rfl (fun _ => rfl) ?_
  exact dp_s0 hF (i := .ireturn) rfl (fun _ => rfl)
noncomputable def D_X11_transfer_0 (xs : Nat → Int32) (xl d : Nat) (v1 : Int32) (v2 : Int32) (v3 : Int64) (M : dp_M) : Option dp_Res := dp_lim true xs xl (dp_den true xs xl d) dp_m_X11_transfer (0, [some (.ref 0), some (.int v1), some (.int v2), some (.long v3), none], [], M)
theorem D_X11_transfer_0_den (xs : Nat → Int32) (xl d : Nat) (a0 : Int32) (a1 : Int32) (a2 : Int64) (M : dp_M) : dp_den true xs xl (d + 1) 317 [.ref 0, .int a0, .int a1, .long a2] M = D_X11_transfer_0 xs xl d a0 a1 a2 M := rfl
set_option maxRecDepth 20000 in
theorem D_X11_transfer_0_eq (xs : Nat → Int32) (xl d : Nat) (v1 : Int32) (v2 : Int32) (v3 : Int64) (M : dp_M) : D_X11_transfer_0 xs xl d v1 v2 v3 M = dp_bi (dp_den true xs xl d 256 [.ref 0, .int v1] M) (fun r2 M1 => if r2 = 0 then (dp_nk M1 0 (some (.inr 2, dp_new M1 0 0 6))) else (dp_bi (dp_den true xs xl d 256 [.ref 0, .int v2] M1) (fun r4 M3 => if r4 = 0 then (dp_nk M3 0 (some (.inr 2, dp_new M3 0 0 6))) else (dp_bi (dp_den true xs xl d 124 [.ref 75, .int v1, .int v2, .long v3] M3) (fun r6 M5 => if r6 = 0 ∨ r6 = 1 then some (.inl (some (.int r6)), M5) else none))))) := by
  have hF := dp_den_grow (md := true) (xs := xs) (xl := xl) d
  unfold D_X11_transfer_0
  refine dp_s1 hF (i := .aload_n 0) rfl (fun _ => rfl) ?_
  refine dp_s1 hF (i := .iload_n 1) rfl (fun _ => rfl) ?_
  refine dp_si (mj := dp_m_X11_isOrder) (i := .invokevirtual 559) rfl rfl (Or.inr rfl) rfl (fun _ => rfl) (fun r2 M1 => ?_)
  refine dp_s2 hF (i := .ifCond .eq 11) (a := (16, [some (.ref 0), some (.int v1), some (.int v2), some (.long v3), none], [], M1)) (b := (8, [some (.ref 0), some (.int v1), some (.int v2), some (.long v3), none], [], M1)) rfl (fun _ => rfl) ?_ ?_
  · exact dp_s0 hF (i := .new 194) rfl (fun _ => rfl)
  refine dp_s1 hF (i := .aload_n 0) rfl (fun _ => rfl) ?_
  refine dp_s1 hF (i := .iload_n 2) rfl (fun _ => rfl) ?_
  refine dp_si (mj := dp_m_X11_isOrder) (i := .invokevirtual 559) rfl rfl (Or.inr rfl) rfl (fun _ => rfl) (fun r4 M3 => ?_)
  refine dp_s2 hF (i := .ifCond .ne 14) (a := (16, [some (.ref 0), some (.int v1), some (.int v2), some (.long v3), none], [], M3)) (b := (27, [some (.ref 0), some (.int v1), some (.int v2), some (.long v3), none], [], M3)) rfl (fun _ => rfl) ?_ ?_
  · exact dp_s0 hF (i := .new 194) rfl (fun _ => rfl)
  refine dp_s1 hF (i := .aload_n 0) rfl (fun _ => rfl) ?_
  refine dp_s1 hF (i := .getfield 57) rfl (fun _ => rfl) ?_
  refine dp_s1 hF (i := .iload_n 1) rfl (fun _ => rfl) ?_
  refine dp_s1 hF (i := .iload_n 2) rfl (fun _ => rfl) ?_
  refine dp_s1 hF (i := .lload_n 3) rfl (fun _ => rfl) ?_
  refine dp_si (mj := dp_m_X5_carryOver) (i := .invokevirtual 579) rfl rfl (Or.inr rfl) rfl (fun _ => rfl) (fun r6 M5 => ?_)
  exact dp_s0 hF (i := .ireturn) rfl (fun _ => rfl)
noncomputable def D_X11_balance_0 (xs : Nat → Int32) (xl d : Nat) (v1 : Int32) (v2 : Int32) (M : dp_M) : Option dp_Res := dp_lim true xs xl (dp_den true xs xl d) dp_m_X11_balance (0, [some (.ref 0), some (.int v1), some (.int v2)], [], M)
theorem D_X11_balance_0_den (xs : Nat → Int32) (xl d : Nat) (a0 : Int32) (a1 : Int32) (M : dp_M) : dp_den true xs xl (d + 1) 318 [.ref 0, .int a0, .int a1] M = D_X11_balance_0 xs xl d a0 a1 M := rfl
set_option maxRecDepth 20000 in
theorem D_X11_balance_0_eq (xs : Nat → Int32) (xl d : Nat) (v1 : Int32) (v2 : Int32) (M : dp_M) : D_X11_balance_0 xs xl d v1 v2 M = dp_bi (dp_den true xs xl d 256 [.ref 0, .int v1] M) (fun r2 M1 => if r2 = 0 then (dp_nk M1 0 (some (.inr 2, dp_new M1 0 0 6))) else (if v1 < 0 ∨ 16 ≤ Int32.toNatClampNeg v1 then none else (if v1 < 0 ∨ 16 ≤ Int32.toNatClampNeg v1 then none else (dp_bi (dp_den true xs xl d 251 [.long (Int32.toInt64 v2), .long (Int32.toInt64 (dp_I M1 77 (Int32.toNatClampNeg v1))), .long (Int32.toInt64 (dp_I M1 79 (Int32.toNatClampNeg v1)))] M1) (fun r4 M3 => if r4 = 0 then (dp_nk M3 0 (some (.inr 0, dp_new M3 0 0 6))) else (dp_bl (dp_den true xs xl d 125 [.ref 75, .int v1, .int v2] M3) (fun r6 M5 => some (.inl (some (.long r6)), M5)))))))) := by
  have hF := dp_den_grow (md := true) (xs := xs) (xl := xl) d
  unfold D_X11_balance_0
  refine dp_s1 hF (i := .aload_n 0) rfl (fun _ => rfl) ?_
  refine dp_s1 hF (i := .iload_n 1) rfl (fun _ => rfl) ?_
  refine dp_si (mj := dp_m_X11_isOrder) (i := .invokevirtual 559) rfl rfl (Or.inr rfl) rfl (fun _ => rfl) (fun r2 M1 => ?_)
  refine dp_s2 hF (i := .ifCond .ne 14) (a := (8, [some (.ref 0), some (.int v1), some (.int v2)], [], M1)) (b := (19, [some (.ref 0), some (.int v1), some (.int v2)], [], M1)) rfl (fun _ => rfl) ?_ ?_
  · exact dp_s0 hF (i := .new 194) rfl (fun _ => rfl)
  refine dp_s1 hF (i := .iload_n 2) rfl (fun _ => rfl) ?_
  refine dp_s1 hF (i := .i2l) rfl (fun _ => rfl) ?_
  refine dp_s1 hF (i := .aload_n 0) rfl (fun _ => rfl) ?_
  refine dp_s1 hF (i := .getfield 57) rfl (fun _ => rfl) ?_
  refine dp_s1 hF (i := .getfield 583) rfl (fun _ => rfl) ?_
  refine dp_s1 hF (i := .iload_n 1) rfl (fun _ => rfl) ?_
  refine dp_s3 hF (i := .iaload) rfl (fun _ => rfl) ?_
  refine dp_s1 hF (i := .i2l) rfl (fun _ => rfl) ?_
  refine dp_s1 hF (i := .aload_n 0) rfl (fun _ => rfl) ?_
  refine dp_s1 hF (i := .getfield 57) rfl (fun _ => rfl) ?_
  refine dp_s1 hF (i := .getfield 564) rfl (fun _ => rfl) ?_
  refine dp_s1 hF (i := .iload_n 1) rfl (fun _ => rfl) ?_
  refine dp_s3 hF (i := .iaload) rfl (fun _ => rfl) ?_
  refine dp_s1 hF (i := .i2l) rfl (fun _ => rfl) ?_
  refine dp_si (mj := dp_m_X11_within) (i := .invokestatic 96) rfl rfl (Or.inr rfl) rfl (fun _ => rfl) (fun r4 M3 => ?_)
  refine dp_s2 hF (i := .ifCond .ne 14) (a := (47, [some (.ref 0), some (.int v1), some (.int v2)], [], M3)) (b := (58, [some (.ref 0), some (.int v1), some (.int v2)], [], M3)) rfl (fun _ => rfl) ?_ ?_
  · exact dp_s0 hF (i := .new 141) rfl (fun _ => rfl)
  refine dp_s1 hF (i := .aload_n 0) rfl (fun _ => rfl) ?_
  refine dp_s1 hF (i := .getfield 57) rfl (fun _ => rfl) ?_
  refine dp_s1 hF (i := .iload_n 1) rfl (fun _ => rfl) ?_
  refine dp_s1 hF (i := .iload_n 2) rfl (fun _ => rfl) ?_
  refine dp_sl9 (mj := dp_m_X5_balanceAt) (i := .invokevirtual 586) rfl rfl rfl rfl (fun _ => rfl) (fun r6 M5 => ?_)
  exact dp_s0 hF (i := .lreturn) rfl (fun _ => rfl)
noncomputable def D_X11_quota_0 (xs : Nat → Int32) (xl d : Nat) (v1 : Int32) (v2 : Int32) (M : dp_M) : Option dp_Res := dp_lim true xs xl (dp_den true xs xl d) dp_m_X11_quota (0, [some (.ref 0), some (.int v1), some (.int v2)], [], M)
theorem D_X11_quota_0_den (xs : Nat → Int32) (xl d : Nat) (a0 : Int32) (a1 : Int32) (M : dp_M) : dp_den true xs xl (d + 1) 319 [.ref 0, .int a0, .int a1] M = D_X11_quota_0 xs xl d a0 a1 M := rfl
set_option maxRecDepth 20000 in
theorem D_X11_quota_0_eq (xs : Nat → Int32) (xl d : Nat) (v1 : Int32) (v2 : Int32) (M : dp_M) : D_X11_quota_0 xs xl d v1 v2 M = dp_bi (dp_den true xs xl d 256 [.ref 0, .int v1] M) (fun r2 M1 => if r2 = 0 then (dp_nk M1 0 (some (.inr 2, dp_new M1 0 0 6))) else (dp_bi (dp_den true xs xl d 251 [.long (Int32.toInt64 v2), .long (0 : Int64), .long (4 : Int64)] M1) (fun r4 M3 => if r4 = 0 then (dp_nk M3 0 (some (.inr 2, dp_new M3 0 0 6))) else (if v2 = (0 : Int32) then (if v1 < 0 ∨ 16 ≤ Int32.toNatClampNeg v1 then none else (some (.inl (some (.long (dp_J M3 76 (Int32.toNatClampNeg v1)))), M3))) else if v2 = (1 : Int32) then (if v1 < 0 ∨ 16 ≤ Int32.toNatClampNeg v1 then none else (some (.inl (some (.long (Int32.toInt64 (dp_I M3 79 (Int32.toNatClampNeg v1))))), M3))) else if v2 = (2 : Int32) then (dp_bi (dp_den true xs xl d 127 [.ref 75, .int v1] M3) (fun r8 M7 => some (.inl (some (.long (Int32.toInt64 r8))), M7))) else if v2 = (3 : Int32) then (dp_bi (dp_den true xs xl d 128 [.ref 75, .int v1] M3) (fun r10 M9 => some (.inl (some (.long (Int32.toInt64 r10))), M9))) else (dp_bi (dp_den true xs xl d 126 [.ref 75, .int v1] M3) (fun r6 M5 => if r6 = 0 then (some (.inl (some (.long (0 : Int64))), M5)) else (some (.inl (some (.long (1 : Int64))), M5)))))))) := by
  have hF := dp_den_grow (md := true) (xs := xs) (xl := xl) d
  unfold D_X11_quota_0
  refine dp_s1 hF (i := .aload_n 0) rfl (fun _ => rfl) ?_
  refine dp_s1 hF (i := .iload_n 1) rfl (fun _ => rfl) ?_
  refine dp_si (mj := dp_m_X11_isOrder) (i := .invokevirtual 559) rfl rfl (Or.inr rfl) rfl (fun _ => rfl) (fun r2 M1 => ?_)
  refine dp_s2 hF (i := .ifCond .eq 15) (a := (20, [some (.ref 0), some (.int v1), some (.int v2)], [], M1)) (b := (8, [some (.ref 0), some (.int v1), some (.int v2)], [], M1)) rfl (fun _ => rfl) ?_ ?_
  · exact dp_s0 hF (i := .new 194) rfl (fun _ => rfl)
  refine dp_s1 hF (i := .iload_n 2) rfl (fun _ => rfl) ?_
  refine dp_s1 hF (i := .i2l) rfl (fun _ => rfl) ?_
  refine dp_s1 hF (i := .lconst 0) rfl (fun _ => rfl) ?_
  refine dp_s1 hF (i := .ldc2_w 348) rfl (fun _ => rfl) ?_
  refine dp_si (mj := dp_m_X11_within) (i := .invokestatic 96) rfl rfl (Or.inr rfl) rfl (fun _ => rfl) (fun r4 M3 => ?_)
  refine dp_s2 hF (i := .ifCond .ne 14) (a := (20, [some (.ref 0), some (.int v1), some (.int v2)], [], M3)) (b := (31, [some (.ref 0), some (.int v1), some (.int v2)], [], M3)) rfl (fun _ => rfl) ?_ ?_
  · exact dp_s0 hF (i := .new 194) rfl (fun _ => rfl)
  refine dp_s1 hF (i := .iload_n 2) rfl (fun _ => rfl) ?_
  refine (dp_s (E := fun k => if v2 = (0 : Int32) then k (64, [some (.ref 0), some (.int v1), some (.int v2)], [], M3) else if v2 = (1 : Int32) then k (74, [some (.ref 0), some (.int v1), some (.int v2)], [], M3) else if v2 = (2 : Int32) then k (85, [some (.ref 0), some (.int v1), some (.int v2)], [], M3) else if v2 = (3 : Int32) then k (95, [some (.ref 0), some (.int v1), some (.int v2)], [], M3) else k (105, [some (.ref 0), some (.int v1), some (.int v2)], [], M3)) hF (i := .tableswitch 73 0 3 #[32, 42, 53, 63]) rfl (fun _ => rfl)).trans ?_
  refine dp_ifc ?_ ?_
  · refine dp_s1 hF (i := .aload_n 0) rfl (fun _ => rfl) ?_
    refine dp_s1 hF (i := .getfield 57) rfl (fun _ => rfl) ?_
    refine dp_s1 hF (i := .getfield 590) rfl (fun _ => rfl) ?_
    refine dp_s1 hF (i := .iload_n 1) rfl (fun _ => rfl) ?_
    refine dp_s3 hF (i := .laload) rfl (fun _ => rfl) ?_
    exact dp_s0 hF (i := .lreturn) rfl (fun _ => rfl)
  refine dp_ifc ?_ ?_
  · refine dp_s1 hF (i := .aload_n 0) rfl (fun _ => rfl) ?_
    refine dp_s1 hF (i := .getfield 57) rfl (fun _ => rfl) ?_
    refine dp_s1 hF (i := .getfield 564) rfl (fun _ => rfl) ?_
    refine dp_s1 hF (i := .iload_n 1) rfl (fun _ => rfl) ?_
    refine dp_s3 hF (i := .iaload) rfl (fun _ => rfl) ?_
    refine dp_s1 hF (i := .i2l) rfl (fun _ => rfl) ?_
    exact dp_s0 hF (i := .lreturn) rfl (fun _ => rfl)
  refine dp_ifc ?_ ?_
  · refine dp_s1 hF (i := .aload_n 0) rfl (fun _ => rfl) ?_
    refine dp_s1 hF (i := .getfield 57) rfl (fun _ => rfl) ?_
    refine dp_s1 hF (i := .iload_n 1) rfl (fun _ => rfl) ?_
    refine dp_si (mj := dp_m_X5_blockedDays) (i := .invokevirtual 594) rfl rfl (Or.inl rfl) rfl (fun _ => rfl) (fun r8 M7 => ?_)
    refine dp_s1 hF (i := .i2l) rfl (fun _ => rfl) ?_
    exact dp_s0 hF (i := .lreturn) rfl (fun _ => rfl)
  refine dp_ifc ?_ ?_
  · refine dp_s1 hF (i := .aload_n 0) rfl (fun _ => rfl) ?_
    refine dp_s1 hF (i := .getfield 57) rfl (fun _ => rfl) ?_
    refine dp_s1 hF (i := .iload_n 1) rfl (fun _ => rfl) ?_
    refine dp_si (mj := dp_m_X5_waiting) (i := .invokevirtual 597) rfl rfl (Or.inl rfl) rfl (fun _ => rfl) (fun r10 M9 => ?_)
    refine dp_s1 hF (i := .i2l) rfl (fun _ => rfl) ?_
    exact dp_s0 hF (i := .lreturn) rfl (fun _ => rfl)
  refine dp_s1 hF (i := .aload_n 0) rfl (fun _ => rfl) ?_
  refine dp_s1 hF (i := .getfield 57) rfl (fun _ => rfl) ?_
  refine dp_s1 hF (i := .iload_n 1) rfl (fun _ => rfl) ?_
  refine dp_si (mj := dp_m_X5_isCritical) (i := .invokevirtual 600) rfl rfl (Or.inr rfl) rfl (fun _ => rfl) (fun r6 M5 => ?_)
  refine dp_s2 hF (i := .ifCond .eq 7) (a := (120, [some (.ref 0), some (.int v1), some (.int v2)], [], M5)) (b := (116, [some (.ref 0), some (.int v1), some (.int v2)], [], M5)) rfl (fun _ => rfl) ?_ ?_
  · refine dp_s1 hF (i := .lconst 0) rfl (fun _ => rfl) ?_
    exact dp_s0 hF (i := .lreturn) rfl (fun _ => rfl)
  refine dp_s1 hF (i := .lconst 1) rfl (fun _ => rfl) ?_
  refine dp_s1 hF (i := .goto 4) rfl (fun _ => rfl) ?_
  exact dp_s0 hF (i := .lreturn) rfl (fun _ => rfl)
noncomputable def D_X11_guarantee_0 (xs : Nat → Int32) (xl d : Nat) (v1 : Int32) (v2 : Int64) (v4 : Int32) (v5 : Int32) (v6 : Int32) (v7 : Int32) (M : dp_M) : Option dp_Res := dp_lim true xs xl (dp_den true xs xl d) dp_m_X11_guarantee (0, [some (.ref 0), some (.int v1), some (.long v2), none, some (.int v4), some (.int v5), some (.int v6), some (.int v7)], [], M)
theorem D_X11_guarantee_0_den (xs : Nat → Int32) (xl d : Nat) (a0 : Int32) (a1 : Int64) (a2 : Int32) (a3 : Int32) (a4 : Int32) (a5 : Int32) (M : dp_M) : dp_den true xs xl (d + 1) 320 [.ref 0, .int a0, .long a1, .int a2, .int a3, .int a4, .int a5] M = D_X11_guarantee_0 xs xl d a0 a1 a2 a3 a4 a5 M := rfl
set_option maxRecDepth 20000 in
theorem D_X11_guarantee_0_eq (xs : Nat → Int32) (xl d : Nat) (v1 : Int32) (v2 : Int64) (v4 : Int32) (v5 : Int32) (v6 : Int32) (v7 : Int32) (M : dp_M) : D_X11_guarantee_0 xs xl d v1 v2 v4 v5 v6 v7 M = dp_bi (dp_den true xs xl d 321 [.int v1] M) (fun r2 M1 => if r2 = 0 then (dp_nk M1 0 (some (.inr 0, dp_new M1 0 0 6))) else (dp_bi (dp_den true xs xl d 251 [.long v2, .long (1 : Int64), .long (1000000000 : Int64)] M1) (fun r4 M3 => if r4 = 0 then (dp_nk M3 0 (some (.inr 0, dp_new M3 0 0 6))) else (dp_bi (dp_den true xs xl d 251 [.long (Int32.toInt64 v5), .long (1 : Int64), .long (100 : Int64)] M3) (fun r6 M5 => if r6 = 0 then (dp_nk M5 0 (some (.inr 0, dp_new M5 0 0 6))) else (dp_bi (dp_den true xs xl d 251 [.long (Int32.toInt64 v4), .long (0 : Int64), .long (Int32.toInt64 v5)] M5) (fun r8 M7 => if r8 = 0 then (dp_nk M7 0 (some (.inr 0, dp_new M7 0 0 6))) else (dp_bi (dp_den true xs xl d 251 [.long (Int32.toInt64 v7), .long (0 : Int64), .long (1000 : Int64)] M7) (fun r10 M9 => if r10 = 0 then (dp_nk M9 0 (some (.inr 0, dp_new M9 0 0 6))) else (if (dp_I M9 90 0) < (40 : Int32) then (dp_bi (dp_den true xs xl d 185 [.ref 90, .int v1, .long v2, .int v4, .int v5, .int v6, .int v7] M9) (fun r12 M11 => some (.inl (some (.int r12)), M11))) else (dp_nk M9 0 (some (.inr 1, dp_new M9 0 0 6))))))))))))) := by
  have hF := dp_den_grow (md := true) (xs := xs) (xl := xl) d
  unfold D_X11_guarantee_0
  refine dp_s1 hF (i := .iload_n 1) rfl (fun _ => rfl) ?_
  refine dp_si (mj := dp_m_X11_isHolder) (i := .invokestatic 603) rfl rfl (Or.inr rfl) rfl (fun _ => rfl) (fun r2 M1 => ?_)
  refine dp_s2 hF (i := .ifCond .eq 14) (a := (18, [some (.ref 0), some (.int v1), some (.long v2), none, some (.int v4), some (.int v5), some (.int v6), some (.int v7)], [], M1)) (b := (7, [some (.ref 0), some (.int v1), some (.long v2), none, some (.int v4), some (.int v5), some (.int v6), some (.int v7)], [], M1)) rfl (fun _ => rfl) ?_ ?_
  · exact dp_s0 hF (i := .new 141) rfl (fun _ => rfl)
  refine dp_s1 hF (i := .lload_n 2) rfl (fun _ => rfl) ?_
  refine dp_s1 hF (i := .lconst 1) rfl (fun _ => rfl) ?_
  refine dp_s1 hF (i := .ldc2_w 547) rfl (fun _ => rfl) ?_
  refine dp_si (mj := dp_m_X11_within) (i := .invokestatic 96) rfl rfl (Or.inr rfl) rfl (fun _ => rfl) (fun r4 M3 => ?_)
  refine dp_s2 hF (i := .ifCond .ne 14) (a := (18, [some (.ref 0), some (.int v1), some (.long v2), none, some (.int v4), some (.int v5), some (.int v6), some (.int v7)], [], M3)) (b := (29, [some (.ref 0), some (.int v1), some (.long v2), none, some (.int v4), some (.int v5), some (.int v6), some (.int v7)], [], M3)) rfl (fun _ => rfl) ?_ ?_
  · exact dp_s0 hF (i := .new 141) rfl (fun _ => rfl)
  refine dp_s1 hF (i := .iload 5) rfl (fun _ => rfl) ?_
  refine dp_s1 hF (i := .i2l) rfl (fun _ => rfl) ?_
  refine dp_s1 hF (i := .lconst 1) rfl (fun _ => rfl) ?_
  refine dp_s1 hF (i := .ldc2_w 608) rfl (fun _ => rfl) ?_
  refine dp_si (mj := dp_m_X11_within) (i := .invokestatic 96) rfl rfl (Or.inr rfl) rfl (fun _ => rfl) (fun r6 M5 => ?_)
  refine dp_s2 hF (i := .ifCond .eq 29) (a := (68, [some (.ref 0), some (.int v1), some (.long v2), none, some (.int v4), some (.int v5), some (.int v6), some (.int v7)], [], M5)) (b := (42, [some (.ref 0), some (.int v1), some (.long v2), none, some (.int v4), some (.int v5), some (.int v6), some (.int v7)], [], M5)) rfl (fun _ => rfl) ?_ ?_
  · exact dp_s0 hF (i := .new 141) rfl (fun _ => rfl)
  refine dp_s1 hF (i := .iload 4) rfl (fun _ => rfl) ?_
  refine dp_s1 hF (i := .i2l) rfl (fun _ => rfl) ?_
  refine dp_s1 hF (i := .lconst 0) rfl (fun _ => rfl) ?_
  refine dp_s1 hF (i := .iload 5) rfl (fun _ => rfl) ?_
  refine dp_s1 hF (i := .i2l) rfl (fun _ => rfl) ?_
  refine dp_si (mj := dp_m_X11_within) (i := .invokestatic 96) rfl rfl (Or.inr rfl) rfl (fun _ => rfl) (fun r8 M7 => ?_)
  refine dp_s2 hF (i := .ifCond .eq 16) (a := (68, [some (.ref 0), some (.int v1), some (.long v2), none, some (.int v4), some (.int v5), some (.int v6), some (.int v7)], [], M7)) (b := (55, [some (.ref 0), some (.int v1), some (.long v2), none, some (.int v4), some (.int v5), some (.int v6), some (.int v7)], [], M7)) rfl (fun _ => rfl) ?_ ?_
  · exact dp_s0 hF (i := .new 141) rfl (fun _ => rfl)
  refine dp_s1 hF (i := .iload 7) rfl (fun _ => rfl) ?_
  refine dp_s1 hF (i := .i2l) rfl (fun _ => rfl) ?_
  refine dp_s1 hF (i := .lconst 0) rfl (fun _ => rfl) ?_
  refine dp_s1 hF (i := .ldc2_w 152) rfl (fun _ => rfl) ?_
  refine dp_si (mj := dp_m_X11_within) (i := .invokestatic 96) rfl rfl (Or.inr rfl) rfl (fun _ => rfl) (fun r10 M9 => ?_)
  refine dp_s2 hF (i := .ifCond .ne 14) (a := (68, [some (.ref 0), some (.int v1), some (.long v2), none, some (.int v4), some (.int v5), some (.int v6), some (.int v7)], [], M9)) (b := (79, [some (.ref 0), some (.int v1), some (.long v2), none, some (.int v4), some (.int v5), some (.int v6), some (.int v7)], [], M9)) rfl (fun _ => rfl) ?_ ?_
  · exact dp_s0 hF (i := .new 141) rfl (fun _ => rfl)
  refine dp_s1 hF (i := .aload_n 0) rfl (fun _ => rfl) ?_
  refine dp_s1 hF (i := .getfield 64) rfl (fun _ => rfl) ?_
  refine dp_s1 hF (i := .getfield 110) rfl (fun _ => rfl) ?_
  refine dp_s1 hF (i := .bipush 40) rfl (fun _ => rfl) ?_
  refine dp_s2 hF (i := .if_icmp .lt 14) (a := (102, [some (.ref 0), some (.int v1), some (.long v2), none, some (.int v4), some (.int v5), some (.int v6), some (.int v7)], [], M9)) (b := (91, [some (.ref 0), some (.int v1), some (.long v2), none, some (.int v4), some (.int v5), some (.int v6), some (.int v7)], [], M9)) rfl (fun _ => rfl) ?_ ?_
  · refine dp_s1 hF (i := .aload_n 0) rfl (fun _ => rfl) ?_
    refine dp_s1 hF (i := .getfield 64) rfl (fun _ => rfl) ?_
    refine dp_s1 hF (i := .iload_n 1) rfl (fun _ => rfl) ?_
    refine dp_s1 hF (i := .lload_n 2) rfl (fun _ => rfl) ?_
    refine dp_s1 hF (i := .iload 4) rfl (fun _ => rfl) ?_
    refine dp_s1 hF (i := .iload 5) rfl (fun _ => rfl) ?_
    refine dp_s1 hF (i := .iload 6) rfl (fun _ => rfl) ?_
    refine dp_s1 hF (i := .iload 7) rfl (fun _ => rfl) ?_
    refine dp_si (mj := dp_m_X8_addGuarantee) (i := .invokevirtual 614) rfl rfl (Or.inl rfl) rfl (fun _ => rfl) (fun r12 M11 => ?_)
    exact dp_s0 hF (i := .ireturn) rfl (fun _ => rfl)
  exact dp_s0 hF (i := .new 167) rfl (fun _ => rfl)
noncomputable def D_X11_isHolder_0 (xs : Nat → Int32) (xl d : Nat) (v0 : Int32) (M : dp_M) : Option dp_Res := dp_lim true xs xl (dp_den true xs xl d) dp_m_X11_isHolder (0, [some (.int v0)], [], M)
theorem D_X11_isHolder_0_den (xs : Nat → Int32) (xl d : Nat) (a0 : Int32) (M : dp_M) : dp_den true xs xl (d + 1) 321 [.int a0] M = D_X11_isHolder_0 xs xl d a0 M := rfl
set_option maxRecDepth 20000 in
theorem D_X11_isHolder_0_eq (xs : Nat → Int32) (xl d : Nat) (v0 : Int32) (M : dp_M) : D_X11_isHolder_0 xs xl d v0 M = dp_bi (dp_den true xs xl d 251 [.long (Int32.toInt64 v0), .long (0 : Int64), .long (7 : Int64)] M) (fun r2 M1 => if r2 = 0 ∨ r2 = 1 then some (.inl (some (.int r2)), M1) else none) := by
  have hF := dp_den_grow (md := true) (xs := xs) (xl := xl) d
  unfold D_X11_isHolder_0
  refine dp_s1 hF (i := .iload_n 0) rfl (fun _ => rfl) ?_
  refine dp_s1 hF (i := .i2l) rfl (fun _ => rfl) ?_
  refine dp_s1 hF (i := .lconst 0) rfl (fun _ => rfl) ?_
  refine dp_s1 hF (i := .ldc2_w 428) rfl (fun _ => rfl) ?_
  refine dp_si (mj := dp_m_X11_within) (i := .invokestatic 96) rfl rfl (Or.inr rfl) rfl (fun _ => rfl) (fun r2 M1 => ?_)
  exact dp_s0 hF (i := .ireturn) rfl (fun _ => rfl)
noncomputable def D_X11_isDesk_0 (xs : Nat → Int32) (xl d : Nat) (v0 : Int32) (M : dp_M) : Option dp_Res := dp_lim true xs xl (dp_den true xs xl d) dp_m_X11_isDesk (0, [some (.int v0)], [], M)
theorem D_X11_isDesk_0_den (xs : Nat → Int32) (xl d : Nat) (a0 : Int32) (M : dp_M) : dp_den true xs xl (d + 1) 322 [.int a0] M = D_X11_isDesk_0 xs xl d a0 M := rfl
set_option maxRecDepth 20000 in
theorem D_X11_isDesk_0_eq (xs : Nat → Int32) (xl d : Nat) (v0 : Int32) (M : dp_M) : D_X11_isDesk_0 xs xl d v0 M = dp_bi (dp_den true xs xl d 251 [.long (Int32.toInt64 v0), .long (0 : Int64), .long (3 : Int64)] M) (fun r2 M1 => if r2 = 0 ∨ r2 = 1 then some (.inl (some (.int r2)), M1) else none) := by
  have hF := dp_den_grow (md := true) (xs := xs) (xl := xl) d
  unfold D_X11_isDesk_0
  refine dp_s1 hF (i := .iload_n 0) rfl (fun _ => rfl) ?_
  refine dp_s1 hF (i := .i2l) rfl (fun _ => rfl) ?_
  refine dp_s1 hF (i := .lconst 0) rfl (fun _ => rfl) ?_
  refine dp_s1 hF (i := .ldc2_w 192) rfl (fun _ => rfl) ?_
  refine dp_si (mj := dp_m_X11_within) (i := .invokestatic 96) rfl rfl (Or.inr rfl) rfl (fun _ => rfl) (fun r2 M1 => ?_)
  exact dp_s0 hF (i := .ireturn) rfl (fun _ => rfl)
noncomputable def D_X11_first_0 (xs : Nat → Int32) (xl d : Nat) (v1 : Int32) (M : dp_M) : Option dp_Res := dp_lim true xs xl (dp_den true xs xl d) dp_m_X11_first (0, [some (.ref 0), some (.int v1)], [], M)
theorem D_X11_first_0_den (xs : Nat → Int32) (xl d : Nat) (a0 : Int32) (M : dp_M) : dp_den true xs xl (d + 1) 323 [.ref 0, .int a0] M = D_X11_first_0 xs xl d a0 M := rfl
set_option maxRecDepth 20000 in
theorem D_X11_first_0_eq (xs : Nat → Int32) (xl d : Nat) (v1 : Int32) (M : dp_M) : D_X11_first_0 xs xl d v1 M = dp_bi (dp_den true xs xl d 257 [.ref 0, .int v1] M) (fun r2 M1 => if r2 = 0 then (some (.inl (some (.int (0 : Int32))), M1)) else (dp_bi (dp_den true xs xl d 187 [.ref 90, .int v1] M1) (fun r4 M3 => if r4 = 0 then (some (.inl (some (.int (0 : Int32))), M3)) else (some (.inl (some (.int (1 : Int32))), M3))))) := by
  have hF := dp_den_grow (md := true) (xs := xs) (xl := xl) d
  unfold D_X11_first_0
  refine dp_s1 hF (i := .aload_n 0) rfl (fun _ => rfl) ?_
  refine dp_s1 hF (i := .iload_n 1) rfl (fun _ => rfl) ?_
  refine dp_si (mj := dp_m_X11_isGuarantee) (i := .invokevirtual 618) rfl rfl (Or.inr rfl) rfl (fun _ => rfl) (fun r2 M1 => ?_)
  refine dp_s2 hF (i := .ifCond .eq 18) (a := (23, [some (.ref 0), some (.int v1)], [], M1)) (b := (8, [some (.ref 0), some (.int v1)], [], M1)) rfl (fun _ => rfl) ?_ ?_
  · refine dp_s1 hF (i := .iconst 0) rfl (fun _ => rfl) ?_
    exact dp_s0 hF (i := .ireturn) rfl (fun _ => rfl)
  refine dp_s1 hF (i := .aload_n 0) rfl (fun _ => rfl) ?_
  refine dp_s1 hF (i := .getfield 64) rfl (fun _ => rfl) ?_
  refine dp_s1 hF (i := .iload_n 1) rfl (fun _ => rfl) ?_
  refine dp_si (mj := dp_m_X8_moveToFront) (i := .invokevirtual 621) rfl rfl (Or.inr rfl) rfl (fun _ => rfl) (fun r4 M3 => ?_)
  refine dp_s2 hF (i := .ifCond .eq 7) (a := (23, [some (.ref 0), some (.int v1)], [], M3)) (b := (19, [some (.ref 0), some (.int v1)], [], M3)) rfl (fun _ => rfl) ?_ ?_
  · refine dp_s1 hF (i := .iconst 0) rfl (fun _ => rfl) ?_
    exact dp_s0 hF (i := .ireturn) rfl (fun _ => rfl)
  refine dp_s1 hF (i := .iconst 1) rfl (fun _ => rfl) ?_
  refine dp_s1 hF (i := .goto 4) rfl (fun _ => rfl) ?_
  exact dp_s0 hF (i := .ireturn) rfl (fun _ => rfl)
noncomputable def D_X11_shut_0 (xs : Nat → Int32) (xl d : Nat) (v1 : Int32) (M : dp_M) : Option dp_Res := dp_lim true xs xl (dp_den true xs xl d) dp_m_X11_shut (0, [some (.ref 0), some (.int v1)], [], M)
theorem D_X11_shut_0_den (xs : Nat → Int32) (xl d : Nat) (a0 : Int32) (M : dp_M) : dp_den true xs xl (d + 1) 324 [.ref 0, .int a0] M = D_X11_shut_0 xs xl d a0 M := rfl
set_option maxRecDepth 20000 in
theorem D_X11_shut_0_eq (xs : Nat → Int32) (xl d : Nat) (v1 : Int32) (M : dp_M) : D_X11_shut_0 xs xl d v1 M = dp_bi (dp_den true xs xl d 257 [.ref 0, .int v1] M) (fun r2 M1 => if r2 = 0 then (some (.inl (some (.int (0 : Int32))), M1)) else (dp_bi (dp_den true xs xl d 188 [.ref 90, .int v1] M1) (fun r4 M3 => if r4 = 0 then (some (.inl (some (.int (0 : Int32))), M3)) else (some (.inl (some (.int (1 : Int32))), M3))))) := by
  have hF := dp_den_grow (md := true) (xs := xs) (xl := xl) d
  unfold D_X11_shut_0
  refine dp_s1 hF (i := .aload_n 0) rfl (fun _ => rfl) ?_
  refine dp_s1 hF (i := .iload_n 1) rfl (fun _ => rfl) ?_
  refine dp_si (mj := dp_m_X11_isGuarantee) (i := .invokevirtual 618) rfl rfl (Or.inr rfl) rfl (fun _ => rfl) (fun r2 M1 => ?_)
  refine dp_s2 hF (i := .ifCond .eq 18) (a := (23, [some (.ref 0), some (.int v1)], [], M1)) (b := (8, [some (.ref 0), some (.int v1)], [], M1)) rfl (fun _ => rfl) ?_ ?_
  · refine dp_s1 hF (i := .iconst 0) rfl (fun _ => rfl) ?_
    exact dp_s0 hF (i := .ireturn) rfl (fun _ => rfl)
  refine dp_s1 hF (i := .aload_n 0) rfl (fun _ => rfl) ?_
  refine dp_s1 hF (i := .getfield 64) rfl (fun _ => rfl) ?_
  refine dp_s1 hF (i := .iload_n 1) rfl (fun _ => rfl) ?_
  refine dp_si (mj := dp_m_X8_closeOne) (i := .invokevirtual 624) rfl rfl (Or.inr rfl) rfl (fun _ => rfl) (fun r4 M3 => ?_)
  refine dp_s2 hF (i := .ifCond .eq 7) (a := (23, [some (.ref 0), some (.int v1)], [], M3)) (b := (19, [some (.ref 0), some (.int v1)], [], M3)) rfl (fun _ => rfl) ?_ ?_
  · refine dp_s1 hF (i := .iconst 0) rfl (fun _ => rfl) ?_
    exact dp_s0 hF (i := .ireturn) rfl (fun _ => rfl)
  refine dp_s1 hF (i := .iconst 1) rfl (fun _ => rfl) ?_
  refine dp_s1 hF (i := .goto 4) rfl (fun _ => rfl) ?_
  exact dp_s0 hF (i := .ireturn) rfl (fun _ => rfl)
noncomputable def D_X11_fails_0 (xs : Nat → Int32) (xl d : Nat) (v1 : Int32) (v2 : Int32) (M : dp_M) : Option dp_Res := dp_lim true xs xl (dp_den true xs xl d) dp_m_X11_fails (0, [some (.ref 0), some (.int v1), some (.int v2)], [], M)
theorem D_X11_fails_0_den (xs : Nat → Int32) (xl d : Nat) (a0 : Int32) (a1 : Int32) (M : dp_M) : dp_den true xs xl (d + 1) 325 [.ref 0, .int a0, .int a1] M = D_X11_fails_0 xs xl d a0 a1 M := rfl
set_option maxRecDepth 20000 in
theorem D_X11_fails_0_eq (xs : Nat → Int32) (xl d : Nat) (v1 : Int32) (v2 : Int32) (M : dp_M) : D_X11_fails_0 xs xl d v1 v2 M = dp_bi (dp_den true xs xl d 322 [.int v1] M) (fun r2 M1 => if r2 = 0 then (some (.inl (some (.int (0 : Int32))), M1)) else (if v1 < 0 ∨ 4 ≤ Int32.toNatClampNeg v1 then none else (if (dp_I M1 92 (Int32.toNatClampNeg v1)) = v2 then (some (.inl (some (.int (0 : Int32))), M1)) else (if v1 < 0 ∨ 4 ≤ Int32.toNatClampNeg v1 then none else dp_w (dp_setI M1 92 (Int32.toNatClampNeg v1) (v2 &&& 1)) (fun M3 => some (.inl (some (.int (1 : Int32))), M3)))))) := by
  have hF := dp_den_grow (md := true) (xs := xs) (xl := xl) d
  unfold D_X11_fails_0
  refine dp_s1 hF (i := .iload_n 1) rfl (fun _ => rfl) ?_
  refine dp_si (mj := dp_m_X11_isDesk) (i := .invokestatic 627) rfl rfl (Or.inr rfl) rfl (fun _ => rfl) (fun r2 M1 => ?_)
  refine dp_s2 hF (i := .ifCond .eq 16) (a := (20, [some (.ref 0), some (.int v1), some (.int v2)], [], M1)) (b := (7, [some (.ref 0), some (.int v1), some (.int v2)], [], M1)) rfl (fun _ => rfl) ?_ ?_
  · refine dp_s1 hF (i := .iconst 0) rfl (fun _ => rfl) ?_
    exact dp_s0 hF (i := .ireturn) rfl (fun _ => rfl)
  refine dp_s1 hF (i := .aload_n 0) rfl (fun _ => rfl) ?_
  refine dp_s1 hF (i := .getfield 64) rfl (fun _ => rfl) ?_
  refine dp_s1 hF (i := .getfield 630) rfl (fun _ => rfl) ?_
  refine dp_s1 hF (i := .iload_n 1) rfl (fun _ => rfl) ?_
  refine dp_s3 hF (i := .baload) rfl (fun _ => rfl) ?_
  refine dp_s1 hF (i := .iload_n 2) rfl (fun _ => rfl) ?_
  refine dp_s2 hF (i := .if_icmp .ne 5) (a := (20, [some (.ref 0), some (.int v1), some (.int v2)], [], M1)) (b := (22, [some (.ref 0), some (.int v1), some (.int v2)], [], M1)) rfl (fun _ => rfl) ?_ ?_
  · refine dp_s1 hF (i := .iconst 0) rfl (fun _ => rfl) ?_
    exact dp_s0 hF (i := .ireturn) rfl (fun _ => rfl)
  refine dp_s1 hF (i := .aload_n 0) rfl (fun _ => rfl) ?_
  refine dp_s1 hF (i := .getfield 64) rfl (fun _ => rfl) ?_
  refine dp_s1 hF (i := .getfield 630) rfl (fun _ => rfl) ?_
  refine dp_s1 hF (i := .iload_n 1) rfl (fun _ => rfl) ?_
  refine dp_s1 hF (i := .iload_n 2) rfl (fun _ => rfl) ?_
  refine dp_s3w (dp_setI M1 92 (Int32.toNatClampNeg v1) (v2 &&& 1)) (fun (M3 : dp_M) => (32, [some (.ref 0), some (.int v1), some (.int v2)], [], M3)) hF (i := .bastore) rfl (fun _ => rfl) (fun M3 => ?_)
  refine dp_s1 hF (i := .iconst 1) rfl (fun _ => rfl) ?_
  exact dp_s0 hF (i := .ireturn) rfl (fun _ => rfl)
noncomputable def D_X11_tick_0 (xs : Nat → Int32) (xl d : Nat) (v1 : Int32) (M : dp_M) : Option dp_Res := dp_lim true xs xl (dp_den true xs xl d) dp_m_X11_tick (0, [some (.ref 0), some (.int v1)], [], M)
theorem D_X11_tick_0_den (xs : Nat → Int32) (xl d : Nat) (a0 : Int32) (M : dp_M) : dp_den true xs xl (d + 1) 326 [.ref 0, .int a0] M = D_X11_tick_0 xs xl d a0 M := rfl
set_option maxRecDepth 20000 in
theorem D_X11_tick_0_eq (xs : Nat → Int32) (xl d : Nat) (v1 : Int32) (M : dp_M) : D_X11_tick_0 xs xl d v1 M = dp_bi (dp_den true xs xl d 251 [.long (Int32.toInt64 v1), .long (Int32.toInt64 (dp_I M 90 3)), .long (100000 : Int64)] M) (fun r2 M1 => if r2 = 0 then (some (.inl (some (.int (0 : Int32))), M1)) else (dp_w (dp_setI M1 90 3 v1) (fun M3 => some (.inl (some (.int (1 : Int32))), M3)))) := by
  have hF := dp_den_grow (md := true) (xs := xs) (xl := xl) d
  unfold D_X11_tick_0
  refine dp_s1 hF (i := .iload_n 1) rfl (fun _ => rfl) ?_
  refine dp_s1 hF (i := .i2l) rfl (fun _ => rfl) ?_
  refine dp_s1 hF (i := .aload_n 0) rfl (fun _ => rfl) ?_
  refine dp_s1 hF (i := .getfield 64) rfl (fun _ => rfl) ?_
  refine dp_s1 hF (i := .getfield 634) rfl (fun _ => rfl) ?_
  refine dp_s1 hF (i := .i2l) rfl (fun _ => rfl) ?_
  refine dp_s1 hF (i := .ldc2_w 132) rfl (fun _ => rfl) ?_
  refine dp_si (mj := dp_m_X11_within) (i := .invokestatic 96) rfl rfl (Or.inr rfl) rfl (fun _ => rfl) (fun r2 M1 => ?_)
  refine dp_s2 hF (i := .ifCond .ne 5) (a := (19, [some (.ref 0), some (.int v1)], [], M1)) (b := (21, [some (.ref 0), some (.int v1)], [], M1)) rfl (fun _ => rfl) ?_ ?_
  · refine dp_s1 hF (i := .iconst 0) rfl (fun _ => rfl) ?_
    exact dp_s0 hF (i := .ireturn) rfl (fun _ => rfl)
  refine dp_s1 hF (i := .aload_n 0) rfl (fun _ => rfl) ?_
  refine dp_s1 hF (i := .getfield 64) rfl (fun _ => rfl) ?_
  refine dp_s1 hF (i := .iload_n 1) rfl (fun _ => rfl) ?_
  refine dp_s1w (dp_setI M1 90 3 v1) (fun (M3 : dp_M) => (29, [some (.ref 0), some (.int v1)], [], M3)) hF (i := .putfield 634) rfl (fun _ => rfl) (fun M3 => ?_)
  refine dp_s1 hF (i := .iconst 1) rfl (fun _ => rfl) ?_
  exact dp_s0 hF (i := .ireturn) rfl (fun _ => rfl)
noncomputable def D_X11_interest_0 (xs : Nat → Int32) (xl d : Nat) (v1 : Int32) (M : dp_M) : Option dp_Res := dp_lim true xs xl (dp_den true xs xl d) dp_m_X11_interest (0, [some (.ref 0), some (.int v1)], [], M)
theorem D_X11_interest_0_den (xs : Nat → Int32) (xl d : Nat) (a0 : Int32) (M : dp_M) : dp_den true xs xl (d + 1) 327 [.ref 0, .int a0] M = D_X11_interest_0 xs xl d a0 M := rfl
set_option maxRecDepth 20000 in
theorem D_X11_interest_0_eq (xs : Nat → Int32) (xl d : Nat) (v1 : Int32) (M : dp_M) : D_X11_interest_0 xs xl d v1 M = dp_bi (dp_den true xs xl d 257 [.ref 0, .int v1] M) (fun r2 M1 => if r2 = 0 then (dp_nk M1 0 (some (.inr 0, dp_new M1 0 0 6))) else (dp_bl (dp_den true xs xl d 190 [.ref 90, .int v1] M1) (fun r4 M3 => some (.inl (some (.long r4)), M3)))) := by
  have hF := dp_den_grow (md := true) (xs := xs) (xl := xl) d
  unfold D_X11_interest_0
  refine dp_s1 hF (i := .aload_n 0) rfl (fun _ => rfl) ?_
  refine dp_s1 hF (i := .iload_n 1) rfl (fun _ => rfl) ?_
  refine dp_si (mj := dp_m_X11_isGuarantee) (i := .invokevirtual 618) rfl rfl (Or.inr rfl) rfl (fun _ => rfl) (fun r2 M1 => ?_)
  refine dp_s2 hF (i := .ifCond .ne 14) (a := (8, [some (.ref 0), some (.int v1)], [], M1)) (b := (19, [some (.ref 0), some (.int v1)], [], M1)) rfl (fun _ => rfl) ?_ ?_
  · exact dp_s0 hF (i := .new 141) rfl (fun _ => rfl)
  refine dp_s1 hF (i := .aload_n 0) rfl (fun _ => rfl) ?_
  refine dp_s1 hF (i := .getfield 64) rfl (fun _ => rfl) ?_
  refine dp_s1 hF (i := .iload_n 1) rfl (fun _ => rfl) ?_
  refine dp_sl9 (mj := dp_m_X8_interestOf) (i := .invokevirtual 639) rfl rfl rfl rfl (fun _ => rfl) (fun r4 M3 => ?_)
  exact dp_s0 hF (i := .lreturn) rfl (fun _ => rfl)
noncomputable def D_X11_free_0 (xs : Nat → Int32) (xl d : Nat) (v1 : Int32) (M : dp_M) : Option dp_Res := dp_lim true xs xl (dp_den true xs xl d) dp_m_X11_free (0, [some (.ref 0), some (.int v1)], [], M)
theorem D_X11_free_0_den (xs : Nat → Int32) (xl d : Nat) (a0 : Int32) (M : dp_M) : dp_den true xs xl (d + 1) 328 [.ref 0, .int a0] M = D_X11_free_0 xs xl d a0 M := rfl
set_option maxRecDepth 20000 in
theorem D_X11_free_0_eq (xs : Nat → Int32) (xl d : Nat) (v1 : Int32) (M : dp_M) : D_X11_free_0 xs xl d v1 M = dp_bi (dp_den true xs xl d 321 [.int v1] M) (fun r2 M1 => if r2 = 0 then (some (.inl (some (.long (-1 : Int64))), M1)) else (dp_bl (dp_den true xs xl d 195 [.ref 90, .int v1] M1) (fun r4 M3 => some (.inl (some (.long r4)), M3)))) := by
  have hF := dp_den_grow (md := true) (xs := xs) (xl := xl) d
  unfold D_X11_free_0
  refine dp_s1 hF (i := .iload_n 1) rfl (fun _ => rfl) ?_
  refine dp_si (mj := dp_m_X11_isHolder) (i := .invokestatic 603) rfl rfl (Or.inr rfl) rfl (fun _ => rfl) (fun r2 M1 => ?_)
  refine dp_s2 hF (i := .ifCond .eq 14) (a := (18, [some (.ref 0), some (.int v1)], [], M1)) (b := (7, [some (.ref 0), some (.int v1)], [], M1)) rfl (fun _ => rfl) ?_ ?_
  · refine dp_s1 hF (i := .ldc2_w 646) rfl (fun _ => rfl) ?_
    exact dp_s0 hF (i := .lreturn) rfl (fun _ => rfl)
  refine dp_s1 hF (i := .aload_n 0) rfl (fun _ => rfl) ?_
  refine dp_s1 hF (i := .getfield 64) rfl (fun _ => rfl) ?_
  refine dp_s1 hF (i := .iload_n 1) rfl (fun _ => rfl) ?_
  refine dp_sl9 (mj := dp_m_X8_freeOf) (i := .invokevirtual 643) rfl rfl rfl rfl (fun _ => rfl) (fun r4 M3 => ?_)
  refine dp_s1 hF (i := .goto 6) rfl (fun _ => rfl) ?_
  exact dp_s0 hF (i := .lreturn) rfl (fun _ => rfl)
noncomputable def D_X11_list_0 (xs : Nat → Int32) (xl d : Nat) (v1 : Int32) (v2 : Int32) (M : dp_M) : Option dp_Res := dp_lim true xs xl (dp_den true xs xl d) dp_m_X11_list (0, [some (.ref 0), some (.int v1), some (.int v2)], [], M)
theorem D_X11_list_0_den (xs : Nat → Int32) (xl d : Nat) (a0 : Int32) (a1 : Int32) (M : dp_M) : dp_den true xs xl (d + 1) 329 [.ref 0, .int a0, .int a1] M = D_X11_list_0 xs xl d a0 a1 M := rfl
set_option maxRecDepth 20000 in
theorem D_X11_list_0_eq (xs : Nat → Int32) (xl d : Nat) (v1 : Int32) (v2 : Int32) (M : dp_M) : D_X11_list_0 xs xl d v1 v2 M = dp_bi (dp_den true xs xl d 321 [.int v1] M) (fun r2 M1 => if r2 = 0 then (some (.inl (some (.int (-1 : Int32))), M1)) else (if v1 < 0 ∨ 8 ≤ Int32.toNatClampNeg v1 then none else (dp_bi (dp_den true xs xl d 251 [.long (Int32.toInt64 v2), .long (0 : Int64), .long (Int32.toInt64 ((dp_I M1 91 (Int32.toNatClampNeg v1)) - (1 : Int32)))] M1) (fun r4 M3 => if r4 = 0 then (some (.inl (some (.int (-1 : Int32))), M3)) else (dp_bi (dp_den true xs xl d 186 [.ref 90, .int v1, .int v2] M3) (fun r6 M5 => some (.inl (some (.int r6)), M5))))))) := by
  have hF := dp_den_grow (md := true) (xs := xs) (xl := xl) d
  unfold D_X11_list_0
  refine dp_s1 hF (i := .iload_n 1) rfl (fun _ => rfl) ?_
  refine dp_si (mj := dp_m_X11_isHolder) (i := .invokestatic 603) rfl rfl (Or.inr rfl) rfl (fun _ => rfl) (fun r2 M1 => ?_)
  refine dp_s2 hF (i := .ifCond .eq 36) (a := (40, [some (.ref 0), some (.int v1), some (.int v2)], [], M1)) (b := (7, [some (.ref 0), some (.int v1), some (.int v2)], [], M1)) rfl (fun _ => rfl) ?_ ?_
  · refine dp_s1 hF (i := .iconst (-1)) rfl (fun _ => rfl) ?_
    exact dp_s0 hF (i := .ireturn) rfl (fun _ => rfl)
  refine dp_s1 hF (i := .iload_n 2) rfl (fun _ => rfl) ?_
  refine dp_s1 hF (i := .i2l) rfl (fun _ => rfl) ?_
  refine dp_s1 hF (i := .lconst 0) rfl (fun _ => rfl) ?_
  refine dp_s1 hF (i := .aload_n 0) rfl (fun _ => rfl) ?_
  refine dp_s1 hF (i := .getfield 64) rfl (fun _ => rfl) ?_
  refine dp_s1 hF (i := .getfield 648) rfl (fun _ => rfl) ?_
  refine dp_s1 hF (i := .iload_n 1) rfl (fun _ => rfl) ?_
  refine dp_s3 hF (i := .iaload) rfl (fun _ => rfl) ?_
  refine dp_s1 hF (i := .iconst 1) rfl (fun _ => rfl) ?_
  refine dp_s1 hF (i := .isub) rfl (fun _ => rfl) ?_
  refine dp_s1 hF (i := .i2l) rfl (fun _ => rfl) ?_
  refine dp_si (mj := dp_m_X11_within) (i := .invokestatic 96) rfl rfl (Or.inr rfl) rfl (fun _ => rfl) (fun r4 M3 => ?_)
  refine dp_s2 hF (i := .ifCond .eq 15) (a := (40, [some (.ref 0), some (.int v1), some (.int v2)], [], M3)) (b := (28, [some (.ref 0), some (.int v1), some (.int v2)], [], M3)) rfl (fun _ => rfl) ?_ ?_
  · refine dp_s1 hF (i := .iconst (-1)) rfl (fun _ => rfl) ?_
    exact dp_s0 hF (i := .ireturn) rfl (fun _ => rfl)
  refine dp_s1 hF (i := .aload_n 0) rfl (fun _ => rfl) ?_
  refine dp_s1 hF (i := .getfield 64) rfl (fun _ => rfl) ?_
  refine dp_s1 hF (i := .iload_n 1) rfl (fun _ => rfl) ?_
  refine dp_s1 hF (i := .iload_n 2) rfl (fun _ => rfl) ?_
  refine dp_si (mj := dp_m_X8_inTurn) (i := .invokevirtual 651) rfl rfl (Or.inl rfl) rfl (fun _ => rfl) (fun r6 M5 => ?_)
  refine dp_s1 hF (i := .goto 4) rfl (fun _ => rfl) ?_
  exact dp_s0 hF (i := .ireturn) rfl (fun _ => rfl)
noncomputable def D_X11_security_0 (xs : Nat → Int32) (xl d : Nat) (v1 : Int32) (v2 : Int32) (M : dp_M) : Option dp_Res := dp_lim true xs xl (dp_den true xs xl d) dp_m_X11_security (0, [some (.ref 0), some (.int v1), some (.int v2)], [], M)
theorem D_X11_security_0_den (xs : Nat → Int32) (xl d : Nat) (a0 : Int32) (a1 : Int32) (M : dp_M) : dp_den true xs xl (d + 1) 330 [.ref 0, .int a0, .int a1] M = D_X11_security_0 xs xl d a0 a1 M := rfl
set_option maxRecDepth 20000 in
theorem D_X11_security_0_eq (xs : Nat → Int32) (xl d : Nat) (v1 : Int32) (v2 : Int32) (M : dp_M) : D_X11_security_0 xs xl d v1 v2 M = dp_bi (dp_den true xs xl d 257 [.ref 0, .int v1] M) (fun r2 M1 => if r2 = 0 then (dp_nk M1 0 (some (.inr 2, dp_new M1 0 0 6))) else (dp_bi (dp_den true xs xl d 251 [.long (Int32.toInt64 v2), .long (0 : Int64), .long (8 : Int64)] M1) (fun r4 M3 => if r4 = 0 then (dp_nk M3 0 (some (.inr 2, dp_new M3 0 0 6))) else (dp_bl (dp_den true xs xl d 196 [.ref 90, .int v1, .int v2] M3) (fun r6 M5 => some (.inl (some (.long r6)), M5)))))) := by
  have hF := dp_den_grow (md := true) (xs := xs) (xl := xl) d
  unfold D_X11_security_0
  refine dp_s1 hF (i := .aload_n 0) rfl (fun _ => rfl) ?_
  refine dp_s1 hF (i := .iload_n 1) rfl (fun _ => rfl) ?_
  refine dp_si (mj := dp_m_X11_isGuarantee) (i := .invokevirtual 618) rfl rfl (Or.inr rfl) rfl (fun _ => rfl) (fun r2 M1 => ?_)
  refine dp_s2 hF (i := .ifCond .eq 15) (a := (20, [some (.ref 0), some (.int v1), some (.int v2)], [], M1)) (b := (8, [some (.ref 0), some (.int v1), some (.int v2)], [], M1)) rfl (fun _ => rfl) ?_ ?_
  · exact dp_s0 hF (i := .new 194) rfl (fun _ => rfl)
  refine dp_s1 hF (i := .iload_n 2) rfl (fun _ => rfl) ?_
  refine dp_s1 hF (i := .i2l) rfl (fun _ => rfl) ?_
  refine dp_s1 hF (i := .lconst 0) rfl (fun _ => rfl) ?_
  refine dp_s1 hF (i := .ldc2_w 148) rfl (fun _ => rfl) ?_
  refine dp_si (mj := dp_m_X11_within) (i := .invokestatic 96) rfl rfl (Or.inr rfl) rfl (fun _ => rfl) (fun r4 M3 => ?_)
  refine dp_s2 hF (i := .ifCond .ne 14) (a := (20, [some (.ref 0), some (.int v1), some (.int v2)], [], M3)) (b := (31, [some (.ref 0), some (.int v1), some (.int v2)], [], M3)) rfl (fun _ => rfl) ?_ ?_
  · exact dp_s0 hF (i := .new 194) rfl (fun _ => rfl)
  refine dp_s1 hF (i := .aload_n 0) rfl (fun _ => rfl) ?_
  refine dp_s1 hF (i := .getfield 64) rfl (fun _ => rfl) ?_
  refine dp_s1 hF (i := .iload_n 1) rfl (fun _ => rfl) ?_
  refine dp_s1 hF (i := .iload_n 2) rfl (fun _ => rfl) ?_
  refine dp_sl9 (mj := dp_m_X8_fact) (i := .invokevirtual 654) rfl rfl rfl rfl (fun _ => rfl) (fun r6 M5 => ?_)
  exact dp_s0 hF (i := .lreturn) rfl (fun _ => rfl)
noncomputable def D_X11_reservation_0 (xs : Nat → Int32) (xl d : Nat) (v1 : Int32) (v2 : Int32) (M : dp_M) : Option dp_Res := dp_lim true xs xl (dp_den true xs xl d) dp_m_X11_reservation (0, [some (.ref 0), some (.int v1), some (.int v2)], [], M)
theorem D_X11_reservation_0_den (xs : Nat → Int32) (xl d : Nat) (a0 : Int32) (a1 : Int32) (M : dp_M) : dp_den true xs xl (d + 1) 331 [.ref 0, .int a0, .int a1] M = D_X11_reservation_0 xs xl d a0 a1 M := rfl
set_option maxRecDepth 20000 in
theorem D_X11_reservation_0_eq (xs : Nat → Int32) (xl d : Nat) (v1 : Int32) (v2 : Int32) (M : dp_M) : D_X11_reservation_0 xs xl d v1 v2 M = dp_bi (dp_den true xs xl d 251 [.long (Int32.toInt64 v1), .long (1 : Int64), .long (Int32.toInt64 (dp_I M 90 1))] M) (fun r2 M1 => if r2 = 0 then (dp_nk M1 0 (some (.inr 2, dp_new M1 0 0 6))) else (dp_bi (dp_den true xs xl d 197 [.ref 90, .int v1, .int v2] M1) (fun r4 M3 => if r4 = 0 then (dp_nk M3 0 (some (.inr 2, dp_new M3 0 0 6))) else (dp_bl (dp_den true xs xl d 198 [.ref 90, .int v1, .int v2] M3) (fun r6 M5 => some (.inl (some (.long r6)), M5)))))) := by
  have hF := dp_den_grow (md := true) (xs := xs) (xl := xl) d
  unfold D_X11_reservation_0
  refine dp_s1 hF (i := .iload_n 1) rfl (fun _ => rfl) ?_
  refine dp_s1 hF (i := .i2l) rfl (fun _ => rfl) ?_
  refine dp_s1 hF (i := .lconst 1) rfl (fun _ => rfl) ?_
  refine dp_s1 hF (i := .aload_n 0) rfl (fun _ => rfl) ?_
  refine dp_s1 hF (i := .getfield 64) rfl (fun _ => rfl) ?_
  refine dp_s1 hF (i := .getfield 656) rfl (fun _ => rfl) ?_
  refine dp_s1 hF (i := .i2l) rfl (fun _ => rfl) ?_
  refine dp_si (mj := dp_m_X11_within) (i := .invokestatic 96) rfl rfl (Or.inr rfl) rfl (fun _ => rfl) (fun r2 M1 => ?_)
  refine dp_s2 hF (i := .ifCond .eq 15) (a := (29, [some (.ref 0), some (.int v1), some (.int v2)], [], M1)) (b := (17, [some (.ref 0), some (.int v1), some (.int v2)], [], M1)) rfl (fun _ => rfl) ?_ ?_
  · exact dp_s0 hF (i := .new 194) rfl (fun _ => rfl)
  refine dp_s1 hF (i := .aload_n 0) rfl (fun _ => rfl) ?_
  refine dp_s1 hF (i := .getfield 64) rfl (fun _ => rfl) ?_
  refine dp_s1 hF (i := .iload_n 1) rfl (fun _ => rfl) ?_
  refine dp_s1 hF (i := .iload_n 2) rfl (fun _ => rfl) ?_
  refine dp_si (mj := dp_m_X8_hasFact) (i := .invokevirtual 659) rfl rfl (Or.inr rfl) rfl (fun _ => rfl) (fun r4 M3 => ?_)
  refine dp_s2 hF (i := .ifCond .ne 14) (a := (29, [some (.ref 0), some (.int v1), some (.int v2)], [], M3)) (b := (40, [some (.ref 0), some (.int v1), some (.int v2)], [], M3)) rfl (fun _ => rfl) ?_ ?_
  · exact dp_s0 hF (i := .new 194) rfl (fun _ => rfl)
  refine dp_s1 hF (i := .aload_n 0) rfl (fun _ => rfl) ?_
  refine dp_s1 hF (i := .getfield 64) rfl (fun _ => rfl) ?_
  refine dp_s1 hF (i := .iload_n 1) rfl (fun _ => rfl) ?_
  refine dp_s1 hF (i := .iload_n 2) rfl (fun _ => rfl) ?_
  refine dp_sl9 (mj := dp_m_X8_factOfReservation) (i := .invokevirtual 664) rfl rfl rfl rfl (fun _ => rfl) (fun r6 M5 => ?_)
  exact dp_s0 hF (i := .lreturn) rfl (fun _ => rfl)
noncomputable def D_X11_batch_0 (xs : Nat → Int32) (xl d : Nat) (v1 : Int32) (v2 : Int32) (M : dp_M) : Option dp_Res := dp_lim true xs xl (dp_den true xs xl d) dp_m_X11_batch (0, [some (.ref 0), some (.int v1), some (.int v2)], [], M)
theorem D_X11_batch_0_den (xs : Nat → Int32) (xl d : Nat) (a0 : Int32) (a1 : Int32) (M : dp_M) : dp_den true xs xl (d + 1) 332 [.ref 0, .int a0, .int a1] M = D_X11_batch_0 xs xl d a0 a1 M := rfl
set_option maxRecDepth 20000 in
theorem D_X11_batch_0_eq (xs : Nat → Int32) (xl d : Nat) (v1 : Int32) (v2 : Int32) (M : dp_M) : D_X11_batch_0 xs xl d v1 v2 M = dp_bi (dp_den true xs xl d 263 [.int v1] M) (fun r2 M1 => if r2 = 0 then (dp_nk M1 0 (some (.inr 0, dp_new M1 0 0 6))) else (dp_bi (dp_den true xs xl d 263 [.int v2] M1) (fun r4 M3 => if r4 = 0 then (dp_nk M3 0 (some (.inr 0, dp_new M3 0 0 6))) else (if (dp_I M3 97 0) < (800 : Int32) then (dp_bi (dp_den true xs xl d 82 [.ref 97, .int v1, .int v2] M3) (fun r6 M5 => some (.inl (some (.int r6)), M5))) else (dp_nk M3 0 (some (.inr 1, dp_new M3 0 0 6))))))) := by
  have hF := dp_den_grow (md := true) (xs := xs) (xl := xl) d
  unfold D_X11_batch_0
  refine dp_s1 hF (i := .iload_n 1) rfl (fun _ => rfl) ?_
  refine dp_si (mj := dp_m_X11_isBookDay) (i := .invokestatic 667) rfl rfl (Or.inr rfl) rfl (fun _ => rfl) (fun r2 M1 => ?_)
  refine dp_s2 hF (i := .ifCond .eq 10) (a := (14, [some (.ref 0), some (.int v1), some (.int v2)], [], M1)) (b := (7, [some (.ref 0), some (.int v1), some (.int v2)], [], M1)) rfl (fun _ => rfl) ?_ ?_
  · exact dp_s0 hF (i := .new 141) rfl (fun _ => rfl)
  refine dp_s1 hF (i := .iload_n 2) rfl (fun _ => rfl) ?_
  refine dp_si (mj := dp_m_X11_isBookDay) (i := .invokestatic 667) rfl rfl (Or.inr rfl) rfl (fun _ => rfl) (fun r4 M3 => ?_)
  refine dp_s2 hF (i := .ifCond .ne 14) (a := (14, [some (.ref 0), some (.int v1), some (.int v2)], [], M3)) (b := (25, [some (.ref 0), some (.int v1), some (.int v2)], [], M3)) rfl (fun _ => rfl) ?_ ?_
  · exact dp_s0 hF (i := .new 141) rfl (fun _ => rfl)
  refine dp_s1 hF (i := .aload_n 0) rfl (fun _ => rfl) ?_
  refine dp_s1 hF (i := .getfield 71) rfl (fun _ => rfl) ?_
  refine dp_s1 hF (i := .getfield 113) rfl (fun _ => rfl) ?_
  refine dp_s1 hF (i := .sipush 800) rfl (fun _ => rfl) ?_
  refine dp_s2 hF (i := .if_icmp .lt 14) (a := (49, [some (.ref 0), some (.int v1), some (.int v2)], [], M3)) (b := (38, [some (.ref 0), some (.int v1), some (.int v2)], [], M3)) rfl (fun _ => rfl) ?_ ?_
  · refine dp_s1 hF (i := .aload_n 0) rfl (fun _ => rfl) ?_
    refine dp_s1 hF (i := .getfield 71) rfl (fun _ => rfl) ?_
    refine dp_s1 hF (i := .iload_n 1) rfl (fun _ => rfl) ?_
    refine dp_s1 hF (i := .iload_n 2) rfl (fun _ => rfl) ?_
    refine dp_si (mj := dp_m_X3_begin) (i := .invokevirtual 672) rfl rfl (Or.inl rfl) rfl (fun _ => rfl) (fun r6 M5 => ?_)
    exact dp_s0 hF (i := .ireturn) rfl (fun _ => rfl)
  exact dp_s0 hF (i := .new 167) rfl (fun _ => rfl)
noncomputable def D_X11_isOpenBatch_0 (xs : Nat → Int32) (xl d : Nat) (v1 : Int32) (M : dp_M) : Option dp_Res := dp_lim true xs xl (dp_den true xs xl d) dp_m_X11_isOpenBatch (0, [some (.ref 0), some (.int v1)], [], M)
theorem D_X11_isOpenBatch_0_den (xs : Nat → Int32) (xl d : Nat) (a0 : Int32) (M : dp_M) : dp_den true xs xl (d + 1) 333 [.ref 0, .int a0] M = D_X11_isOpenBatch_0 xs xl d a0 M := rfl
set_option maxRecDepth 20000 in
theorem D_X11_isOpenBatch_0_eq (xs : Nat → Int32) (xl d : Nat) (v1 : Int32) (M : dp_M) : D_X11_isOpenBatch_0 xs xl d v1 M = dp_bi (dp_den true xs xl d 258 [.ref 0, .int v1] M) (fun r2 M1 => if r2 = 0 then (some (.inl (some (.int (0 : Int32))), M1)) else (dp_bi (dp_den true xs xl d 80 [.ref 97, .int v1] M1) (fun r4 M3 => if r4 = 0 then (some (.inl (some (.int (1 : Int32))), M3)) else (some (.inl (some (.int (0 : Int32))), M3))))) := by
  have hF := dp_den_grow (md := true) (xs := xs) (xl := xl) d
  unfold D_X11_isOpenBatch_0
  refine dp_s1 hF (i := .aload_n 0) rfl (fun _ => rfl) ?_
  refine dp_s1 hF (i := .iload_n 1) rfl (fun _ => rfl) ?_
  refine dp_si (mj := dp_m_X11_isBatch) (i := .invokevirtual 675) rfl rfl (Or.inr rfl) rfl (fun _ => rfl) (fun r2 M1 => ?_)
  refine dp_s2 hF (i := .ifCond .eq 18) (a := (23, [some (.ref 0), some (.int v1)], [], M1)) (b := (8, [some (.ref 0), some (.int v1)], [], M1)) rfl (fun _ => rfl) ?_ ?_
  · refine dp_s1 hF (i := .iconst 0) rfl (fun _ => rfl) ?_
    exact dp_s0 hF (i := .ireturn) rfl (fun _ => rfl)
  refine dp_s1 hF (i := .aload_n 0) rfl (fun _ => rfl) ?_
  refine dp_s1 hF (i := .getfield 71) rfl (fun _ => rfl) ?_
  refine dp_s1 hF (i := .iload_n 1) rfl (fun _ => rfl) ?_
  refine dp_si (mj := dp_m_X3_stateOf) (i := .invokevirtual 678) rfl rfl (Or.inl rfl) rfl (fun _ => rfl) (fun r4 M3 => ?_)
  refine dp_s2 hF (i := .ifCond .ne 7) (a := (19, [some (.ref 0), some (.int v1)], [], M3)) (b := (23, [some (.ref 0), some (.int v1)], [], M3)) rfl (fun _ => rfl) ?_ ?_
  · refine dp_s1 hF (i := .iconst 1) rfl (fun _ => rfl) ?_
    refine dp_s1 hF (i := .goto 4) rfl (fun _ => rfl) ?_
    exact dp_s0 hF (i := .ireturn) rfl (fun _ => rfl)
  refine dp_s1 hF (i := .iconst 0) rfl (fun _ => rfl) ?_
  exact dp_s0 hF (i := .ireturn) rfl (fun _ => rfl)
noncomputable def D_X11_isAccount_0 (xs : Nat → Int32) (xl d : Nat) (v0 : Int32) (M : dp_M) : Option dp_Res := dp_lim true xs xl (dp_den true xs xl d) dp_m_X11_isAccount (0, [some (.int v0)], [], M)
theorem D_X11_isAccount_0_den (xs : Nat → Int32) (xl d : Nat) (a0 : Int32) (M : dp_M) : dp_den true xs xl (d + 1) 334 [.int a0] M = D_X11_isAccount_0 xs xl d a0 M := rfl
set_option maxRecDepth 20000 in
theorem D_X11_isAccount_0_eq (xs : Nat → Int32) (xl d : Nat) (v0 : Int32) (M : dp_M) : D_X11_isAccount_0 xs xl d v0 M = dp_bi (dp_den true xs xl d 251 [.long (Int32.toInt64 v0), .long (0 : Int64), .long (11 : Int64)] M) (fun r2 M1 => if r2 = 0 ∨ r2 = 1 then some (.inl (some (.int r2)), M1) else none) := by
  have hF := dp_den_grow (md := true) (xs := xs) (xl := xl) d
  unfold D_X11_isAccount_0
  refine dp_s1 hF (i := .iload_n 0) rfl (fun _ => rfl) ?_
  refine dp_s1 hF (i := .i2l) rfl (fun _ => rfl) ?_
  refine dp_s1 hF (i := .lconst 0) rfl (fun _ => rfl) ?_
  refine dp_s1 hF (i := .ldc2_w 679) rfl (fun _ => rfl) ?_
  refine dp_si (mj := dp_m_X11_within) (i := .invokestatic 96) rfl rfl (Or.inr rfl) rfl (fun _ => rfl) (fun r2 M1 => ?_)
  exact dp_s0 hF (i := .ireturn) rfl (fun _ => rfl)
noncomputable def D_X11_entry_0 (xs : Nat → Int32) (xl d : Nat) (v1 : Int32) (v2 : Int32) (v3 : Int64) (M : dp_M) : Option dp_Res := dp_lim true xs xl (dp_den true xs xl d) dp_m_X11_entry (0, [some (.ref 0), some (.int v1), some (.int v2), some (.long v3), none], [], M)
theorem D_X11_entry_0_den (xs : Nat → Int32) (xl d : Nat) (a0 : Int32) (a1 : Int32) (a2 : Int64) (M : dp_M) : dp_den true xs xl (d + 1) 335 [.ref 0, .int a0, .int a1, .long a2] M = D_X11_entry_0 xs xl d a0 a1 a2 M := rfl
set_option maxRecDepth 20000 in
theorem D_X11_entry_0_eq (xs : Nat → Int32) (xl d : Nat) (v1 : Int32) (v2 : Int32) (v3 : Int64) (M : dp_M) : D_X11_entry_0 xs xl d v1 v2 v3 M = dp_bi (dp_den true xs xl d 333 [.ref 0, .int v1] M) (fun r2 M1 => if r2 = 0 then (some (.inl (some (.int (0 : Int32))), M1)) else (dp_bi (dp_den true xs xl d 334 [.int v2] M1) (fun r4 M3 => if r4 = 0 then (some (.inl (some (.int (0 : Int32))), M3)) else (dp_bi (dp_den true xs xl d 251 [.long v3, .long (-1000000000 : Int64), .long (1000000000 : Int64)] M3) (fun r6 M5 => if r6 = 0 then (some (.inl (some (.int (0 : Int32))), M5)) else (if (lg_cmp v3 (0 : Int64)) = 0 then (some (.inl (some (.int (0 : Int32))), M5)) else (dp_bi (dp_den true xs xl d 83 [.ref 97, .int v1, .int v2, .long v3] M5) (fun r8 M7 => if r8 = 0 then (some (.inl (some (.int (0 : Int32))), M7)) else (some (.inl (some (.int (1 : Int32))), M7)))))))))) := by
  have hF := dp_den_grow (md := true) (xs := xs) (xl := xl) d
  unfold D_X11_entry_0
  refine dp_s1 hF (i := .aload_n 0) rfl (fun _ => rfl) ?_
  refine dp_s1 hF (i := .iload_n 1) rfl (fun _ => rfl) ?_
  refine dp_si (mj := dp_m_X11_isOpenBatch) (i := .invokevirtual 681) rfl rfl (Or.inr rfl) rfl (fun _ => rfl) (fun r2 M1 => ?_)
  refine dp_s2 hF (i := .ifCond .eq 46) (a := (51, [some (.ref 0), some (.int v1), some (.int v2), some (.long v3), none], [], M1)) (b := (8, [some (.ref 0), some (.int v1), some (.int v2), some (.long v3), none], [], M1)) rfl (fun _ => rfl) ?_ ?_
  · refine dp_s1 hF (i := .iconst 0) rfl (fun _ => rfl) ?_
    exact dp_s0 hF (i := .ireturn) rfl (fun _ => rfl)
  refine dp_s1 hF (i := .iload_n 2) rfl (fun _ => rfl) ?_
  refine dp_si (mj := dp_m_X11_isAccount) (i := .invokestatic 684) rfl rfl (Or.inr rfl) rfl (fun _ => rfl) (fun r4 M3 => ?_)
  refine dp_s2 hF (i := .ifCond .eq 39) (a := (51, [some (.ref 0), some (.int v1), some (.int v2), some (.long v3), none], [], M3)) (b := (15, [some (.ref 0), some (.int v1), some (.int v2), some (.long v3), none], [], M3)) rfl (fun _ => rfl) ?_ ?_
  · refine dp_s1 hF (i := .iconst 0) rfl (fun _ => rfl) ?_
    exact dp_s0 hF (i := .ireturn) rfl (fun _ => rfl)
  refine dp_s1 hF (i := .lload_n 3) rfl (fun _ => rfl) ?_
  refine dp_s1 hF (i := .ldc2_w 687) rfl (fun _ => rfl) ?_
  refine dp_s1 hF (i := .ldc2_w 547) rfl (fun _ => rfl) ?_
  refine dp_si (mj := dp_m_X11_within) (i := .invokestatic 96) rfl rfl (Or.inr rfl) rfl (fun _ => rfl) (fun r6 M5 => ?_)
  refine dp_s2 hF (i := .ifCond .eq 26) (a := (51, [some (.ref 0), some (.int v1), some (.int v2), some (.long v3), none], [], M5)) (b := (28, [some (.ref 0), some (.int v1), some (.int v2), some (.long v3), none], [], M5)) rfl (fun _ => rfl) ?_ ?_
  · refine dp_s1 hF (i := .iconst 0) rfl (fun _ => rfl) ?_
    exact dp_s0 hF (i := .ireturn) rfl (fun _ => rfl)
  refine dp_s1 hF (i := .lload_n 3) rfl (fun _ => rfl) ?_
  refine dp_s1 hF (i := .lconst 0) rfl (fun _ => rfl) ?_
  refine dp_s1 hF (i := .lcmp) rfl (fun _ => rfl) ?_
  refine dp_s2 hF (i := .ifCond .eq 20) (a := (51, [some (.ref 0), some (.int v1), some (.int v2), some (.long v3), none], [], M5)) (b := (34, [some (.ref 0), some (.int v1), some (.int v2), some (.long v3), none], [], M5)) rfl (fun _ => rfl) ?_ ?_
  · refine dp_s1 hF (i := .iconst 0) rfl (fun _ => rfl) ?_
    exact dp_s0 hF (i := .ireturn) rfl (fun _ => rfl)
  refine dp_s1 hF (i := .aload_n 0) rfl (fun _ => rfl) ?_
  refine dp_s1 hF (i := .getfield 71) rfl (fun _ => rfl) ?_
  refine dp_s1 hF (i := .iload_n 1) rfl (fun _ => rfl) ?_
  refine dp_s1 hF (i := .iload_n 2) rfl (fun _ => rfl) ?_
  refine dp_s1 hF (i := .lload_n 3) rfl (fun _ => rfl) ?_
  refine dp_si (mj := dp_m_X3_addEntry) (i := .invokevirtual 689) rfl rfl (Or.inr rfl) rfl (fun _ => rfl) (fun r8 M7 => ?_)
  refine dp_s2 hF (i := .ifCond .eq 7) (a := (51, [some (.ref 0), some (.int v1), some (.int v2), some (.long v3), none], [], M7)) (b := (47, [some (.ref 0), some (.int v1), some (.int v2), some (.long v3), none], [], M7)) rfl (fun _ => rfl) ?_ ?_
  · refine dp_s1 hF (i := .iconst 0) rfl (fun _ => rfl) ?_
    exact dp_s0 hF (i := .ireturn) rfl (fun _ => rfl)
  refine dp_s1 hF (i := .iconst 1) rfl (fun _ => rfl) ?_
  refine dp_s1 hF (i := .goto 4) rfl (fun _ => rfl) ?_
  exact dp_s0 hF (i := .ireturn) rfl (fun _ => rfl)
noncomputable def D_X11_failing_0 (xs : Nat → Int32) (xl d : Nat) (v1 : Int32) (v2 : Int32) (M : dp_M) : Option dp_Res := dp_lim true xs xl (dp_den true xs xl d) dp_m_X11_failing (0, [some (.ref 0), some (.int v1), some (.int v2)], [], M)
theorem D_X11_failing_0_den (xs : Nat → Int32) (xl d : Nat) (a0 : Int32) (a1 : Int32) (M : dp_M) : dp_den true xs xl (d + 1) 336 [.ref 0, .int a0, .int a1] M = D_X11_failing_0 xs xl d a0 a1 M := rfl
set_option maxRecDepth 20000 in
theorem D_X11_failing_0_eq (xs : Nat → Int32) (xl d : Nat) (v1 : Int32) (v2 : Int32) (M : dp_M) : D_X11_failing_0 xs xl d v1 v2 M = dp_bi (dp_den true xs xl d 333 [.ref 0, .int v1] M) (fun r2 M1 => if r2 = 0 then (some (.inl (some (.int (0 : Int32))), M1)) else (dp_bv (dp_den true xs xl d 84 [.ref 97, .int v1, .int v2] M1) (fun M3 => some (.inl (some (.int (1 : Int32))), M3)))) := by
  have hF := dp_den_grow (md := true) (xs := xs) (xl := xl) d
  unfold D_X11_failing_0
  refine dp_s1 hF (i := .aload_n 0) rfl (fun _ => rfl) ?_
  refine dp_s1 hF (i := .iload_n 1) rfl (fun _ => rfl) ?_
  refine dp_si (mj := dp_m_X11_isOpenBatch) (i := .invokevirtual 681) rfl rfl (Or.inr rfl) rfl (fun _ => rfl) (fun r2 M1 => ?_)
  refine dp_s2 hF (i := .ifCond .ne 5) (a := (8, [some (.ref 0), some (.int v1), some (.int v2)], [], M1)) (b := (10, [some (.ref 0), some (.int v1), some (.int v2)], [], M1)) rfl (fun _ => rfl) ?_ ?_
  · refine dp_s1 hF (i := .iconst 0) rfl (fun _ => rfl) ?_
    exact dp_s0 hF (i := .ireturn) rfl (fun _ => rfl)
  refine dp_s1 hF (i := .aload_n 0) rfl (fun _ => rfl) ?_
  refine dp_s1 hF (i := .getfield 71) rfl (fun _ => rfl) ?_
  refine dp_s1 hF (i := .iload_n 1) rfl (fun _ => rfl) ?_
  refine dp_s1 hF (i := .iload_n 2) rfl (fun _ => rfl) ?_
  refine dp_sv (mj := dp_m_X3_setFailing) (i := .invokevirtual 692) rfl rfl rfl rfl (fun _ => rfl) (fun M3 => ?_)
  refine dp_s1 hF (i := .iconst 1) rfl (fun _ => rfl) ?_
  exact dp_s0 hF (i := .ireturn) rfl (fun _ => rfl)
noncomputable def D_X11_post_0 (xs : Nat → Int32) (xl d : Nat) (v1 : Int32) (M : dp_M) : Option dp_Res := dp_lim true xs xl (dp_den true xs xl d) dp_m_X11_post (0, [some (.ref 0), some (.int v1)], [], M)
theorem D_X11_post_0_den (xs : Nat → Int32) (xl d : Nat) (a0 : Int32) (M : dp_M) : dp_den true xs xl (d + 1) 337 [.ref 0, .int a0] M = D_X11_post_0 xs xl d a0 M := rfl
set_option maxRecDepth 20000 in
theorem D_X11_post_0_eq (xs : Nat → Int32) (xl d : Nat) (v1 : Int32) (M : dp_M) : D_X11_post_0 xs xl d v1 M = dp_bi (dp_den true xs xl d 333 [.ref 0, .int v1] M) (fun r2 M1 => if r2 = 0 then (dp_nk M1 0 (some (.inr 0, dp_new M1 0 0 6))) else (dp_bi (dp_den true xs xl d 90 [.ref 97, .int v1] M1) (fun r4 M3 => if r4 = 0 then (dp_bi (dp_den true xs xl d 92 [.ref 97, .int v1] M3) (fun r6 M5 => if r6 = 0 then (dp_bv (dp_den true xs xl d 93 [.ref 97, .int v1] M5) (fun M7 => some (.inl (some (.int (1 : Int32))), M7))) else (dp_nk M5 0 (some (.inr 3, dp_new M5 0 0 6))))) else (dp_nk M3 0 (some (.inr 1, dp_new M3 0 0 6)))))) := by
  have hF := dp_den_grow (md := true) (xs := xs) (xl := xl) d
  unfold D_X11_post_0
  refine dp_s1 hF (i := .aload_n 0) rfl (fun _ => rfl) ?_
  refine dp_s1 hF (i := .iload_n 1) rfl (fun _ => rfl) ?_
  refine dp_si (mj := dp_m_X11_isOpenBatch) (i := .invokevirtual 681) rfl rfl (Or.inr rfl) rfl (fun _ => rfl) (fun r2 M1 => ?_)
  refine dp_s2 hF (i := .ifCond .ne 14) (a := (8, [some (.ref 0), some (.int v1)], [], M1)) (b := (19, [some (.ref 0), some (.int v1)], [], M1)) rfl (fun _ => rfl) ?_ ?_
  · exact dp_s0 hF (i := .new 141) rfl (fun _ => rfl)
  refine dp_s1 hF (i := .aload_n 0) rfl (fun _ => rfl) ?_
  refine dp_s1 hF (i := .getfield 71) rfl (fun _ => rfl) ?_
  refine dp_s1 hF (i := .iload_n 1) rfl (fun _ => rfl) ?_
  refine dp_si (mj := dp_m_X3_voidIfWrong) (i := .invokevirtual 698) rfl rfl (Or.inr rfl) rfl (fun _ => rfl) (fun r4 M3 => ?_)
  refine dp_s2 hF (i := .ifCond .eq 14) (a := (41, [some (.ref 0), some (.int v1)], [], M3)) (b := (30, [some (.ref 0), some (.int v1)], [], M3)) rfl (fun _ => rfl) ?_ ?_
  · refine dp_s1 hF (i := .aload_n 0) rfl (fun _ => rfl) ?_
    refine dp_s1 hF (i := .getfield 71) rfl (fun _ => rfl) ?_
    refine dp_s1 hF (i := .iload_n 1) rfl (fun _ => rfl) ?_
    refine dp_si (mj := dp_m_X3_failIfTold) (i := .invokevirtual 703) rfl rfl (Or.inr rfl) rfl (fun _ => rfl) (fun r6 M5 => ?_)
    refine dp_s2 hF (i := .ifCond .eq 14) (a := (63, [some (.ref 0), some (.int v1)], [], M5)) (b := (52, [some (.ref 0), some (.int v1)], [], M5)) rfl (fun _ => rfl) ?_ ?_
    · refine dp_s1 hF (i := .aload_n 0) rfl (fun _ => rfl) ?_
      refine dp_s1 hF (i := .getfield 71) rfl (fun _ => rfl) ?_
      refine dp_s1 hF (i := .iload_n 1) rfl (fun _ => rfl) ?_
      refine dp_sv (mj := dp_m_X3_enter) (i := .invokevirtual 708) rfl rfl rfl rfl (fun _ => rfl) (fun M7 => ?_)
      refine dp_s1 hF (i := .iconst 1) rfl (fun _ => rfl) ?_
      exact dp_s0 hF (i := .ireturn) rfl (fun _ => rfl)
    exact dp_s0 hF (i := .new 538) rfl (fun _ => rfl)
  exact dp_s0 hF (i := .new 167) rfl (fun _ => rfl)
noncomputable def D_X11_reverse_0 (xs : Nat → Int32) (xl d : Nat) (v1 : Int32) (v2 : Int32) (M : dp_M) : Option dp_Res := dp_lim true xs xl (dp_den true xs xl d) dp_m_X11_reverse (0, [some (.ref 0), some (.int v1), some (.int v2)], [], M)
theorem D_X11_reverse_0_den (xs : Nat → Int32) (xl d : Nat) (a0 : Int32) (a1 : Int32) (M : dp_M) : dp_den true xs xl (d + 1) 338 [.ref 0, .int a0, .int a1] M = D_X11_reverse_0 xs xl d a0 a1 M := rfl
set_option maxRecDepth 20000 in
theorem D_X11_reverse_0_eq (xs : Nat → Int32) (xl d : Nat) (v1 : Int32) (v2 : Int32) (M : dp_M) : D_X11_reverse_0 xs xl d v1 v2 M = dp_bi (dp_den true xs xl d 258 [.ref 0, .int v1] M) (fun r2 M1 => if r2 = 0 then (dp_nk M1 0 (some (.inr 0, dp_new M1 0 0 6))) else (dp_bi (dp_den true xs xl d 80 [.ref 97, .int v1] M1) (fun r4 M3 => if r4 = (1 : Int32) then (dp_bi (dp_den true xs xl d 263 [.int v2] M3) (fun r6 M5 => if r6 = 0 then (dp_nk M5 0 (some (.inr 0, dp_new M5 0 0 6))) else (dp_bi (dp_den true xs xl d 94 [.ref 97, .int v1] M5) (fun r8 M7 => if r8 = 0 then (dp_nk M7 0 (some (.inr 1, dp_new M7 0 0 6))) else (dp_bi (dp_den true xs xl d 81 [.ref 97, .int v1] M7) (fun r10 M9 => dp_bi (dp_den true xs xl d 87 [.ref 97, .int r10, .int v2] M9) (fun r12 M11 => if r12 = 0 then (dp_nk M11 0 (some (.inr 1, dp_new M11 0 0 6))) else (dp_bi (dp_den true xs xl d 95 [.ref 97, .int v1, .int v2] M11) (fun r14 M13 => some (.inl (some (.int r14)), M13)))))))))) else (dp_nk M3 0 (some (.inr 0, dp_new M3 0 0 6)))))) := by
  have hF := dp_den_grow (md := true) (xs := xs) (xl := xl) d
  unfold D_X11_reverse_0
  refine dp_s1 hF (i := .aload_n 0) rfl (fun _ => rfl) ?_
  refine dp_s1 hF (i := .iload_n 1) rfl (fun _ => rfl) ?_
  refine dp_si (mj := dp_m_X11_isBatch) (i := .invokevirtual 675) rfl rfl (Or.inr rfl) rfl (fun _ => rfl) (fun r2 M1 => ?_)
  refine dp_s2 hF (i := .ifCond .eq 22) (a := (27, [some (.ref 0), some (.int v1), some (.int v2)], [], M1)) (b := (8, [some (.ref 0), some (.int v1), some (.int v2)], [], M1)) rfl (fun _ => rfl) ?_ ?_
  · exact dp_s0 hF (i := .new 141) rfl (fun _ => rfl)
  refine dp_s1 hF (i := .aload_n 0) rfl (fun _ => rfl) ?_
  refine dp_s1 hF (i := .getfield 71) rfl (fun _ => rfl) ?_
  refine dp_s1 hF (i := .iload_n 1) rfl (fun _ => rfl) ?_
  refine dp_si (mj := dp_m_X3_stateOf) (i := .invokevirtual 678) rfl rfl (Or.inl rfl) rfl (fun _ => rfl) (fun r4 M3 => ?_)
  refine dp_s1 hF (i := .iconst 1) rfl (fun _ => rfl) ?_
  refine dp_s2 hF (i := .if_icmp .ne 10) (a := (20, [some (.ref 0), some (.int v1), some (.int v2)], [], M3)) (b := (27, [some (.ref 0), some (.int v1), some (.int v2)], [], M3)) rfl (fun _ => rfl) ?_ ?_
  · refine dp_s1 hF (i := .iload_n 2) rfl (fun _ => rfl) ?_
    refine dp_si (mj := dp_m_X11_isBookDay) (i := .invokestatic 667) rfl rfl (Or.inr rfl) rfl (fun _ => rfl) (fun r6 M5 => ?_)
    refine dp_s2 hF (i := .ifCond .ne 14) (a := (27, [some (.ref 0), some (.int v1), some (.int v2)], [], M5)) (b := (38, [some (.ref 0), some (.int v1), some (.int v2)], [], M5)) rfl (fun _ => rfl) ?_ ?_
    · exact dp_s0 hF (i := .new 141) rfl (fun _ => rfl)
    refine dp_s1 hF (i := .aload_n 0) rfl (fun _ => rfl) ?_
    refine dp_s1 hF (i := .getfield 71) rfl (fun _ => rfl) ?_
    refine dp_s1 hF (i := .iload_n 1) rfl (fun _ => rfl) ?_
    refine dp_si (mj := dp_m_X3_mayBeReversed) (i := .invokevirtual 713) rfl rfl (Or.inr rfl) rfl (fun _ => rfl) (fun r8 M7 => ?_)
    refine dp_s2 hF (i := .ifCond .eq 22) (a := (68, [some (.ref 0), some (.int v1), some (.int v2)], [], M7)) (b := (49, [some (.ref 0), some (.int v1), some (.int v2)], [], M7)) rfl (fun _ => rfl) ?_ ?_
    · exact dp_s0 hF (i := .new 167) rfl (fun _ => rfl)
    refine dp_s1 hF (i := .aload_n 0) rfl (fun _ => rfl) ?_
    refine dp_s1 hF (i := .getfield 71) rfl (fun _ => rfl) ?_
    refine dp_s1 hF (i := .aload_n 0) rfl (fun _ => rfl) ?_
    refine dp_s1 hF (i := .getfield 71) rfl (fun _ => rfl) ?_
    refine dp_s1 hF (i := .iload_n 1) rfl (fun _ => rfl) ?_
    refine dp_si (mj := dp_m_X3_entriesOf) (i := .invokevirtual 716) rfl rfl (Or.inl rfl) rfl (fun _ => rfl) (fun r10 M9 => ?_)
    refine dp_s1 hF (i := .iload_n 2) rfl (fun _ => rfl) ?_
    refine dp_si (mj := dp_m_X3_wouldTake) (i := .invokevirtual 719) rfl rfl (Or.inr rfl) rfl (fun _ => rfl) (fun r12 M11 => ?_)
    refine dp_s2 hF (i := .ifCond .ne 14) (a := (68, [some (.ref 0), some (.int v1), some (.int v2)], [], M11)) (b := (79, [some (.ref 0), some (.int v1), some (.int v2)], [], M11)) rfl (fun _ => rfl) ?_ ?_
    · exact dp_s0 hF (i := .new 167) rfl (fun _ => rfl)
    refine dp_s1 hF (i := .aload_n 0) rfl (fun _ => rfl) ?_
    refine dp_s1 hF (i := .getfield 71) rfl (fun _ => rfl) ?_
    refine dp_s1 hF (i := .iload_n 1) rfl (fun _ => rfl) ?_
    refine dp_s1 hF (i := .iload_n 2) rfl (fun _ => rfl) ?_
    refine dp_si (mj := dp_m_X3_turn) (i := .invokevirtual 724) rfl rfl (Or.inl rfl) rfl (fun _ => rfl) (fun r14 M13 => ?_)
    exact dp_s0 hF (i := .ireturn) rfl (fun _ => rfl)
  exact dp_s0 hF (i := .new 141) rfl (fun _ => rfl)
noncomputable def D_X11_close_0 (xs : Nat → Int32) (xl d : Nat) (v1 : Int32) (M : dp_M) : Option dp_Res := dp_lim true xs xl (dp_den true xs xl d) dp_m_X11_close (0, [some (.ref 0), some (.int v1)], [], M)
theorem D_X11_close_0_den (xs : Nat → Int32) (xl d : Nat) (a0 : Int32) (M : dp_M) : dp_den true xs xl (d + 1) 339 [.ref 0, .int a0] M = D_X11_close_0 xs xl d a0 M := rfl
set_option maxRecDepth 20000 in
theorem D_X11_close_0_eq (xs : Nat → Int32) (xl d : Nat) (v1 : Int32) (M : dp_M) : D_X11_close_0 xs xl d v1 M = dp_bi (dp_den true xs xl d 263 [.int v1] M) (fun r2 M1 => if r2 = 0 then (some (.inl (some (.int (0 : Int32))), M1)) else (if (dp_I M1 97 2) < v1 then (dp_w (dp_setI M1 97 2 v1) (fun M3 => some (.inl (some (.int (1 : Int32))), M3))) else (some (.inl (some (.int (0 : Int32))), M1)))) := by
  have hF := dp_den_grow (md := true) (xs := xs) (xl := xl) d
  unfold D_X11_close_0
  refine dp_s1 hF (i := .iload_n 1) rfl (fun _ => rfl) ?_
  refine dp_si (mj := dp_m_X11_isBookDay) (i := .invokestatic 667) rfl rfl (Or.inr rfl) rfl (fun _ => rfl) (fun r2 M1 => ?_)
  refine dp_s2 hF (i := .ifCond .eq 14) (a := (18, [some (.ref 0), some (.int v1)], [], M1)) (b := (7, [some (.ref 0), some (.int v1)], [], M1)) rfl (fun _ => rfl) ?_ ?_
  · refine dp_s1 hF (i := .iconst 0) rfl (fun _ => rfl) ?_
    exact dp_s0 hF (i := .ireturn) rfl (fun _ => rfl)
  refine dp_s1 hF (i := .iload_n 1) rfl (fun _ => rfl) ?_
  refine dp_s1 hF (i := .aload_n 0) rfl (fun _ => rfl) ?_
  refine dp_s1 hF (i := .getfield 71) rfl (fun _ => rfl) ?_
  refine dp_s1 hF (i := .getfield 727) rfl (fun _ => rfl) ?_
  refine dp_s2 hF (i := .if_icmp .gt 5) (a := (20, [some (.ref 0), some (.int v1)], [], M1)) (b := (18, [some (.ref 0), some (.int v1)], [], M1)) rfl (fun _ => rfl) ?_ ?_
  · refine dp_s1 hF (i := .aload_n 0) rfl (fun _ => rfl) ?_
    refine dp_s1 hF (i := .getfield 71) rfl (fun _ => rfl) ?_
    refine dp_s1 hF (i := .iload_n 1) rfl (fun _ => rfl) ?_
    refine dp_s1w (dp_setI M1 97 2 v1) (fun (M3 : dp_M) => (28, [some (.ref 0), some (.int v1)], [], M3)) hF (i := .putfield 727) rfl (fun _ => rfl) (fun M3 => ?_)
    refine dp_s1 hF (i := .iconst 1) rfl (fun _ => rfl) ?_
    exact dp_s0 hF (i := .ireturn) rfl (fun _ => rfl)
  refine dp_s1 hF (i := .iconst 0) rfl (fun _ => rfl) ?_
  exact dp_s0 hF (i := .ireturn) rfl (fun _ => rfl)
noncomputable def D_X11_account_0 (xs : Nat → Int32) (xl d : Nat) (v1 : Int32) (v2 : Int32) (v3 : Int32) (M : dp_M) : Option dp_Res := dp_lim true xs xl (dp_den true xs xl d) dp_m_X11_account (0, [some (.ref 0), some (.int v1), some (.int v2), some (.int v3)], [], M)
theorem D_X11_account_0_den (xs : Nat → Int32) (xl d : Nat) (a0 : Int32) (a1 : Int32) (a2 : Int32) (M : dp_M) : dp_den true xs xl (d + 1) 340 [.ref 0, .int a0, .int a1, .int a2] M = D_X11_account_0 xs xl d a0 a1 a2 M := rfl
set_option maxRecDepth 20000 in
theorem D_X11_account_0_eq (xs : Nat → Int32) (xl d : Nat) (v1 : Int32) (v2 : Int32) (v3 : Int32) (M : dp_M) : D_X11_account_0 xs xl d v1 v2 v3 M = dp_bi (dp_den true xs xl d 334 [.int v1] M) (fun r2 M1 => if r2 = 0 then (dp_nk M1 0 (some (.inr 0, dp_new M1 0 0 6))) else (dp_bi (dp_den true xs xl d 263 [.int v2] M1) (fun r4 M3 => if r4 = 0 then (dp_nk M3 0 (some (.inr 0, dp_new M3 0 0 6))) else (dp_bi (dp_den true xs xl d 263 [.int v3] M3) (fun r6 M5 => if r6 = 0 then (dp_nk M5 0 (some (.inr 0, dp_new M5 0 0 6))) else (dp_bl (dp_den true xs xl d 97 [.ref 97, .int v1, .int (0 : Int32), .int v2, .int v3] M5) (fun r8 M7 => some (.inl (some (.long r8)), M7)))))))) := by
  have hF := dp_den_grow (md := true) (xs := xs) (xl := xl) d
  unfold D_X11_account_0
  refine dp_s1 hF (i := .iload_n 1) rfl (fun _ => rfl) ?_
  refine dp_si (mj := dp_m_X11_isAccount) (i := .invokestatic 684) rfl rfl (Or.inr rfl) rfl (fun _ => rfl) (fun r2 M1 => ?_)
  refine dp_s2 hF (i := .ifCond .eq 17) (a := (21, [some (.ref 0), some (.int v1), some (.int v2), some (.int v3)], [], M1)) (b := (7, [some (.ref 0), some (.int v1), some (.int v2), some (.int v3)], [], M1)) rfl (fun _ => rfl) ?_ ?_
  · exact dp_s0 hF (i := .new 141) rfl (fun _ => rfl)
  refine dp_s1 hF (i := .iload_n 2) rfl (fun _ => rfl) ?_
  refine dp_si (mj := dp_m_X11_isBookDay) (i := .invokestatic 667) rfl rfl (Or.inr rfl) rfl (fun _ => rfl) (fun r4 M3 => ?_)
  refine dp_s2 hF (i := .ifCond .eq 10) (a := (21, [some (.ref 0), some (.int v1), some (.int v2), some (.int v3)], [], M3)) (b := (14, [some (.ref 0), some (.int v1), some (.int v2), some (.int v3)], [], M3)) rfl (fun _ => rfl) ?_ ?_
  · exact dp_s0 hF (i := .new 141) rfl (fun _ => rfl)
  refine dp_s1 hF (i := .iload_n 3) rfl (fun _ => rfl) ?_
  refine dp_si (mj := dp_m_X11_isBookDay) (i := .invokestatic 667) rfl rfl (Or.inr rfl) rfl (fun _ => rfl) (fun r6 M5 => ?_)
  refine dp_s2 hF (i := .ifCond .ne 14) (a := (21, [some (.ref 0), some (.int v1), some (.int v2), some (.int v3)], [], M5)) (b := (32, [some (.ref 0), some (.int v1), some (.int v2), some (.int v3)], [], M5)) rfl (fun _ => rfl) ?_ ?_
  · exact dp_s0 hF (i := .new 141) rfl (fun _ => rfl)
  refine dp_s1 hF (i := .aload_n 0) rfl (fun _ => rfl) ?_
  refine dp_s1 hF (i := .getfield 71) rfl (fun _ => rfl) ?_
  refine dp_s1 hF (i := .iload_n 1) rfl (fun _ => rfl) ?_
  refine dp_s1 hF (i := .iconst 0) rfl (fun _ => rfl) ?_
  refine dp_s1 hF (i := .iload_n 2) rfl (fun _ => rfl) ?_
  refine dp_s1 hF (i := .iload_n 3) rfl (fun _ => rfl) ?_
  refine dp_sl9 (mj := dp_m_X3_sum) (i := .invokevirtual 732) rfl rfl rfl rfl (fun _ => rfl) (fun r8 M7 => ?_)
  exact dp_s0 hF (i := .lreturn) rfl (fun _ => rfl)
noncomputable def D_X11_statement_0 (xs : Nat → Int32) (xl d : Nat) (v1 : Int32) (v2 : Int32) (v3 : Int32) (M : dp_M) : Option dp_Res := dp_lim true xs xl (dp_den true xs xl d) dp_m_X11_statement (0, [some (.ref 0), some (.int v1), some (.int v2), some (.int v3)], [], M)
theorem D_X11_statement_0_den (xs : Nat → Int32) (xl d : Nat) (a0 : Int32) (a1 : Int32) (a2 : Int32) (M : dp_M) : dp_den true xs xl (d + 1) 341 [.ref 0, .int a0, .int a1, .int a2] M = D_X11_statement_0 xs xl d a0 a1 a2 M := rfl
set_option maxRecDepth 20000 in
theorem D_X11_statement_0_eq (xs : Nat → Int32) (xl d : Nat) (v1 : Int32) (v2 : Int32) (v3 : Int32) (M : dp_M) : D_X11_statement_0 xs xl d v1 v2 v3 M = dp_bi (dp_den true xs xl d 334 [.int v1] M) (fun r2 M1 => if r2 = 0 then (dp_nk M1 0 (some (.inr 0, dp_new M1 0 0 6))) else (dp_bi (dp_den true xs xl d 251 [.long (Int32.toInt64 v2), .long (0 : Int64), .long (3333 : Int64)] M1) (fun r4 M3 => if r4 = 0 then (dp_nk M3 0 (some (.inr 0, dp_new M3 0 0 6))) else (dp_bi (dp_den true xs xl d 263 [.int v3] M3) (fun r6 M5 => if r6 = 0 then (dp_nk M5 0 (some (.inr 0, dp_new M5 0 0 6))) else (dp_bl (dp_den true xs xl d 97 [.ref 97, .int v1, .int ((30 : Int32) * v2), .int (((30 : Int32) * v2) + (29 : Int32)), .int v3] M5) (fun r8 M7 => some (.inl (some (.long r8)), M7)))))))) := by
  have hF := dp_den_grow (md := true) (xs := xs) (xl := xl) d
  unfold D_X11_statement_0
  refine dp_s1 hF (i := .iload_n 1) rfl (fun _ => rfl) ?_
  refine dp_si (mj := dp_m_X11_isAccount) (i := .invokestatic 684) rfl rfl (Or.inr rfl) rfl (fun _ => rfl) (fun r2 M1 => ?_)
  refine dp_s2 hF (i := .ifCond .eq 22) (a := (26, [some (.ref 0), some (.int v1), some (.int v2), some (.int v3)], [], M1)) (b := (7, [some (.ref 0), some (.int v1), some (.int v2), some (.int v3)], [], M1)) rfl (fun _ => rfl) ?_ ?_
  · exact dp_s0 hF (i := .new 141) rfl (fun _ => rfl)
  refine dp_s1 hF (i := .iload_n 2) rfl (fun _ => rfl) ?_
  refine dp_s1 hF (i := .i2l) rfl (fun _ => rfl) ?_
  refine dp_s1 hF (i := .lconst 0) rfl (fun _ => rfl) ?_
  refine dp_s1 hF (i := .ldc2_w 736) rfl (fun _ => rfl) ?_
  refine dp_si (mj := dp_m_X11_within) (i := .invokestatic 96) rfl rfl (Or.inr rfl) rfl (fun _ => rfl) (fun r4 M3 => ?_)
  refine dp_s2 hF (i := .ifCond .eq 10) (a := (26, [some (.ref 0), some (.int v1), some (.int v2), some (.int v3)], [], M3)) (b := (19, [some (.ref 0), some (.int v1), some (.int v2), some (.int v3)], [], M3)) rfl (fun _ => rfl) ?_ ?_
  · exact dp_s0 hF (i := .new 141) rfl (fun _ => rfl)
  refine dp_s1 hF (i := .iload_n 3) rfl (fun _ => rfl) ?_
  refine dp_si (mj := dp_m_X11_isBookDay) (i := .invokestatic 667) rfl rfl (Or.inr rfl) rfl (fun _ => rfl) (fun r6 M5 => ?_)
  refine dp_s2 hF (i := .ifCond .ne 14) (a := (26, [some (.ref 0), some (.int v1), some (.int v2), some (.int v3)], [], M5)) (b := (37, [some (.ref 0), some (.int v1), some (.int v2), some (.int v3)], [], M5)) rfl (fun _ => rfl) ?_ ?_
  · exact dp_s0 hF (i := .new 141) rfl (fun _ => rfl)
  refine dp_s1 hF (i := .aload_n 0) rfl (fun _ => rfl) ?_
  refine dp_s1 hF (i := .getfield 71) rfl (fun _ => rfl) ?_
  refine dp_s1 hF (i := .iload_n 1) rfl (fun _ => rfl) ?_
  refine dp_s1 hF (i := .bipush 30) rfl (fun _ => rfl) ?_
  refine dp_s1 hF (i := .iload_n 2) rfl (fun _ => rfl) ?_
  refine dp_s1 hF (i := .imul) rfl (fun _ => rfl) ?_
  refine dp_s1 hF (i := .bipush 30) rfl (fun _ => rfl) ?_
  refine dp_s1 hF (i := .iload_n 2) rfl (fun _ => rfl) ?_
  refine dp_s1 hF (i := .imul) rfl (fun _ => rfl) ?_
  refine dp_s1 hF (i := .bipush 29) rfl (fun _ => rfl) ?_
  refine dp_s1 hF (i := .iadd) rfl (fun _ => rfl) ?_
  refine dp_s1 hF (i := .iload_n 3) rfl (fun _ => rfl) ?_
  refine dp_sl9 (mj := dp_m_X3_sum) (i := .invokevirtual 732) rfl rfl rfl rfl (fun _ => rfl) (fun r8 M7 => ?_)
  exact dp_s0 hF (i := .lreturn) rfl (fun _ => rfl)
noncomputable def D_X11_isAccountKind_0 (xs : Nat → Int32) (xl d : Nat) (v0 : Int32) (M : dp_M) : Option dp_Res := dp_lim true xs xl (dp_den true xs xl d) dp_m_X11_isAccountKind (0, [some (.int v0)], [], M)
theorem D_X11_isAccountKind_0_den (xs : Nat → Int32) (xl d : Nat) (a0 : Int32) (M : dp_M) : dp_den true xs xl (d + 1) 342 [.int a0] M = D_X11_isAccountKind_0 xs xl d a0 M := rfl
set_option maxRecDepth 20000 in
theorem D_X11_isAccountKind_0_eq (xs : Nat → Int32) (xl d : Nat) (v0 : Int32) (M : dp_M) : D_X11_isAccountKind_0 xs xl d v0 M = dp_bi (dp_den true xs xl d 251 [.long (Int32.toInt64 v0), .long (0 : Int64), .long (3 : Int64)] M) (fun r2 M1 => if r2 = 0 ∨ r2 = 1 then some (.inl (some (.int r2)), M1) else none) := by
  have hF := dp_den_grow (md := true) (xs := xs) (xl := xl) d
  unfold D_X11_isAccountKind_0
  refine dp_s1 hF (i := .iload_n 0) rfl (fun _ => rfl) ?_
  refine dp_s1 hF (i := .i2l) rfl (fun _ => rfl) ?_
  refine dp_s1 hF (i := .lconst 0) rfl (fun _ => rfl) ?_
  refine dp_s1 hF (i := .ldc2_w 192) rfl (fun _ => rfl) ?_
  refine dp_si (mj := dp_m_X11_within) (i := .invokestatic 96) rfl rfl (Or.inr rfl) rfl (fun _ => rfl) (fun r2 M1 => ?_)
  exact dp_s0 hF (i := .ireturn) rfl (fun _ => rfl)
noncomputable def D_X11_share_0 (xs : Nat → Int32) (xl d : Nat) (v1 : Int32) (v2 : Int32) (v3 : Int32) (M : dp_M) : Option dp_Res := dp_lim true xs xl (dp_den true xs xl d) dp_m_X11_share (0, [some (.ref 0), some (.int v1), some (.int v2), some (.int v3)], [], M)
theorem D_X11_share_0_den (xs : Nat → Int32) (xl d : Nat) (a0 : Int32) (a1 : Int32) (a2 : Int32) (M : dp_M) : dp_den true xs xl (d + 1) 343 [.ref 0, .int a0, .int a1, .int a2] M = D_X11_share_0 xs xl d a0 a1 a2 M := rfl
set_option maxRecDepth 20000 in
theorem D_X11_share_0_eq (xs : Nat → Int32) (xl d : Nat) (v1 : Int32) (v2 : Int32) (v3 : Int32) (M : dp_M) : D_X11_share_0 xs xl d v1 v2 v3 M = dp_bi (dp_den true xs xl d 342 [.int v1] M) (fun r2 M1 => if r2 = 0 then (some (.inl (some (.int (0 : Int32))), M1)) else (dp_bi (dp_den true xs xl d 251 [.long (Int32.toInt64 v2), .long (0 : Int64), .long (3 : Int64)] M1) (fun r4 M3 => if r4 = 0 then (some (.inl (some (.int (0 : Int32))), M3)) else (dp_bi (dp_den true xs xl d 251 [.long (Int32.toInt64 v3), .long (0 : Int64), .long (1000 : Int64)] M3) (fun r6 M5 => if r6 = 0 then (some (.inl (some (.int (0 : Int32))), M5)) else (if ((v1 * (4 : Int32)) + v2) < 0 ∨ 16 ≤ Int32.toNatClampNeg ((v1 * (4 : Int32)) + v2) then none else dp_w (dp_setI M5 98 (Int32.toNatClampNeg ((v1 * (4 : Int32)) + v2)) v3) (fun M7 => some (.inl (some (.int (1 : Int32))), M7)))))))) := by
  have hF := dp_den_grow (md := true) (xs := xs) (xl := xl) d
  unfold D_X11_share_0
  refine dp_s1 hF (i := .iload_n 1) rfl (fun _ => rfl) ?_
  refine dp_si (mj := dp_m_X11_isAccountKind) (i := .invokestatic 740) rfl rfl (Or.inr rfl) rfl (fun _ => rfl) (fun r2 M1 => ?_)
  refine dp_s2 hF (i := .ifCond .eq 27) (a := (31, [some (.ref 0), some (.int v1), some (.int v2), some (.int v3)], [], M1)) (b := (7, [some (.ref 0), some (.int v1), some (.int v2), some (.int v3)], [], M1)) rfl (fun _ => rfl) ?_ ?_
  · refine dp_s1 hF (i := .iconst 0) rfl (fun _ => rfl) ?_
    exact dp_s0 hF (i := .ireturn) rfl (fun _ => rfl)
  refine dp_s1 hF (i := .iload_n 2) rfl (fun _ => rfl) ?_
  refine dp_s1 hF (i := .i2l) rfl (fun _ => rfl) ?_
  refine dp_s1 hF (i := .lconst 0) rfl (fun _ => rfl) ?_
  refine dp_s1 hF (i := .ldc2_w 192) rfl (fun _ => rfl) ?_
  refine dp_si (mj := dp_m_X11_within) (i := .invokestatic 96) rfl rfl (Or.inr rfl) rfl (fun _ => rfl) (fun r4 M3 => ?_)
  refine dp_s2 hF (i := .ifCond .eq 15) (a := (31, [some (.ref 0), some (.int v1), some (.int v2), some (.int v3)], [], M3)) (b := (19, [some (.ref 0), some (.int v1), some (.int v2), some (.int v3)], [], M3)) rfl (fun _ => rfl) ?_ ?_
  · refine dp_s1 hF (i := .iconst 0) rfl (fun _ => rfl) ?_
    exact dp_s0 hF (i := .ireturn) rfl (fun _ => rfl)
  refine dp_s1 hF (i := .iload_n 3) rfl (fun _ => rfl) ?_
  refine dp_s1 hF (i := .i2l) rfl (fun _ => rfl) ?_
  refine dp_s1 hF (i := .lconst 0) rfl (fun _ => rfl) ?_
  refine dp_s1 hF (i := .ldc2_w 152) rfl (fun _ => rfl) ?_
  refine dp_si (mj := dp_m_X11_within) (i := .invokestatic 96) rfl rfl (Or.inr rfl) rfl (fun _ => rfl) (fun r6 M5 => ?_)
  refine dp_s2 hF (i := .ifCond .ne 5) (a := (31, [some (.ref 0), some (.int v1), some (.int v2), some (.int v3)], [], M5)) (b := (33, [some (.ref 0), some (.int v1), some (.int v2), some (.int v3)], [], M5)) rfl (fun _ => rfl) ?_ ?_
  · refine dp_s1 hF (i := .iconst 0) rfl (fun _ => rfl) ?_
    exact dp_s0 hF (i := .ireturn) rfl (fun _ => rfl)
  refine dp_s1 hF (i := .aload_n 0) rfl (fun _ => rfl) ?_
  refine dp_s1 hF (i := .getfield 71) rfl (fun _ => rfl) ?_
  refine dp_s1 hF (i := .getfield 743) rfl (fun _ => rfl) ?_
  refine dp_s1 hF (i := .iload_n 1) rfl (fun _ => rfl) ?_
  refine dp_s1 hF (i := .iconst 4) rfl (fun _ => rfl) ?_
  refine dp_s1 hF (i := .imul) rfl (fun _ => rfl) ?_
  refine dp_s1 hF (i := .iload_n 2) rfl (fun _ => rfl) ?_
  refine dp_s1 hF (i := .iadd) rfl (fun _ => rfl) ?_
  refine dp_s1 hF (i := .iload_n 3) rfl (fun _ => rfl) ?_
  refine dp_s3w (dp_setI M5 98 (Int32.toNatClampNeg ((v1 * (4 : Int32)) + v2)) v3) (fun (M7 : dp_M) => (47, [some (.ref 0), some (.int v1), some (.int v2), some (.int v3)], [], M7)) hF (i := .iastore) rfl (fun _ => rfl) (fun M7 => ?_)
  refine dp_s1 hF (i := .iconst 1) rfl (fun _ => rfl) ?_
  exact dp_s0 hF (i := .ireturn) rfl (fun _ => rfl)
noncomputable def D_X11_cost_0 (xs : Nat → Int32) (xl d : Nat) (v1 : Int32) (v2 : Int32) (M : dp_M) : Option dp_Res := dp_lim true xs xl (dp_den true xs xl d) dp_m_X11_cost (0, [some (.ref 0), some (.int v1), some (.int v2)], [], M)
theorem D_X11_cost_0_den (xs : Nat → Int32) (xl d : Nat) (a0 : Int32) (a1 : Int32) (M : dp_M) : dp_den true xs xl (d + 1) 344 [.ref 0, .int a0, .int a1] M = D_X11_cost_0 xs xl d a0 a1 M := rfl
set_option maxRecDepth 20000 in
theorem D_X11_cost_0_eq (xs : Nat → Int32) (xl d : Nat) (v1 : Int32) (v2 : Int32) (M : dp_M) : D_X11_cost_0 xs xl d v1 v2 M = dp_bi (dp_den true xs xl d 342 [.int v1] M) (fun r2 M1 => if r2 = 0 then (some (.inl (some (.int (0 : Int32))), M1)) else (dp_bi (dp_den true xs xl d 251 [.long (Int32.toInt64 v2), .long (0 : Int64), .long (1000 : Int64)] M1) (fun r4 M3 => if r4 = 0 then (some (.inl (some (.int (0 : Int32))), M3)) else (if v1 < 0 ∨ 4 ≤ Int32.toNatClampNeg v1 then none else dp_w (dp_setI M3 99 (Int32.toNatClampNeg v1) v2) (fun M5 => some (.inl (some (.int (1 : Int32))), M5)))))) := by
  have hF := dp_den_grow (md := true) (xs := xs) (xl := xl) d
  unfold D_X11_cost_0
  refine dp_s1 hF (i := .iload_n 1) rfl (fun _ => rfl) ?_
  refine dp_si (mj := dp_m_X11_isAccountKind) (i := .invokestatic 740) rfl rfl (Or.inr rfl) rfl (fun _ => rfl) (fun r2 M1 => ?_)
  refine dp_s2 hF (i := .ifCond .eq 15) (a := (19, [some (.ref 0), some (.int v1), some (.int v2)], [], M1)) (b := (7, [some (.ref 0), some (.int v1), some (.int v2)], [], M1)) rfl (fun _ => rfl) ?_ ?_
  · refine dp_s1 hF (i := .iconst 0) rfl (fun _ => rfl) ?_
    exact dp_s0 hF (i := .ireturn) rfl (fun _ => rfl)
  refine dp_s1 hF (i := .iload_n 2) rfl (fun _ => rfl) ?_
  refine dp_s1 hF (i := .i2l) rfl (fun _ => rfl) ?_
  refine dp_s1 hF (i := .lconst 0) rfl (fun _ => rfl) ?_
  refine dp_s1 hF (i := .ldc2_w 152) rfl (fun _ => rfl) ?_
  refine dp_si (mj := dp_m_X11_within) (i := .invokestatic 96) rfl rfl (Or.inr rfl) rfl (fun _ => rfl) (fun r4 M3 => ?_)
  refine dp_s2 hF (i := .ifCond .ne 5) (a := (19, [some (.ref 0), some (.int v1), some (.int v2)], [], M3)) (b := (21, [some (.ref 0), some (.int v1), some (.int v2)], [], M3)) rfl (fun _ => rfl) ?_ ?_
  · refine dp_s1 hF (i := .iconst 0) rfl (fun _ => rfl) ?_
    exact dp_s0 hF (i := .ireturn) rfl (fun _ => rfl)
  refine dp_s1 hF (i := .aload_n 0) rfl (fun _ => rfl) ?_
  refine dp_s1 hF (i := .getfield 71) rfl (fun _ => rfl) ?_
  refine dp_s1 hF (i := .getfield 746) rfl (fun _ => rfl) ?_
  refine dp_s1 hF (i := .iload_n 1) rfl (fun _ => rfl) ?_
  refine dp_s1 hF (i := .iload_n 2) rfl (fun _ => rfl) ?_
  refine dp_s3w (dp_setI M3 99 (Int32.toNatClampNeg v1) v2) (fun (M5 : dp_M) => (31, [some (.ref 0), some (.int v1), some (.int v2)], [], M5)) hF (i := .iastore) rfl (fun _ => rfl) (fun M5 => ?_)
  refine dp_s1 hF (i := .iconst 1) rfl (fun _ => rfl) ?_
  exact dp_s0 hF (i := .ireturn) rfl (fun _ => rfl)
noncomputable def D_X11_passed_0 (xs : Nat → Int32) (xl d : Nat) (v1 : Int32) (v2 : Int32) (v3 : Int32) (M : dp_M) : Option dp_Res := dp_lim true xs xl (dp_den true xs xl d) dp_m_X11_passed (0, [some (.ref 0), some (.int v1), some (.int v2), some (.int v3)], [], M)
theorem D_X11_passed_0_den (xs : Nat → Int32) (xl d : Nat) (a0 : Int32) (a1 : Int32) (a2 : Int32) (M : dp_M) : dp_den true xs xl (d + 1) 345 [.ref 0, .int a0, .int a1, .int a2] M = D_X11_passed_0 xs xl d a0 a1 a2 M := rfl
set_option maxRecDepth 20000 in
theorem D_X11_passed_0_eq (xs : Nat → Int32) (xl d : Nat) (v1 : Int32) (v2 : Int32) (v3 : Int32) (M : dp_M) : D_X11_passed_0 xs xl d v1 v2 v3 M = dp_bi (dp_den true xs xl d 342 [.int v1] M) (fun r2 M1 => if r2 = 0 then (dp_nk M1 0 (some (.inr 0, dp_new M1 0 0 6))) else (dp_bi (dp_den true xs xl d 251 [.long (Int32.toInt64 v2), .long (0 : Int64), .long (6 : Int64)] M1) (fun r4 M3 => if r4 = 0 then (dp_nk M3 0 (some (.inr 0, dp_new M3 0 0 6))) else (dp_bi (dp_den true xs xl d 263 [.int v3] M3) (fun r6 M5 => if r6 = 0 then (dp_nk M5 0 (some (.inr 0, dp_new M5 0 0 6))) else (dp_bl (dp_den true xs xl d 100 [.ref 97, .int v1, .int v2, .int v3] M5) (fun r8 M7 => some (.inl (some (.long r8)), M7)))))))) := by
  have hF := dp_den_grow (md := true) (xs := xs) (xl := xl) d
  unfold D_X11_passed_0
  refine dp_s1 hF (i := .iload_n 1) rfl (fun _ => rfl) ?_
  refine dp_si (mj := dp_m_X11_isAccountKind) (i := .invokestatic 740) rfl rfl (Or.inr rfl) rfl (fun _ => rfl) (fun r2 M1 => ?_)
  refine dp_s2 hF (i := .ifCond .eq 22) (a := (26, [some (.ref 0), some (.int v1), some (.int v2), some (.int v3)], [], M1)) (b := (7, [some (.ref 0), some (.int v1), some (.int v2), some (.int v3)], [], M1)) rfl (fun _ => rfl) ?_ ?_
  · exact dp_s0 hF (i := .new 141) rfl (fun _ => rfl)
  refine dp_s1 hF (i := .iload_n 2) rfl (fun _ => rfl) ?_
  refine dp_s1 hF (i := .i2l) rfl (fun _ => rfl) ?_
  refine dp_s1 hF (i := .lconst 0) rfl (fun _ => rfl) ?_
  refine dp_s1 hF (i := .ldc2_w 749) rfl (fun _ => rfl) ?_
  refine dp_si (mj := dp_m_X11_within) (i := .invokestatic 96) rfl rfl (Or.inr rfl) rfl (fun _ => rfl) (fun r4 M3 => ?_)
  refine dp_s2 hF (i := .ifCond .eq 10) (a := (26, [some (.ref 0), some (.int v1), some (.int v2), some (.int v3)], [], M3)) (b := (19, [some (.ref 0), some (.int v1), some (.int v2), some (.int v3)], [], M3)) rfl (fun _ => rfl) ?_ ?_
  · exact dp_s0 hF (i := .new 141) rfl (fun _ => rfl)
  refine dp_s1 hF (i := .iload_n 3) rfl (fun _ => rfl) ?_
  refine dp_si (mj := dp_m_X11_isBookDay) (i := .invokestatic 667) rfl rfl (Or.inr rfl) rfl (fun _ => rfl) (fun r6 M5 => ?_)
  refine dp_s2 hF (i := .ifCond .ne 14) (a := (26, [some (.ref 0), some (.int v1), some (.int v2), some (.int v3)], [], M5)) (b := (37, [some (.ref 0), some (.int v1), some (.int v2), some (.int v3)], [], M5)) rfl (fun _ => rfl) ?_ ?_
  · exact dp_s0 hF (i := .new 141) rfl (fun _ => rfl)
  refine dp_s1 hF (i := .aload_n 0) rfl (fun _ => rfl) ?_
  refine dp_s1 hF (i := .getfield 71) rfl (fun _ => rfl) ?_
  refine dp_s1 hF (i := .iload_n 1) rfl (fun _ => rfl) ?_
  refine dp_s1 hF (i := .iload_n 2) rfl (fun _ => rfl) ?_
  refine dp_s1 hF (i := .iload_n 3) rfl (fun _ => rfl) ?_
  refine dp_sl9 (mj := dp_m_X3_passedOn) (i := .invokevirtual 753) rfl rfl rfl rfl (fun _ => rfl) (fun r8 M7 => ?_)
  exact dp_s0 hF (i := .lreturn) rfl (fun _ => rfl)
noncomputable def D_X11_read_0 (xs : Nat → Int32) (xl d : Nat) (v1 : Int32) (v2 : Int32) (M : dp_M) : Option dp_Res := dp_lim true xs xl (dp_den true xs xl d) dp_m_X11_read (0, [some (.ref 0), some (.int v1), some (.int v2)], [], M)
theorem D_X11_read_0_den (xs : Nat → Int32) (xl d : Nat) (a0 : Int32) (a1 : Int32) (M : dp_M) : dp_den true xs xl (d + 1) 346 [.ref 0, .int a0, .int a1] M = D_X11_read_0 xs xl d a0 a1 M := rfl
set_option maxRecDepth 20000 in
theorem D_X11_read_0_eq (xs : Nat → Int32) (xl d : Nat) (v1 : Int32) (v2 : Int32) (M : dp_M) : D_X11_read_0 xs xl d v1 v2 M = dp_bi (dp_den true xs xl d 251 [.long (Int32.toInt64 v1), .long (0 : Int64), .long (Int32.toInt64 ((dp_I M 97 1) - (1 : Int32)))] M) (fun r2 M1 => if r2 = 0 then (dp_nk M1 0 (some (.inr 2, dp_new M1 0 0 6))) else (dp_bi (dp_den true xs xl d 251 [.long (Int32.toInt64 v2), .long (0 : Int64), .long (4 : Int64)] M1) (fun r4 M3 => if r4 = 0 then (dp_nk M3 0 (some (.inr 2, dp_new M3 0 0 6))) else (dp_bl (dp_den true xs xl d 96 [.ref 97, .int v1, .int v2] M3) (fun r6 M5 => some (.inl (some (.long r6)), M5)))))) := by
  have hF := dp_den_grow (md := true) (xs := xs) (xl := xl) d
  unfold D_X11_read_0
  refine dp_s1 hF (i := .iload_n 1) rfl (fun _ => rfl) ?_
  refine dp_s1 hF (i := .i2l) rfl (fun _ => rfl) ?_
  refine dp_s1 hF (i := .lconst 0) rfl (fun _ => rfl) ?_
  refine dp_s1 hF (i := .aload_n 0) rfl (fun _ => rfl) ?_
  refine dp_s1 hF (i := .getfield 71) rfl (fun _ => rfl) ?_
  refine dp_s1 hF (i := .getfield 757) rfl (fun _ => rfl) ?_
  refine dp_s1 hF (i := .iconst 1) rfl (fun _ => rfl) ?_
  refine dp_s1 hF (i := .isub) rfl (fun _ => rfl) ?_
  refine dp_s1 hF (i := .i2l) rfl (fun _ => rfl) ?_
  refine dp_si (mj := dp_m_X11_within) (i := .invokestatic 96) rfl rfl (Or.inr rfl) rfl (fun _ => rfl) (fun r2 M1 => ?_)
  refine dp_s2 hF (i := .ifCond .eq 15) (a := (31, [some (.ref 0), some (.int v1), some (.int v2)], [], M1)) (b := (19, [some (.ref 0), some (.int v1), some (.int v2)], [], M1)) rfl (fun _ => rfl) ?_ ?_
  · exact dp_s0 hF (i := .new 194) rfl (fun _ => rfl)
  refine dp_s1 hF (i := .iload_n 2) rfl (fun _ => rfl) ?_
  refine dp_s1 hF (i := .i2l) rfl (fun _ => rfl) ?_
  refine dp_s1 hF (i := .lconst 0) rfl (fun _ => rfl) ?_
  refine dp_s1 hF (i := .ldc2_w 348) rfl (fun _ => rfl) ?_
  refine dp_si (mj := dp_m_X11_within) (i := .invokestatic 96) rfl rfl (Or.inr rfl) rfl (fun _ => rfl) (fun r4 M3 => ?_)
  refine dp_s2 hF (i := .ifCond .ne 14) (a := (31, [some (.ref 0), some (.int v1), some (.int v2)], [], M3)) (b := (42, [some (.ref 0), some (.int v1), some (.int v2)], [], M3)) rfl (fun _ => rfl) ?_ ?_
  · exact dp_s0 hF (i := .new 194) rfl (fun _ => rfl)
  refine dp_s1 hF (i := .aload_n 0) rfl (fun _ => rfl) ?_
  refine dp_s1 hF (i := .getfield 71) rfl (fun _ => rfl) ?_
  refine dp_s1 hF (i := .iload_n 1) rfl (fun _ => rfl) ?_
  refine dp_s1 hF (i := .iload_n 2) rfl (fun _ => rfl) ?_
  refine dp_sl9 (mj := dp_m_X3_factOfEntry) (i := .invokevirtual 762) rfl rfl rfl rfl (fun _ => rfl) (fun r6 M5 => ?_)
  exact dp_s0 hF (i := .lreturn) rfl (fun _ => rfl)
noncomputable def D_X11_batchOf_0 (xs : Nat → Int32) (xl d : Nat) (v1 : Int32) (v2 : Int32) (M : dp_M) : Option dp_Res := dp_lim true xs xl (dp_den true xs xl d) dp_m_X11_batchOf (0, [some (.ref 0), some (.int v1), some (.int v2)], [], M)
theorem D_X11_batchOf_0_den (xs : Nat → Int32) (xl d : Nat) (a0 : Int32) (a1 : Int32) (M : dp_M) : dp_den true xs xl (d + 1) 347 [.ref 0, .int a0, .int a1] M = D_X11_batchOf_0 xs xl d a0 a1 M := rfl
set_option maxRecDepth 20000 in
theorem D_X11_batchOf_0_eq (xs : Nat → Int32) (xl d : Nat) (v1 : Int32) (v2 : Int32) (M : dp_M) : D_X11_batchOf_0 xs xl d v1 v2 M = dp_bi (dp_den true xs xl d 258 [.ref 0, .int v1] M) (fun r2 M1 => if r2 = 0 then (dp_nk M1 0 (some (.inr 2, dp_new M1 0 0 6))) else (dp_bi (dp_den true xs xl d 251 [.long (Int32.toInt64 v2), .long (0 : Int64), .long (6 : Int64)] M1) (fun r4 M3 => if r4 = 0 then (dp_nk M3 0 (some (.inr 2, dp_new M3 0 0 6))) else (dp_bi (dp_den true xs xl d 78 [.ref 97, .int v1, .int v2] M3) (fun r6 M5 => some (.inl (some (.int r6)), M5)))))) := by
  have hF := dp_den_grow (md := true) (xs := xs) (xl := xl) d
  unfold D_X11_batchOf_0
  refine dp_s1 hF (i := .aload_n 0) rfl (fun _ => rfl) ?_
  refine dp_s1 hF (i := .iload_n 1) rfl (fun _ => rfl) ?_
  refine dp_si (mj := dp_m_X11_isBatch) (i := .invokevirtual 675) rfl rfl (Or.inr rfl) rfl (fun _ => rfl) (fun r2 M1 => ?_)
  refine dp_s2 hF (i := .ifCond .eq 15) (a := (20, [some (.ref 0), some (.int v1), some (.int v2)], [], M1)) (b := (8, [some (.ref 0), some (.int v1), some (.int v2)], [], M1)) rfl (fun _ => rfl) ?_ ?_
  · exact dp_s0 hF (i := .new 194) rfl (fun _ => rfl)
  refine dp_s1 hF (i := .iload_n 2) rfl (fun _ => rfl) ?_
  refine dp_s1 hF (i := .i2l) rfl (fun _ => rfl) ?_
  refine dp_s1 hF (i := .lconst 0) rfl (fun _ => rfl) ?_
  refine dp_s1 hF (i := .ldc2_w 749) rfl (fun _ => rfl) ?_
  refine dp_si (mj := dp_m_X11_within) (i := .invokestatic 96) rfl rfl (Or.inr rfl) rfl (fun _ => rfl) (fun r4 M3 => ?_)
  refine dp_s2 hF (i := .ifCond .ne 14) (a := (20, [some (.ref 0), some (.int v1), some (.int v2)], [], M3)) (b := (31, [some (.ref 0), some (.int v1), some (.int v2)], [], M3)) rfl (fun _ => rfl) ?_ ?_
  · exact dp_s0 hF (i := .new 194) rfl (fun _ => rfl)
  refine dp_s1 hF (i := .aload_n 0) rfl (fun _ => rfl) ?_
  refine dp_s1 hF (i := .getfield 71) rfl (fun _ => rfl) ?_
  refine dp_s1 hF (i := .iload_n 1) rfl (fun _ => rfl) ?_
  refine dp_s1 hF (i := .iload_n 2) rfl (fun _ => rfl) ?_
  refine dp_si (mj := dp_m_X3_fact) (i := .invokevirtual 765) rfl rfl (Or.inl rfl) rfl (fun _ => rfl) (fun r6 M5 => ?_)
  exact dp_s0 hF (i := .ireturn) rfl (fun _ => rfl)
noncomputable def D_X11_declare_0 (xs : Nat → Int32) (xl d : Nat) (v1 : Int32) (v2 : Int32) (v3 : Int32) (v4 : Int32) (v5 : Int32) (v6 : Int32) (v7 : Int64) (M : dp_M) : Option dp_Res := dp_lim true xs xl (dp_den true xs xl d) dp_m_X11_declare (0, [some (.ref 0), some (.int v1), some (.int v2), some (.int v3), some (.int v4), some (.int v5), some (.int v6), some (.long v7), none], [], M)
theorem D_X11_declare_0_den (xs : Nat → Int32) (xl d : Nat) (a0 : Int32) (a1 : Int32) (a2 : Int32) (a3 : Int32) (a4 : Int32) (a5 : Int32) (a6 : Int64) (M : dp_M) : dp_den true xs xl (d + 1) 348 [.ref 0, .int a0, .int a1, .int a2, .int a3, .int a4, .int a5, .long a6] M = D_X11_declare_0 xs xl d a0 a1 a2 a3 a4 a5 a6 M := rfl
set_option maxRecDepth 20000 in
theorem D_X11_declare_0_eq (xs : Nat → Int32) (xl d : Nat) (v1 : Int32) (v2 : Int32) (v3 : Int32) (v4 : Int32) (v5 : Int32) (v6 : Int32) (v7 : Int64) (M : dp_M) : D_X11_declare_0 xs xl d v1 v2 v3 v4 v5 v6 v7 M = dp_bi (dp_den true xs xl d 251 [.long (Int32.toInt64 v1), .long (0 : Int64), .long (Int32.toInt64 ((dp_I M 37 2) - (1 : Int32)))] M) (fun r2 M1 => if r2 = 0 then (dp_nk M1 0 (some (.inr 0, dp_new M1 0 0 6))) else (dp_bi (dp_den true xs xl d 321 [.int v2] M1) (fun r4 M3 => if r4 = 0 then (dp_nk M3 0 (some (.inr 0, dp_new M3 0 0 6))) else (dp_bi (dp_den true xs xl d 322 [.int v3] M3) (fun r6 M5 => if r6 = 0 then (dp_nk M5 0 (some (.inr 0, dp_new M5 0 0 6))) else (dp_bi (dp_den true xs xl d 297 [.int v4] M5) (fun r8 M7 => if r8 = 0 then (dp_nk M7 0 (some (.inr 0, dp_new M7 0 0 6))) else (dp_bi (dp_den true xs xl d 298 [.int v5] M7) (fun r10 M9 => if r10 = 0 then (dp_nk M9 0 (some (.inr 0, dp_new M9 0 0 6))) else (dp_bi (dp_den true xs xl d 261 [.int v6] M9) (fun r12 M11 => if r12 = 0 then (dp_nk M11 0 (some (.inr 0, dp_new M11 0 0 6))) else (dp_bi (dp_den true xs xl d 251 [.long v7, .long (0 : Int64), .long (100000000 : Int64)] M11) (fun r14 M13 => if r14 = 0 then (dp_nk M13 0 (some (.inr 0, dp_new M13 0 0 6))) else (if v1 < 0 ∨ 300 ≤ Int32.toNatClampNeg v1 then none else (if (dp_I M13 110 (Int32.toNatClampNeg v1)) = 0 then (if (dp_I M13 108 5) < (400 : Int32) then (dp_bi (dp_den true xs xl d 4 [.ref 108, .int v1, .int v2, .int v3, .int v4, .int v5, .int v6, .long v7] M13) (fun r16 M15 => some (.inl (some (.int r16)), M15))) else (dp_nk M13 0 (some (.inr 1, dp_new M13 0 0 6)))) else (dp_nk M13 0 (some (.inr 1, dp_new M13 0 0 6)))))))))))))))))) := by
  have hF := dp_den_grow (md := true) (xs := xs) (xl := xl) d
  unfold D_X11_declare_0
  refine dp_s1 hF (i := .iload_n 1) rfl (fun _ => rfl) ?_
  refine dp_s1 hF (i := .i2l) rfl (fun _ => rfl) ?_
  refine dp_s1 hF (i := .lconst 0) rfl (fun _ => rfl) ?_
  refine dp_s1 hF (i := .aload_n 0) rfl (fun _ => rfl) ?_
  refine dp_s1 hF (i := .getfield 36) rfl (fun _ => rfl) ?_
  refine dp_s1 hF (i := .getfield 318) rfl (fun _ => rfl) ?_
  refine dp_s1 hF (i := .iconst 1) rfl (fun _ => rfl) ?_
  refine dp_s1 hF (i := .isub) rfl (fun _ => rfl) ?_
  refine dp_s1 hF (i := .i2l) rfl (fun _ => rfl) ?_
  refine dp_si (mj := dp_m_X11_within) (i := .invokestatic 96) rfl rfl (Or.inr rfl) rfl (fun _ => rfl) (fun r2 M1 => ?_)
  refine dp_s2 hF (i := .ifCond .eq 17) (a := (33, [some (.ref 0), some (.int v1), some (.int v2), some (.int v3), some (.int v4), some (.int v5), some (.int v6), some (.long v7), none], [], M1)) (b := (19, [some (.ref 0), some (.int v1), some (.int v2), some (.int v3), some (.int v4), some (.int v5), some (.int v6), some (.long v7), none], [], M1)) rfl (fun _ => rfl) ?_ ?_
  · exact dp_s0 hF (i := .new 141) rfl (fun _ => rfl)
  refine dp_s1 hF (i := .iload_n 2) rfl (fun _ => rfl) ?_
  refine dp_si (mj := dp_m_X11_isHolder) (i := .invokestatic 603) rfl rfl (Or.inr rfl) rfl (fun _ => rfl) (fun r4 M3 => ?_)
  refine dp_s2 hF (i := .ifCond .eq 10) (a := (33, [some (.ref 0), some (.int v1), some (.int v2), some (.int v3), some (.int v4), some (.int v5), some (.int v6), some (.long v7), none], [], M3)) (b := (26, [some (.ref 0), some (.int v1), some (.int v2), some (.int v3), some (.int v4), some (.int v5), some (.int v6), some (.long v7), none], [], M3)) rfl (fun _ => rfl) ?_ ?_
  · exact dp_s0 hF (i := .new 141) rfl (fun _ => rfl)
  refine dp_s1 hF (i := .iload_n 3) rfl (fun _ => rfl) ?_
  refine dp_si (mj := dp_m_X11_isDesk) (i := .invokestatic 627) rfl rfl (Or.inr rfl) rfl (fun _ => rfl) (fun r6 M5 => ?_)
  refine dp_s2 hF (i := .ifCond .ne 14) (a := (33, [some (.ref 0), some (.int v1), some (.int v2), some (.int v3), some (.int v4), some (.int v5), some (.int v6), some (.long v7), none], [], M5)) (b := (44, [some (.ref 0), some (.int v1), some (.int v2), some (.int v3), some (.int v4), some (.int v5), some (.int v6), some (.long v7), none], [], M5)) rfl (fun _ => rfl) ?_ ?_
  · exact dp_s0 hF (i := .new 141) rfl (fun _ => rfl)
  refine dp_s1 hF (i := .iload 4) rfl (fun _ => rfl) ?_
  refine dp_si (mj := dp_m_X11_isFullCode) (i := .invokestatic 406) rfl rfl (Or.inr rfl) rfl (fun _ => rfl) (fun r8 M7 => ?_)
  refine dp_s2 hF (i := .ifCond .eq 31) (a := (80, [some (.ref 0), some (.int v1), some (.int v2), some (.int v3), some (.int v4), some (.int v5), some (.int v6), some (.long v7), none], [], M7)) (b := (52, [some (.ref 0), some (.int v1), some (.int v2), some (.int v3), some (.int v4), some (.int v5), some (.int v6), some (.long v7), none], [], M7)) rfl (fun _ => rfl) ?_ ?_
  · exact dp_s0 hF (i := .new 141) rfl (fun _ => rfl)
  refine dp_s1 hF (i := .iload 5) rfl (fun _ => rfl) ?_
  refine dp_si (mj := dp_m_X11_isLand) (i := .invokestatic 440) rfl rfl (Or.inr rfl) rfl (fun _ => rfl) (fun r10 M9 => ?_)
  refine dp_s2 hF (i := .ifCond .eq 23) (a := (80, [some (.ref 0), some (.int v1), some (.int v2), some (.int v3), some (.int v4), some (.int v5), some (.int v6), some (.long v7), none], [], M9)) (b := (60, [some (.ref 0), some (.int v1), some (.int v2), some (.int v3), some (.int v4), some (.int v5), some (.int v6), some (.long v7), none], [], M9)) rfl (fun _ => rfl) ?_ ?_
  · exact dp_s0 hF (i := .new 141) rfl (fun _ => rfl)
  refine dp_s1 hF (i := .iload 6) rfl (fun _ => rfl) ?_
  refine dp_si (mj := dp_m_X11_isDay) (i := .invokestatic 129) rfl rfl (Or.inr rfl) rfl (fun _ => rfl) (fun r12 M11 => ?_)
  refine dp_s2 hF (i := .ifCond .eq 15) (a := (80, [some (.ref 0), some (.int v1), some (.int v2), some (.int v3), some (.int v4), some (.int v5), some (.int v6), some (.long v7), none], [], M11)) (b := (68, [some (.ref 0), some (.int v1), some (.int v2), some (.int v3), some (.int v4), some (.int v5), some (.int v6), some (.long v7), none], [], M11)) rfl (fun _ => rfl) ?_ ?_
  · exact dp_s0 hF (i := .new 141) rfl (fun _ => rfl)
  refine dp_s1 hF (i := .lload 7) rfl (fun _ => rfl) ?_
  refine dp_s1 hF (i := .lconst 0) rfl (fun _ => rfl) ?_
  refine dp_s1 hF (i := .ldc2_w 531) rfl (fun _ => rfl) ?_
  refine dp_si (mj := dp_m_X11_within) (i := .invokestatic 96) rfl rfl (Or.inr rfl) rfl (fun _ => rfl) (fun r14 M13 => ?_)
  refine dp_s2 hF (i := .ifCond .ne 14) (a := (80, [some (.ref 0), some (.int v1), some (.int v2), some (.int v3), some (.int v4), some (.int v5), some (.int v6), some (.long v7), none], [], M13)) (b := (91, [some (.ref 0), some (.int v1), some (.int v2), some (.int v3), some (.int v4), some (.int v5), some (.int v6), some (.long v7), none], [], M13)) rfl (fun _ => rfl) ?_ ?_
  · exact dp_s0 hF (i := .new 141) rfl (fun _ => rfl)
  refine dp_s1 hF (i := .aload_n 0) rfl (fun _ => rfl) ?_
  refine dp_s1 hF (i := .getfield 80) rfl (fun _ => rfl) ?_
  refine dp_s1 hF (i := .getfield 770) rfl (fun _ => rfl) ?_
  refine dp_s1 hF (i := .iload_n 1) rfl (fun _ => rfl) ?_
  refine dp_s3 hF (i := .baload) rfl (fun _ => rfl) ?_
  refine dp_s2 hF (i := .ifCond .ne 16) (a := (103, [some (.ref 0), some (.int v1), some (.int v2), some (.int v3), some (.int v4), some (.int v5), some (.int v6), some (.long v7), none], [], M13)) (b := (116, [some (.ref 0), some (.int v1), some (.int v2), some (.int v3), some (.int v4), some (.int v5), some (.int v6), some (.long v7), none], [], M13)) rfl (fun _ => rfl) ?_ ?_
  · refine dp_s1 hF (i := .aload_n 0) rfl (fun _ => rfl) ?_
    refine dp_s1 hF (i := .getfield 80) rfl (fun _ => rfl) ?_
    refine dp_s1 hF (i := .getfield 116) rfl (fun _ => rfl) ?_
    refine dp_s1 hF (i := .sipush 400) rfl (fun _ => rfl) ?_
    refine dp_s2 hF (i := .if_icmp .lt 14) (a := (127, [some (.ref 0), some (.int v1), some (.int v2), some (.int v3), some (.int v4), some (.int v5), some (.int v6), some (.long v7), none], [], M13)) (b := (116, [some (.ref 0), some (.int v1), some (.int v2), some (.int v3), some (.int v4), some (.int v5), some (.int v6), some (.long v7), none], [], M13)) rfl (fun _ => rfl) ?_ ?_
    · refine dp_s1 hF (i := .aload_n 0) rfl (fun _ => rfl) ?_
      refine dp_s1 hF (i := .getfield 80) rfl (fun _ => rfl) ?_
      refine dp_s1 hF (i := .iload_n 1) rfl (fun _ => rfl) ?_
      refine dp_s1 hF (i := .iload_n 2) rfl (fun _ => rfl) ?_
      refine dp_s1 hF (i := .iload_n 3) rfl (fun _ => rfl) ?_
      refine dp_s1 hF (i := .iload 4) rfl (fun _ => rfl) ?_
      refine dp_s1 hF (i := .iload 5) rfl (fun _ => rfl) ?_
      refine dp_s1 hF (i := .iload 6) rfl (fun _ => rfl) ?_
      refine dp_s1 hF (i := .lload 7) rfl (fun _ => rfl) ?_
      refine dp_si (mj := dp_m_X0_add) (i := .invokevirtual 775) rfl rfl (Or.inl rfl) rfl (fun _ => rfl) (fun r16 M15 => ?_)
      exact dp_s0 hF (i := .ireturn) rfl (fun _ => rfl)
    exact dp_s0 hF (i := .new 167) rfl (fun _ => rfl)
  exact dp_s0 hF (i := .new 167) rfl (fun _ => rfl)
noncomputable def D_X11_amount_0 (xs : Nat → Int32) (xl d : Nat) (v1 : Int32) (v2 : Int32) (v3 : Int64) (M : dp_M) : Option dp_Res := dp_lim true xs xl (dp_den true xs xl d) dp_m_X11_amount (0, [some (.ref 0), some (.int v1), some (.int v2), some (.long v3), none], [], M)
theorem D_X11_amount_0_den (xs : Nat → Int32) (xl d : Nat) (a0 : Int32) (a1 : Int32) (a2 : Int64) (M : dp_M) : dp_den true xs xl (d + 1) 349 [.ref 0, .int a0, .int a1, .long a2] M = D_X11_amount_0 xs xl d a0 a1 a2 M := rfl
set_option maxRecDepth 20000 in
theorem D_X11_amount_0_eq (xs : Nat → Int32) (xl d : Nat) (v1 : Int32) (v2 : Int32) (v3 : Int64) (M : dp_M) : D_X11_amount_0 xs xl d v1 v2 v3 M = dp_bi (dp_den true xs xl d 260 [.ref 0, .int v1, .int (0 : Int32)] M) (fun r2 M1 => if r2 = 0 then (some (.inl (some (.int (0 : Int32))), M1)) else (dp_bi (dp_den true xs xl d 251 [.long (Int32.toInt64 v2), .long (0 : Int64), .long (7 : Int64)] M1) (fun r4 M3 => if r4 = 0 then (some (.inl (some (.int (0 : Int32))), M3)) else (dp_bi (dp_den true xs xl d 251 [.long v3, .long (-1 : Int64), .long (100000000 : Int64)] M3) (fun r6 M5 => if r6 = 0 then (some (.inl (some (.int (0 : Int32))), M5)) else (dp_bv (dp_den true xs xl d 10 [.ref 108, .int v1, .int v2, .long v3] M5) (fun M7 => some (.inl (some (.int (1 : Int32))), M7)))))))) := by
  have hF := dp_den_grow (md := true) (xs := xs) (xl := xl) d
  unfold D_X11_amount_0
  refine dp_s1 hF (i := .aload_n 0) rfl (fun _ => rfl) ?_
  refine dp_s1 hF (i := .iload_n 1) rfl (fun _ => rfl) ?_
  refine dp_s1 hF (i := .iconst 0) rfl (fun _ => rfl) ?_
  refine dp_si (mj := dp_m_X11_isDeclarationIn) (i := .invokevirtual 778) rfl rfl (Or.inr rfl) rfl (fun _ => rfl) (fun r2 M1 => ?_)
  refine dp_s2 hF (i := .ifCond .eq 28) (a := (34, [some (.ref 0), some (.int v1), some (.int v2), some (.long v3), none], [], M1)) (b := (9, [some (.ref 0), some (.int v1), some (.int v2), some (.long v3), none], [], M1)) rfl (fun _ => rfl) ?_ ?_
  · refine dp_s1 hF (i := .iconst 0) rfl (fun _ => rfl) ?_
    exact dp_s0 hF (i := .ireturn) rfl (fun _ => rfl)
  refine dp_s1 hF (i := .iload_n 2) rfl (fun _ => rfl) ?_
  refine dp_s1 hF (i := .i2l) rfl (fun _ => rfl) ?_
  refine dp_s1 hF (i := .lconst 0) rfl (fun _ => rfl) ?_
  refine dp_s1 hF (i := .ldc2_w 428) rfl (fun _ => rfl) ?_
  refine dp_si (mj := dp_m_X11_within) (i := .invokestatic 96) rfl rfl (Or.inr rfl) rfl (fun _ => rfl) (fun r4 M3 => ?_)
  refine dp_s2 hF (i := .ifCond .eq 16) (a := (34, [some (.ref 0), some (.int v1), some (.int v2), some (.long v3), none], [], M3)) (b := (21, [some (.ref 0), some (.int v1), some (.int v2), some (.long v3), none], [], M3)) rfl (fun _ => rfl) ?_ ?_
  · refine dp_s1 hF (i := .iconst 0) rfl (fun _ => rfl) ?_
    exact dp_s0 hF (i := .ireturn) rfl (fun _ => rfl)
  refine dp_s1 hF (i := .lload_n 3) rfl (fun _ => rfl) ?_
  refine dp_s1 hF (i := .ldc2_w 646) rfl (fun _ => rfl) ?_
  refine dp_s1 hF (i := .ldc2_w 531) rfl (fun _ => rfl) ?_
  refine dp_si (mj := dp_m_X11_within) (i := .invokestatic 96) rfl rfl (Or.inr rfl) rfl (fun _ => rfl) (fun r6 M5 => ?_)
  refine dp_s2 hF (i := .ifCond .ne 5) (a := (34, [some (.ref 0), some (.int v1), some (.int v2), some (.long v3), none], [], M5)) (b := (36, [some (.ref 0), some (.int v1), some (.int v2), some (.long v3), none], [], M5)) rfl (fun _ => rfl) ?_ ?_
  · refine dp_s1 hF (i := .iconst 0) rfl (fun _ => rfl) ?_
    exact dp_s0 hF (i := .ireturn) rfl (fun _ => rfl)
  refine dp_s1 hF (i := .aload_n 0) rfl (fun _ => rfl) ?_
  refine dp_s1 hF (i := .getfield 80) rfl (fun _ => rfl) ?_
  refine dp_s1 hF (i := .iload_n 1) rfl (fun _ => rfl) ?_
  refine dp_s1 hF (i := .iload_n 2) rfl (fun _ => rfl) ?_
  refine dp_s1 hF (i := .lload_n 3) rfl (fun _ => rfl) ?_
  refine dp_sv (mj := dp_m_X0_setAmount) (i := .invokevirtual 781) rfl rfl rfl rfl (fun _ => rfl) (fun M7 => ?_)
  refine dp_s1 hF (i := .iconst 1) rfl (fun _ => rfl) ?_
  exact dp_s0 hF (i := .ireturn) rfl (fun _ => rfl)
noncomputable def D_X11_ask_0 (xs : Nat → Int32) (xl d : Nat) (v1 : Int32) (v2 : Int32) (v3 : Int64) (M : dp_M) : Option dp_Res := dp_lim true xs xl (dp_den true xs xl d) dp_m_X11_ask (0, [some (.ref 0), some (.int v1), some (.int v2), some (.long v3), none], [], M)
theorem D_X11_ask_0_den (xs : Nat → Int32) (xl d : Nat) (a0 : Int32) (a1 : Int32) (a2 : Int64) (M : dp_M) : dp_den true xs xl (d + 1) 350 [.ref 0, .int a0, .int a1, .long a2] M = D_X11_ask_0 xs xl d a0 a1 a2 M := rfl
set_option maxRecDepth 20000 in
theorem D_X11_ask_0_eq (xs : Nat → Int32) (xl d : Nat) (v1 : Int32) (v2 : Int32) (v3 : Int64) (M : dp_M) : D_X11_ask_0 xs xl d v1 v2 v3 M = dp_bi (dp_den true xs xl d 260 [.ref 0, .int v1, .int (0 : Int32)] M) (fun r2 M1 => if r2 = 0 then (dp_nk M1 0 (some (.inr 0, dp_new M1 0 0 6))) else (dp_bi (dp_den true xs xl d 251 [.long v3, .long (1 : Int64), .long (1000000 : Int64)] M1) (fun r4 M3 => if r4 = 0 then (dp_nk M3 0 (some (.inr 0, dp_new M3 0 0 6))) else (dp_bi (dp_den true xs xl d 256 [.ref 0, .int v2] M3) (fun r6 M5 => if r6 = 0 then (dp_nk M5 0 (some (.inr 2, dp_new M5 0 0 6))) else (if v1 < 0 ∨ 400 ≤ Int32.toNatClampNeg v1 then none else (if (dp_I M5 109 (Int32.toNatClampNeg v1)) = (-1 : Int32) then (dp_bi (dp_den true xs xl d 11 [.ref 108, .int v1, .int v2, .long v3] M5) (fun r8 M7 => if r8 = 0 then (some (.inl (some (.int (0 : Int32))), M7)) else (some (.inl (some (.int (1 : Int32))), M7)))) else (dp_nk M5 0 (some (.inr 1, dp_new M5 0 0 6)))))))))) := by
  have hF := dp_den_grow (md := true) (xs := xs) (xl := xl) d
  unfold D_X11_ask_0
  refine dp_s1 hF (i := .aload_n 0) rfl (fun _ => rfl) ?_
  refine dp_s1 hF (i := .iload_n 1) rfl (fun _ => rfl) ?_
  refine dp_s1 hF (i := .iconst 0) rfl (fun _ => rfl) ?_
  refine dp_si (mj := dp_m_X11_isDeclarationIn) (i := .invokevirtual 778) rfl rfl (Or.inr rfl) rfl (fun _ => rfl) (fun r2 M1 => ?_)
  refine dp_s2 hF (i := .ifCond .eq 14) (a := (20, [some (.ref 0), some (.int v1), some (.int v2), some (.long v3), none], [], M1)) (b := (9, [some (.ref 0), some (.int v1), some (.int v2), some (.long v3), none], [], M1)) rfl (fun _ => rfl) ?_ ?_
  · exact dp_s0 hF (i := .new 141) rfl (fun _ => rfl)
  refine dp_s1 hF (i := .lload_n 3) rfl (fun _ => rfl) ?_
  refine dp_s1 hF (i := .lconst 1) rfl (fun _ => rfl) ?_
  refine dp_s1 hF (i := .ldc2_w 785) rfl (fun _ => rfl) ?_
  refine dp_si (mj := dp_m_X11_within) (i := .invokestatic 96) rfl rfl (Or.inr rfl) rfl (fun _ => rfl) (fun r4 M3 => ?_)
  refine dp_s2 hF (i := .ifCond .ne 14) (a := (20, [some (.ref 0), some (.int v1), some (.int v2), some (.long v3), none], [], M3)) (b := (31, [some (.ref 0), some (.int v1), some (.int v2), some (.long v3), none], [], M3)) rfl (fun _ => rfl) ?_ ?_
  · exact dp_s0 hF (i := .new 141) rfl (fun _ => rfl)
  refine dp_s1 hF (i := .aload_n 0) rfl (fun _ => rfl) ?_
  refine dp_s1 hF (i := .iload_n 2) rfl (fun _ => rfl) ?_
  refine dp_si (mj := dp_m_X11_isOrder) (i := .invokevirtual 559) rfl rfl (Or.inr rfl) rfl (fun _ => rfl) (fun r6 M5 => ?_)
  refine dp_s2 hF (i := .ifCond .ne 14) (a := (39, [some (.ref 0), some (.int v1), some (.int v2), some (.long v3), none], [], M5)) (b := (50, [some (.ref 0), some (.int v1), some (.int v2), some (.long v3), none], [], M5)) rfl (fun _ => rfl) ?_ ?_
  · exact dp_s0 hF (i := .new 194) rfl (fun _ => rfl)
  refine dp_s1 hF (i := .aload_n 0) rfl (fun _ => rfl) ?_
  refine dp_s1 hF (i := .getfield 80) rfl (fun _ => rfl) ?_
  refine dp_s1 hF (i := .getfield 789) rfl (fun _ => rfl) ?_
  refine dp_s1 hF (i := .iload_n 1) rfl (fun _ => rfl) ?_
  refine dp_s3 hF (i := .iaload) rfl (fun _ => rfl) ?_
  refine dp_s1 hF (i := .iconst (-1)) rfl (fun _ => rfl) ?_
  refine dp_s2 hF (i := .if_icmp .eq 14) (a := (74, [some (.ref 0), some (.int v1), some (.int v2), some (.long v3), none], [], M5)) (b := (63, [some (.ref 0), some (.int v1), some (.int v2), some (.long v3), none], [], M5)) rfl (fun _ => rfl) ?_ ?_
  · refine dp_s1 hF (i := .aload_n 0) rfl (fun _ => rfl) ?_
    refine dp_s1 hF (i := .getfield 80) rfl (fun _ => rfl) ?_
    refine dp_s1 hF (i := .iload_n 1) rfl (fun _ => rfl) ?_
    refine dp_s1 hF (i := .iload_n 2) rfl (fun _ => rfl) ?_
    refine dp_s1 hF (i := .lload_n 3) rfl (fun _ => rfl) ?_
    refine dp_si (mj := dp_m_X0_addAsk) (i := .invokevirtual 794) rfl rfl (Or.inr rfl) rfl (fun _ => rfl) (fun r8 M7 => ?_)
    refine dp_s2 hF (i := .ifCond .eq 7) (a := (91, [some (.ref 0), some (.int v1), some (.int v2), some (.long v3), none], [], M7)) (b := (87, [some (.ref 0), some (.int v1), some (.int v2), some (.long v3), none], [], M7)) rfl (fun _ => rfl) ?_ ?_
    · refine dp_s1 hF (i := .iconst 0) rfl (fun _ => rfl) ?_
      exact dp_s0 hF (i := .ireturn) rfl (fun _ => rfl)
    refine dp_s1 hF (i := .iconst 1) rfl (fun _ => rfl) ?_
    refine dp_s1 hF (i := .goto 4) rfl (fun _ => rfl) ?_
    exact dp_s0 hF (i := .ireturn) rfl (fun _ => rfl)
  exact dp_s0 hF (i := .new 167) rfl (fun _ => rfl)
noncomputable def D_X11_again_0 (xs : Nat → Int32) (xl d : Nat) (v1 : Int32) (v2 : Int64) (M : dp_M) : Option dp_Res := dp_lim true xs xl (dp_den true xs xl d) dp_m_X11_again (0, [some (.ref 0), some (.int v1), some (.long v2), none], [], M)
theorem D_X11_again_0_den (xs : Nat → Int32) (xl d : Nat) (a0 : Int32) (a1 : Int64) (M : dp_M) : dp_den true xs xl (d + 1) 351 [.ref 0, .int a0, .long a1] M = D_X11_again_0 xs xl d a0 a1 M := rfl
set_option maxRecDepth 20000 in
theorem D_X11_again_0_eq (xs : Nat → Int32) (xl d : Nat) (v1 : Int32) (v2 : Int64) (M : dp_M) : D_X11_again_0 xs xl d v1 v2 M = dp_bi (dp_den true xs xl d 259 [.ref 0, .int v1] M) (fun r2 M1 => if r2 = 0 then (dp_nk M1 0 (some (.inr 0, dp_new M1 0 0 6))) else (dp_bi (dp_den true xs xl d 5 [.ref 108, .int v1] M1) (fun r4 M3 => if r4 = (4 : Int32) then (dp_nk M3 0 (some (.inr 0, dp_new M3 0 0 6))) else (if v1 < 0 ∨ 400 ≤ Int32.toNatClampNeg v1 then none else (if (dp_I M3 109 (Int32.toNatClampNeg v1)) = (-1 : Int32) then (dp_nk M3 0 (some (.inr 0, dp_new M3 0 0 6))) else (dp_bi (dp_den true xs xl d 251 [.long v2, .long (1 : Int64), .long (1000000 : Int64)] M3) (fun r6 M5 => if r6 = 0 then (dp_nk M5 0 (some (.inr 0, dp_new M5 0 0 6))) else (if v1 < 0 ∨ 400 ≤ Int32.toNatClampNeg v1 then none else (dp_bi (dp_den true xs xl d 120 [.ref 75, .int (dp_I M5 109 (Int32.toNatClampNeg v1)), .long v2] M5) (fun r8 M7 => some (.inl (some (.int r8)), M7))))))))))) := by
  have hF := dp_den_grow (md := true) (xs := xs) (xl := xl) d
  unfold D_X11_again_0
  refine dp_s1 hF (i := .aload_n 0) rfl (fun _ => rfl) ?_
  refine dp_s1 hF (i := .iload_n 1) rfl (fun _ => rfl) ?_
  refine dp_si (mj := dp_m_X11_isDeclaration) (i := .invokevirtual 119) rfl rfl (Or.inr rfl) rfl (fun _ => rfl) (fun r2 M1 => ?_)
  refine dp_s2 hF (i := .ifCond .eq 39) (a := (44, [some (.ref 0), some (.int v1), some (.long v2), none], [], M1)) (b := (8, [some (.ref 0), some (.int v1), some (.long v2), none], [], M1)) rfl (fun _ => rfl) ?_ ?_
  · exact dp_s0 hF (i := .new 141) rfl (fun _ => rfl)
  refine dp_s1 hF (i := .aload_n 0) rfl (fun _ => rfl) ?_
  refine dp_s1 hF (i := .getfield 80) rfl (fun _ => rfl) ?_
  refine dp_s1 hF (i := .iload_n 1) rfl (fun _ => rfl) ?_
  refine dp_si (mj := dp_m_X0_stateOf) (i := .invokevirtual 123) rfl rfl (Or.inl rfl) rfl (fun _ => rfl) (fun r4 M3 => ?_)
  refine dp_s1 hF (i := .iconst 4) rfl (fun _ => rfl) ?_
  refine dp_s2 hF (i := .if_icmp .eq 27) (a := (44, [some (.ref 0), some (.int v1), some (.long v2), none], [], M3)) (b := (20, [some (.ref 0), some (.int v1), some (.long v2), none], [], M3)) rfl (fun _ => rfl) ?_ ?_
  · exact dp_s0 hF (i := .new 141) rfl (fun _ => rfl)
  refine dp_s1 hF (i := .aload_n 0) rfl (fun _ => rfl) ?_
  refine dp_s1 hF (i := .getfield 80) rfl (fun _ => rfl) ?_
  refine dp_s1 hF (i := .getfield 789) rfl (fun _ => rfl) ?_
  refine dp_s1 hF (i := .iload_n 1) rfl (fun _ => rfl) ?_
  refine dp_s3 hF (i := .iaload) rfl (fun _ => rfl) ?_
  refine dp_s1 hF (i := .iconst (-1)) rfl (fun _ => rfl) ?_
  refine dp_s2 hF (i := .if_icmp .eq 14) (a := (44, [some (.ref 0), some (.int v1), some (.long v2), none], [], M3)) (b := (33, [some (.ref 0), some (.int v1), some (.long v2), none], [], M3)) rfl (fun _ => rfl) ?_ ?_
  · exact dp_s0 hF (i := .new 141) rfl (fun _ => rfl)
  refine dp_s1 hF (i := .lload_n 2) rfl (fun _ => rfl) ?_
  refine dp_s1 hF (i := .lconst 1) rfl (fun _ => rfl) ?_
  refine dp_s1 hF (i := .ldc2_w 785) rfl (fun _ => rfl) ?_
  refine dp_si (mj := dp_m_X11_within) (i := .invokestatic 96) rfl rfl (Or.inr rfl) rfl (fun _ => rfl) (fun r6 M5 => ?_)
  refine dp_s2 hF (i := .ifCond .ne 14) (a := (44, [some (.ref 0), some (.int v1), some (.long v2), none], [], M5)) (b := (55, [some (.ref 0), some (.int v1), some (.long v2), none], [], M5)) rfl (fun _ => rfl) ?_ ?_
  · exact dp_s0 hF (i := .new 141) rfl (fun _ => rfl)
  refine dp_s1 hF (i := .aload_n 0) rfl (fun _ => rfl) ?_
  refine dp_s1 hF (i := .getfield 57) rfl (fun _ => rfl) ?_
  refine dp_s1 hF (i := .aload_n 0) rfl (fun _ => rfl) ?_
  refine dp_s1 hF (i := .getfield 80) rfl (fun _ => rfl) ?_
  refine dp_s1 hF (i := .getfield 789) rfl (fun _ => rfl) ?_
  refine dp_s1 hF (i := .iload_n 1) rfl (fun _ => rfl) ?_
  refine dp_s3 hF (i := .iaload) rfl (fun _ => rfl) ?_
  refine dp_s1 hF (i := .lload_n 2) rfl (fun _ => rfl) ?_
  refine dp_si (mj := dp_m_X5_changeAsk) (i := .invokevirtual 799) rfl rfl (Or.inl rfl) rfl (fun _ => rfl) (fun r8 M7 => ?_)
  exact dp_s0 hF (i := .ireturn) rfl (fun _ => rfl)
noncomputable def D_X11_duty_0 (xs : Nat → Int32) (xl d : Nat) (v1 : Int32) (v2 : Int32) (M : dp_M) : Option dp_Res := dp_lim true xs xl (dp_den true xs xl d) dp_m_X11_duty (0, [some (.ref 0), some (.int v1), some (.int v2), none, none], [], M)
theorem D_X11_duty_0_den (xs : Nat → Int32) (xl d : Nat) (a0 : Int32) (a1 : Int32) (M : dp_M) : dp_den true xs xl (d + 1) 352 [.ref 0, .int a0, .int a1] M = D_X11_duty_0 xs xl d a0 a1 M := rfl
set_option maxRecDepth 20000 in
theorem D_X11_duty_0_eq (xs : Nat → Int32) (xl d : Nat) (v1 : Int32) (v2 : Int32) (M : dp_M) : D_X11_duty_0 xs xl d v1 v2 M = dp_bi (dp_den true xs xl d 259 [.ref 0, .int v1] M) (fun r2 M1 => if r2 = 0 then (dp_nk M1 0 (some (.inr 0, dp_new M1 0 0 6))) else (dp_bi (dp_den true xs xl d 261 [.int v2] M1) (fun r4 M3 => if r4 = 0 then (dp_nk M3 0 (some (.inr 0, dp_new M3 0 0 6))) else (dp_bl (dp_den true xs xl d 13 [.ref 108, .int v1, .int v2] M3) (fun r6 M5 => if (lg_cmp r6 (-1 : Int64)) = 0 then (dp_nk M5 0 (some (.inr 3, dp_new M5 0 0 6))) else (some (.inl (some (.long r6)), M5))))))) := by
  have hF := dp_den_grow (md := true) (xs := xs) (xl := xl) d
  unfold D_X11_duty_0
  refine dp_s1 hF (i := .aload_n 0) rfl (fun _ => rfl) ?_
  refine dp_s1 hF (i := .iload_n 1) rfl (fun _ => rfl) ?_
  refine dp_si (mj := dp_m_X11_isDeclaration) (i := .invokevirtual 119) rfl rfl (Or.inr rfl) rfl (fun _ => rfl) (fun r2 M1 => ?_)
  refine dp_s2 hF (i := .ifCond .eq 10) (a := (15, [some (.ref 0), some (.int v1), some (.int v2), none, none], [], M1)) (b := (8, [some (.ref 0), some (.int v1), some (.int v2), none, none], [], M1)) rfl (fun _ => rfl) ?_ ?_
  · exact dp_s0 hF (i := .new 141) rfl (fun _ => rfl)
  refine dp_s1 hF (i := .iload_n 2) rfl (fun _ => rfl) ?_
  refine dp_si (mj := dp_m_X11_isDay) (i := .invokestatic 129) rfl rfl (Or.inr rfl) rfl (fun _ => rfl) (fun r4 M3 => ?_)
  refine dp_s2 hF (i := .ifCond .ne 14) (a := (15, [some (.ref 0), some (.int v1), some (.int v2), none, none], [], M3)) (b := (26, [some (.ref 0), some (.int v1), some (.int v2), none, none], [], M3)) rfl (fun _ => rfl) ?_ ?_
  · exact dp_s0 hF (i := .new 141) rfl (fun _ => rfl)
  refine dp_s1 hF (i := .aload_n 0) rfl (fun _ => rfl) ?_
  refine dp_s1 hF (i := .getfield 80) rfl (fun _ => rfl) ?_
  refine dp_s1 hF (i := .iload_n 1) rfl (fun _ => rfl) ?_
  refine dp_s1 hF (i := .iload_n 2) rfl (fun _ => rfl) ?_
  refine dp_sl9 (mj := dp_m_X0_reckon) (i := .invokevirtual 805) rfl rfl rfl rfl (fun _ => rfl) (fun r6 M5 => ?_)
  refine dp_s1 hF (i := .lstore_n 3) rfl (fun _ => rfl) ?_
  refine dp_s1 hF (i := .lload_n 3) rfl (fun _ => rfl) ?_
  refine dp_s1 hF (i := .ldc2_w 646) rfl (fun _ => rfl) ?_
  refine dp_s1 hF (i := .lcmp) rfl (fun _ => rfl) ?_
  refine dp_s2 hF (i := .ifCond .ne 14) (a := (44, [some (.ref 0), some (.int v1), some (.int v2), some (.long r6), none], [], M5)) (b := (55, [some (.ref 0), some (.int v1), some (.int v2), some (.long r6), none], [], M5)) rfl (fun _ => rfl) ?_ ?_
  · exact dp_s0 hF (i := .new 538) rfl (fun _ => rfl)
  refine dp_s1 hF (i := .lload_n 3) rfl (fun _ => rfl) ?_
  exact dp_s0 hF (i := .lreturn) rfl (fun _ => rfl)
noncomputable def D_X11_assess_0 (xs : Nat → Int32) (xl d : Nat) (v1 : Int32) (v2 : Int32) (M : dp_M) : Option dp_Res := dp_lim true xs xl (dp_den true xs xl d) dp_m_X11_assess (0, [some (.ref 0), some (.int v1), some (.int v2), none, none], [], M)
theorem D_X11_assess_0_den (xs : Nat → Int32) (xl d : Nat) (a0 : Int32) (a1 : Int32) (M : dp_M) : dp_den true xs xl (d + 1) 353 [.ref 0, .int a0, .int a1] M = D_X11_assess_0 xs xl d a0 a1 M := rfl
set_option maxRecDepth 20000 in
theorem D_X11_assess_0_eq (xs : Nat → Int32) (xl d : Nat) (v1 : Int32) (v2 : Int32) (M : dp_M) : D_X11_assess_0 xs xl d v1 v2 M = dp_bi (dp_den true xs xl d 260 [.ref 0, .int v1, .int (0 : Int32)] M) (fun r2 M1 => if r2 = 0 then (dp_nk M1 0 (some (.inr 0, dp_new M1 0 0 6))) else (dp_bi (dp_den true xs xl d 261 [.int v2] M1) (fun r4 M3 => if r4 = 0 then (dp_nk M3 0 (some (.inr 0, dp_new M3 0 0 6))) else (dp_bl (dp_den true xs xl d 13 [.ref 108, .int v1, .int v2] M3) (fun r6 M5 => if (lg_cmp r6 (-1 : Int64)) = 0 then (dp_nk M5 0 (some (.inr 3, dp_new M5 0 0 6))) else (dp_bl (dp_den true xs xl d 18 [.ref 108, .int v1, .long r6] M5) (fun r8 M7 => some (.inl (some (.long r8)), M7)))))))) := by
  have hF := dp_den_grow (md := true) (xs := xs) (xl := xl) d
  unfold D_X11_assess_0
  refine dp_s1 hF (i := .aload_n 0) rfl (fun _ => rfl) ?_
  refine dp_s1 hF (i := .iload_n 1) rfl (fun _ => rfl) ?_
  refine dp_s1 hF (i := .iconst 0) rfl (fun _ => rfl) ?_
  refine dp_si (mj := dp_m_X11_isDeclarationIn) (i := .invokevirtual 778) rfl rfl (Or.inr rfl) rfl (fun _ => rfl) (fun r2 M1 => ?_)
  refine dp_s2 hF (i := .ifCond .eq 10) (a := (16, [some (.ref 0), some (.int v1), some (.int v2), none, none], [], M1)) (b := (9, [some (.ref 0), some (.int v1), some (.int v2), none, none], [], M1)) rfl (fun _ => rfl) ?_ ?_
  · exact dp_s0 hF (i := .new 141) rfl (fun _ => rfl)
  refine dp_s1 hF (i := .iload_n 2) rfl (fun _ => rfl) ?_
  refine dp_si (mj := dp_m_X11_isDay) (i := .invokestatic 129) rfl rfl (Or.inr rfl) rfl (fun _ => rfl) (fun r4 M3 => ?_)
  refine dp_s2 hF (i := .ifCond .ne 14) (a := (16, [some (.ref 0), some (.int v1), some (.int v2), none, none], [], M3)) (b := (27, [some (.ref 0), some (.int v1), some (.int v2), none, none], [], M3)) rfl (fun _ => rfl) ?_ ?_
  · exact dp_s0 hF (i := .new 141) rfl (fun _ => rfl)
  refine dp_s1 hF (i := .aload_n 0) rfl (fun _ => rfl) ?_
  refine dp_s1 hF (i := .getfield 80) rfl (fun _ => rfl) ?_
  refine dp_s1 hF (i := .iload_n 1) rfl (fun _ => rfl) ?_
  refine dp_s1 hF (i := .iload_n 2) rfl (fun _ => rfl) ?_
  refine dp_sl9 (mj := dp_m_X0_reckon) (i := .invokevirtual 805) rfl rfl rfl rfl (fun _ => rfl) (fun r6 M5 => ?_)
  refine dp_s1 hF (i := .lstore_n 3) rfl (fun _ => rfl) ?_
  refine dp_s1 hF (i := .lload_n 3) rfl (fun _ => rfl) ?_
  refine dp_s1 hF (i := .ldc2_w 646) rfl (fun _ => rfl) ?_
  refine dp_s1 hF (i := .lcmp) rfl (fun _ => rfl) ?_
  refine dp_s2 hF (i := .ifCond .ne 14) (a := (45, [some (.ref 0), some (.int v1), some (.int v2), some (.long r6), none], [], M5)) (b := (56, [some (.ref 0), some (.int v1), some (.int v2), some (.long r6), none], [], M5)) rfl (fun _ => rfl) ?_ ?_
  · exact dp_s0 hF (i := .new 538) rfl (fun _ => rfl)
  refine dp_s1 hF (i := .aload_n 0) rfl (fun _ => rfl) ?_
  refine dp_s1 hF (i := .getfield 80) rfl (fun _ => rfl) ?_
  refine dp_s1 hF (i := .iload_n 1) rfl (fun _ => rfl) ?_
  refine dp_s1 hF (i := .lload_n 3) rfl (fun _ => rfl) ?_
  refine dp_sl9 (mj := dp_m_X0_secure) (i := .invokevirtual 810) rfl rfl rfl rfl (fun _ => rfl) (fun r8 M7 => ?_)
  exact dp_s0 hF (i := .lreturn) rfl (fun _ => rfl)
noncomputable def D_X11_pay_0 (xs : Nat → Int32) (xl d : Nat) (v1 : Int32) (v2 : Int32) (M : dp_M) : Option dp_Res := dp_lim true xs xl (dp_den true xs xl d) dp_m_X11_pay (0, [some (.ref 0), some (.int v1), some (.int v2)], [], M)
theorem D_X11_pay_0_den (xs : Nat → Int32) (xl d : Nat) (a0 : Int32) (a1 : Int32) (M : dp_M) : dp_den true xs xl (d + 1) 354 [.ref 0, .int a0, .int a1] M = D_X11_pay_0 xs xl d a0 a1 M := rfl
set_option maxRecDepth 20000 in
theorem D_X11_pay_0_eq (xs : Nat → Int32) (xl d : Nat) (v1 : Int32) (v2 : Int32) (M : dp_M) : D_X11_pay_0 xs xl d v1 v2 M = dp_bi (dp_den true xs xl d 260 [.ref 0, .int v1, .int (1 : Int32)] M) (fun r2 M1 => if r2 = 0 then (dp_nk M1 0 (some (.inr 0, dp_new M1 0 0 6))) else (dp_bi (dp_den true xs xl d 263 [.int v2] M1) (fun r4 M3 => if r4 = 0 then (dp_nk M3 0 (some (.inr 0, dp_new M3 0 0 6))) else (dp_bl (dp_den true xs xl d 6 [.ref 108, .int v1] M3) (fun r6 M5 => if (lg_cmp r6 (0 : Int64)) = 0 then (dp_bi (dp_den true xs xl d 20 [.ref 108, .int v1, .int v2] M5) (fun r8 M7 => some (.inl (some (.int r8)), M7))) else (dp_bi (dp_den true xs xl d 87 [.ref 97, .int (2 : Int32), .int v2] M5) (fun r10 M9 => if r10 = 0 then (dp_nk M9 0 (some (.inr 1, dp_new M9 0 0 6))) else (dp_bi (dp_den true xs xl d 20 [.ref 108, .int v1, .int v2] M9) (fun r12 M11 => some (.inl (some (.int r12)), M11)))))))))) := by
  have hF := dp_den_grow (md := true) (xs := xs) (xl := xl) d
  unfold D_X11_pay_0
  refine dp_s1 hF (i := .aload_n 0) rfl (fun _ => rfl) ?_
  refine dp_s1 hF (i := .iload_n 1) rfl (fun _ => rfl) ?_
  refine dp_s1 hF (i := .iconst 1) rfl (fun _ => rfl) ?_
  refine dp_si (mj := dp_m_X11_isDeclarationIn) (i := .invokevirtual 778) rfl rfl (Or.inr rfl) rfl (fun _ => rfl) (fun r2 M1 => ?_)
  refine dp_s2 hF (i := .ifCond .eq 10) (a := (16, [some (.ref 0), some (.int v1), some (.int v2)], [], M1)) (b := (9, [some (.ref 0), some (.int v1), some (.int v2)], [], M1)) rfl (fun _ => rfl) ?_ ?_
  · exact dp_s0 hF (i := .new 141) rfl (fun _ => rfl)
  refine dp_s1 hF (i := .iload_n 2) rfl (fun _ => rfl) ?_
  refine dp_si (mj := dp_m_X11_isBookDay) (i := .invokestatic 667) rfl rfl (Or.inr rfl) rfl (fun _ => rfl) (fun r4 M3 => ?_)
  refine dp_s2 hF (i := .ifCond .ne 14) (a := (16, [some (.ref 0), some (.int v1), some (.int v2)], [], M3)) (b := (27, [some (.ref 0), some (.int v1), some (.int v2)], [], M3)) rfl (fun _ => rfl) ?_ ?_
  · exact dp_s0 hF (i := .new 141) rfl (fun _ => rfl)
  refine dp_s1 hF (i := .aload_n 0) rfl (fun _ => rfl) ?_
  refine dp_s1 hF (i := .getfield 80) rfl (fun _ => rfl) ?_
  refine dp_s1 hF (i := .iload_n 1) rfl (fun _ => rfl) ?_
  refine dp_sl9 (mj := dp_m_X0_dutyOf) (i := .invokevirtual 814) rfl rfl rfl rfl (fun _ => rfl) (fun r6 M5 => ?_)
  refine dp_s1 hF (i := .lconst 0) rfl (fun _ => rfl) ?_
  refine dp_s1 hF (i := .lcmp) rfl (fun _ => rfl) ?_
  refine dp_s2 hF (i := .ifCond .eq 26) (a := (63, [some (.ref 0), some (.int v1), some (.int v2)], [], M5)) (b := (40, [some (.ref 0), some (.int v1), some (.int v2)], [], M5)) rfl (fun _ => rfl) ?_ ?_
  · refine dp_s1 hF (i := .aload_n 0) rfl (fun _ => rfl) ?_
    refine dp_s1 hF (i := .getfield 80) rfl (fun _ => rfl) ?_
    refine dp_s1 hF (i := .iload_n 1) rfl (fun _ => rfl) ?_
    refine dp_s1 hF (i := .iload_n 2) rfl (fun _ => rfl) ?_
    refine dp_si (mj := dp_m_X0_settle) (i := .invokevirtual 819) rfl rfl (Or.inl rfl) rfl (fun _ => rfl) (fun r8 M7 => ?_)
    exact dp_s0 hF (i := .ireturn) rfl (fun _ => rfl)
  refine dp_s1 hF (i := .aload_n 0) rfl (fun _ => rfl) ?_
  refine dp_s1 hF (i := .getfield 71) rfl (fun _ => rfl) ?_
  refine dp_s1 hF (i := .iconst 2) rfl (fun _ => rfl) ?_
  refine dp_s1 hF (i := .iload_n 2) rfl (fun _ => rfl) ?_
  refine dp_si (mj := dp_m_X3_wouldTake) (i := .invokevirtual 719) rfl rfl (Or.inr rfl) rfl (fun _ => rfl) (fun r10 M9 => ?_)
  refine dp_s2 hF (i := .ifCond .ne 14) (a := (52, [some (.ref 0), some (.int v1), some (.int v2)], [], M9)) (b := (63, [some (.ref 0), some (.int v1), some (.int v2)], [], M9)) rfl (fun _ => rfl) ?_ ?_
  · exact dp_s0 hF (i := .new 167) rfl (fun _ => rfl)
  refine dp_s1 hF (i := .aload_n 0) rfl (fun _ => rfl) ?_
  refine dp_s1 hF (i := .getfield 80) rfl (fun _ => rfl) ?_
  refine dp_s1 hF (i := .iload_n 1) rfl (fun _ => rfl) ?_
  refine dp_s1 hF (i := .iload_n 2) rfl (fun _ => rfl) ?_
  refine dp_si (mj := dp_m_X0_settle) (i := .invokevirtual 819) rfl rfl (Or.inl rfl) rfl (fun _ => rfl) (fun r12 M11 => ?_)
  exact dp_s0 hF (i := .ireturn) rfl (fun _ => rfl)
