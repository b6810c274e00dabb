noncomputable def D_L_cell_0 (xs : Nat → Int32) (xl d : Nat) (v1 : Int32) (M : dp_M) : Option dp_Res := dp_lim true xs xl (dp_den true xs xl d) dp_m_L_cell (0, [some (.retAddr 0), some (.int v1)], [], M)
theorem D_L_cell_0_den (xs : Nat → Int32) (xl d : Nat) (a1 : Int32) (M : dp_M) : dp_den true xs xl (d + 1) 594 [.retAddr 0, .int a1] M = D_L_cell_0 xs xl d a1 M := rfl
set_option maxRecDepth 20000 in
theorem D_L_cell_0_eq (xs : Nat → Int32) (xl d : Nat) (v1 : Int32) (M : dp_M) : D_L_cell_0 xs xl d v1 M = if (Int32.ofNat xl) ≤ v1 then (some (.inl (some (.int (0 : Int32))), M)) else (if v1 < 0 ∨ xl ≤ Int32.toNatClampNeg v1 then none else (some (.inl (some (.int (xs (Int32.toNatClampNeg v1)))), M))) := by
  have hF := dp_den_grow (md := true) (xs := xs) (xl := xl) d
  unfold D_L_cell_0
  refine dp_s1 hF (i := .iload_n 1) rfl (fun _ => rfl) ?_
  refine dp_s1 hF (i := .aload_n 0) rfl (fun _ => rfl) ?_
  refine dp_s1 hF (i := .arraylength) rfl (fun _ => rfl) ?_
  refine dp_s2 hF (i := .if_icmp .ge 9) (a := (12, [some (.retAddr 0), some (.int v1)], [], M)) (b := (6, [some (.retAddr 0), some (.int v1)], [], M)) rfl (fun _ => rfl) ?_ ?_
  · refine dp_s1 hF (i := .iconst 0) rfl (fun _ => rfl) ?_
    exact dp_s0 hF (i := .ireturn) rfl (fun _ => rfl)
  refine dp_s1 hF (i := .aload_n 0) rfl (fun _ => rfl) ?_
  refine dp_s1 hF (i := .iload_n 1) rfl (fun _ => rfl) ?_
  refine dp_s3 hF (i := .iaload) rfl (fun _ => rfl) ?_
  refine dp_s1 hF (i := .goto 4) rfl (fun _ => rfl) ?_
  exact dp_s0 hF (i := .ireturn) rfl (fun _ => rfl)
noncomputable def D_L_box_0 (xs : Nat → Int32) (xl d : Nat) (v1 : Int32) (v2 : Int32) (v3 : Int32) (v4 : Int32) (v5 : Int32) (v6 : Int32) (v7 : Int32) (M : dp_M) : Option dp_Res := dp_lim true xs xl (dp_den true xs xl d) dp_m_L_box (0, [some (.ref 0), some (.int v1), some (.int v2), some (.int v3), some (.int v4), some (.int v5), some (.int v6), some (.int v7), some (.ref 245), none], [], M)
theorem D_L_box_0_den (xs : Nat → Int32) (xl d : Nat) (a1 : Int32) (a2 : Int32) (a3 : Int32) (a4 : Int32) (a5 : Int32) (a6 : Int32) (a7 : Int32) (M : dp_M) : dp_den true xs xl (d + 1) 595 [.ref 0, .int a1, .int a2, .int a3, .int a4, .int a5, .int a6, .int a7, .ref 245] M = D_L_box_0 xs xl d a1 a2 a3 a4 a5 a6 a7 M := rfl
set_option maxRecDepth 20000 in
theorem D_L_box_0_eq (xs : Nat → Int32) (xl d : Nat) (v1 : Int32) (v2 : Int32) (v3 : Int32) (v4 : Int32) (v5 : Int32) (v6 : Int32) (v7 : Int32) (M : dp_M) : D_L_box_0 xs xl d v1 v2 v3 v4 v5 v6 v7 M = dp_ti (dp_den true xs xl d 264 [.ref 0, .int v1, .int v2, .int v3, .int v4, .int v5, .int v6, .int v7] M) (fun r2 M1 => if (0 : Int32) < 0 ∨ 1 ≤ Int32.toNatClampNeg (0 : Int32) then none else dp_w (dp_setJ M1 245 (Int32.toNatClampNeg (0 : Int32)) (Int32.toInt64 r2)) (fun M3 => some (.inl (some (.int (0 : Int32))), M3))) (fun e9 M4 => dp_x4 e9 (some (.inl (some (.int (1 : Int32))), M4)) (some (.inl (some (.int (2 : Int32))), M4)) (none) (none)) := by
  have hF := dp_den_grow (md := true) (xs := xs) (xl := xl) d
  unfold D_L_box_0
  refine dp_s1 hF (i := .aload 8) rfl (fun _ => rfl) ?_
  refine dp_s1 hF (i := .iconst 0) rfl (fun _ => rfl) ?_
  refine dp_s1 hF (i := .aload_n 0) rfl (fun _ => rfl) ?_
  refine dp_s1 hF (i := .iload_n 1) rfl (fun _ => rfl) ?_
  refine dp_s1 hF (i := .iload_n 2) rfl (fun _ => rfl) ?_
  refine dp_s1 hF (i := .iload_n 3) rfl (fun _ => rfl) ?_
  refine dp_s1 hF (i := .iload 4) rfl (fun _ => rfl) ?_
  refine dp_s1 hF (i := .iload 5) rfl (fun _ => rfl) ?_
  refine dp_s1 hF (i := .iload 6) rfl (fun _ => rfl) ?_
  refine dp_s1 hF (i := .iload 7) rfl (fun _ => rfl) ?_
  refine dp_ci9 (mj := dp_m_X11_box) (i := .invokevirtual 7) rfl ⟨_, _, rfl⟩ (Or.inl rfl) rfl (fun _ => rfl) (fun r2 M1 => ?_) ?_
  · refine dp_s1 hF (i := .i2l) rfl (fun _ => rfl) ?_
    refine dp_s3w (dp_setJ M1 245 (Int32.toNatClampNeg (0 : Int32)) (Int32.toInt64 r2)) (fun (M3 : dp_M) => (20, [some (.ref 0), some (.int v1), some (.int v2), some (.int v3), some (.int v4), some (.int v5), some (.int v6), some (.int v7), some (.ref 245), none], [], M3)) hF (i := .lastore) rfl (fun _ => rfl) (fun M3 => ?_)
    refine dp_s1 hF (i := .goto 11) rfl (fun _ => rfl) ?_
    refine dp_s1 hF (i := .iconst 0) rfl (fun _ => rfl) ?_
    exact dp_s0 hF (i := .ireturn) rfl (fun _ => rfl)
  refine dp_ct4 (fun M4 => ?_) (fun M4 => ?_) (fun M4 => ?_) (fun M4 => ?_)
  · refine dp_ct_s (h := 25) (a := 9) rfl (Nat.le_of_ble_eq_true rfl) ?_
    refine dp_s1 hF (i := .iconst 1) rfl (fun _ => rfl) ?_
    exact dp_s0 hF (i := .ireturn) rfl (fun _ => rfl)
  · refine dp_ct_s (h := 29) (a := 9) rfl (Nat.le_of_ble_eq_true rfl) ?_
    refine dp_s1 hF (i := .iconst 2) rfl (fun _ => rfl) ?_
    exact dp_s0 hF (i := .ireturn) rfl (fun _ => rfl)
  · exact dp_ct_n rfl
  · exact dp_ct_n rfl
noncomputable def D_L_plan_0 (xs : Nat → Int32) (xl d : Nat) (v1 : Int32) (M : dp_M) : Option dp_Res := dp_lim true xs xl (dp_den true xs xl d) dp_m_L_plan (0, [some (.ref 0), some (.int v1), some (.ref 245), none], [], M)
theorem D_L_plan_0_den (xs : Nat → Int32) (xl d : Nat) (a1 : Int32) (M : dp_M) : dp_den true xs xl (d + 1) 596 [.ref 0, .int a1, .ref 245] M = D_L_plan_0 xs xl d a1 M := rfl
set_option maxRecDepth 20000 in
theorem D_L_plan_0_eq (xs : Nat → Int32) (xl d : Nat) (v1 : Int32) (M : dp_M) : D_L_plan_0 xs xl d v1 M = dp_ti (dp_den true xs xl d 266 [.ref 0, .int v1] M) (fun r2 M1 => if (0 : Int32) < 0 ∨ 1 ≤ Int32.toNatClampNeg (0 : Int32) then none else dp_w (dp_setJ M1 245 (Int32.toNatClampNeg (0 : Int32)) (Int32.toInt64 r2)) (fun M3 => some (.inl (some (.int (0 : Int32))), M3))) (fun e9 M4 => dp_x4 e9 (some (.inl (some (.int (1 : Int32))), M4)) (none) (none) (none)) := by
  have hF := dp_den_grow (md := true) (xs := xs) (xl := xl) d
  unfold D_L_plan_0
  refine dp_s1 hF (i := .aload_n 2) rfl (fun _ => rfl) ?_
  refine dp_s1 hF (i := .iconst 0) rfl (fun _ => rfl) ?_
  refine dp_s1 hF (i := .aload_n 0) rfl (fun _ => rfl) ?_
  refine dp_s1 hF (i := .iload_n 1) rfl (fun _ => rfl) ?_
  refine dp_ci9 (mj := dp_m_X11_plan) (i := .invokevirtual 17) rfl ⟨_, _, rfl⟩ (Or.inl rfl) rfl (fun _ => rfl) (fun r2 M1 => ?_) ?_
  · refine dp_s1 hF (i := .i2l) rfl (fun _ => rfl) ?_
    refine dp_s3w (dp_setJ M1 245 (Int32.toNatClampNeg (0 : Int32)) (Int32.toInt64 r2)) (fun (M3 : dp_M) => (9, [some (.ref 0), some (.int v1), some (.ref 245), none], [], M3)) hF (i := .lastore) rfl (fun _ => rfl) (fun M3 => ?_)
    refine dp_s1 hF (i := .goto 6) rfl (fun _ => rfl) ?_
    refine dp_s1 hF (i := .iconst 0) rfl (fun _ => rfl) ?_
    exact dp_s0 hF (i := .ireturn) rfl (fun _ => rfl)
  refine dp_ct4 (fun M4 => ?_) (fun M4 => ?_) (fun M4 => ?_) (fun M4 => ?_)
  · refine dp_ct_s (h := 13) (a := 3) rfl (Nat.le_of_ble_eq_true rfl) ?_
    refine dp_s1 hF (i := .iconst 1) rfl (fun _ => rfl) ?_
    exact dp_s0 hF (i := .ireturn) rfl (fun _ => rfl)
  · exact dp_ct_n rfl
  · exact dp_ct_n rfl
  · exact dp_ct_n rfl
noncomputable def D_L_move_0 (xs : Nat → Int32) (xl d : Nat) (v1 : Int32) (v2 : Int32) (v3 : Int32) (M : dp_M) : Option dp_Res := dp_lim true xs xl (dp_den true xs xl d) dp_m_L_move (0, [some (.ref 0), some (.int v1), some (.int v2), some (.int v3), some (.ref 245), none], [], M)
theorem D_L_move_0_den (xs : Nat → Int32) (xl d : Nat) (a1 : Int32) (a2 : Int32) (a3 : Int32) (M : dp_M) : dp_den true xs xl (d + 1) 597 [.ref 0, .int a1, .int a2, .int a3, .ref 245] M = D_L_move_0 xs xl d a1 a2 a3 M := rfl
set_option maxRecDepth 20000 in
theorem D_L_move_0_eq (xs : Nat → Int32) (xl d : Nat) (v1 : Int32) (v2 : Int32) (v3 : Int32) (M : dp_M) : D_L_move_0 xs xl d v1 v2 v3 M = dp_ti (dp_den true xs xl d 267 [.ref 0, .int v1, .int v2, .int v3] M) (fun r2 M1 => if (0 : Int32) < 0 ∨ 1 ≤ Int32.toNatClampNeg (0 : Int32) then none else dp_w (dp_setJ M1 245 (Int32.toNatClampNeg (0 : Int32)) (Int32.toInt64 r2)) (fun M3 => some (.inl (some (.int (0 : Int32))), M3))) (fun e9 M4 => dp_x4 e9 (none) (none) (some (.inl (some (.int (1 : Int32))), M4)) (none)) := by
  have hF := dp_den_grow (md := true) (xs := xs) (xl := xl) d
  unfold D_L_move_0
  refine dp_s1 hF (i := .aload 4) rfl (fun _ => rfl) ?_
  refine dp_s1 hF (i := .iconst 0) rfl (fun _ => rfl) ?_
  refine dp_s1 hF (i := .aload_n 0) rfl (fun _ => rfl) ?_
  refine dp_s1 hF (i := .iload_n 1) rfl (fun _ => rfl) ?_
  refine dp_s1 hF (i := .iload_n 2) rfl (fun _ => rfl) ?_
  refine dp_s1 hF (i := .iload_n 3) rfl (fun _ => rfl) ?_
  refine dp_ci9 (mj := dp_m_X11_move) (i := .invokevirtual 21) rfl ⟨_, _, rfl⟩ (Or.inl rfl) rfl (fun _ => rfl) (fun r2 M1 => ?_) ?_
  · refine dp_s1 hF (i := .i2l) rfl (fun _ => rfl) ?_
    refine dp_s3w (dp_setJ M1 245 (Int32.toNatClampNeg (0 : Int32)) (Int32.toInt64 r2)) (fun (M3 : dp_M) => (12, [some (.ref 0), some (.int v1), some (.int v2), some (.int v3), some (.ref 245), none], [], M3)) hF (i := .lastore) rfl (fun _ => rfl) (fun M3 => ?_)
    refine dp_s1 hF (i := .goto 7) rfl (fun _ => rfl) ?_
    refine dp_s1 hF (i := .iconst 0) rfl (fun _ => rfl) ?_
    exact dp_s0 hF (i := .ireturn) rfl (fun _ => rfl)
  refine dp_ct4 (fun M4 => ?_) (fun M4 => ?_) (fun M4 => ?_) (fun M4 => ?_)
  · exact dp_ct_n rfl
  · exact dp_ct_n rfl
  · refine dp_ct_s (h := 17) (a := 5) rfl (Nat.le_of_ble_eq_true rfl) ?_
    refine dp_s1 hF (i := .iconst 1) rfl (fun _ => rfl) ?_
    exact dp_s0 hF (i := .ireturn) rfl (fun _ => rfl)
  · exact dp_ct_n rfl
noncomputable def D_L_work_0 (xs : Nat → Int32) (xl d : Nat) (v1 : Int32) (M : dp_M) : Option dp_Res := dp_lim true xs xl (dp_den true xs xl d) dp_m_L_work (0, [some (.ref 0), some (.int v1), some (.ref 245), none], [], M)
theorem D_L_work_0_den (xs : Nat → Int32) (xl d : Nat) (a1 : Int32) (M : dp_M) : dp_den true xs xl (d + 1) 598 [.ref 0, .int a1, .ref 245] M = D_L_work_0 xs xl d a1 M := rfl
set_option maxRecDepth 20000 in
theorem D_L_work_0_eq (xs : Nat → Int32) (xl d : Nat) (v1 : Int32) (M : dp_M) : D_L_work_0 xs xl d v1 M = dp_ti (dp_den true xs xl d 268 [.ref 0, .int v1] M) (fun r2 M1 => if (0 : Int32) < 0 ∨ 1 ≤ Int32.toNatClampNeg (0 : Int32) then none else dp_w (dp_setJ M1 245 (Int32.toNatClampNeg (0 : Int32)) (Int32.toInt64 r2)) (fun M3 => some (.inl (some (.int (0 : Int32))), M3))) (fun e9 M4 => dp_x4 e9 (some (.inl (some (.int (1 : Int32))), M4)) (some (.inl (some (.int (2 : Int32))), M4)) (none) (none)) := by
  have hF := dp_den_grow (md := true) (xs := xs) (xl := xl) d
  unfold D_L_work_0
  refine dp_s1 hF (i := .aload_n 2) rfl (fun _ => rfl) ?_
  refine dp_s1 hF (i := .iconst 0) rfl (fun _ => rfl) ?_
  refine dp_s1 hF (i := .aload_n 0) rfl (fun _ => rfl) ?_
  refine dp_s1 hF (i := .iload_n 1) rfl (fun _ => rfl) ?_
  refine dp_ci9 (mj := dp_m_X11_work) (i := .invokevirtual 27) rfl ⟨_, _, rfl⟩ (Or.inl rfl) rfl (fun _ => rfl) (fun r2 M1 => ?_) ?_
  · refine dp_s1 hF (i := .i2l) rfl (fun _ => rfl) ?_
    refine dp_s3w (dp_setJ M1 245 (Int32.toNatClampNeg (0 : Int32)) (Int32.toInt64 r2)) (fun (M3 : dp_M) => (9, [some (.ref 0), some (.int v1), some (.ref 245), none], [], M3)) hF (i := .lastore) rfl (fun _ => rfl) (fun M3 => ?_)
    refine dp_s1 hF (i := .goto 9) rfl (fun _ => rfl) ?_
    refine dp_s1 hF (i := .iconst 0) rfl (fun _ => rfl) ?_
    exact dp_s0 hF (i := .ireturn) rfl (fun _ => rfl)
  refine dp_ct4 (fun M4 => ?_) (fun M4 => ?_) (fun M4 => ?_) (fun M4 => ?_)
  · refine dp_ct_s (h := 13) (a := 3) rfl (Nat.le_of_ble_eq_true rfl) ?_
    refine dp_s1 hF (i := .iconst 1) rfl (fun _ => rfl) ?_
    exact dp_s0 hF (i := .ireturn) rfl (fun _ => rfl)
  · refine dp_ct_s (h := 16) (a := 3) rfl (Nat.le_of_ble_eq_true rfl) ?_
    refine dp_s1 hF (i := .iconst 2) rfl (fun _ => rfl) ?_
    exact dp_s0 hF (i := .ireturn) rfl (fun _ => rfl)
  · exact dp_ct_n rfl
  · exact dp_ct_n rfl
noncomputable def D_L_least_0 (xs : Nat → Int32) (xl d : Nat) (v1 : Int32) (M : dp_M) : Option dp_Res := dp_lim true xs xl (dp_den true xs xl d) dp_m_L_least (0, [some (.ref 0), some (.int v1), some (.ref 245), none], [], M)
theorem D_L_least_0_den (xs : Nat → Int32) (xl d : Nat) (a1 : Int32) (M : dp_M) : dp_den true xs xl (d + 1) 599 [.ref 0, .int a1, .ref 245] M = D_L_least_0 xs xl d a1 M := rfl
set_option maxRecDepth 20000 in
theorem D_L_least_0_eq (xs : Nat → Int32) (xl d : Nat) (v1 : Int32) (M : dp_M) : D_L_least_0 xs xl d v1 M = dp_ti (dp_den true xs xl d 269 [.ref 0, .int v1] M) (fun r2 M1 => if (0 : Int32) < 0 ∨ 1 ≤ Int32.toNatClampNeg (0 : Int32) then none else dp_w (dp_setJ M1 245 (Int32.toNatClampNeg (0 : Int32)) (Int32.toInt64 r2)) (fun M3 => some (.inl (some (.int (0 : Int32))), M3))) (fun e9 M4 => dp_x4 e9 (some (.inl (some (.int (1 : Int32))), M4)) (none) (none) (none)) := by
  have hF := dp_den_grow (md := true) (xs := xs) (xl := xl) d
  unfold D_L_least_0
  refine dp_s1 hF (i := .aload_n 2) rfl (fun _ => rfl) ?_
  refine dp_s1 hF (i := .iconst 0) rfl (fun _ => rfl) ?_
  refine dp_s1 hF (i := .aload_n 0) rfl (fun _ => rfl) ?_
  refine dp_s1 hF (i := .iload_n 1) rfl (fun _ => rfl) ?_
  refine dp_ci9 (mj := dp_m_X11_least) (i := .invokevirtual 30) rfl ⟨_, _, rfl⟩ (Or.inl rfl) rfl (fun _ => rfl) (fun r2 M1 => ?_) ?_
  · refine dp_s1 hF (i := .i2l) rfl (fun _ => rfl) ?_
    refine dp_s3w (dp_setJ M1 245 (Int32.toNatClampNeg (0 : Int32)) (Int32.toInt64 r2)) (fun (M3 : dp_M) => (9, [some (.ref 0), some (.int v1), some (.ref 245), none], [], M3)) hF (i := .lastore) rfl (fun _ => rfl) (fun M3 => ?_)
    refine dp_s1 hF (i := .goto 6) rfl (fun _ => rfl) ?_
    refine dp_s1 hF (i := .iconst 0) rfl (fun _ => rfl) ?_
    exact dp_s0 hF (i := .ireturn) rfl (fun _ => rfl)
  refine dp_ct4 (fun M4 => ?_) (fun M4 => ?_) (fun M4 => ?_) (fun M4 => ?_)
  · refine dp_ct_s (h := 13) (a := 3) rfl (Nat.le_of_ble_eq_true rfl) ?_
    refine dp_s1 hF (i := .iconst 1) rfl (fun _ => rfl) ?_
    exact dp_s0 hF (i := .ireturn) rfl (fun _ => rfl)
  · exact dp_ct_n rfl
  · exact dp_ct_n rfl
  · exact dp_ct_n rfl
noncomputable def D_L_swap_0 (xs : Nat → Int32) (xl d : Nat) (v1 : Int32) (v2 : Int32) (M : dp_M) : Option dp_Res := dp_lim true xs xl (dp_den true xs xl d) dp_m_L_swap (0, [some (.ref 0), some (.int v1), some (.int v2), some (.ref 245), none], [], M)
theorem D_L_swap_0_den (xs : Nat → Int32) (xl d : Nat) (a1 : Int32) (a2 : Int32) (M : dp_M) : dp_den true xs xl (d + 1) 600 [.ref 0, .int a1, .int a2, .ref 245] M = D_L_swap_0 xs xl d a1 a2 M := rfl
set_option maxRecDepth 20000 in
theorem D_L_swap_0_eq (xs : Nat → Int32) (xl d : Nat) (v1 : Int32) (v2 : Int32) (M : dp_M) : D_L_swap_0 xs xl d v1 v2 M = dp_ti (dp_den true xs xl d 270 [.ref 0, .int v1, .int v2] M) (fun r2 M1 => if (0 : Int32) < 0 ∨ 1 ≤ Int32.toNatClampNeg (0 : Int32) then none else dp_w (dp_setJ M1 245 (Int32.toNatClampNeg (0 : Int32)) (Int32.toInt64 r2)) (fun M3 => some (.inl (some (.int (0 : Int32))), M3))) (fun e9 M4 => dp_x4 e9 (some (.inl (some (.int (1 : Int32))), M4)) (none) (none) (none)) := by
  have hF := dp_den_grow (md := true) (xs := xs) (xl := xl) d
  unfold D_L_swap_0
  refine dp_s1 hF (i := .aload_n 3) rfl (fun _ => rfl) ?_
  refine dp_s1 hF (i := .iconst 0) rfl (fun _ => rfl) ?_
  refine dp_s1 hF (i := .aload_n 0) rfl (fun _ => rfl) ?_
  refine dp_s1 hF (i := .iload_n 1) rfl (fun _ => rfl) ?_
  refine dp_s1 hF (i := .iload_n 2) rfl (fun _ => rfl) ?_
  refine dp_ci9 (mj := dp_m_X11_swap) (i := .invokevirtual 33) rfl ⟨_, _, rfl⟩ (Or.inl rfl) rfl (fun _ => rfl) (fun r2 M1 => ?_) ?_
  · refine dp_s1 hF (i := .i2l) rfl (fun _ => rfl) ?_
    refine dp_s3w (dp_setJ M1 245 (Int32.toNatClampNeg (0 : Int32)) (Int32.toInt64 r2)) (fun (M3 : dp_M) => (10, [some (.ref 0), some (.int v1), some (.int v2), some (.ref 245), none], [], M3)) hF (i := .lastore) rfl (fun _ => rfl) (fun M3 => ?_)
    refine dp_s1 hF (i := .goto 7) rfl (fun _ => rfl) ?_
    refine dp_s1 hF (i := .iconst 0) rfl (fun _ => rfl) ?_
    exact dp_s0 hF (i := .ireturn) rfl (fun _ => rfl)
  refine dp_ct4 (fun M4 => ?_) (fun M4 => ?_) (fun M4 => ?_) (fun M4 => ?_)
  · refine dp_ct_s (h := 15) (a := 4) rfl (Nat.le_of_ble_eq_true rfl) ?_
    refine dp_s1 hF (i := .iconst 1) rfl (fun _ => rfl) ?_
    exact dp_s0 hF (i := .ireturn) rfl (fun _ => rfl)
  · exact dp_ct_n rfl
  · exact dp_ct_n rfl
  · exact dp_ct_n rfl
noncomputable def D_L_aboard_0 (xs : Nat → Int32) (xl d : Nat) (v1 : Int32) (v2 : Int32) (M : dp_M) : Option dp_Res := dp_lim true xs xl (dp_den true xs xl d) dp_m_L_aboard (0, [some (.ref 0), some (.int v1), some (.int v2), some (.ref 245), none], [], M)
theorem D_L_aboard_0_den (xs : Nat → Int32) (xl d : Nat) (a1 : Int32) (a2 : Int32) (M : dp_M) : dp_den true xs xl (d + 1) 601 [.ref 0, .int a1, .int a2, .ref 245] M = D_L_aboard_0 xs xl d a1 a2 M := rfl
set_option maxRecDepth 20000 in
theorem D_L_aboard_0_eq (xs : Nat → Int32) (xl d : Nat) (v1 : Int32) (v2 : Int32) (M : dp_M) : D_L_aboard_0 xs xl d v1 v2 M = dp_ti (dp_den true xs xl d 271 [.ref 0, .int v1, .int v2] M) (fun r2 M1 => if (0 : Int32) < 0 ∨ 1 ≤ Int32.toNatClampNeg (0 : Int32) then none else dp_w (dp_setJ M1 245 (Int32.toNatClampNeg (0 : Int32)) (Int32.toInt64 r2)) (fun M3 => some (.inl (some (.int (0 : Int32))), M3))) (fun e9 M4 => dp_x4 e9 (none) (none) (some (.inl (some (.int (1 : Int32))), M4)) (none)) := by
  have hF := dp_den_grow (md := true) (xs := xs) (xl := xl) d
  unfold D_L_aboard_0
  refine dp_s1 hF (i := .aload_n 3) rfl (fun _ => rfl) ?_
  refine dp_s1 hF (i := .iconst 0) rfl (fun _ => rfl) ?_
  refine dp_s1 hF (i := .aload_n 0) rfl (fun _ => rfl) ?_
  refine dp_s1 hF (i := .iload_n 1) rfl (fun _ => rfl) ?_
  refine dp_s1 hF (i := .iload_n 2) rfl (fun _ => rfl) ?_
  refine dp_ci9 (mj := dp_m_X11_aboard) (i := .invokevirtual 37) rfl ⟨_, _, rfl⟩ (Or.inl rfl) rfl (fun _ => rfl) (fun r2 M1 => ?_) ?_
  · refine dp_s1 hF (i := .i2l) rfl (fun _ => rfl) ?_
    refine dp_s3w (dp_setJ M1 245 (Int32.toNatClampNeg (0 : Int32)) (Int32.toInt64 r2)) (fun (M3 : dp_M) => (10, [some (.ref 0), some (.int v1), some (.int v2), some (.ref 245), none], [], M3)) hF (i := .lastore) rfl (fun _ => rfl) (fun M3 => ?_)
    refine dp_s1 hF (i := .goto 7) rfl (fun _ => rfl) ?_
    refine dp_s1 hF (i := .iconst 0) rfl (fun _ => rfl) ?_
    exact dp_s0 hF (i := .ireturn) rfl (fun _ => rfl)
  refine dp_ct4 (fun M4 => ?_) (fun M4 => ?_) (fun M4 => ?_) (fun M4 => ?_)
  · exact dp_ct_n rfl
  · exact dp_ct_n rfl
  · refine dp_ct_s (h := 15) (a := 4) rfl (Nat.le_of_ble_eq_true rfl) ?_
    refine dp_s1 hF (i := .iconst 1) rfl (fun _ => rfl) ?_
    exact dp_s0 hF (i := .ireturn) rfl (fun _ => rfl)
  · exact dp_ct_n rfl
noncomputable def D_L_put_0 (xs : Nat → Int32) (xl d : Nat) (v1 : Int32) (v2 : Int32) (M : dp_M) : Option dp_Res := dp_lim true xs xl (dp_den true xs xl d) dp_m_L_put (0, [some (.ref 0), some (.int v1), some (.int v2), some (.ref 245), none], [], M)
theorem D_L_put_0_den (xs : Nat → Int32) (xl d : Nat) (a1 : Int32) (a2 : Int32) (M : dp_M) : dp_den true xs xl (d + 1) 602 [.ref 0, .int a1, .int a2, .ref 245] M = D_L_put_0 xs xl d a1 a2 M := rfl
set_option maxRecDepth 20000 in
theorem D_L_put_0_eq (xs : Nat → Int32) (xl d : Nat) (v1 : Int32) (v2 : Int32) (M : dp_M) : D_L_put_0 xs xl d v1 v2 M = dp_ti (dp_den true xs xl d 274 [.ref 0, .int v1, .int v2] M) (fun r2 M1 => if (0 : Int32) < 0 ∨ 1 ≤ Int32.toNatClampNeg (0 : Int32) then none else dp_w (dp_setJ M1 245 (Int32.toNatClampNeg (0 : Int32)) (Int32.toInt64 r2)) (fun M3 => some (.inl (some (.int (0 : Int32))), M3))) (fun e9 M4 => dp_x4 e9 (none) (none) (some (.inl (some (.int (1 : Int32))), M4)) (none)) := by
  have hF := dp_den_grow (md := true) (xs := xs) (xl := xl) d
  unfold D_L_put_0
  refine dp_s1 hF (i := .aload_n 3) rfl (fun _ => rfl) ?_
  refine dp_s1 hF (i := .iconst 0) rfl (fun _ => rfl) ?_
  refine dp_s1 hF (i := .aload_n 0) rfl (fun _ => rfl) ?_
  refine dp_s1 hF (i := .iload_n 1) rfl (fun _ => rfl) ?_
  refine dp_s1 hF (i := .iload_n 2) rfl (fun _ => rfl) ?_
  refine dp_ci9 (mj := dp_m_X11_put) (i := .invokevirtual 40) rfl ⟨_, _, rfl⟩ (Or.inl rfl) rfl (fun _ => rfl) (fun r2 M1 => ?_) ?_
  · refine dp_s1 hF (i := .i2l) rfl (fun _ => rfl) ?_
    refine dp_s3w (dp_setJ M1 245 (Int32.toNatClampNeg (0 : Int32)) (Int32.toInt64 r2)) (fun (M3 : dp_M) => (10, [some (.ref 0), some (.int v1), some (.int v2), some (.ref 245), none], [], M3)) hF (i := .lastore) rfl (fun _ => rfl) (fun M3 => ?_)
    refine dp_s1 hF (i := .goto 7) rfl (fun _ => rfl) ?_
    refine dp_s1 hF (i := .iconst 0) rfl (fun _ => rfl) ?_
    exact dp_s0 hF (i := .ireturn) rfl (fun _ => rfl)
  refine dp_ct4 (fun M4 => ?_) (fun M4 => ?_) (fun M4 => ?_) (fun M4 => ?_)
  · exact dp_ct_n rfl
  · exact dp_ct_n rfl
  · refine dp_ct_s (h := 15) (a := 4) rfl (Nat.le_of_ble_eq_true rfl) ?_
    refine dp_s1 hF (i := .iconst 1) rfl (fun _ => rfl) ?_
    exact dp_s0 hF (i := .ireturn) rfl (fun _ => rfl)
  · exact dp_ct_n rfl
noncomputable def D_L_take_0 (xs : Nat → Int32) (xl d : Nat) (v1 : Int32) (M : dp_M) : Option dp_Res := dp_lim true xs xl (dp_den true xs xl d) dp_m_L_take (0, [some (.ref 0), some (.int v1), some (.ref 245), none], [], M)
theorem D_L_take_0_den (xs : Nat → Int32) (xl d : Nat) (a1 : Int32) (M : dp_M) : dp_den true xs xl (d + 1) 603 [.ref 0, .int a1, .ref 245] M = D_L_take_0 xs xl d a1 M := rfl
set_option maxRecDepth 20000 in
theorem D_L_take_0_eq (xs : Nat → Int32) (xl d : Nat) (v1 : Int32) (M : dp_M) : D_L_take_0 xs xl d v1 M = dp_ti (dp_den true xs xl d 275 [.ref 0, .int v1] M) (fun r2 M1 => if (0 : Int32) < 0 ∨ 1 ≤ Int32.toNatClampNeg (0 : Int32) then none else dp_w (dp_setJ M1 245 (Int32.toNatClampNeg (0 : Int32)) (Int32.toInt64 r2)) (fun M3 => some (.inl (some (.int (0 : Int32))), M3))) (fun e9 M4 => dp_x4 e9 (none) (none) (some (.inl (some (.int (1 : Int32))), M4)) (none)) := by
  have hF := dp_den_grow (md := true) (xs := xs) (xl := xl) d
  unfold D_L_take_0
  refine dp_s1 hF (i := .aload_n 2) rfl (fun _ => rfl) ?_
  refine dp_s1 hF (i := .iconst 0) rfl (fun _ => rfl) ?_
  refine dp_s1 hF (i := .aload_n 0) rfl (fun _ => rfl) ?_
  refine dp_s1 hF (i := .iload_n 1) rfl (fun _ => rfl) ?_
  refine dp_ci9 (mj := dp_m_X11_take) (i := .invokevirtual 43) rfl ⟨_, _, rfl⟩ (Or.inl rfl) rfl (fun _ => rfl) (fun r2 M1 => ?_) ?_
  · refine dp_s1 hF (i := .i2l) rfl (fun _ => rfl) ?_
    refine dp_s3w (dp_setJ M1 245 (Int32.toNatClampNeg (0 : Int32)) (Int32.toInt64 r2)) (fun (M3 : dp_M) => (9, [some (.ref 0), some (.int v1), some (.ref 245), none], [], M3)) hF (i := .lastore) rfl (fun _ => rfl) (fun M3 => ?_)
    refine dp_s1 hF (i := .goto 6) rfl (fun _ => rfl) ?_
    refine dp_s1 hF (i := .iconst 0) rfl (fun _ => rfl) ?_
    exact dp_s0 hF (i := .ireturn) rfl (fun _ => rfl)
  refine dp_ct4 (fun M4 => ?_) (fun M4 => ?_) (fun M4 => ?_) (fun M4 => ?_)
  · exact dp_ct_n rfl
  · exact dp_ct_n rfl
  · refine dp_ct_s (h := 13) (a := 3) rfl (Nat.le_of_ble_eq_true rfl) ?_
    refine dp_s1 hF (i := .iconst 1) rfl (fun _ => rfl) ?_
    exact dp_s0 hF (i := .ireturn) rfl (fun _ => rfl)
  · exact dp_ct_n rfl
noncomputable def D_L_shift_0 (xs : Nat → Int32) (xl d : Nat) (v1 : Int32) (v2 : Int32) (M : dp_M) : Option dp_Res := dp_lim true xs xl (dp_den true xs xl d) dp_m_L_shift (0, [some (.ref 0), some (.int v1), some (.int v2), some (.ref 245), none], [], M)
theorem D_L_shift_0_den (xs : Nat → Int32) (xl d : Nat) (a1 : Int32) (a2 : Int32) (M : dp_M) : dp_den true xs xl (d + 1) 604 [.ref 0, .int a1, .int a2, .ref 245] M = D_L_shift_0 xs xl d a1 a2 M := rfl
set_option maxRecDepth 20000 in
theorem D_L_shift_0_eq (xs : Nat → Int32) (xl d : Nat) (v1 : Int32) (v2 : Int32) (M : dp_M) : D_L_shift_0 xs xl d v1 v2 M = dp_ti (dp_den true xs xl d 276 [.ref 0, .int v1, .int v2] M) (fun r2 M1 => if (0 : Int32) < 0 ∨ 1 ≤ Int32.toNatClampNeg (0 : Int32) then none else dp_w (dp_setJ M1 245 (Int32.toNatClampNeg (0 : Int32)) (Int32.toInt64 r2)) (fun M3 => some (.inl (some (.int (0 : Int32))), M3))) (fun e9 M4 => dp_x4 e9 (none) (none) (some (.inl (some (.int (1 : Int32))), M4)) (none)) := by
  have hF := dp_den_grow (md := true) (xs := xs) (xl := xl) d
  unfold D_L_shift_0
  refine dp_s1 hF (i := .aload_n 3) rfl (fun _ => rfl) ?_
  refine dp_s1 hF (i := .iconst 0) rfl (fun _ => rfl) ?_
  refine dp_s1 hF (i := .aload_n 0) rfl (fun _ => rfl) ?_
  refine dp_s1 hF (i := .iload_n 1) rfl (fun _ => rfl) ?_
  refine dp_s1 hF (i := .iload_n 2) rfl (fun _ => rfl) ?_
  refine dp_ci9 (mj := dp_m_X11_shift) (i := .invokevirtual 46) rfl ⟨_, _, rfl⟩ (Or.inl rfl) rfl (fun _ => rfl) (fun r2 M1 => ?_) ?_
  · refine dp_s1 hF (i := .i2l) rfl (fun _ => rfl) ?_
    refine dp_s3w (dp_setJ M1 245 (Int32.toNatClampNeg (0 : Int32)) (Int32.toInt64 r2)) (fun (M3 : dp_M) => (10, [some (.ref 0), some (.int v1), some (.int v2), some (.ref 245), none], [], M3)) hF (i := .lastore) rfl (fun _ => rfl) (fun M3 => ?_)
    refine dp_s1 hF (i := .goto 7) rfl (fun _ => rfl) ?_
    refine dp_s1 hF (i := .iconst 0) rfl (fun _ => rfl) ?_
    exact dp_s0 hF (i := .ireturn) rfl (fun _ => rfl)
  refine dp_ct4 (fun M4 => ?_) (fun M4 => ?_) (fun M4 => ?_) (fun M4 => ?_)
  · exact dp_ct_n rfl
  · exact dp_ct_n rfl
  · refine dp_ct_s (h := 15) (a := 4) rfl (Nat.le_of_ble_eq_true rfl) ?_
    refine dp_s1 hF (i := .iconst 1) rfl (fun _ => rfl) ?_
    exact dp_s0 hF (i := .ireturn) rfl (fun _ => rfl)
  · exact dp_ct_n rfl
noncomputable def D_L_choose_0 (xs : Nat → Int32) (xl d : Nat) (v1 : Int32) (M : dp_M) : Option dp_Res := dp_lim true xs xl (dp_den true xs xl d) dp_m_L_choose (0, [some (.ref 0), some (.int v1), some (.ref 245), none], [], M)
theorem D_L_choose_0_den (xs : Nat → Int32) (xl d : Nat) (a1 : Int32) (M : dp_M) : dp_den true xs xl (d + 1) 605 [.ref 0, .int a1, .ref 245] M = D_L_choose_0 xs xl d a1 M := rfl
set_option maxRecDepth 20000 in
theorem D_L_choose_0_eq (xs : Nat → Int32) (xl d : Nat) (v1 : Int32) (M : dp_M) : D_L_choose_0 xs xl d v1 M = dp_ti (dp_den true xs xl d 277 [.ref 0, .int v1] M) (fun r2 M1 => if (0 : Int32) < 0 ∨ 1 ≤ Int32.toNatClampNeg (0 : Int32) then none else dp_w (dp_setJ M1 245 (Int32.toNatClampNeg (0 : Int32)) (Int32.toInt64 r2)) (fun M3 => some (.inl (some (.int (0 : Int32))), M3))) (fun e9 M4 => dp_x4 e9 (none) (none) (some (.inl (some (.int (1 : Int32))), M4)) (none)) := by
  have hF := dp_den_grow (md := true) (xs := xs) (xl := xl) d
  unfold D_L_choose_0
  refine dp_s1 hF (i := .aload_n 2) rfl (fun _ => rfl) ?_
  refine dp_s1 hF (i := .iconst 0) rfl (fun _ => rfl) ?_
  refine dp_s1 hF (i := .aload_n 0) rfl (fun _ => rfl) ?_
  refine dp_s1 hF (i := .iload_n 1) rfl (fun _ => rfl) ?_
  refine dp_ci9 (mj := dp_m_X11_choose) (i := .invokevirtual 49) rfl ⟨_, _, rfl⟩ (Or.inl rfl) rfl (fun _ => rfl) (fun r2 M1 => ?_) ?_
  · refine dp_s1 hF (i := .i2l) rfl (fun _ => rfl) ?_
    refine dp_s3w (dp_setJ M1 245 (Int32.toNatClampNeg (0 : Int32)) (Int32.toInt64 r2)) (fun (M3 : dp_M) => (9, [some (.ref 0), some (.int v1), some (.ref 245), none], [], M3)) hF (i := .lastore) rfl (fun _ => rfl) (fun M3 => ?_)
    refine dp_s1 hF (i := .goto 6) rfl (fun _ => rfl) ?_
    refine dp_s1 hF (i := .iconst 0) rfl (fun _ => rfl) ?_
    exact dp_s0 hF (i := .ireturn) rfl (fun _ => rfl)
  refine dp_ct4 (fun M4 => ?_) (fun M4 => ?_) (fun M4 => ?_) (fun M4 => ?_)
  · exact dp_ct_n rfl
  · exact dp_ct_n rfl
  · refine dp_ct_s (h := 13) (a := 3) rfl (Nat.le_of_ble_eq_true rfl) ?_
    refine dp_s1 hF (i := .iconst 1) rfl (fun _ => rfl) ?_
    exact dp_s0 hF (i := .ireturn) rfl (fun _ => rfl)
  · exact dp_ct_n rfl
noncomputable def D_L_night_0 (xs : Nat → Int32) (xl d : Nat) (v1 : Int32) (M : dp_M) : Option dp_Res := dp_lim true xs xl (dp_den true xs xl d) dp_m_L_night (0, [some (.ref 0), some (.int v1), some (.ref 245), none], [], M)
theorem D_L_night_0_den (xs : Nat → Int32) (xl d : Nat) (a1 : Int32) (M : dp_M) : dp_den true xs xl (d + 1) 606 [.ref 0, .int a1, .ref 245] M = D_L_night_0 xs xl d a1 M := rfl
set_option maxRecDepth 20000 in
theorem D_L_night_0_eq (xs : Nat → Int32) (xl d : Nat) (v1 : Int32) (M : dp_M) : D_L_night_0 xs xl d v1 M = dp_ti (dp_den true xs xl d 278 [.ref 0, .int v1] M) (fun r2 M1 => if (0 : Int32) < 0 ∨ 1 ≤ Int32.toNatClampNeg (0 : Int32) then none else dp_w (dp_setJ M1 245 (Int32.toNatClampNeg (0 : Int32)) (Int32.toInt64 r2)) (fun M3 => some (.inl (some (.int (0 : Int32))), M3))) (fun e9 M4 => dp_x4 e9 (some (.inl (some (.int (1 : Int32))), M4)) (none) (none) (none)) := by
  have hF := dp_den_grow (md := true) (xs := xs) (xl := xl) d
  unfold D_L_night_0
  refine dp_s1 hF (i := .aload_n 2) rfl (fun _ => rfl) ?_
  refine dp_s1 hF (i := .iconst 0) rfl (fun _ => rfl) ?_
  refine dp_s1 hF (i := .aload_n 0) rfl (fun _ => rfl) ?_
  refine dp_s1 hF (i := .iload_n 1) rfl (fun _ => rfl) ?_
  refine dp_ci9 (mj := dp_m_X11_night) (i := .invokevirtual 52) rfl ⟨_, _, rfl⟩ (Or.inl rfl) rfl (fun _ => rfl) (fun r2 M1 => ?_) ?_
  · refine dp_s1 hF (i := .i2l) rfl (fun _ => rfl) ?_
    refine dp_s3w (dp_setJ M1 245 (Int32.toNatClampNeg (0 : Int32)) (Int32.toInt64 r2)) (fun (M3 : dp_M) => (9, [some (.ref 0), some (.int v1), some (.ref 245), none], [], M3)) hF (i := .lastore) rfl (fun _ => rfl) (fun M3 => ?_)
    refine dp_s1 hF (i := .goto 6) rfl (fun _ => rfl) ?_
    refine dp_s1 hF (i := .iconst 0) rfl (fun _ => rfl) ?_
    exact dp_s0 hF (i := .ireturn) rfl (fun _ => rfl)
  refine dp_ct4 (fun M4 => ?_) (fun M4 => ?_) (fun M4 => ?_) (fun M4 => ?_)
  · refine dp_ct_s (h := 13) (a := 3) rfl (Nat.le_of_ble_eq_true rfl) ?_
    refine dp_s1 hF (i := .iconst 1) rfl (fun _ => rfl) ?_
    exact dp_s0 hF (i := .ireturn) rfl (fun _ => rfl)
  · exact dp_ct_n rfl
  · exact dp_ct_n rfl
  · exact dp_ct_n rfl
noncomputable def D_L_where_0 (xs : Nat → Int32) (xl d : Nat) (v1 : Int32) (v2 : Int32) (M : dp_M) : Option dp_Res := dp_lim true xs xl (dp_den true xs xl d) dp_m_L_where (0, [some (.ref 0), some (.int v1), some (.int v2), some (.ref 245), none], [], M)
theorem D_L_where_0_den (xs : Nat → Int32) (xl d : Nat) (a1 : Int32) (a2 : Int32) (M : dp_M) : dp_den true xs xl (d + 1) 607 [.ref 0, .int a1, .int a2, .ref 245] M = D_L_where_0 xs xl d a1 a2 M := rfl
set_option maxRecDepth 20000 in
theorem D_L_where_0_eq (xs : Nat → Int32) (xl d : Nat) (v1 : Int32) (v2 : Int32) (M : dp_M) : D_L_where_0 xs xl d v1 v2 M = dp_ti (dp_den true xs xl d 280 [.ref 0, .int v1, .int v2] M) (fun r2 M1 => if (0 : Int32) < 0 ∨ 1 ≤ Int32.toNatClampNeg (0 : Int32) then none else dp_w (dp_setJ M1 245 (Int32.toNatClampNeg (0 : Int32)) (Int32.toInt64 r2)) (fun M3 => some (.inl (some (.int (0 : Int32))), M3))) (fun e9 M4 => dp_x4 e9 (none) (none) (some (.inl (some (.int (1 : Int32))), M4)) (none)) := by
  have hF := dp_den_grow (md := true) (xs := xs) (xl := xl) d
  unfold D_L_where_0
  refine dp_s1 hF (i := .aload_n 3) rfl (fun _ => rfl) ?_
  refine dp_s1 hF (i := .iconst 0) rfl (fun _ => rfl) ?_
  refine dp_s1 hF (i := .aload_n 0) rfl (fun _ => rfl) ?_
  refine dp_s1 hF (i := .iload_n 1) rfl (fun _ => rfl) ?_
  refine dp_s1 hF (i := .iload_n 2) rfl (fun _ => rfl) ?_
  refine dp_ci9 (mj := dp_m_X11_where) (i := .invokevirtual 55) rfl ⟨_, _, rfl⟩ (Or.inl rfl) rfl (fun _ => rfl) (fun r2 M1 => ?_) ?_
  · refine dp_s1 hF (i := .i2l) rfl (fun _ => rfl) ?_
    refine dp_s3w (dp_setJ M1 245 (Int32.toNatClampNeg (0 : Int32)) (Int32.toInt64 r2)) (fun (M3 : dp_M) => (10, [some (.ref 0), some (.int v1), some (.int v2), some (.ref 245), none], [], M3)) hF (i := .lastore) rfl (fun _ => rfl) (fun M3 => ?_)
    refine dp_s1 hF (i := .goto 7) rfl (fun _ => rfl) ?_
    refine dp_s1 hF (i := .iconst 0) rfl (fun _ => rfl) ?_
    exact dp_s0 hF (i := .ireturn) rfl (fun _ => rfl)
  refine dp_ct4 (fun M4 => ?_) (fun M4 => ?_) (fun M4 => ?_) (fun M4 => ?_)
  · exact dp_ct_n rfl
  · exact dp_ct_n rfl
  · refine dp_ct_s (h := 15) (a := 4) rfl (Nat.le_of_ble_eq_true rfl) ?_
    refine dp_s1 hF (i := .iconst 1) rfl (fun _ => rfl) ?_
    exact dp_s0 hF (i := .ireturn) rfl (fun _ => rfl)
  · exact dp_ct_n rfl
noncomputable def D_L_at_0 (xs : Nat → Int32) (xl d : Nat) (v1 : Int32) (v2 : Int32) (M : dp_M) : Option dp_Res := dp_lim true xs xl (dp_den true xs xl d) dp_m_L_at (0, [some (.ref 0), some (.int v1), some (.int v2), some (.ref 245), none], [], M)
theorem D_L_at_0_den (xs : Nat → Int32) (xl d : Nat) (a1 : Int32) (a2 : Int32) (M : dp_M) : dp_den true xs xl (d + 1) 608 [.ref 0, .int a1, .int a2, .ref 245] M = D_L_at_0 xs xl d a1 a2 M := rfl
set_option maxRecDepth 20000 in
theorem D_L_at_0_eq (xs : Nat → Int32) (xl d : Nat) (v1 : Int32) (v2 : Int32) (M : dp_M) : D_L_at_0 xs xl d v1 v2 M = dp_ti (dp_den true xs xl d 281 [.ref 0, .int v1, .int v2] M) (fun r2 M1 => if (0 : Int32) < 0 ∨ 1 ≤ Int32.toNatClampNeg (0 : Int32) then none else dp_w (dp_setJ M1 245 (Int32.toNatClampNeg (0 : Int32)) (Int32.toInt64 r2)) (fun M3 => some (.inl (some (.int (0 : Int32))), M3))) (fun e9 M4 => dp_x4 e9 (none) (none) (some (.inl (some (.int (1 : Int32))), M4)) (none)) := by
  have hF := dp_den_grow (md := true) (xs := xs) (xl := xl) d
  unfold D_L_at_0
  refine dp_s1 hF (i := .aload_n 3) rfl (fun _ => rfl) ?_
  refine dp_s1 hF (i := .iconst 0) rfl (fun _ => rfl) ?_
  refine dp_s1 hF (i := .aload_n 0) rfl (fun _ => rfl) ?_
  refine dp_s1 hF (i := .iload_n 1) rfl (fun _ => rfl) ?_
  refine dp_s1 hF (i := .iload_n 2) rfl (fun _ => rfl) ?_
  refine dp_ci9 (mj := dp_m_X11_at) (i := .invokevirtual 58) rfl ⟨_, _, rfl⟩ (Or.inl rfl) rfl (fun _ => rfl) (fun r2 M1 => ?_) ?_
  · refine dp_s1 hF (i := .i2l) rfl (fun _ => rfl) ?_
    refine dp_s3w (dp_setJ M1 245 (Int32.toNatClampNeg (0 : Int32)) (Int32.toInt64 r2)) (fun (M3 : dp_M) => (10, [some (.ref 0), some (.int v1), some (.int v2), some (.ref 245), none], [], M3)) hF (i := .lastore) rfl (fun _ => rfl) (fun M3 => ?_)
    refine dp_s1 hF (i := .goto 7) rfl (fun _ => rfl) ?_
    refine dp_s1 hF (i := .iconst 0) rfl (fun _ => rfl) ?_
    exact dp_s0 hF (i := .ireturn) rfl (fun _ => rfl)
  refine dp_ct4 (fun M4 => ?_) (fun M4 => ?_) (fun M4 => ?_) (fun M4 => ?_)
  · exact dp_ct_n rfl
  · exact dp_ct_n rfl
  · refine dp_ct_s (h := 15) (a := 4) rfl (Nat.le_of_ble_eq_true rfl) ?_
    refine dp_s1 hF (i := .iconst 1) rfl (fun _ => rfl) ?_
    exact dp_s0 hF (i := .ireturn) rfl (fun _ => rfl)
  · exact dp_ct_n rfl
noncomputable def D_L_goods_0 (xs : Nat → Int32) (xl d : Nat) (v1 : Int32) (v2 : Int32) (M : dp_M) : Option dp_Res := dp_lim true xs xl (dp_den true xs xl d) dp_m_L_goods (0, [some (.ref 0), some (.int v1), some (.int v2), some (.ref 245), none], [], M)
theorem D_L_goods_0_den (xs : Nat → Int32) (xl d : Nat) (a1 : Int32) (a2 : Int32) (M : dp_M) : dp_den true xs xl (d + 1) 609 [.ref 0, .int a1, .int a2, .ref 245] M = D_L_goods_0 xs xl d a1 a2 M := rfl
set_option maxRecDepth 20000 in
theorem D_L_goods_0_eq (xs : Nat → Int32) (xl d : Nat) (v1 : Int32) (v2 : Int32) (M : dp_M) : D_L_goods_0 xs xl d v1 v2 M = dp_ti (dp_den true xs xl d 282 [.ref 0, .int v1, .int v2] M) (fun r2 M1 => if (0 : Int32) < 0 ∨ 1 ≤ Int32.toNatClampNeg (0 : Int32) then none else dp_w (dp_setJ M1 245 (Int32.toNatClampNeg (0 : Int32)) (Int32.toInt64 r2)) (fun M3 => some (.inl (some (.int (0 : Int32))), M3))) (fun e9 M4 => dp_x4 e9 (some (.inl (some (.int (1 : Int32))), M4)) (some (.inl (some (.int (2 : Int32))), M4)) (none) (none)) := by
  have hF := dp_den_grow (md := true) (xs := xs) (xl := xl) d
  unfold D_L_goods_0
  refine dp_s1 hF (i := .aload_n 3) rfl (fun _ => rfl) ?_
  refine dp_s1 hF (i := .iconst 0) rfl (fun _ => rfl) ?_
  refine dp_s1 hF (i := .aload_n 0) rfl (fun _ => rfl) ?_
  refine dp_s1 hF (i := .iload_n 1) rfl (fun _ => rfl) ?_
  refine dp_s1 hF (i := .iload_n 2) rfl (fun _ => rfl) ?_
  refine dp_ci9 (mj := dp_m_X11_goods) (i := .invokevirtual 61) rfl ⟨_, _, rfl⟩ (Or.inl rfl) rfl (fun _ => rfl) (fun r2 M1 => ?_) ?_
  · refine dp_s1 hF (i := .i2l) rfl (fun _ => rfl) ?_
    refine dp_s3w (dp_setJ M1 245 (Int32.toNatClampNeg (0 : Int32)) (Int32.toInt64 r2)) (fun (M3 : dp_M) => (10, [some (.ref 0), some (.int v1), some (.int v2), some (.ref 245), none], [], M3)) hF (i := .lastore) rfl (fun _ => rfl) (fun M3 => ?_)
    refine dp_s1 hF (i := .goto 11) rfl (fun _ => rfl) ?_
    refine dp_s1 hF (i := .iconst 0) rfl (fun _ => rfl) ?_
    exact dp_s0 hF (i := .ireturn) rfl (fun _ => rfl)
  refine dp_ct4 (fun M4 => ?_) (fun M4 => ?_) (fun M4 => ?_) (fun M4 => ?_)
  · refine dp_ct_s (h := 15) (a := 4) rfl (Nat.le_of_ble_eq_true rfl) ?_
    refine dp_s1 hF (i := .iconst 1) rfl (fun _ => rfl) ?_
    exact dp_s0 hF (i := .ireturn) rfl (fun _ => rfl)
  · refine dp_ct_s (h := 19) (a := 4) rfl (Nat.le_of_ble_eq_true rfl) ?_
    refine dp_s1 hF (i := .iconst 2) rfl (fun _ => rfl) ?_
    exact dp_s0 hF (i := .ireturn) rfl (fun _ => rfl)
  · exact dp_ct_n rfl
  · exact dp_ct_n rfl
noncomputable def D_L_bar_0 (xs : Nat → Int32) (xl d : Nat) (v1 : Int32) (v2 : Int32) (v3 : Int32) (v4 : Int32) (M : dp_M) : Option dp_Res := dp_lim true xs xl (dp_den true xs xl d) dp_m_L_bar (0, [some (.ref 0), some (.int v1), some (.int v2), some (.int v3), some (.int v4), some (.ref 245), none], [], M)
theorem D_L_bar_0_den (xs : Nat → Int32) (xl d : Nat) (a1 : Int32) (a2 : Int32) (a3 : Int32) (a4 : Int32) (M : dp_M) : dp_den true xs xl (d + 1) 610 [.ref 0, .int a1, .int a2, .int a3, .int a4, .ref 245] M = D_L_bar_0 xs xl d a1 a2 a3 a4 M := rfl
set_option maxRecDepth 20000 in
theorem D_L_bar_0_eq (xs : Nat → Int32) (xl d : Nat) (v1 : Int32) (v2 : Int32) (v3 : Int32) (v4 : Int32) (M : dp_M) : D_L_bar_0 xs xl d v1 v2 v3 v4 M = dp_ti (dp_den true xs xl d 284 [.ref 0, .int v1, .int v2, .int v3, .int v4] M) (fun r2 M1 => if (0 : Int32) < 0 ∨ 1 ≤ Int32.toNatClampNeg (0 : Int32) then none else dp_w (dp_setJ M1 245 (Int32.toNatClampNeg (0 : Int32)) (Int32.toInt64 r2)) (fun M3 => some (.inl (some (.int (0 : Int32))), M3))) (fun e9 M4 => dp_x4 e9 (some (.inl (some (.int (1 : Int32))), M4)) (none) (none) (none)) := by
  have hF := dp_den_grow (md := true) (xs := xs) (xl := xl) d
  unfold D_L_bar_0
  refine dp_s1 hF (i := .aload 5) rfl (fun _ => rfl) ?_
  refine dp_s1 hF (i := .iconst 0) rfl (fun _ => rfl) ?_
  refine dp_s1 hF (i := .aload_n 0) rfl (fun _ => rfl) ?_
  refine dp_s1 hF (i := .iload_n 1) rfl (fun _ => rfl) ?_
  refine dp_s1 hF (i := .iload_n 2) rfl (fun _ => rfl) ?_
  refine dp_s1 hF (i := .iload_n 3) rfl (fun _ => rfl) ?_
  refine dp_s1 hF (i := .iload 4) rfl (fun _ => rfl) ?_
  refine dp_ci9 (mj := dp_m_X11_bar) (i := .invokevirtual 64) rfl ⟨_, _, rfl⟩ (Or.inl rfl) rfl (fun _ => rfl) (fun r2 M1 => ?_) ?_
  · refine dp_s1 hF (i := .i2l) rfl (fun _ => rfl) ?_
    refine dp_s3w (dp_setJ M1 245 (Int32.toNatClampNeg (0 : Int32)) (Int32.toInt64 r2)) (fun (M3 : dp_M) => (14, [some (.ref 0), some (.int v1), some (.int v2), some (.int v3), some (.int v4), some (.ref 245), none], [], M3)) hF (i := .lastore) rfl (fun _ => rfl) (fun M3 => ?_)
    refine dp_s1 hF (i := .goto 7) rfl (fun _ => rfl) ?_
    refine dp_s1 hF (i := .iconst 0) rfl (fun _ => rfl) ?_
    exact dp_s0 hF (i := .ireturn) rfl (fun _ => rfl)
  refine dp_ct4 (fun M4 => ?_) (fun M4 => ?_) (fun M4 => ?_) (fun M4 => ?_)
  · refine dp_ct_s (h := 19) (a := 6) rfl (Nat.le_of_ble_eq_true rfl) ?_
    refine dp_s1 hF (i := .iconst 1) rfl (fun _ => rfl) ?_
    exact dp_s0 hF (i := .ireturn) rfl (fun _ => rfl)
  · exact dp_ct_n rfl
  · exact dp_ct_n rfl
  · exact dp_ct_n rfl
noncomputable def D_L_lift_0 (xs : Nat → Int32) (xl d : Nat) (v1 : Int32) (v2 : Int32) (v3 : Int32) (v4 : Int32) (M : dp_M) : Option dp_Res := dp_lim true xs xl (dp_den true xs xl d) dp_m_L_lift (0, [some (.ref 0), some (.int v1), some (.int v2), some (.int v3), some (.int v4), some (.ref 245), none], [], M)
theorem D_L_lift_0_den (xs : Nat → Int32) (xl d : Nat) (a1 : Int32) (a2 : Int32) (a3 : Int32) (a4 : Int32) (M : dp_M) : dp_den true xs xl (d + 1) 611 [.ref 0, .int a1, .int a2, .int a3, .int a4, .ref 245] M = D_L_lift_0 xs xl d a1 a2 a3 a4 M := rfl
set_option maxRecDepth 20000 in
theorem D_L_lift_0_eq (xs : Nat → Int32) (xl d : Nat) (v1 : Int32) (v2 : Int32) (v3 : Int32) (v4 : Int32) (M : dp_M) : D_L_lift_0 xs xl d v1 v2 v3 v4 M = dp_ti (dp_den true xs xl d 285 [.ref 0, .int v1, .int v2, .int v3, .int v4] M) (fun r2 M1 => if (0 : Int32) < 0 ∨ 1 ≤ Int32.toNatClampNeg (0 : Int32) then none else dp_w (dp_setJ M1 245 (Int32.toNatClampNeg (0 : Int32)) (Int32.toInt64 r2)) (fun M3 => some (.inl (some (.int (0 : Int32))), M3))) (fun e9 M4 => dp_x4 e9 (some (.inl (some (.int (1 : Int32))), M4)) (none) (none) (none)) := by
  have hF := dp_den_grow (md := true) (xs := xs) (xl := xl) d
  unfold D_L_lift_0
  refine dp_s1 hF (i := .aload 5) rfl (fun _ => rfl) ?_
  refine dp_s1 hF (i := .iconst 0) rfl (fun _ => rfl) ?_
  refine dp_s1 hF (i := .aload_n 0) rfl (fun _ => rfl) ?_
  refine dp_s1 hF (i := .iload_n 1) rfl (fun _ => rfl) ?_
  refine dp_s1 hF (i := .iload_n 2) rfl (fun _ => rfl) ?_
  refine dp_s1 hF (i := .iload_n 3) rfl (fun _ => rfl) ?_
  refine dp_s1 hF (i := .iload 4) rfl (fun _ => rfl) ?_
  refine dp_ci9 (mj := dp_m_X11_lift) (i := .invokevirtual 68) rfl ⟨_, _, rfl⟩ (Or.inl rfl) rfl (fun _ => rfl) (fun r2 M1 => ?_) ?_
  · refine dp_s1 hF (i := .i2l) rfl (fun _ => rfl) ?_
    refine dp_s3w (dp_setJ M1 245 (Int32.toNatClampNeg (0 : Int32)) (Int32.toInt64 r2)) (fun (M3 : dp_M) => (14, [some (.ref 0), some (.int v1), some (.int v2), some (.int v3), some (.int v4), some (.ref 245), none], [], M3)) hF (i := .lastore) rfl (fun _ => rfl) (fun M3 => ?_)
    refine dp_s1 hF (i := .goto 7) rfl (fun _ => rfl) ?_
    refine dp_s1 hF (i := .iconst 0) rfl (fun _ => rfl) ?_
    exact dp_s0 hF (i := .ireturn) rfl (fun _ => rfl)
  refine dp_ct4 (fun M4 => ?_) (fun M4 => ?_) (fun M4 => ?_) (fun M4 => ?_)
  · refine dp_ct_s (h := 19) (a := 6) rfl (Nat.le_of_ble_eq_true rfl) ?_
    refine dp_s1 hF (i := .iconst 1) rfl (fun _ => rfl) ?_
    exact dp_s0 hF (i := .ireturn) rfl (fun _ => rfl)
  · exact dp_ct_n rfl
  · exact dp_ct_n rfl
  · exact dp_ct_n rfl
noncomputable def D_L_join_0 (xs : Nat → Int32) (xl d : Nat) (v1 : Int32) (v2 : Int32) (M : dp_M) : Option dp_Res := dp_lim true xs xl (dp_den true xs xl d) dp_m_L_join (0, [some (.ref 0), some (.int v1), some (.int v2), some (.ref 245), none], [], M)
theorem D_L_join_0_den (xs : Nat → Int32) (xl d : Nat) (a1 : Int32) (a2 : Int32) (M : dp_M) : dp_den true xs xl (d + 1) 612 [.ref 0, .int a1, .int a2, .ref 245] M = D_L_join_0 xs xl d a1 a2 M := rfl
set_option maxRecDepth 20000 in
theorem D_L_join_0_eq (xs : Nat → Int32) (xl d : Nat) (v1 : Int32) (v2 : Int32) (M : dp_M) : D_L_join_0 xs xl d v1 v2 M = dp_ti (dp_den true xs xl d 286 [.ref 0, .int v1, .int v2] M) (fun r2 M1 => if (0 : Int32) < 0 ∨ 1 ≤ Int32.toNatClampNeg (0 : Int32) then none else dp_w (dp_setJ M1 245 (Int32.toNatClampNeg (0 : Int32)) (Int32.toInt64 r2)) (fun M3 => some (.inl (some (.int (0 : Int32))), M3))) (fun e9 M4 => dp_x4 e9 (some (.inl (some (.int (1 : Int32))), M4)) (none) (none) (none)) := by
  have hF := dp_den_grow (md := true) (xs := xs) (xl := xl) d
  unfold D_L_join_0
  refine dp_s1 hF (i := .aload_n 3) rfl (fun _ => rfl) ?_
  refine dp_s1 hF (i := .iconst 0) rfl (fun _ => rfl) ?_
  refine dp_s1 hF (i := .aload_n 0) rfl (fun _ => rfl) ?_
  refine dp_s1 hF (i := .iload_n 1) rfl (fun _ => rfl) ?_
  refine dp_s1 hF (i := .iload_n 2) rfl (fun _ => rfl) ?_
  refine dp_ci9 (mj := dp_m_X11_join) (i := .invokevirtual 71) rfl ⟨_, _, rfl⟩ (Or.inl rfl) rfl (fun _ => rfl) (fun r2 M1 => ?_) ?_
  · refine dp_s1 hF (i := .i2l) rfl (fun _ => rfl) ?_
    refine dp_s3w (dp_setJ M1 245 (Int32.toNatClampNeg (0 : Int32)) (Int32.toInt64 r2)) (fun (M3 : dp_M) => (10, [some (.ref 0), some (.int v1), some (.int v2), some (.ref 245), none], [], M3)) hF (i := .lastore) rfl (fun _ => rfl) (fun M3 => ?_)
    refine dp_s1 hF (i := .goto 7) rfl (fun _ => rfl) ?_
    refine dp_s1 hF (i := .iconst 0) rfl (fun _ => rfl) ?_
    exact dp_s0 hF (i := .ireturn) rfl (fun _ => rfl)
  refine dp_ct4 (fun M4 => ?_) (fun M4 => ?_) (fun M4 => ?_) (fun M4 => ?_)
  · refine dp_ct_s (h := 15) (a := 4) rfl (Nat.le_of_ble_eq_true rfl) ?_
    refine dp_s1 hF (i := .iconst 1) rfl (fun _ => rfl) ?_
    exact dp_s0 hF (i := .ireturn) rfl (fun _ => rfl)
  · exact dp_ct_n rfl
  · exact dp_ct_n rfl
  · exact dp_ct_n rfl
noncomputable def D_L_release_0 (xs : Nat → Int32) (xl d : Nat) (v1 : Int32) (M : dp_M) : Option dp_Res := dp_lim true xs xl (dp_den true xs xl d) dp_m_L_release (0, [some (.ref 0), some (.int v1), some (.ref 245), none], [], M)
theorem D_L_release_0_den (xs : Nat → Int32) (xl d : Nat) (a1 : Int32) (M : dp_M) : dp_den true xs xl (d + 1) 613 [.ref 0, .int a1, .ref 245] M = D_L_release_0 xs xl d a1 M := rfl
set_option maxRecDepth 20000 in
theorem D_L_release_0_eq (xs : Nat → Int32) (xl d : Nat) (v1 : Int32) (M : dp_M) : D_L_release_0 xs xl d v1 M = dp_ti (dp_den true xs xl d 288 [.ref 0, .int v1] M) (fun r2 M1 => if (0 : Int32) < 0 ∨ 1 ≤ Int32.toNatClampNeg (0 : Int32) then none else dp_w (dp_setJ M1 245 (Int32.toNatClampNeg (0 : Int32)) (Int32.toInt64 r2)) (fun M3 => some (.inl (some (.int (0 : Int32))), M3))) (fun e9 M4 => dp_x4 e9 (some (.inl (some (.int (1 : Int32))), M4)) (none) (none) (none)) := by
  have hF := dp_den_grow (md := true) (xs := xs) (xl := xl) d
  unfold D_L_release_0
  refine dp_s1 hF (i := .aload_n 2) rfl (fun _ => rfl) ?_
  refine dp_s1 hF (i := .iconst 0) rfl (fun _ => rfl) ?_
  refine dp_s1 hF (i := .aload_n 0) rfl (fun _ => rfl) ?_
  refine dp_s1 hF (i := .iload_n 1) rfl (fun _ => rfl) ?_
  refine dp_ci9 (mj := dp_m_X11_release) (i := .invokevirtual 74) rfl ⟨_, _, rfl⟩ (Or.inl rfl) rfl (fun _ => rfl) (fun r2 M1 => ?_) ?_
  · refine dp_s1 hF (i := .i2l) rfl (fun _ => rfl) ?_
    refine dp_s3w (dp_setJ M1 245 (Int32.toNatClampNeg (0 : Int32)) (Int32.toInt64 r2)) (fun (M3 : dp_M) => (9, [some (.ref 0), some (.int v1), some (.ref 245), none], [], M3)) hF (i := .lastore) rfl (fun _ => rfl) (fun M3 => ?_)
    refine dp_s1 hF (i := .goto 6) rfl (fun _ => rfl) ?_
    refine dp_s1 hF (i := .iconst 0) rfl (fun _ => rfl) ?_
    exact dp_s0 hF (i := .ireturn) rfl (fun _ => rfl)
  refine dp_ct4 (fun M4 => ?_) (fun M4 => ?_) (fun M4 => ?_) (fun M4 => ?_)
  · refine dp_ct_s (h := 13) (a := 3) rfl (Nat.le_of_ble_eq_true rfl) ?_
    refine dp_s1 hF (i := .iconst 1) rfl (fun _ => rfl) ?_
    exact dp_s0 hF (i := .ireturn) rfl (fun _ => rfl)
  · exact dp_ct_n rfl
  · exact dp_ct_n rfl
  · exact dp_ct_n rfl
noncomputable def D_L_bars_0 (xs : Nat → Int32) (xl d : Nat) (v1 : Int32) (v2 : Int32) (M : dp_M) : Option dp_Res := dp_lim true xs xl (dp_den true xs xl d) dp_m_L_bars (0, [some (.ref 0), some (.int v1), some (.int v2), some (.ref 245), none], [], M)
theorem D_L_bars_0_den (xs : Nat → Int32) (xl d : Nat) (a1 : Int32) (a2 : Int32) (M : dp_M) : dp_den true xs xl (d + 1) 614 [.ref 0, .int a1, .int a2, .ref 245] M = D_L_bars_0 xs xl d a1 a2 M := rfl
set_option maxRecDepth 20000 in
theorem D_L_bars_0_eq (xs : Nat → Int32) (xl d : Nat) (v1 : Int32) (v2 : Int32) (M : dp_M) : D_L_bars_0 xs xl d v1 v2 M = dp_ti (dp_den true xs xl d 289 [.ref 0, .int v1, .int v2] M) (fun r2 M1 => if (0 : Int32) < 0 ∨ 1 ≤ Int32.toNatClampNeg (0 : Int32) then none else dp_w (dp_setJ M1 245 (Int32.toNatClampNeg (0 : Int32)) (Int32.toInt64 r2)) (fun M3 => some (.inl (some (.int (0 : Int32))), M3))) (fun e9 M4 => dp_x4 e9 (some (.inl (some (.int (1 : Int32))), M4)) (none) (none) (none)) := by
  have hF := dp_den_grow (md := true) (xs := xs) (xl := xl) d
  unfold D_L_bars_0
  refine dp_s1 hF (i := .aload_n 3) rfl (fun _ => rfl) ?_
  refine dp_s1 hF (i := .iconst 0) rfl (fun _ => rfl) ?_
  refine dp_s1 hF (i := .aload_n 0) rfl (fun _ => rfl) ?_
  refine dp_s1 hF (i := .iload_n 1) rfl (fun _ => rfl) ?_
  refine dp_s1 hF (i := .iload_n 2) rfl (fun _ => rfl) ?_
  refine dp_ci9 (mj := dp_m_X11_bars) (i := .invokevirtual 77) rfl ⟨_, _, rfl⟩ (Or.inl rfl) rfl (fun _ => rfl) (fun r2 M1 => ?_) ?_
  · refine dp_s1 hF (i := .i2l) rfl (fun _ => rfl) ?_
    refine dp_s3w (dp_setJ M1 245 (Int32.toNatClampNeg (0 : Int32)) (Int32.toInt64 r2)) (fun (M3 : dp_M) => (10, [some (.ref 0), some (.int v1), some (.int v2), some (.ref 245), none], [], M3)) hF (i := .lastore) rfl (fun _ => rfl) (fun M3 => ?_)
    refine dp_s1 hF (i := .goto 7) rfl (fun _ => rfl) ?_
    refine dp_s1 hF (i := .iconst 0) rfl (fun _ => rfl) ?_
    exact dp_s0 hF (i := .ireturn) rfl (fun _ => rfl)
  refine dp_ct4 (fun M4 => ?_) (fun M4 => ?_) (fun M4 => ?_) (fun M4 => ?_)
  · refine dp_ct_s (h := 15) (a := 4) rfl (Nat.le_of_ble_eq_true rfl) ?_
    refine dp_s1 hF (i := .iconst 1) rfl (fun _ => rfl) ?_
    exact dp_s0 hF (i := .ireturn) rfl (fun _ => rfl)
  · exact dp_ct_n rfl
  · exact dp_ct_n rfl
  · exact dp_ct_n rfl
noncomputable def D_L_part_0 (xs : Nat → Int32) (xl d : Nat) (v1 : Int32) (v2 : Int32) (M : dp_M) : Option dp_Res := dp_lim true xs xl (dp_den true xs xl d) dp_m_L_part (0, [some (.ref 0), some (.int v1), some (.int v2), some (.ref 245), none], [], M)
theorem D_L_part_0_den (xs : Nat → Int32) (xl d : Nat) (a1 : Int32) (a2 : Int32) (M : dp_M) : dp_den true xs xl (d + 1) 615 [.ref 0, .int a1, .int a2, .ref 245] M = D_L_part_0 xs xl d a1 a2 M := rfl
set_option maxRecDepth 20000 in
theorem D_L_part_0_eq (xs : Nat → Int32) (xl d : Nat) (v1 : Int32) (v2 : Int32) (M : dp_M) : D_L_part_0 xs xl d v1 v2 M = dp_ti (dp_den true xs xl d 290 [.ref 0, .int v1, .int v2] M) (fun r2 M1 => if (0 : Int32) < 0 ∨ 1 ≤ Int32.toNatClampNeg (0 : Int32) then none else dp_w (dp_setJ M1 245 (Int32.toNatClampNeg (0 : Int32)) (Int32.toInt64 r2)) (fun M3 => some (.inl (some (.int (0 : Int32))), M3))) (fun e9 M4 => dp_x4 e9 (some (.inl (some (.int (1 : Int32))), M4)) (none) (none) (none)) := by
  have hF := dp_den_grow (md := true) (xs := xs) (xl := xl) d
  unfold D_L_part_0
  refine dp_s1 hF (i := .aload_n 3) rfl (fun _ => rfl) ?_
  refine dp_s1 hF (i := .iconst 0) rfl (fun _ => rfl) ?_
  refine dp_s1 hF (i := .aload_n 0) rfl (fun _ => rfl) ?_
  refine dp_s1 hF (i := .iload_n 1) rfl (fun _ => rfl) ?_
  refine dp_s1 hF (i := .iload_n 2) rfl (fun _ => rfl) ?_
  refine dp_ci9 (mj := dp_m_X11_part) (i := .invokevirtual 80) rfl ⟨_, _, rfl⟩ (Or.inl rfl) rfl (fun _ => rfl) (fun r2 M1 => ?_) ?_
  · refine dp_s1 hF (i := .i2l) rfl (fun _ => rfl) ?_
    refine dp_s3w (dp_setJ M1 245 (Int32.toNatClampNeg (0 : Int32)) (Int32.toInt64 r2)) (fun (M3 : dp_M) => (10, [some (.ref 0), some (.int v1), some (.int v2), some (.ref 245), none], [], M3)) hF (i := .lastore) rfl (fun _ => rfl) (fun M3 => ?_)
    refine dp_s1 hF (i := .goto 7) rfl (fun _ => rfl) ?_
    refine dp_s1 hF (i := .iconst 0) rfl (fun _ => rfl) ?_
    exact dp_s0 hF (i := .ireturn) rfl (fun _ => rfl)
  refine dp_ct4 (fun M4 => ?_) (fun M4 => ?_) (fun M4 => ?_) (fun M4 => ?_)
  · refine dp_ct_s (h := 15) (a := 4) rfl (Nat.le_of_ble_eq_true rfl) ?_
    refine dp_s1 hF (i := .iconst 1) rfl (fun _ => rfl) ?_
    exact dp_s0 hF (i := .ireturn) rfl (fun _ => rfl)
  · exact dp_ct_n rfl
  · exact dp_ct_n rfl
  · exact dp_ct_n rfl
noncomputable def D_L_withdraw_0 (xs : Nat → Int32) (xl d : Nat) (v1 : Int32) (M : dp_M) : Option dp_Res := dp_lim true xs xl (dp_den true xs xl d) dp_m_L_withdraw (0, [some (.ref 0), some (.int v1), some (.ref 245), none], [], M)
theorem D_L_withdraw_0_den (xs : Nat → Int32) (xl d : Nat) (a1 : Int32) (M : dp_M) : dp_den true xs xl (d + 1) 616 [.ref 0, .int a1, .ref 245] M = D_L_withdraw_0 xs xl d a1 M := rfl
set_option maxRecDepth 20000 in
theorem D_L_withdraw_0_eq (xs : Nat → Int32) (xl d : Nat) (v1 : Int32) (M : dp_M) : D_L_withdraw_0 xs xl d v1 M = dp_ti (dp_den true xs xl d 291 [.ref 0, .int v1] M) (fun r2 M1 => if (0 : Int32) < 0 ∨ 1 ≤ Int32.toNatClampNeg (0 : Int32) then none else dp_w (dp_setJ M1 245 (Int32.toNatClampNeg (0 : Int32)) (Int32.toInt64 r2)) (fun M3 => some (.inl (some (.int (0 : Int32))), M3))) (fun e9 M4 => dp_x4 e9 (some (.inl (some (.int (1 : Int32))), M4)) (none) (none) (none)) := by
  have hF := dp_den_grow (md := true) (xs := xs) (xl := xl) d
  unfold D_L_withdraw_0
  refine dp_s1 hF (i := .aload_n 2) rfl (fun _ => rfl) ?_
  refine dp_s1 hF (i := .iconst 0) rfl (fun _ => rfl) ?_
  refine dp_s1 hF (i := .aload_n 0) rfl (fun _ => rfl) ?_
  refine dp_s1 hF (i := .iload_n 1) rfl (fun _ => rfl) ?_
  refine dp_ci9 (mj := dp_m_X11_withdraw) (i := .invokevirtual 83) rfl ⟨_, _, rfl⟩ (Or.inl rfl) rfl (fun _ => rfl) (fun r2 M1 => ?_) ?_
  · refine dp_s1 hF (i := .i2l) rfl (fun _ => rfl) ?_
    refine dp_s3w (dp_setJ M1 245 (Int32.toNatClampNeg (0 : Int32)) (Int32.toInt64 r2)) (fun (M3 : dp_M) => (9, [some (.ref 0), some (.int v1), some (.ref 245), none], [], M3)) hF (i := .lastore) rfl (fun _ => rfl) (fun M3 => ?_)
    refine dp_s1 hF (i := .goto 6) rfl (fun _ => rfl) ?_
    refine dp_s1 hF (i := .iconst 0) rfl (fun _ => rfl) ?_
    exact dp_s0 hF (i := .ireturn) rfl (fun _ => rfl)
  refine dp_ct4 (fun M4 => ?_) (fun M4 => ?_) (fun M4 => ?_) (fun M4 => ?_)
  · refine dp_ct_s (h := 13) (a := 3) rfl (Nat.le_of_ble_eq_true rfl) ?_
    refine dp_s1 hF (i := .iconst 1) rfl (fun _ => rfl) ?_
    exact dp_s0 hF (i := .ireturn) rfl (fun _ => rfl)
  · exact dp_ct_n rfl
  · exact dp_ct_n rfl
  · exact dp_ct_n rfl
noncomputable def D_L_gate_0 (xs : Nat → Int32) (xl d : Nat) (v1 : Int32) (M : dp_M) : Option dp_Res := dp_lim true xs xl (dp_den true xs xl d) dp_m_L_gate (0, [some (.ref 0), some (.int v1), some (.ref 245), none], [], M)
theorem D_L_gate_0_den (xs : Nat → Int32) (xl d : Nat) (a1 : Int32) (M : dp_M) : dp_den true xs xl (d + 1) 617 [.ref 0, .int a1, .ref 245] M = D_L_gate_0 xs xl d a1 M := rfl
set_option maxRecDepth 20000 in
theorem D_L_gate_0_eq (xs : Nat → Int32) (xl d : Nat) (v1 : Int32) (M : dp_M) : D_L_gate_0 xs xl d v1 M = dp_ti (dp_den true xs xl d 292 [.ref 0, .int v1] M) (fun r2 M1 => if (0 : Int32) < 0 ∨ 1 ≤ Int32.toNatClampNeg (0 : Int32) then none else dp_w (dp_setJ M1 245 (Int32.toNatClampNeg (0 : Int32)) (Int32.toInt64 r2)) (fun M3 => some (.inl (some (.int (0 : Int32))), M3))) (fun e9 M4 => dp_x4 e9 (some (.inl (some (.int (1 : Int32))), M4)) (none) (none) (none)) := by
  have hF := dp_den_grow (md := true) (xs := xs) (xl := xl) d
  unfold D_L_gate_0
  refine dp_s1 hF (i := .aload_n 2) rfl (fun _ => rfl) ?_
  refine dp_s1 hF (i := .iconst 0) rfl (fun _ => rfl) ?_
  refine dp_s1 hF (i := .aload_n 0) rfl (fun _ => rfl) ?_
  refine dp_s1 hF (i := .iload_n 1) rfl (fun _ => rfl) ?_
  refine dp_ci9 (mj := dp_m_X11_gate) (i := .invokevirtual 86) rfl ⟨_, _, rfl⟩ (Or.inl rfl) rfl (fun _ => rfl) (fun r2 M1 => ?_) ?_
  · refine dp_s1 hF (i := .i2l) rfl (fun _ => rfl) ?_
    refine dp_s3w (dp_setJ M1 245 (Int32.toNatClampNeg (0 : Int32)) (Int32.toInt64 r2)) (fun (M3 : dp_M) => (9, [some (.ref 0), some (.int v1), some (.ref 245), none], [], M3)) hF (i := .lastore) rfl (fun _ => rfl) (fun M3 => ?_)
    refine dp_s1 hF (i := .goto 6) rfl (fun _ => rfl) ?_
    refine dp_s1 hF (i := .iconst 0) rfl (fun _ => rfl) ?_
    exact dp_s0 hF (i := .ireturn) rfl (fun _ => rfl)
  refine dp_ct4 (fun M4 => ?_) (fun M4 => ?_) (fun M4 => ?_) (fun M4 => ?_)
  · refine dp_ct_s (h := 13) (a := 3) rfl (Nat.le_of_ble_eq_true rfl) ?_
    refine dp_s1 hF (i := .iconst 1) rfl (fun _ => rfl) ?_
    exact dp_s0 hF (i := .ireturn) rfl (fun _ => rfl)
  · exact dp_ct_n rfl
  · exact dp_ct_n rfl
  · exact dp_ct_n rfl
noncomputable def D_L_look_0 (xs : Nat → Int32) (xl d : Nat) (v1 : Int32) (v2 : Int32) (M : dp_M) : Option dp_Res := dp_lim true xs xl (dp_den true xs xl d) dp_m_L_look (0, [some (.ref 0), some (.int v1), some (.int v2), some (.ref 245), none], [], M)
theorem D_L_look_0_den (xs : Nat → Int32) (xl d : Nat) (a1 : Int32) (a2 : Int32) (M : dp_M) : dp_den true xs xl (d + 1) 618 [.ref 0, .int a1, .int a2, .ref 245] M = D_L_look_0 xs xl d a1 a2 M := rfl
set_option maxRecDepth 20000 in
theorem D_L_look_0_eq (xs : Nat → Int32) (xl d : Nat) (v1 : Int32) (v2 : Int32) (M : dp_M) : D_L_look_0 xs xl d v1 v2 M = dp_ti (dp_den true xs xl d 295 [.ref 0, .int v1, .int v2] M) (fun r2 M1 => if (0 : Int32) < 0 ∨ 1 ≤ Int32.toNatClampNeg (0 : Int32) then none else dp_w (dp_setJ M1 245 (Int32.toNatClampNeg (0 : Int32)) (Int32.toInt64 r2)) (fun M3 => some (.inl (some (.int (0 : Int32))), M3))) (fun e9 M4 => dp_x4 e9 (none) (none) (some (.inl (some (.int (1 : Int32))), M4)) (none)) := by
  have hF := dp_den_grow (md := true) (xs := xs) (xl := xl) d
  unfold D_L_look_0
  refine dp_s1 hF (i := .aload_n 3) rfl (fun _ => rfl) ?_
  refine dp_s1 hF (i := .iconst 0) rfl (fun _ => rfl) ?_
  refine dp_s1 hF (i := .aload_n 0) rfl (fun _ => rfl) ?_
  refine dp_s1 hF (i := .iload_n 1) rfl (fun _ => rfl) ?_
  refine dp_s1 hF (i := .iload_n 2) rfl (fun _ => rfl) ?_
  refine dp_ci9 (mj := dp_m_X11_look) (i := .invokevirtual 89) rfl ⟨_, _, rfl⟩ (Or.inl rfl) rfl (fun _ => rfl) (fun r2 M1 => ?_) ?_
  · refine dp_s1 hF (i := .i2l) rfl (fun _ => rfl) ?_
    refine dp_s3w (dp_setJ M1 245 (Int32.toNatClampNeg (0 : Int32)) (Int32.toInt64 r2)) (fun (M3 : dp_M) => (10, [some (.ref 0), some (.int v1), some (.int v2), some (.ref 245), none], [], M3)) hF (i := .lastore) rfl (fun _ => rfl) (fun M3 => ?_)
    refine dp_s1 hF (i := .goto 7) rfl (fun _ => rfl) ?_
    refine dp_s1 hF (i := .iconst 0) rfl (fun _ => rfl) ?_
    exact dp_s0 hF (i := .ireturn) rfl (fun _ => rfl)
  refine dp_ct4 (fun M4 => ?_) (fun M4 => ?_) (fun M4 => ?_) (fun M4 => ?_)
  · exact dp_ct_n rfl
  · exact dp_ct_n rfl
  · refine dp_ct_s (h := 15) (a := 4) rfl (Nat.le_of_ble_eq_true rfl) ?_
    refine dp_s1 hF (i := .iconst 1) rfl (fun _ => rfl) ?_
    exact dp_s0 hF (i := .ireturn) rfl (fun _ => rfl)
  · exact dp_ct_n rfl
noncomputable def D_L_row_0 (xs : Nat → Int32) (xl d : Nat) (v1 : Int32) (v2 : Int32) (v3 : Int32) (v4 : Int32) (v5 : Int32) (v6 : Int32) (v7 : Int32) (M : dp_M) : Option dp_Res := dp_lim true xs xl (dp_den true xs xl d) dp_m_L_row (0, [some (.ref 0), some (.int v1), some (.int v2), some (.int v3), some (.int v4), some (.int v5), some (.int v6), some (.int v7), some (.ref 245), none], [], M)
theorem D_L_row_0_den (xs : Nat → Int32) (xl d : Nat) (a1 : Int32) (a2 : Int32) (a3 : Int32) (a4 : Int32) (a5 : Int32) (a6 : Int32) (a7 : Int32) (M : dp_M) : dp_den true xs xl (d + 1) 619 [.ref 0, .int a1, .int a2, .int a3, .int a4, .int a5, .int a6, .int a7, .ref 245] M = D_L_row_0 xs xl d a1 a2 a3 a4 a5 a6 a7 M := rfl
set_option maxRecDepth 20000 in
theorem D_L_row_0_eq (xs : Nat → Int32) (xl d : Nat) (v1 : Int32) (v2 : Int32) (v3 : Int32) (v4 : Int32) (v5 : Int32) (v6 : Int32) (v7 : Int32) (M : dp_M) : D_L_row_0 xs xl d v1 v2 v3 v4 v5 v6 v7 M = dp_ti (dp_den true xs xl d 300 [.ref 0, .int v1, .int v2, .int v3, .int v4, .int v5, .int v6, .int v7] M) (fun r2 M1 => if (0 : Int32) < 0 ∨ 1 ≤ Int32.toNatClampNeg (0 : Int32) then none else dp_w (dp_setJ M1 245 (Int32.toNatClampNeg (0 : Int32)) (Int32.toInt64 r2)) (fun M3 => some (.inl (some (.int (0 : Int32))), M3))) (fun e9 M4 => dp_x4 e9 (some (.inl (some (.int (1 : Int32))), M4)) (some (.inl (some (.int (2 : Int32))), M4)) (none) (none)) := by
  have hF := dp_den_grow (md := true) (xs := xs) (xl := xl) d
  unfold D_L_row_0
  refine dp_s1 hF (i := .aload 8) rfl (fun _ => rfl) ?_
  refine dp_s1 hF (i := .iconst 0) rfl (fun _ => rfl) ?_
  refine dp_s1 hF (i := .aload_n 0) rfl (fun _ => rfl) ?_
  refine dp_s1 hF (i := .iload_n 1) rfl (fun _ => rfl) ?_
  refine dp_s1 hF (i := .iload_n 2) rfl (fun _ => rfl) ?_
  refine dp_s1 hF (i := .iload_n 3) rfl (fun _ => rfl) ?_
  refine dp_s1 hF (i := .iload 4) rfl (fun _ => rfl) ?_
  refine dp_s1 hF (i := .iload 5) rfl (fun _ => rfl) ?_
  refine dp_s1 hF (i := .iload 6) rfl (fun _ => rfl) ?_
  refine dp_s1 hF (i := .iload 7) rfl (fun _ => rfl) ?_
  refine dp_ci9 (mj := dp_m_X11_row) (i := .invokevirtual 92) rfl ⟨_, _, rfl⟩ (Or.inl rfl) rfl (fun _ => rfl) (fun r2 M1 => ?_) ?_
  · refine dp_s1 hF (i := .i2l) rfl (fun _ => rfl) ?_
    refine dp_s3w (dp_setJ M1 245 (Int32.toNatClampNeg (0 : Int32)) (Int32.toInt64 r2)) (fun (M3 : dp_M) => (20, [some (.ref 0), some (.int v1), some (.int v2), some (.int v3), some (.int v4), some (.int v5), some (.int v6), some (.int v7), some (.ref 245), none], [], M3)) hF (i := .lastore) rfl (fun _ => rfl) (fun M3 => ?_)
    refine dp_s1 hF (i := .goto 11) rfl (fun _ => rfl) ?_
    refine dp_s1 hF (i := .iconst 0) rfl (fun _ => rfl) ?_
    exact dp_s0 hF (i := .ireturn) rfl (fun _ => rfl)
  refine dp_ct4 (fun M4 => ?_) (fun M4 => ?_) (fun M4 => ?_) (fun M4 => ?_)
  · refine dp_ct_s (h := 25) (a := 9) rfl (Nat.le_of_ble_eq_true rfl) ?_
    refine dp_s1 hF (i := .iconst 1) rfl (fun _ => rfl) ?_
    exact dp_s0 hF (i := .ireturn) rfl (fun _ => rfl)
  · refine dp_ct_s (h := 29) (a := 9) rfl (Nat.le_of_ble_eq_true rfl) ?_
    refine dp_s1 hF (i := .iconst 2) rfl (fun _ => rfl) ?_
    exact dp_s0 hF (i := .ireturn) rfl (fun _ => rfl)
  · exact dp_ct_n rfl
  · exact dp_ct_n rfl
noncomputable def D_L_end_0 (xs : Nat → Int32) (xl d : Nat) (v1 : Int32) (v2 : Int32) (v3 : Int32) (M : dp_M) : Option dp_Res := dp_lim true xs xl (dp_den true xs xl d) dp_m_L_end (0, [some (.ref 0), some (.int v1), some (.int v2), some (.int v3), some (.ref 245), none], [], M)
theorem D_L_end_0_den (xs : Nat → Int32) (xl d : Nat) (a1 : Int32) (a2 : Int32) (a3 : Int32) (M : dp_M) : dp_den true xs xl (d + 1) 620 [.ref 0, .int a1, .int a2, .int a3, .ref 245] M = D_L_end_0 xs xl d a1 a2 a3 M := rfl
set_option maxRecDepth 20000 in
theorem D_L_end_0_eq (xs : Nat → Int32) (xl d : Nat) (v1 : Int32) (v2 : Int32) (v3 : Int32) (M : dp_M) : D_L_end_0 xs xl d v1 v2 v3 M = dp_ti (dp_den true xs xl d 303 [.ref 0, .int v1, .int v2, .int v3] M) (fun r2 M1 => if (0 : Int32) < 0 ∨ 1 ≤ Int32.toNatClampNeg (0 : Int32) then none else dp_w (dp_setJ M1 245 (Int32.toNatClampNeg (0 : Int32)) (Int32.toInt64 r2)) (fun M3 => some (.inl (some (.int (0 : Int32))), M3))) (fun e9 M4 => dp_x4 e9 (some (.inl (some (.int (2 : Int32))), M4)) (some (.inl (some (.int (3 : Int32))), M4)) (some (.inl (some (.int (1 : Int32))), M4)) (none)) := by
  have hF := dp_den_grow (md := true) (xs := xs) (xl := xl) d
  unfold D_L_end_0
  refine dp_s1 hF (i := .aload 4) rfl (fun _ => rfl) ?_
  refine dp_s1 hF (i := .iconst 0) rfl (fun _ => rfl) ?_
  refine dp_s1 hF (i := .aload_n 0) rfl (fun _ => rfl) ?_
  refine dp_s1 hF (i := .iload_n 1) rfl (fun _ => rfl) ?_
  refine dp_s1 hF (i := .iload_n 2) rfl (fun _ => rfl) ?_
  refine dp_s1 hF (i := .iload_n 3) rfl (fun _ => rfl) ?_
  refine dp_ci9 (mj := dp_m_X11_end) (i := .invokevirtual 95) rfl ⟨_, _, rfl⟩ (Or.inl rfl) rfl (fun _ => rfl) (fun r2 M1 => ?_) ?_
  · refine dp_s1 hF (i := .i2l) rfl (fun _ => rfl) ?_
    refine dp_s3w (dp_setJ M1 245 (Int32.toNatClampNeg (0 : Int32)) (Int32.toInt64 r2)) (fun (M3 : dp_M) => (12, [some (.ref 0), some (.int v1), some (.int v2), some (.int v3), some (.ref 245), none], [], M3)) hF (i := .lastore) rfl (fun _ => rfl) (fun M3 => ?_)
    refine dp_s1 hF (i := .goto 15) rfl (fun _ => rfl) ?_
    refine dp_s1 hF (i := .iconst 0) rfl (fun _ => rfl) ?_
    exact dp_s0 hF (i := .ireturn) rfl (fun _ => rfl)
  refine dp_ct4 (fun M4 => ?_) (fun M4 => ?_) (fun M4 => ?_) (fun M4 => ?_)
  · refine dp_ct_s (h := 21) (a := 5) rfl (Nat.le_of_ble_eq_true rfl) ?_
    refine dp_s1 hF (i := .iconst 2) rfl (fun _ => rfl) ?_
    exact dp_s0 hF (i := .ireturn) rfl (fun _ => rfl)
  · refine dp_ct_s (h := 25) (a := 5) rfl (Nat.le_of_ble_eq_true rfl) ?_
    refine dp_s1 hF (i := .iconst 3) rfl (fun _ => rfl) ?_
    exact dp_s0 hF (i := .ireturn) rfl (fun _ => rfl)
  · refine dp_ct_s (h := 17) (a := 5) rfl (Nat.le_of_ble_eq_true rfl) ?_
    refine dp_s1 hF (i := .iconst 1) rfl (fun _ => rfl) ?_
    exact dp_s0 hF (i := .ireturn) rfl (fun _ => rfl)
  · exact dp_ct_n rfl
noncomputable def D_L_apply_0 (xs : Nat → Int32) (xl d : Nat) (v1 : Int32) (v2 : Int32) (v3 : Int32) (v4 : Int32) (M : dp_M) : Option dp_Res := dp_lim true xs xl (dp_den true xs xl d) dp_m_L_apply (0, [some (.ref 0), some (.int v1), some (.int v2), some (.int v3), some (.int v4), some (.ref 245), none], [], M)
theorem D_L_apply_0_den (xs : Nat → Int32) (xl d : Nat) (a1 : Int32) (a2 : Int32) (a3 : Int32) (a4 : Int32) (M : dp_M) : dp_den true xs xl (d + 1) 621 [.ref 0, .int a1, .int a2, .int a3, .int a4, .ref 245] M = D_L_apply_0 xs xl d a1 a2 a3 a4 M := rfl
set_option maxRecDepth 20000 in
theorem D_L_apply_0_eq (xs : Nat → Int32) (xl d : Nat) (v1 : Int32) (v2 : Int32) (v3 : Int32) (v4 : Int32) (M : dp_M) : D_L_apply_0 xs xl d v1 v2 v3 v4 M = dp_ti (dp_den true xs xl d 305 [.ref 0, .int v1, .int v2, .int v3, .int v4] M) (fun r2 M1 => if (0 : Int32) < 0 ∨ 1 ≤ Int32.toNatClampNeg (0 : Int32) then none else dp_w (dp_setJ M1 245 (Int32.toNatClampNeg (0 : Int32)) (Int32.toInt64 r2)) (fun M3 => some (.inl (some (.int (0 : Int32))), M3))) (fun e9 M4 => dp_x4 e9 (some (.inl (some (.int (1 : Int32))), M4)) (none) (none) (none)) := by
  have hF := dp_den_grow (md := true) (xs := xs) (xl := xl) d
  unfold D_L_apply_0
  refine dp_s1 hF (i := .aload 5) rfl (fun _ => rfl) ?_
  refine dp_s1 hF (i := .iconst 0) rfl (fun _ => rfl) ?_
  refine dp_s1 hF (i := .aload_n 0) rfl (fun _ => rfl) ?_
  refine dp_s1 hF (i := .iload_n 1) rfl (fun _ => rfl) ?_
  refine dp_s1 hF (i := .iload_n 2) rfl (fun _ => rfl) ?_
  refine dp_s1 hF (i := .iload_n 3) rfl (fun _ => rfl) ?_
  refine dp_s1 hF (i := .iload 4) rfl (fun _ => rfl) ?_
  refine dp_ci9 (mj := dp_m_X11_apply) (i := .invokevirtual 98) rfl ⟨_, _, rfl⟩ (Or.inl rfl) rfl (fun _ => rfl) (fun r2 M1 => ?_) ?_
  · refine dp_s1 hF (i := .i2l) rfl (fun _ => rfl) ?_
    refine dp_s3w (dp_setJ M1 245 (Int32.toNatClampNeg (0 : Int32)) (Int32.toInt64 r2)) (fun (M3 : dp_M) => (14, [some (.ref 0), some (.int v1), some (.int v2), some (.int v3), some (.int v4), some (.ref 245), none], [], M3)) hF (i := .lastore) rfl (fun _ => rfl) (fun M3 => ?_)
    refine dp_s1 hF (i := .goto 7) rfl (fun _ => rfl) ?_
    refine dp_s1 hF (i := .iconst 0) rfl (fun _ => rfl) ?_
    exact dp_s0 hF (i := .ireturn) rfl (fun _ => rfl)
  refine dp_ct4 (fun M4 => ?_) (fun M4 => ?_) (fun M4 => ?_) (fun M4 => ?_)
  · refine dp_ct_s (h := 19) (a := 6) rfl (Nat.le_of_ble_eq_true rfl) ?_
    refine dp_s1 hF (i := .iconst 1) rfl (fun _ => rfl) ?_
    exact dp_s0 hF (i := .ireturn) rfl (fun _ => rfl)
  · exact dp_ct_n rfl
  · exact dp_ct_n rfl
  · exact dp_ct_n rfl
noncomputable def D_L_rate_0 (xs : Nat → Int32) (xl d : Nat) (v1 : Int32) (M : dp_M) : Option dp_Res := dp_lim true xs xl (dp_den true xs xl d) dp_m_L_rate (0, [some (.ref 0), some (.int v1), some (.ref 245), none], [], M)
theorem D_L_rate_0_den (xs : Nat → Int32) (xl d : Nat) (a1 : Int32) (M : dp_M) : dp_den true xs xl (d + 1) 622 [.ref 0, .int a1, .ref 245] M = D_L_rate_0 xs xl d a1 M := rfl
set_option maxRecDepth 20000 in
theorem D_L_rate_0_eq (xs : Nat → Int32) (xl d : Nat) (v1 : Int32) (M : dp_M) : D_L_rate_0 xs xl d v1 M = dp_ti (dp_den true xs xl d 308 [.ref 0, .int v1] M) (fun r2 M1 => if (0 : Int32) < 0 ∨ 1 ≤ Int32.toNatClampNeg (0 : Int32) then none else dp_w (dp_setJ M1 245 (Int32.toNatClampNeg (0 : Int32)) (Int32.toInt64 r2)) (fun M3 => some (.inl (some (.int (0 : Int32))), M3))) (fun e9 M4 => dp_x4 e9 (some (.inl (some (.int (1 : Int32))), M4)) (none) (none) (none)) := by
  have hF := dp_den_grow (md := true) (xs := xs) (xl := xl) d
  unfold D_L_rate_0
  refine dp_s1 hF (i := .aload_n 2) rfl (fun _ => rfl) ?_
  refine dp_s1 hF (i := .iconst 0) rfl (fun _ => rfl) ?_
  refine dp_s1 hF (i := .aload_n 0) rfl (fun _ => rfl) ?_
  refine dp_s1 hF (i := .iload_n 1) rfl (fun _ => rfl) ?_
  refine dp_ci9 (mj := dp_m_X11_rate) (i := .invokevirtual 101) rfl ⟨_, _, rfl⟩ (Or.inl rfl) rfl (fun _ => rfl) (fun r2 M1 => ?_) ?_
  · refine dp_s1 hF (i := .i2l) rfl (fun _ => rfl) ?_
    refine dp_s3w (dp_setJ M1 245 (Int32.toNatClampNeg (0 : Int32)) (Int32.toInt64 r2)) (fun (M3 : dp_M) => (9, [some (.ref 0), some (.int v1), some (.ref 245), none], [], M3)) hF (i := .lastore) rfl (fun _ => rfl) (fun M3 => ?_)
    refine dp_s1 hF (i := .goto 6) rfl (fun _ => rfl) ?_
    refine dp_s1 hF (i := .iconst 0) rfl (fun _ => rfl) ?_
    exact dp_s0 hF (i := .ireturn) rfl (fun _ => rfl)
  refine dp_ct4 (fun M4 => ?_) (fun M4 => ?_) (fun M4 => ?_) (fun M4 => ?_)
  · refine dp_ct_s (h := 13) (a := 3) rfl (Nat.le_of_ble_eq_true rfl) ?_
    refine dp_s1 hF (i := .iconst 1) rfl (fun _ => rfl) ?_
    exact dp_s0 hF (i := .ireturn) rfl (fun _ => rfl)
  · exact dp_ct_n rfl
  · exact dp_ct_n rfl
  · exact dp_ct_n rfl
noncomputable def D_L_node_0 (xs : Nat → Int32) (xl d : Nat) (v1 : Int32) (v2 : Int32) (v3 : Int32) (M : dp_M) : Option dp_Res := dp_lim true xs xl (dp_den true xs xl d) dp_m_L_node (0, [some (.ref 0), some (.int v1), some (.int v2), some (.int v3), some (.ref 245), none], [], M)
theorem D_L_node_0_den (xs : Nat → Int32) (xl d : Nat) (a1 : Int32) (a2 : Int32) (a3 : Int32) (M : dp_M) : dp_den true xs xl (d + 1) 623 [.ref 0, .int a1, .int a2, .int a3, .ref 245] M = D_L_node_0 xs xl d a1 a2 a3 M := rfl
set_option maxRecDepth 20000 in
theorem D_L_node_0_eq (xs : Nat → Int32) (xl d : Nat) (v1 : Int32) (v2 : Int32) (v3 : Int32) (M : dp_M) : D_L_node_0 xs xl d v1 v2 v3 M = dp_ti (dp_den true xs xl d 310 [.ref 0, .int v1, .int v2, .int v3] M) (fun r2 M1 => if (0 : Int32) < 0 ∨ 1 ≤ Int32.toNatClampNeg (0 : Int32) then none else dp_w (dp_setJ M1 245 (Int32.toNatClampNeg (0 : Int32)) (Int32.toInt64 r2)) (fun M3 => some (.inl (some (.int (0 : Int32))), M3))) (fun e9 M4 => dp_x4 e9 (none) (none) (some (.inl (some (.int (1 : Int32))), M4)) (none)) := by
  have hF := dp_den_grow (md := true) (xs := xs) (xl := xl) d
  unfold D_L_node_0
  refine dp_s1 hF (i := .aload 4) rfl (fun _ => rfl) ?_
  refine dp_s1 hF (i := .iconst 0) rfl (fun _ => rfl) ?_
  refine dp_s1 hF (i := .aload_n 0) rfl (fun _ => rfl) ?_
  refine dp_s1 hF (i := .iload_n 1) rfl (fun _ => rfl) ?_
  refine dp_s1 hF (i := .iload_n 2) rfl (fun _ => rfl) ?_
  refine dp_s1 hF (i := .iload_n 3) rfl (fun _ => rfl) ?_
  refine dp_ci9 (mj := dp_m_X11_node) (i := .invokevirtual 104) rfl ⟨_, _, rfl⟩ (Or.inl rfl) rfl (fun _ => rfl) (fun r2 M1 => ?_) ?_
  · refine dp_s1 hF (i := .i2l) rfl (fun _ => rfl) ?_
    refine dp_s3w (dp_setJ M1 245 (Int32.toNatClampNeg (0 : Int32)) (Int32.toInt64 r2)) (fun (M3 : dp_M) => (12, [some (.ref 0), some (.int v1), some (.int v2), some (.int v3), some (.ref 245), none], [], M3)) hF (i := .lastore) rfl (fun _ => rfl) (fun M3 => ?_)
    refine dp_s1 hF (i := .goto 7) rfl (fun _ => rfl) ?_
    refine dp_s1 hF (i := .iconst 0) rfl (fun _ => rfl) ?_
    exact dp_s0 hF (i := .ireturn) rfl (fun _ => rfl)
  refine dp_ct4 (fun M4 => ?_) (fun M4 => ?_) (fun M4 => ?_) (fun M4 => ?_)
  · exact dp_ct_n rfl
  · exact dp_ct_n rfl
  · refine dp_ct_s (h := 17) (a := 5) rfl (Nat.le_of_ble_eq_true rfl) ?_
    refine dp_s1 hF (i := .iconst 1) rfl (fun _ => rfl) ?_
    exact dp_s0 hF (i := .ireturn) rfl (fun _ => rfl)
  · exact dp_ct_n rfl
noncomputable def D_L_print_0 (xs : Nat → Int32) (xl d : Nat) (v1 : Int32) (M : dp_M) : Option dp_Res := dp_lim true xs xl (dp_den true xs xl d) dp_m_L_print (0, [some (.ref 0), some (.int v1), some (.ref 245), none], [], M)
theorem D_L_print_0_den (xs : Nat → Int32) (xl d : Nat) (a1 : Int32) (M : dp_M) : dp_den true xs xl (d + 1) 624 [.ref 0, .int a1, .ref 245] M = D_L_print_0 xs xl d a1 M := rfl
set_option maxRecDepth 20000 in
theorem D_L_print_0_eq (xs : Nat → Int32) (xl d : Nat) (v1 : Int32) (M : dp_M) : D_L_print_0 xs xl d v1 M = dp_ti (dp_den true xs xl d 311 [.ref 0, .int v1] M) (fun r2 M1 => if (0 : Int32) < 0 ∨ 1 ≤ Int32.toNatClampNeg (0 : Int32) then none else dp_w (dp_setJ M1 245 (Int32.toNatClampNeg (0 : Int32)) (Int32.toInt64 r2)) (fun M3 => some (.inl (some (.int (0 : Int32))), M3))) (fun e9 M4 => dp_x4 e9 (some (.inl (some (.int (1 : Int32))), M4)) (none) (none) (none)) := by
  have hF := dp_den_grow (md := true) (xs := xs) (xl := xl) d
  unfold D_L_print_0
  refine dp_s1 hF (i := .aload_n 2) rfl (fun _ => rfl) ?_
  refine dp_s1 hF (i := .iconst 0) rfl (fun _ => rfl) ?_
  refine dp_s1 hF (i := .aload_n 0) rfl (fun _ => rfl) ?_
  refine dp_s1 hF (i := .iload_n 1) rfl (fun _ => rfl) ?_
  refine dp_ci9 (mj := dp_m_X11_print) (i := .invokevirtual 107) rfl ⟨_, _, rfl⟩ (Or.inl rfl) rfl (fun _ => rfl) (fun r2 M1 => ?_) ?_
  · refine dp_s1 hF (i := .i2l) rfl (fun _ => rfl) ?_
    refine dp_s3w (dp_setJ M1 245 (Int32.toNatClampNeg (0 : Int32)) (Int32.toInt64 r2)) (fun (M3 : dp_M) => (9, [some (.ref 0), some (.int v1), some (.ref 245), none], [], M3)) hF (i := .lastore) rfl (fun _ => rfl) (fun M3 => ?_)
    refine dp_s1 hF (i := .goto 6) rfl (fun _ => rfl) ?_
    refine dp_s1 hF (i := .iconst 0) rfl (fun _ => rfl) ?_
    exact dp_s0 hF (i := .ireturn) rfl (fun _ => rfl)
  refine dp_ct4 (fun M4 => ?_) (fun M4 => ?_) (fun M4 => ?_) (fun M4 => ?_)
  · refine dp_ct_s (h := 13) (a := 3) rfl (Nat.le_of_ble_eq_true rfl) ?_
    refine dp_s1 hF (i := .iconst 1) rfl (fun _ => rfl) ?_
    exact dp_s0 hF (i := .ireturn) rfl (fun _ => rfl)
  · exact dp_ct_n rfl
  · exact dp_ct_n rfl
  · exact dp_ct_n rfl
noncomputable def D_L_printed_0 (xs : Nat → Int32) (xl d : Nat) (v1 : Int32) (M : dp_M) : Option dp_Res := dp_lim true xs xl (dp_den true xs xl d) dp_m_L_printed (0, [some (.ref 0), some (.int v1), some (.ref 245), none], [], M)
theorem D_L_printed_0_den (xs : Nat → Int32) (xl d : Nat) (a1 : Int32) (M : dp_M) : dp_den true xs xl (d + 1) 625 [.ref 0, .int a1, .ref 245] M = D_L_printed_0 xs xl d a1 M := rfl
set_option maxRecDepth 20000 in
theorem D_L_printed_0_eq (xs : Nat → Int32) (xl d : Nat) (v1 : Int32) (M : dp_M) : D_L_printed_0 xs xl d v1 M = dp_ti (dp_den true xs xl d 312 [.ref 0, .int v1] M) (fun r2 M1 => if (0 : Int32) < 0 ∨ 1 ≤ Int32.toNatClampNeg (0 : Int32) then none else dp_w (dp_setJ M1 245 (Int32.toNatClampNeg (0 : Int32)) (Int32.toInt64 r2)) (fun M3 => some (.inl (some (.int (0 : Int32))), M3))) (fun e9 M4 => dp_x4 e9 (none) (none) (some (.inl (some (.int (1 : Int32))), M4)) (none)) := by
  have hF := dp_den_grow (md := true) (xs := xs) (xl := xl) d
  unfold D_L_printed_0
  refine dp_s1 hF (i := .aload_n 2) rfl (fun _ => rfl) ?_
  refine dp_s1 hF (i := .iconst 0) rfl (fun _ => rfl) ?_
  refine dp_s1 hF (i := .aload_n 0) rfl (fun _ => rfl) ?_
  refine dp_s1 hF (i := .iload_n 1) rfl (fun _ => rfl) ?_
  refine dp_ci9 (mj := dp_m_X11_printed) (i := .invokevirtual 110) rfl ⟨_, _, rfl⟩ (Or.inl rfl) rfl (fun _ => rfl) (fun r2 M1 => ?_) ?_
  · refine dp_s1 hF (i := .i2l) rfl (fun _ => rfl) ?_
    refine dp_s3w (dp_setJ M1 245 (Int32.toNatClampNeg (0 : Int32)) (Int32.toInt64 r2)) (fun (M3 : dp_M) => (9, [some (.ref 0), some (.int v1), some (.ref 245), none], [], M3)) hF (i := .lastore) rfl (fun _ => rfl) (fun M3 => ?_)
    refine dp_s1 hF (i := .goto 6) rfl (fun _ => rfl) ?_
    refine dp_s1 hF (i := .iconst 0) rfl (fun _ => rfl) ?_
    exact dp_s0 hF (i := .ireturn) rfl (fun _ => rfl)
  refine dp_ct4 (fun M4 => ?_) (fun M4 => ?_) (fun M4 => ?_) (fun M4 => ?_)
  · exact dp_ct_n rfl
  · exact dp_ct_n rfl
  · refine dp_ct_s (h := 13) (a := 3) rfl (Nat.le_of_ble_eq_true rfl) ?_
    refine dp_s1 hF (i := .iconst 1) rfl (fun _ => rfl) ?_
    exact dp_s0 hF (i := .ireturn) rfl (fun _ => rfl)
  · exact dp_ct_n rfl
noncomputable def D_L_worth_0 (xs : Nat → Int32) (xl d : Nat) (v1 : Int32) (v2 : Int64) (v4 : Int32) (v5 : Int64) (M : dp_M) : Option dp_Res := dp_lim true xs xl (dp_den true xs xl d) dp_m_L_worth (0, [some (.ref 0), some (.int v1), some (.long v2), none, some (.int v4), some (.long v5), none, some (.ref 245), none], [], M)
theorem D_L_worth_0_den (xs : Nat → Int32) (xl d : Nat) (a1 : Int32) (a2 : Int64) (a3 : Int32) (a4 : Int64) (M : dp_M) : dp_den true xs xl (d + 1) 626 [.ref 0, .int a1, .long a2, .int a3, .long a4, .ref 245] M = D_L_worth_0 xs xl d a1 a2 a3 a4 M := rfl
set_option maxRecDepth 20000 in
theorem D_L_worth_0_eq (xs : Nat → Int32) (xl d : Nat) (v1 : Int32) (v2 : Int64) (v4 : Int32) (v5 : Int64) (M : dp_M) : D_L_worth_0 xs xl d v1 v2 v4 v5 M = dp_tl (dp_den true xs xl d 313 [.ref 0, .int v1, .long v2, .int v4, .long v5] M) (fun r2 M1 => if (0 : Int32) < 0 ∨ 1 ≤ Int32.toNatClampNeg (0 : Int32) then none else dp_w (dp_setJ M1 245 (Int32.toNatClampNeg (0 : Int32)) r2) (fun M3 => some (.inl (some (.int (0 : Int32))), M3))) (fun e9 M4 => dp_x4 e9 (some (.inl (some (.int (1 : Int32))), M4)) (none) (none) (some (.inl (some (.int (2 : Int32))), M4))) := by
  have hF := dp_den_grow (md := true) (xs := xs) (xl := xl) d
  unfold D_L_worth_0
  refine dp_s1 hF (i := .aload 7) rfl (fun _ => rfl) ?_
  refine dp_s1 hF (i := .iconst 0) rfl (fun _ => rfl) ?_
  refine dp_s1 hF (i := .aload_n 0) rfl (fun _ => rfl) ?_
  refine dp_s1 hF (i := .iload_n 1) rfl (fun _ => rfl) ?_
  refine dp_s1 hF (i := .lload_n 2) rfl (fun _ => rfl) ?_
  refine dp_s1 hF (i := .iload 4) rfl (fun _ => rfl) ?_
  refine dp_s1 hF (i := .lload 5) rfl (fun _ => rfl) ?_
  refine dp_cl9 (mj := dp_m_X11_worth) (i := .invokevirtual 113) rfl ⟨_, _, rfl⟩ rfl rfl (fun _ => rfl) (fun r2 M1 => ?_) ?_
  · refine dp_s3w (dp_setJ M1 245 (Int32.toNatClampNeg (0 : Int32)) r2) (fun (M3 : dp_M) => (14, [some (.ref 0), some (.int v1), some (.long v2), none, some (.int v4), some (.long v5), none, some (.ref 245), none], [], M3)) hF (i := .lastore) rfl (fun _ => rfl) (fun M3 => ?_)
    refine dp_s1 hF (i := .goto 11) rfl (fun _ => rfl) ?_
    refine dp_s1 hF (i := .iconst 0) rfl (fun _ => rfl) ?_
    exact dp_s0 hF (i := .ireturn) rfl (fun _ => rfl)
  refine dp_ct4 (fun M4 => ?_) (fun M4 => ?_) (fun M4 => ?_) (fun M4 => ?_)
  · refine dp_ct_s (h := 19) (a := 8) rfl (Nat.le_of_ble_eq_true rfl) ?_
    refine dp_s1 hF (i := .iconst 1) rfl (fun _ => rfl) ?_
    exact dp_s0 hF (i := .ireturn) rfl (fun _ => rfl)
  · exact dp_ct_n rfl
  · exact dp_ct_n rfl
  · refine dp_ct_s (h := 23) (a := 8) rfl (Nat.le_of_ble_eq_true rfl) ?_
    refine dp_s1 hF (i := .iconst 2) rfl (fun _ => rfl) ?_
    exact dp_s0 hF (i := .ireturn) rfl (fun _ => rfl)
noncomputable def D_L_order_0 (xs : Nat → Int32) (xl d : Nat) (v1 : Int64) (v3 : Int32) (v4 : Int32) (M : dp_M) : Option dp_Res := dp_lim true xs xl (dp_den true xs xl d) dp_m_L_order (0, [some (.ref 0), some (.long v1), none, some (.int v3), some (.int v4), some (.ref 245), none], [], M)
theorem D_L_order_0_den (xs : Nat → Int32) (xl d : Nat) (a1 : Int64) (a2 : Int32) (a3 : Int32) (M : dp_M) : dp_den true xs xl (d + 1) 627 [.ref 0, .long a1, .int a2, .int a3, .ref 245] M = D_L_order_0 xs xl d a1 a2 a3 M := rfl
set_option maxRecDepth 20000 in
theorem D_L_order_0_eq (xs : Nat → Int32) (xl d : Nat) (v1 : Int64) (v3 : Int32) (v4 : Int32) (M : dp_M) : D_L_order_0 xs xl d v1 v3 v4 M = dp_ti (dp_den true xs xl d 314 [.ref 0, .long v1, .int v3, .int v4] M) (fun r2 M1 => if (0 : Int32) < 0 ∨ 1 ≤ Int32.toNatClampNeg (0 : Int32) then none else dp_w (dp_setJ M1 245 (Int32.toNatClampNeg (0 : Int32)) (Int32.toInt64 r2)) (fun M3 => some (.inl (some (.int (0 : Int32))), M3))) (fun e9 M4 => dp_x4 e9 (some (.inl (some (.int (1 : Int32))), M4)) (some (.inl (some (.int (2 : Int32))), M4)) (none) (none)) := by
  have hF := dp_den_grow (md := true) (xs := xs) (xl := xl) d
  unfold D_L_order_0
  refine dp_s1 hF (i := .aload 5) rfl (fun _ => rfl) ?_
  refine dp_s1 hF (i := .iconst 0) rfl (fun _ => rfl) ?_
  refine dp_s1 hF (i := .aload_n 0) rfl (fun _ => rfl) ?_
  refine dp_s1 hF (i := .lload_n 1) rfl (fun _ => rfl) ?_
  refine dp_s1 hF (i := .iload_n 3) rfl (fun _ => rfl) ?_
  refine dp_s1 hF (i := .iload 4) rfl (fun _ => rfl) ?_
  refine dp_ci9 (mj := dp_m_X11_order) (i := .invokevirtual 119) rfl ⟨_, _, rfl⟩ (Or.inl rfl) rfl (fun _ => rfl) (fun r2 M1 => ?_) ?_
  · refine dp_s1 hF (i := .i2l) rfl (fun _ => rfl) ?_
    refine dp_s3w (dp_setJ M1 245 (Int32.toNatClampNeg (0 : Int32)) (Int32.toInt64 r2)) (fun (M3 : dp_M) => (13, [some (.ref 0), some (.long v1), none, some (.int v3), some (.int v4), some (.ref 245), none], [], M3)) hF (i := .lastore) rfl (fun _ => rfl) (fun M3 => ?_)
    refine dp_s1 hF (i := .goto 11) rfl (fun _ => rfl) ?_
    refine dp_s1 hF (i := .iconst 0) rfl (fun _ => rfl) ?_
    exact dp_s0 hF (i := .ireturn) rfl (fun _ => rfl)
  refine dp_ct4 (fun M4 => ?_) (fun M4 => ?_) (fun M4 => ?_) (fun M4 => ?_)
  · refine dp_ct_s (h := 18) (a := 6) rfl (Nat.le_of_ble_eq_true rfl) ?_
    refine dp_s1 hF (i := .iconst 1) rfl (fun _ => rfl) ?_
    exact dp_s0 hF (i := .ireturn) rfl (fun _ => rfl)
  · refine dp_ct_s (h := 22) (a := 6) rfl (Nat.le_of_ble_eq_true rfl) ?_
    refine dp_s1 hF (i := .iconst 2) rfl (fun _ => rfl) ?_
    exact dp_s0 hF (i := .ireturn) rfl (fun _ => rfl)
  · exact dp_ct_n rfl
  · exact dp_ct_n rfl
noncomputable def D_L_run_0 (xs : Nat → Int32) (xl d : Nat) (v1 : Int32) (v2 : Int32) (M : dp_M) : Option dp_Res := dp_lim true xs xl (dp_den true xs xl d) dp_m_L_run (0, [some (.ref 0), some (.int v1), some (.int v2), some (.ref 245), none], [], M)
theorem D_L_run_0_den (xs : Nat → Int32) (xl d : Nat) (a1 : Int32) (a2 : Int32) (M : dp_M) : dp_den true xs xl (d + 1) 628 [.ref 0, .int a1, .int a2, .ref 245] M = D_L_run_0 xs xl d a1 a2 M := rfl
set_option maxRecDepth 20000 in
theorem D_L_run_0_eq (xs : Nat → Int32) (xl d : Nat) (v1 : Int32) (v2 : Int32) (M : dp_M) : D_L_run_0 xs xl d v1 v2 M = dp_ti (dp_den true xs xl d 315 [.ref 0, .int v1, .int v2] M) (fun r2 M1 => if (0 : Int32) < 0 ∨ 1 ≤ Int32.toNatClampNeg (0 : Int32) then none else dp_w (dp_setJ M1 245 (Int32.toNatClampNeg (0 : Int32)) (Int32.toInt64 r2)) (fun M3 => some (.inl (some (.int (0 : Int32))), M3))) (fun e9 M4 => dp_x4 e9 (some (.inl (some (.int (2 : Int32))), M4)) (none) (some (.inl (some (.int (1 : Int32))), M4)) (none)) := by
  have hF := dp_den_grow (md := true) (xs := xs) (xl := xl) d
  unfold D_L_run_0
  refine dp_s1 hF (i := .aload_n 3) rfl (fun _ => rfl) ?_
  refine dp_s1 hF (i := .iconst 0) rfl (fun _ => rfl) ?_
  refine dp_s1 hF (i := .aload_n 0) rfl (fun _ => rfl) ?_
  refine dp_s1 hF (i := .iload_n 1) rfl (fun _ => rfl) ?_
  refine dp_s1 hF (i := .iload_n 2) rfl (fun _ => rfl) ?_
  refine dp_ci9 (mj := dp_m_X11_run) (i := .invokevirtual 123) rfl ⟨_, _, rfl⟩ (Or.inl rfl) rfl (fun _ => rfl) (fun r2 M1 => ?_) ?_
  · refine dp_s1 hF (i := .i2l) rfl (fun _ => rfl) ?_
    refine dp_s3w (dp_setJ M1 245 (Int32.toNatClampNeg (0 : Int32)) (Int32.toInt64 r2)) (fun (M3 : dp_M) => (10, [some (.ref 0), some (.int v1), some (.int v2), some (.ref 245), none], [], M3)) hF (i := .lastore) rfl (fun _ => rfl) (fun M3 => ?_)
    refine dp_s1 hF (i := .goto 11) rfl (fun _ => rfl) ?_
    refine dp_s1 hF (i := .iconst 0) rfl (fun _ => rfl) ?_
    exact dp_s0 hF (i := .ireturn) rfl (fun _ => rfl)
  refine dp_ct4 (fun M4 => ?_) (fun M4 => ?_) (fun M4 => ?_) (fun M4 => ?_)
  · refine dp_ct_s (h := 19) (a := 4) rfl (Nat.le_of_ble_eq_true rfl) ?_
    refine dp_s1 hF (i := .iconst 2) rfl (fun _ => rfl) ?_
    exact dp_s0 hF (i := .ireturn) rfl (fun _ => rfl)
  · exact dp_ct_n rfl
  · refine dp_ct_s (h := 15) (a := 4) rfl (Nat.le_of_ble_eq_true rfl) ?_
    refine dp_s1 hF (i := .iconst 1) rfl (fun _ => rfl) ?_
    exact dp_s0 hF (i := .ireturn) rfl (fun _ => rfl)
  · exact dp_ct_n rfl
noncomputable def D_L_block_0 (xs : Nat → Int32) (xl d : Nat) (v1 : Int32) (v2 : Int32) (v3 : Int32) (M : dp_M) : Option dp_Res := dp_lim true xs xl (dp_den true xs xl d) dp_m_L_block (0, [some (.ref 0), some (.int v1), some (.int v2), some (.int v3), some (.ref 245), none], [], M)
theorem D_L_block_0_den (xs : Nat → Int32) (xl d : Nat) (a1 : Int32) (a2 : Int32) (a3 : Int32) (M : dp_M) : dp_den true xs xl (d + 1) 629 [.ref 0, .int a1, .int a2, .int a3, .ref 245] M = D_L_block_0 xs xl d a1 a2 a3 M := rfl
set_option maxRecDepth 20000 in
theorem D_L_block_0_eq (xs : Nat → Int32) (xl d : Nat) (v1 : Int32) (v2 : Int32) (v3 : Int32) (M : dp_M) : D_L_block_0 xs xl d v1 v2 v3 M = dp_ti (dp_den true xs xl d 316 [.ref 0, .int v1, .int v2, .int v3] M) (fun r2 M1 => if r2 = 0 then (if (0 : Int32) < 0 ∨ 1 ≤ Int32.toNatClampNeg (0 : Int32) then none else dp_w (dp_setJ M1 245 (Int32.toNatClampNeg (0 : Int32)) (0 : Int64)) (fun M3 => some (.inl (some (.int (0 : Int32))), M3))) else (if (0 : Int32) < 0 ∨ 1 ≤ Int32.toNatClampNeg (0 : Int32) then none else dp_w (dp_setJ M1 245 (Int32.toNatClampNeg (0 : Int32)) (1 : Int64)) (fun M4 => some (.inl (some (.int (0 : Int32))), M4)))) (fun e9 M5 => dp_x4 e9 (none) (none) (some (.inl (some (.int (1 : Int32))), M5)) (none)) := by
  have hF := dp_den_grow (md := true) (xs := xs) (xl := xl) d
  unfold D_L_block_0
  refine dp_s1 hF (i := .aload 4) rfl (fun _ => rfl) ?_
  refine dp_s1 hF (i := .iconst 0) rfl (fun _ => rfl) ?_
  refine dp_s1 hF (i := .aload_n 0) rfl (fun _ => rfl) ?_
  refine dp_s1 hF (i := .iload_n 1) rfl (fun _ => rfl) ?_
  refine dp_s1 hF (i := .iload_n 2) rfl (fun _ => rfl) ?_
  refine dp_s1 hF (i := .iload_n 3) rfl (fun _ => rfl) ?_
  refine dp_ci9 (mj := dp_m_X11_block) (i := .invokevirtual 126) rfl ⟨_, _, rfl⟩ (Or.inr rfl) rfl (fun _ => rfl) (fun r2 M1 => ?_) ?_
  · refine dp_s2 hF (i := .ifCond .eq 7) (a := (17, [some (.ref 0), some (.int v1), some (.int v2), some (.int v3), some (.ref 245), none], [.int (0 : Int32), .ref 245], M1)) (b := (13, [some (.ref 0), some (.int v1), some (.int v2), some (.int v3), some (.ref 245), none], [.int (0 : Int32), .ref 245], M1)) rfl (fun _ => rfl) ?_ ?_
    · refine dp_s1 hF (i := .lconst 0) rfl (fun _ => rfl) ?_
      refine dp_s3w (dp_setJ M1 245 (Int32.toNatClampNeg (0 : Int32)) (0 : Int64)) (fun (M3 : dp_M) => (19, [some (.ref 0), some (.int v1), some (.int v2), some (.int v3), some (.ref 245), none], [], M3)) hF (i := .lastore) rfl (fun _ => rfl) (fun M3 => ?_)
      refine dp_s1 hF (i := .goto 7) rfl (fun _ => rfl) ?_
      refine dp_s1 hF (i := .iconst 0) rfl (fun _ => rfl) ?_
      exact dp_s0 hF (i := .ireturn) rfl (fun _ => rfl)
    refine dp_s1 hF (i := .lconst 1) rfl (fun _ => rfl) ?_
    refine dp_s1 hF (i := .goto 4) rfl (fun _ => rfl) ?_
    refine dp_s3w (dp_setJ M1 245 (Int32.toNatClampNeg (0 : Int32)) (1 : Int64)) (fun (M4 : dp_M) => (19, [some (.ref 0), some (.int v1), some (.int v2), some (.int v3), some (.ref 245), none], [], M4)) hF (i := .lastore) rfl (fun _ => rfl) (fun M4 => ?_)
    refine dp_s1 hF (i := .goto 7) rfl (fun _ => rfl) ?_
    refine dp_s1 hF (i := .iconst 0) rfl (fun _ => rfl) ?_
    exact dp_s0 hF (i := .ireturn) rfl (fun _ => rfl)
  refine dp_ct4 (fun M5 => ?_) (fun M5 => ?_) (fun M5 => ?_) (fun M5 => ?_)
  · exact dp_ct_n rfl
  · exact dp_ct_n rfl
  · refine dp_ct_s (h := 24) (a := 5) rfl (Nat.le_of_ble_eq_true rfl) ?_
    refine dp_s1 hF (i := .iconst 1) rfl (fun _ => rfl) ?_
    exact dp_s0 hF (i := .ireturn) rfl (fun _ => rfl)
  · exact dp_ct_n rfl
noncomputable def D_L_transfer_0 (xs : Nat → Int32) (xl d : Nat) (v1 : Int32) (v2 : Int32) (v3 : Int64) (M : dp_M) : Option dp_Res := dp_lim true xs xl (dp_den true xs xl d) dp_m_L_transfer (0, [some (.ref 0), some (.int v1), some (.int v2), some (.long v3), none, some (.ref 245), none], [], M)
theorem D_L_transfer_0_den (xs : Nat → Int32) (xl d : Nat) (a1 : Int32) (a2 : Int32) (a3 : Int64) (M : dp_M) : dp_den true xs xl (d + 1) 630 [.ref 0, .int a1, .int a2, .long a3, .ref 245] M = D_L_transfer_0 xs xl d a1 a2 a3 M := rfl
set_option maxRecDepth 20000 in
theorem D_L_transfer_0_eq (xs : Nat → Int32) (xl d : Nat) (v1 : Int32) (v2 : Int32) (v3 : Int64) (M : dp_M) : D_L_transfer_0 xs xl d v1 v2 v3 M = dp_ti (dp_den true xs xl d 317 [.ref 0, .int v1, .int v2, .long v3] M) (fun r2 M1 => if r2 = 0 then (if (0 : Int32) < 0 ∨ 1 ≤ Int32.toNatClampNeg (0 : Int32) then none else dp_w (dp_setJ M1 245 (Int32.toNatClampNeg (0 : Int32)) (0 : Int64)) (fun M3 => some (.inl (some (.int (0 : Int32))), M3))) else (if (0 : Int32) < 0 ∨ 1 ≤ Int32.toNatClampNeg (0 : Int32) then none else dp_w (dp_setJ M1 245 (Int32.toNatClampNeg (0 : Int32)) (1 : Int64)) (fun M4 => some (.inl (some (.int (0 : Int32))), M4)))) (fun e9 M5 => dp_x4 e9 (none) (none) (some (.inl (some (.int (1 : Int32))), M5)) (none)) := by
  have hF := dp_den_grow (md := true) (xs := xs) (xl := xl) d
  unfold D_L_transfer_0
  refine dp_s1 hF (i := .aload 5) rfl (fun _ => rfl) ?_
  refine dp_s1 hF (i := .iconst 0) rfl (fun _ => rfl) ?_
  refine dp_s1 hF (i := .aload_n 0) rfl (fun _ => rfl) ?_
  refine dp_s1 hF (i := .iload_n 1) rfl (fun _ => rfl) ?_
  refine dp_s1 hF (i := .iload_n 2) rfl (fun _ => rfl) ?_
  refine dp_s1 hF (i := .lload_n 3) rfl (fun _ => rfl) ?_
  refine dp_ci9 (mj := dp_m_X11_transfer) (i := .invokevirtual 130) rfl ⟨_, _, rfl⟩ (Or.inr rfl) rfl (fun _ => rfl) (fun r2 M1 => ?_) ?_
  · refine dp_s2 hF (i := .ifCond .eq 7) (a := (17, [some (.ref 0), some (.int v1), some (.int v2), some (.long v3), none, some (.ref 245), none], [.int (0 : Int32), .ref 245], M1)) (b := (13, [some (.ref 0), some (.int v1), some (.int v2), some (.long v3), none, some (.ref 245), none], [.int (0 : Int32), .ref 245], M1)) rfl (fun _ => rfl) ?_ ?_
    · refine dp_s1 hF (i := .lconst 0) rfl (fun _ => rfl) ?_
      refine dp_s3w (dp_setJ M1 245 (Int32.toNatClampNeg (0 : Int32)) (0 : Int64)) (fun (M3 : dp_M) => (19, [some (.ref 0), some (.int v1), some (.int v2), some (.long v3), none, some (.ref 245), none], [], M3)) hF (i := .lastore) rfl (fun _ => rfl) (fun M3 => ?_)
      refine dp_s1 hF (i := .goto 7) rfl (fun _ => rfl) ?_
      refine dp_s1 hF (i := .iconst 0) rfl (fun _ => rfl) ?_
      exact dp_s0 hF (i := .ireturn) rfl (fun _ => rfl)
    refine dp_s1 hF (i := .lconst 1) rfl (fun _ => rfl) ?_
    refine dp_s1 hF (i := .goto 4) rfl (fun _ => rfl) ?_
    refine dp_s3w (dp_setJ M1 245 (Int32.toNatClampNeg (0 : Int32)) (1 : Int64)) (fun (M4 : dp_M) => (19, [some (.ref 0), some (.int v1), some (.int v2), some (.long v3), none, some (.ref 245), none], [], M4)) hF (i := .lastore) rfl (fun _ => rfl) (fun M4 => ?_)
    refine dp_s1 hF (i := .goto 7) rfl (fun _ => rfl) ?_
    refine dp_s1 hF (i := .iconst 0) rfl (fun _ => rfl) ?_
    exact dp_s0 hF (i := .ireturn) rfl (fun _ => rfl)
  refine dp_ct4 (fun M5 => ?_) (fun M5 => ?_) (fun M5 => ?_) (fun M5 => ?_)
  · exact dp_ct_n rfl
  · exact dp_ct_n rfl
  · refine dp_ct_s (h := 24) (a := 6) rfl (Nat.le_of_ble_eq_true rfl) ?_
    refine dp_s1 hF (i := .iconst 1) rfl (fun _ => rfl) ?_
    exact dp_s0 hF (i := .ireturn) rfl (fun _ => rfl)
  · exact dp_ct_n rfl
noncomputable def D_L_balance_0 (xs : Nat → Int32) (xl d : Nat) (v1 : Int32) (v2 : Int32) (M : dp_M) : Option dp_Res := dp_lim true xs xl (dp_den true xs xl d) dp_m_L_balance (0, [some (.ref 0), some (.int v1), some (.int v2), some (.ref 245), none], [], M)
theorem D_L_balance_0_den (xs : Nat → Int32) (xl d : Nat) (a1 : Int32) (a2 : Int32) (M : dp_M) : dp_den true xs xl (d + 1) 631 [.ref 0, .int a1, .int a2, .ref 245] M = D_L_balance_0 xs xl d a1 a2 M := rfl
set_option maxRecDepth 20000 in
theorem D_L_balance_0_eq (xs : Nat → Int32) (xl d : Nat) (v1 : Int32) (v2 : Int32) (M : dp_M) : D_L_balance_0 xs xl d v1 v2 M = dp_tl (dp_den true xs xl d 318 [.ref 0, .int v1, .int v2] M) (fun r2 M1 => if (0 : Int32) < 0 ∨ 1 ≤ Int32.toNatClampNeg (0 : Int32) then none else dp_w (dp_setJ M1 245 (Int32.toNatClampNeg (0 : Int32)) r2) (fun M3 => some (.inl (some (.int (0 : Int32))), M3))) (fun e9 M4 => dp_x4 e9 (some (.inl (some (.int (2 : Int32))), M4)) (none) (some (.inl (some (.int (1 : Int32))), M4)) (none)) := by
  have hF := dp_den_grow (md := true) (xs := xs) (xl := xl) d
  unfold D_L_balance_0
  refine dp_s1 hF (i := .aload_n 3) rfl (fun _ => rfl) ?_
  refine dp_s1 hF (i := .iconst 0) rfl (fun _ => rfl) ?_
  refine dp_s1 hF (i := .aload_n 0) rfl (fun _ => rfl) ?_
  refine dp_s1 hF (i := .iload_n 1) rfl (fun _ => rfl) ?_
  refine dp_s1 hF (i := .iload_n 2) rfl (fun _ => rfl) ?_
  refine dp_cl9 (mj := dp_m_X11_balance) (i := .invokevirtual 134) rfl ⟨_, _, rfl⟩ rfl rfl (fun _ => rfl) (fun r2 M1 => ?_) ?_
  · refine dp_s3w (dp_setJ M1 245 (Int32.toNatClampNeg (0 : Int32)) r2) (fun (M3 : dp_M) => (9, [some (.ref 0), some (.int v1), some (.int v2), some (.ref 245), none], [], M3)) hF (i := .lastore) rfl (fun _ => rfl) (fun M3 => ?_)
    refine dp_s1 hF (i := .goto 11) rfl (fun _ => rfl) ?_
    refine dp_s1 hF (i := .iconst 0) rfl (fun _ => rfl) ?_
    exact dp_s0 hF (i := .ireturn) rfl (fun _ => rfl)
  refine dp_ct4 (fun M4 => ?_) (fun M4 => ?_) (fun M4 => ?_) (fun M4 => ?_)
  · refine dp_ct_s (h := 18) (a := 4) rfl (Nat.le_of_ble_eq_true rfl) ?_
    refine dp_s1 hF (i := .iconst 2) rfl (fun _ => rfl) ?_
    exact dp_s0 hF (i := .ireturn) rfl (fun _ => rfl)
  · exact dp_ct_n rfl
  · refine dp_ct_s (h := 14) (a := 4) rfl (Nat.le_of_ble_eq_true rfl) ?_
    refine dp_s1 hF (i := .iconst 1) rfl (fun _ => rfl) ?_
    exact dp_s0 hF (i := .ireturn) rfl (fun _ => rfl)
  · exact dp_ct_n rfl
noncomputable def D_L_quota_0 (xs : Nat → Int32) (xl d : Nat) (v1 : Int32) (v2 : Int32) (M : dp_M) : Option dp_Res := dp_lim true xs xl (dp_den true xs xl d) dp_m_L_quota (0, [some (.ref 0), some (.int v1), some (.int v2), some (.ref 245), none], [], M)
theorem D_L_quota_0_den (xs : Nat → Int32) (xl d : Nat) (a1 : Int32) (a2 : Int32) (M : dp_M) : dp_den true xs xl (d + 1) 632 [.ref 0, .int a1, .int a2, .ref 245] M = D_L_quota_0 xs xl d a1 a2 M := rfl
set_option maxRecDepth 20000 in
theorem D_L_quota_0_eq (xs : Nat → Int32) (xl d : Nat) (v1 : Int32) (v2 : Int32) (M : dp_M) : D_L_quota_0 xs xl d v1 v2 M = dp_tl (dp_den true xs xl d 319 [.ref 0, .int v1, .int v2] M) (fun r2 M1 => if (0 : Int32) < 0 ∨ 1 ≤ Int32.toNatClampNeg (0 : Int32) then none else dp_w (dp_setJ M1 245 (Int32.toNatClampNeg (0 : Int32)) r2) (fun M3 => some (.inl (some (.int (0 : Int32))), M3))) (fun e9 M4 => dp_x4 e9 (none) (none) (some (.inl (some (.int (1 : Int32))), M4)) (none)) := by
  have hF := dp_den_grow (md := true) (xs := xs) (xl := xl) d
  unfold D_L_quota_0
  refine dp_s1 hF (i := .aload_n 3) rfl (fun _ => rfl) ?_
  refine dp_s1 hF (i := .iconst 0) rfl (fun _ => rfl) ?_
  refine dp_s1 hF (i := .aload_n 0) rfl (fun _ => rfl) ?_
  refine dp_s1 hF (i := .iload_n 1) rfl (fun _ => rfl) ?_
  refine dp_s1 hF (i := .iload_n 2) rfl (fun _ => rfl) ?_
  refine dp_cl9 (mj := dp_m_X11_quota) (i := .invokevirtual 138) rfl ⟨_, _, rfl⟩ rfl rfl (fun _ => rfl) (fun r2 M1 => ?_) ?_
  · refine dp_s3w (dp_setJ M1 245 (Int32.toNatClampNeg (0 : Int32)) r2) (fun (M3 : dp_M) => (9, [some (.ref 0), some (.int v1), some (.int v2), some (.ref 245), none], [], M3)) hF (i := .lastore) rfl (fun _ => rfl) (fun M3 => ?_)
    refine dp_s1 hF (i := .goto 7) rfl (fun _ => rfl) ?_
    refine dp_s1 hF (i := .iconst 0) rfl (fun _ => rfl) ?_
    exact dp_s0 hF (i := .ireturn) rfl (fun _ => rfl)
  refine dp_ct4 (fun M4 => ?_) (fun M4 => ?_) (fun M4 => ?_) (fun M4 => ?_)
  · exact dp_ct_n rfl
  · exact dp_ct_n rfl
  · refine dp_ct_s (h := 14) (a := 4) rfl (Nat.le_of_ble_eq_true rfl) ?_
    refine dp_s1 hF (i := .iconst 1) rfl (fun _ => rfl) ?_
    exact dp_s0 hF (i := .ireturn) rfl (fun _ => rfl)
  · exact dp_ct_n rfl
noncomputable def D_L_guarantee_0 (xs : Nat → Int32) (xl d : Nat) (v1 : Int32) (v2 : Int64) (v4 : Int32) (v5 : Int32) (v6 : Int32) (v7 : Int32) (M : dp_M) : Option dp_Res := dp_lim true xs xl (dp_den true xs xl d) dp_m_L_guarantee (0, [some (.ref 0), some (.int v1), some (.long v2), none, some (.int v4), some (.int v5), some (.int v6), some (.int v7), some (.ref 245), none], [], M)
theorem D_L_guarantee_0_den (xs : Nat → Int32) (xl d : Nat) (a1 : Int32) (a2 : Int64) (a3 : Int32) (a4 : Int32) (a5 : Int32) (a6 : Int32) (M : dp_M) : dp_den true xs xl (d + 1) 633 [.ref 0, .int a1, .long a2, .int a3, .int a4, .int a5, .int a6, .ref 245] M = D_L_guarantee_0 xs xl d a1 a2 a3 a4 a5 a6 M := rfl
set_option maxRecDepth 20000 in
theorem D_L_guarantee_0_eq (xs : Nat → Int32) (xl d : Nat) (v1 : Int32) (v2 : Int64) (v4 : Int32) (v5 : Int32) (v6 : Int32) (v7 : Int32) (M : dp_M) : D_L_guarantee_0 xs xl d v1 v2 v4 v5 v6 v7 M = dp_ti (dp_den true xs xl d 320 [.ref 0, .int v1, .long v2, .int v4, .int v5, .int v6, .int v7] M) (fun r2 M1 => if (0 : Int32) < 0 ∨ 1 ≤ Int32.toNatClampNeg (0 : Int32) then none else dp_w (dp_setJ M1 245 (Int32.toNatClampNeg (0 : Int32)) (Int32.toInt64 r2)) (fun M3 => some (.inl (some (.int (0 : Int32))), M3))) (fun e9 M4 => dp_x4 e9 (some (.inl (some (.int (1 : Int32))), M4)) (some (.inl (some (.int (2 : Int32))), M4)) (none) (none)) := by
  have hF := dp_den_grow (md := true) (xs := xs) (xl := xl) d
  unfold D_L_guarantee_0
  refine dp_s1 hF (i := .aload 8) rfl (fun _ => rfl) ?_
  refine dp_s1 hF (i := .iconst 0) rfl (fun _ => rfl) ?_
  refine dp_s1 hF (i := .aload_n 0) rfl (fun _ => rfl) ?_
  refine dp_s1 hF (i := .iload_n 1) rfl (fun _ => rfl) ?_
  refine dp_s1 hF (i := .lload_n 2) rfl (fun _ => rfl) ?_
  refine dp_s1 hF (i := .iload 4) rfl (fun _ => rfl) ?_
  refine dp_s1 hF (i := .iload 5) rfl (fun _ => rfl) ?_
  refine dp_s1 hF (i := .iload 6) rfl (fun _ => rfl) ?_
  refine dp_s1 hF (i := .iload 7) rfl (fun _ => rfl) ?_
  refine dp_ci9 (mj := dp_m_X11_guarantee) (i := .invokevirtual 141) rfl ⟨_, _, rfl⟩ (Or.inl rfl) rfl (fun _ => rfl) (fun r2 M1 => ?_) ?_
  · refine dp_s1 hF (i := .i2l) rfl (fun _ => rfl) ?_
    refine dp_s3w (dp_setJ M1 245 (Int32.toNatClampNeg (0 : Int32)) (Int32.toInt64 r2)) (fun (M3 : dp_M) => (19, [some (.ref 0), some (.int v1), some (.long v2), none, some (.int v4), some (.int v5), some (.int v6), some (.int v7), some (.ref 245), none], [], M3)) hF (i := .lastore) rfl (fun _ => rfl) (fun M3 => ?_)
    refine dp_s1 hF (i := .goto 11) rfl (fun _ => rfl) ?_
    refine dp_s1 hF (i := .iconst 0) rfl (fun _ => rfl) ?_
    exact dp_s0 hF (i := .ireturn) rfl (fun _ => rfl)
  refine dp_ct4 (fun M4 => ?_) (fun M4 => ?_) (fun M4 => ?_) (fun M4 => ?_)
  · refine dp_ct_s (h := 24) (a := 9) rfl (Nat.le_of_ble_eq_true rfl) ?_
    refine dp_s1 hF (i := .iconst 1) rfl (fun _ => rfl) ?_
    exact dp_s0 hF (i := .ireturn) rfl (fun _ => rfl)
  · refine dp_ct_s (h := 28) (a := 9) rfl (Nat.le_of_ble_eq_true rfl) ?_
    refine dp_s1 hF (i := .iconst 2) rfl (fun _ => rfl) ?_
    exact dp_s0 hF (i := .ireturn) rfl (fun _ => rfl)
  · exact dp_ct_n rfl
  · exact dp_ct_n rfl
noncomputable def D_L_interest_0 (xs : Nat → Int32) (xl d : Nat) (v1 : Int32) (M : dp_M) : Option dp_Res := dp_lim true xs xl (dp_den true xs xl d) dp_m_L_interest (0, [some (.ref 0), some (.int v1), some (.ref 245), none], [], M)
theorem D_L_interest_0_den (xs : Nat → Int32) (xl d : Nat) (a1 : Int32) (M : dp_M) : dp_den true xs xl (d + 1) 634 [.ref 0, .int a1, .ref 245] M = D_L_interest_0 xs xl d a1 M := rfl
set_option maxRecDepth 20000 in
theorem D_L_interest_0_eq (xs : Nat → Int32) (xl d : Nat) (v1 : Int32) (M : dp_M) : D_L_interest_0 xs xl d v1 M = dp_tl (dp_den true xs xl d 327 [.ref 0, .int v1] M) (fun r2 M1 => if (0 : Int32) < 0 ∨ 1 ≤ Int32.toNatClampNeg (0 : Int32) then none else dp_w (dp_setJ M1 245 (Int32.toNatClampNeg (0 : Int32)) r2) (fun M3 => some (.inl (some (.int (0 : Int32))), M3))) (fun e9 M4 => dp_x4 e9 (some (.inl (some (.int (1 : Int32))), M4)) (none) (none) (none)) := by
  have hF := dp_den_grow (md := true) (xs := xs) (xl := xl) d
  unfold D_L_interest_0
  refine dp_s1 hF (i := .aload_n 2) rfl (fun _ => rfl) ?_
  refine dp_s1 hF (i := .iconst 0) rfl (fun _ => rfl) ?_
  refine dp_s1 hF (i := .aload_n 0) rfl (fun _ => rfl) ?_
  refine dp_s1 hF (i := .iload_n 1) rfl (fun _ => rfl) ?_
  refine dp_cl9 (mj := dp_m_X11_interest) (i := .invokevirtual 145) rfl ⟨_, _, rfl⟩ rfl rfl (fun _ => rfl) (fun r2 M1 => ?_) ?_
  · refine dp_s3w (dp_setJ M1 245 (Int32.toNatClampNeg (0 : Int32)) r2) (fun (M3 : dp_M) => (8, [some (.ref 0), some (.int v1), some (.ref 245), none], [], M3)) hF (i := .lastore) rfl (fun _ => rfl) (fun M3 => ?_)
    refine dp_s1 hF (i := .goto 6) rfl (fun _ => rfl) ?_
    refine dp_s1 hF (i := .iconst 0) rfl (fun _ => rfl) ?_
    exact dp_s0 hF (i := .ireturn) rfl (fun _ => rfl)
  refine dp_ct4 (fun M4 => ?_) (fun M4 => ?_) (fun M4 => ?_) (fun M4 => ?_)
  · refine dp_ct_s (h := 12) (a := 3) rfl (Nat.le_of_ble_eq_true rfl) ?_
    refine dp_s1 hF (i := .iconst 1) rfl (fun _ => rfl) ?_
    exact dp_s0 hF (i := .ireturn) rfl (fun _ => rfl)
  · exact dp_ct_n rfl
  · exact dp_ct_n rfl
  · exact dp_ct_n rfl
noncomputable def D_L_security_0 (xs : Nat → Int32) (xl d : Nat) (v1 : Int32) (v2 : Int32) (M : dp_M) : Option dp_Res := dp_lim true xs xl (dp_den true xs xl d) dp_m_L_security (0, [some (.ref 0), some (.int v1), some (.int v2), some (.ref 245), none], [], M)
theorem D_L_security_0_den (xs : Nat → Int32) (xl d : Nat) (a1 : Int32) (a2 : Int32) (M : dp_M) : dp_den true xs xl (d + 1) 635 [.ref 0, .int a1, .int a2, .ref 245] M = D_L_security_0 xs xl d a1 a2 M := rfl
set_option maxRecDepth 20000 in
theorem D_L_security_0_eq (xs : Nat → Int32) (xl d : Nat) (v1 : Int32) (v2 : Int32) (M : dp_M) : D_L_security_0 xs xl d v1 v2 M = dp_tl (dp_den true xs xl d 330 [.ref 0, .int v1, .int v2] M) (fun r2 M1 => if (0 : Int32) < 0 ∨ 1 ≤ Int32.toNatClampNeg (0 : Int32) then none else dp_w (dp_setJ M1 245 (Int32.toNatClampNeg (0 : Int32)) r2) (fun M3 => some (.inl (some (.int (0 : Int32))), M3))) (fun e9 M4 => dp_x4 e9 (none) (none) (some (.inl (some (.int (1 : Int32))), M4)) (none)) := by
  have hF := dp_den_grow (md := true) (xs := xs) (xl := xl) d
  unfold D_L_security_0
  refine dp_s1 hF (i := .aload_n 3) rfl (fun _ => rfl) ?_
  refine dp_s1 hF (i := .iconst 0) rfl (fun _ => rfl) ?_
  refine dp_s1 hF (i := .aload_n 0) rfl (fun _ => rfl) ?_
  refine dp_s1 hF (i := .iload_n 1) rfl (fun _ => rfl) ?_
  refine dp_s1 hF (i := .iload_n 2) rfl (fun _ => rfl) ?_
  refine dp_cl9 (mj := dp_m_X11_security) (i := .invokevirtual 149) rfl ⟨_, _, rfl⟩ rfl rfl (fun _ => rfl) (fun r2 M1 => ?_) ?_
  · refine dp_s3w (dp_setJ M1 245 (Int32.toNatClampNeg (0 : Int32)) r2) (fun (M3 : dp_M) => (9, [some (.ref 0), some (.int v1), some (.int v2), some (.ref 245), none], [], M3)) hF (i := .lastore) rfl (fun _ => rfl) (fun M3 => ?_)
    refine dp_s1 hF (i := .goto 7) rfl (fun _ => rfl) ?_
    refine dp_s1 hF (i := .iconst 0) rfl (fun _ => rfl) ?_
    exact dp_s0 hF (i := .ireturn) rfl (fun _ => rfl)
  refine dp_ct4 (fun M4 => ?_) (fun M4 => ?_) (fun M4 => ?_) (fun M4 => ?_)
  · exact dp_ct_n rfl
  · exact dp_ct_n rfl
  · refine dp_ct_s (h := 14) (a := 4) rfl (Nat.le_of_ble_eq_true rfl) ?_
    refine dp_s1 hF (i := .iconst 1) rfl (fun _ => rfl) ?_
    exact dp_s0 hF (i := .ireturn) rfl (fun _ => rfl)
  · exact dp_ct_n rfl
noncomputable def D_L_reservation_0 (xs : Nat → Int32) (xl d : Nat) (v1 : Int32) (v2 : Int32) (M : dp_M) : Option dp_Res := dp_lim true xs xl (dp_den true xs xl d) dp_m_L_reservation (0, [some (.ref 0), some (.int v1), some (.int v2), some (.ref 245), none], [], M)
theorem D_L_reservation_0_den (xs : Nat → Int32) (xl d : Nat) (a1 : Int32) (a2 : Int32) (M : dp_M) : dp_den true xs xl (d + 1) 636 [.ref 0, .int a1, .int a2, .ref 245] M = D_L_reservation_0 xs xl d a1 a2 M := rfl
set_option maxRecDepth 20000 in
theorem D_L_reservation_0_eq (xs : Nat → Int32) (xl d : Nat) (v1 : Int32) (v2 : Int32) (M : dp_M) : D_L_reservation_0 xs xl d v1 v2 M = dp_tl (dp_den true xs xl d 331 [.ref 0, .int v1, .int v2] M) (fun r2 M1 => if (0 : Int32) < 0 ∨ 1 ≤ Int32.toNatClampNeg (0 : Int32) then none else dp_w (dp_setJ M1 245 (Int32.toNatClampNeg (0 : Int32)) r2) (fun M3 => some (.inl (some (.int (0 : Int32))), M3))) (fun e9 M4 => dp_x4 e9 (none) (none) (some (.inl (some (.int (1 : Int32))), M4)) (none)) := by
  have hF := dp_den_grow (md := true) (xs := xs) (xl := xl) d
  unfold D_L_reservation_0
  refine dp_s1 hF (i := .aload_n 3) rfl (fun _ => rfl) ?_
  refine dp_s1 hF (i := .iconst 0) rfl (fun _ => rfl) ?_
  refine dp_s1 hF (i := .aload_n 0) rfl (fun _ => rfl) ?_
  refine dp_s1 hF (i := .iload_n 1) rfl (fun _ => rfl) ?_
  refine dp_s1 hF (i := .iload_n 2) rfl (fun _ => rfl) ?_
  refine dp_cl9 (mj := dp_m_X11_reservation) (i := .invokevirtual 152) rfl ⟨_, _, rfl⟩ rfl rfl (fun _ => rfl) (fun r2 M1 => ?_) ?_
  · refine dp_s3w (dp_setJ M1 245 (Int32.toNatClampNeg (0 : Int32)) r2) (fun (M3 : dp_M) => (9, [some (.ref 0), some (.int v1), some (.int v2), some (.ref 245), none], [], M3)) hF (i := .lastore) rfl (fun _ => rfl) (fun M3 => ?_)
    refine dp_s1 hF (i := .goto 7) rfl (fun _ => rfl) ?_
    refine dp_s1 hF (i := .iconst 0) rfl (fun _ => rfl) ?_
    exact dp_s0 hF (i := .ireturn) rfl (fun _ => rfl)
  refine dp_ct4 (fun M4 => ?_) (fun M4 => ?_) (fun M4 => ?_) (fun M4 => ?_)
  · exact dp_ct_n rfl
  · exact dp_ct_n rfl
  · refine dp_ct_s (h := 14) (a := 4) rfl (Nat.le_of_ble_eq_true rfl) ?_
    refine dp_s1 hF (i := .iconst 1) rfl (fun _ => rfl) ?_
    exact dp_s0 hF (i := .ireturn) rfl (fun _ => rfl)
  · exact dp_ct_n rfl
noncomputable def D_L_batch_0 (xs : Nat → Int32) (xl d : Nat) (v1 : Int32) (v2 : Int32) (M : dp_M) : Option dp_Res := dp_lim true xs xl (dp_den true xs xl d) dp_m_L_batch (0, [some (.ref 0), some (.int v1), some (.int v2), some (.ref 245), none], [], M)
theorem D_L_batch_0_den (xs : Nat → Int32) (xl d : Nat) (a1 : Int32) (a2 : Int32) (M : dp_M) : dp_den true xs xl (d + 1) 637 [.ref 0, .int a1, .int a2, .ref 245] M = D_L_batch_0 xs xl d a1 a2 M := rfl
set_option maxRecDepth 20000 in
theorem D_L_batch_0_eq (xs : Nat → Int32) (xl d : Nat) (v1 : Int32) (v2 : Int32) (M : dp_M) : D_L_batch_0 xs xl d v1 v2 M = dp_ti (dp_den true xs xl d 332 [.ref 0, .int v1, .int v2] M) (fun r2 M1 => if (0 : Int32) < 0 ∨ 1 ≤ Int32.toNatClampNeg (0 : Int32) then none else dp_w (dp_setJ M1 245 (Int32.toNatClampNeg (0 : Int32)) (Int32.toInt64 r2)) (fun M3 => some (.inl (some (.int (0 : Int32))), M3))) (fun e9 M4 => dp_x4 e9 (some (.inl (some (.int (1 : Int32))), M4)) (some (.inl (some (.int (2 : Int32))), M4)) (none) (none)) := by
  have hF := dp_den_grow (md := true) (xs := xs) (xl := xl) d
  unfold D_L_batch_0
  refine dp_s1 hF (i := .aload_n 3) rfl (fun _ => rfl) ?_
  refine dp_s1 hF (i := .iconst 0) rfl (fun _ => rfl) ?_
  refine dp_s1 hF (i := .aload_n 0) rfl (fun _ => rfl) ?_
  refine dp_s1 hF (i := .iload_n 1) rfl (fun _ => rfl) ?_
  refine dp_s1 hF (i := .iload_n 2) rfl (fun _ => rfl) ?_
  refine dp_ci9 (mj := dp_m_X11_batch) (i := .invokevirtual 155) rfl ⟨_, _, rfl⟩ (Or.inl rfl) rfl (fun _ => rfl) (fun r2 M1 => ?_) ?_
  · refine dp_s1 hF (i := .i2l) rfl (fun _ => rfl) ?_
    refine dp_s3w (dp_setJ M1 245 (Int32.toNatClampNeg (0 : Int32)) (Int32.toInt64 r2)) (fun (M3 : dp_M) => (10, [some (.ref 0), some (.int v1), some (.int v2), some (.ref 245), none], [], M3)) hF (i := .lastore) rfl (fun _ => rfl) (fun M3 => ?_)
    refine dp_s1 hF (i := .goto 11) rfl (fun _ => rfl) ?_
    refine dp_s1 hF (i := .iconst 0) rfl (fun _ => rfl) ?_
    exact dp_s0 hF (i := .ireturn) rfl (fun _ => rfl)
  refine dp_ct4 (fun M4 => ?_) (fun M4 => ?_) (fun M4 => ?_) (fun M4 => ?_)
  · refine dp_ct_s (h := 15) (a := 4) rfl (Nat.le_of_ble_eq_true rfl) ?_
    refine dp_s1 hF (i := .iconst 1) rfl (fun _ => rfl) ?_
    exact dp_s0 hF (i := .ireturn) rfl (fun _ => rfl)
  · refine dp_ct_s (h := 19) (a := 4) rfl (Nat.le_of_ble_eq_true rfl) ?_
    refine dp_s1 hF (i := .iconst 2) rfl (fun _ => rfl) ?_
    exact dp_s0 hF (i := .ireturn) rfl (fun _ => rfl)
  · exact dp_ct_n rfl
  · exact dp_ct_n rfl
noncomputable def D_L_post_0 (xs : Nat → Int32) (xl d : Nat) (v1 : Int32) (M : dp_M) : Option dp_Res := dp_lim true xs xl (dp_den true xs xl d) dp_m_L_post (0, [some (.ref 0), some (.int v1), some (.ref 245), none], [], M)
theorem D_L_post_0_den (xs : Nat → Int32) (xl d : Nat) (a1 : Int32) (M : dp_M) : dp_den true xs xl (d + 1) 638 [.ref 0, .int a1, .ref 245] M = D_L_post_0 xs xl d a1 M := rfl
set_option maxRecDepth 20000 in
theorem D_L_post_0_eq (xs : Nat → Int32) (xl d : Nat) (v1 : Int32) (M : dp_M) : D_L_post_0 xs xl d v1 M = dp_ti (dp_den true xs xl d 337 [.ref 0, .int v1] M) (fun r2 M1 => if (0 : Int32) < 0 ∨ 1 ≤ Int32.toNatClampNeg (0 : Int32) then none else dp_w (dp_setJ M1 245 (Int32.toNatClampNeg (0 : Int32)) (Int32.toInt64 r2)) (fun M3 => some (.inl (some (.int (0 : Int32))), M3))) (fun e9 M4 => dp_x4 e9 (some (.inl (some (.int (1 : Int32))), M4)) (some (.inl (some (.int (2 : Int32))), M4)) (none) (some (.inl (some (.int (3 : Int32))), M4))) := by
  have hF := dp_den_grow (md := true) (xs := xs) (xl := xl) d
  unfold D_L_post_0
  refine dp_s1 hF (i := .aload_n 2) rfl (fun _ => rfl) ?_
  refine dp_s1 hF (i := .iconst 0) rfl (fun _ => rfl) ?_
  refine dp_s1 hF (i := .aload_n 0) rfl (fun _ => rfl) ?_
  refine dp_s1 hF (i := .iload_n 1) rfl (fun _ => rfl) ?_
  refine dp_ci9 (mj := dp_m_X11_post) (i := .invokevirtual 158) rfl ⟨_, _, rfl⟩ (Or.inl rfl) rfl (fun _ => rfl) (fun r2 M1 => ?_) ?_
  · refine dp_s1 hF (i := .i2l) rfl (fun _ => rfl) ?_
    refine dp_s3w (dp_setJ M1 245 (Int32.toNatClampNeg (0 : Int32)) (Int32.toInt64 r2)) (fun (M3 : dp_M) => (9, [some (.ref 0), some (.int v1), some (.ref 245), none], [], M3)) hF (i := .lastore) rfl (fun _ => rfl) (fun M3 => ?_)
    refine dp_s1 hF (i := .goto 12) rfl (fun _ => rfl) ?_
    refine dp_s1 hF (i := .iconst 0) rfl (fun _ => rfl) ?_
    exact dp_s0 hF (i := .ireturn) rfl (fun _ => rfl)
  refine dp_ct4 (fun M4 => ?_) (fun M4 => ?_) (fun M4 => ?_) (fun M4 => ?_)
  · refine dp_ct_s (h := 13) (a := 3) rfl (Nat.le_of_ble_eq_true rfl) ?_
    refine dp_s1 hF (i := .iconst 1) rfl (fun _ => rfl) ?_
    exact dp_s0 hF (i := .ireturn) rfl (fun _ => rfl)
  · refine dp_ct_s (h := 16) (a := 3) rfl (Nat.le_of_ble_eq_true rfl) ?_
    refine dp_s1 hF (i := .iconst 2) rfl (fun _ => rfl) ?_
    exact dp_s0 hF (i := .ireturn) rfl (fun _ => rfl)
  · exact dp_ct_n rfl
  · refine dp_ct_s (h := 19) (a := 3) rfl (Nat.le_of_ble_eq_true rfl) ?_
    refine dp_s1 hF (i := .iconst 3) rfl (fun _ => rfl) ?_
    exact dp_s0 hF (i := .ireturn) rfl (fun _ => rfl)
noncomputable def D_L_reverse_0 (xs : Nat → Int32) (xl d : Nat) (v1 : Int32) (v2 : Int32) (M : dp_M) : Option dp_Res := dp_lim true xs xl (dp_den true xs xl d) dp_m_L_reverse (0, [some (.ref 0), some (.int v1), some (.int v2), some (.ref 245), none], [], M)
theorem D_L_reverse_0_den (xs : Nat → Int32) (xl d : Nat) (a1 : Int32) (a2 : Int32) (M : dp_M) : dp_den true xs xl (d + 1) 639 [.ref 0, .int a1, .int a2, .ref 245] M = D_L_reverse_0 xs xl d a1 a2 M := rfl
set_option maxRecDepth 20000 in
theorem D_L_reverse_0_eq (xs : Nat → Int32) (xl d : Nat) (v1 : Int32) (v2 : Int32) (M : dp_M) : D_L_reverse_0 xs xl d v1 v2 M = dp_ti (dp_den true xs xl d 338 [.ref 0, .int v1, .int v2] M) (fun r2 M1 => if (0 : Int32) < 0 ∨ 1 ≤ Int32.toNatClampNeg (0 : Int32) then none else dp_w (dp_setJ M1 245 (Int32.toNatClampNeg (0 : Int32)) (Int32.toInt64 r2)) (fun M3 => some (.inl (some (.int (0 : Int32))), M3))) (fun e9 M4 => dp_x4 e9 (some (.inl (some (.int (1 : Int32))), M4)) (some (.inl (some (.int (2 : Int32))), M4)) (none) (none)) := by
  have hF := dp_den_grow (md := true) (xs := xs) (xl := xl) d
  unfold D_L_reverse_0
  refine dp_s1 hF (i := .aload_n 3) rfl (fun _ => rfl) ?_
  refine dp_s1 hF (i := .iconst 0) rfl (fun _ => rfl) ?_
  refine dp_s1 hF (i := .aload_n 0) rfl (fun _ => rfl) ?_
  refine dp_s1 hF (i := .iload_n 1) rfl (fun _ => rfl) ?_
  refine dp_s1 hF (i := .iload_n 2) rfl (fun _ => rfl) ?_
  refine dp_ci9 (mj := dp_m_X11_reverse) (i := .invokevirtual 161) rfl ⟨_, _, rfl⟩ (Or.inl rfl) rfl (fun _ => rfl) (fun r2 M1 => ?_) ?_
  · refine dp_s1 hF (i := .i2l) rfl (fun _ => rfl) ?_
    refine dp_s3w (dp_setJ M1 245 (Int32.toNatClampNeg (0 : Int32)) (Int32.toInt64 r2)) (fun (M3 : dp_M) => (10, [some (.ref 0), some (.int v1), some (.int v2), some (.ref 245), none], [], M3)) hF (i := .lastore) rfl (fun _ => rfl) (fun M3 => ?_)
    refine dp_s1 hF (i := .goto 11) rfl (fun _ => rfl) ?_
    refine dp_s1 hF (i := .iconst 0) rfl (fun _ => rfl) ?_
    exact dp_s0 hF (i := .ireturn) rfl (fun _ => rfl)
  refine dp_ct4 (fun M4 => ?_) (fun M4 => ?_) (fun M4 => ?_) (fun M4 => ?_)
  · refine dp_ct_s (h := 15) (a := 4) rfl (Nat.le_of_ble_eq_true rfl) ?_
    refine dp_s1 hF (i := .iconst 1) rfl (fun _ => rfl) ?_
    exact dp_s0 hF (i := .ireturn) rfl (fun _ => rfl)
  · refine dp_ct_s (h := 19) (a := 4) rfl (Nat.le_of_ble_eq_true rfl) ?_
    refine dp_s1 hF (i := .iconst 2) rfl (fun _ => rfl) ?_
    exact dp_s0 hF (i := .ireturn) rfl (fun _ => rfl)
  · exact dp_ct_n rfl
  · exact dp_ct_n rfl
noncomputable def D_L_account_0 (xs : Nat → Int32) (xl d : Nat) (v1 : Int32) (v2 : Int32) (v3 : Int32) (M : dp_M) : Option dp_Res := dp_lim true xs xl (dp_den true xs xl d) dp_m_L_account (0, [some (.ref 0), some (.int v1), some (.int v2), some (.int v3), some (.ref 245), none], [], M)
theorem D_L_account_0_den (xs : Nat → Int32) (xl d : Nat) (a1 : Int32) (a2 : Int32) (a3 : Int32) (M : dp_M) : dp_den true xs xl (d + 1) 640 [.ref 0, .int a1, .int a2, .int a3, .ref 245] M = D_L_account_0 xs xl d a1 a2 a3 M := rfl
set_option maxRecDepth 20000 in
theorem D_L_account_0_eq (xs : Nat → Int32) (xl d : Nat) (v1 : Int32) (v2 : Int32) (v3 : Int32) (M : dp_M) : D_L_account_0 xs xl d v1 v2 v3 M = dp_tl (dp_den true xs xl d 340 [.ref 0, .int v1, .int v2, .int v3] M) (fun r2 M1 => if (0 : Int32) < 0 ∨ 1 ≤ Int32.toNatClampNeg (0 : Int32) then none else dp_w (dp_setJ M1 245 (Int32.toNatClampNeg (0 : Int32)) r2) (fun M3 => some (.inl (some (.int (0 : Int32))), M3))) (fun e9 M4 => dp_x4 e9 (some (.inl (some (.int (1 : Int32))), M4)) (none) (none) (none)) := by
  have hF := dp_den_grow (md := true) (xs := xs) (xl := xl) d
  unfold D_L_account_0
  refine dp_s1 hF (i := .aload 4) rfl (fun _ => rfl) ?_
  refine dp_s1 hF (i := .iconst 0) rfl (fun _ => rfl) ?_
  refine dp_s1 hF (i := .aload_n 0) rfl (fun _ => rfl) ?_
  refine dp_s1 hF (i := .iload_n 1) rfl (fun _ => rfl) ?_
  refine dp_s1 hF (i := .iload_n 2) rfl (fun _ => rfl) ?_
  refine dp_s1 hF (i := .iload_n 3) rfl (fun _ => rfl) ?_
  refine dp_cl9 (mj := dp_m_X11_account) (i := .invokevirtual 164) rfl ⟨_, _, rfl⟩ rfl rfl (fun _ => rfl) (fun r2 M1 => ?_) ?_
  · refine dp_s3w (dp_setJ M1 245 (Int32.toNatClampNeg (0 : Int32)) r2) (fun (M3 : dp_M) => (11, [some (.ref 0), some (.int v1), some (.int v2), some (.int v3), some (.ref 245), none], [], M3)) hF (i := .lastore) rfl (fun _ => rfl) (fun M3 => ?_)
    refine dp_s1 hF (i := .goto 7) rfl (fun _ => rfl) ?_
    refine dp_s1 hF (i := .iconst 0) rfl (fun _ => rfl) ?_
    exact dp_s0 hF (i := .ireturn) rfl (fun _ => rfl)
  refine dp_ct4 (fun M4 => ?_) (fun M4 => ?_) (fun M4 => ?_) (fun M4 => ?_)
  · refine dp_ct_s (h := 16) (a := 5) rfl (Nat.le_of_ble_eq_true rfl) ?_
    refine dp_s1 hF (i := .iconst 1) rfl (fun _ => rfl) ?_
    exact dp_s0 hF (i := .ireturn) rfl (fun _ => rfl)
  · exact dp_ct_n rfl
  · exact dp_ct_n rfl
  · exact dp_ct_n rfl
noncomputable def D_L_statement_0 (xs : Nat → Int32) (xl d : Nat) (v1 : Int32) (v2 : Int32) (v3 : Int32) (M : dp_M) : Option dp_Res := dp_lim true xs xl (dp_den true xs xl d) dp_m_L_statement (0, [some (.ref 0), some (.int v1), some (.int v2), some (.int v3), some (.ref 245), none], [], M)
theorem D_L_statement_0_den (xs : Nat → Int32) (xl d : Nat) (a1 : Int32) (a2 : Int32) (a3 : Int32) (M : dp_M) : dp_den true xs xl (d + 1) 641 [.ref 0, .int a1, .int a2, .int a3, .ref 245] M = D_L_statement_0 xs xl d a1 a2 a3 M := rfl
set_option maxRecDepth 20000 in
theorem D_L_statement_0_eq (xs : Nat → Int32) (xl d : Nat) (v1 : Int32) (v2 : Int32) (v3 : Int32) (M : dp_M) : D_L_statement_0 xs xl d v1 v2 v3 M = dp_tl (dp_den true xs xl d 341 [.ref 0, .int v1, .int v2, .int v3] M) (fun r2 M1 => if (0 : Int32) < 0 ∨ 1 ≤ Int32.toNatClampNeg (0 : Int32) then none else dp_w (dp_setJ M1 245 (Int32.toNatClampNeg (0 : Int32)) r2) (fun M3 => some (.inl (some (.int (0 : Int32))), M3))) (fun e9 M4 => dp_x4 e9 (some (.inl (some (.int (1 : Int32))), M4)) (none) (none) (none)) := by
  have hF := dp_den_grow (md := true) (xs := xs) (xl := xl) d
  unfold D_L_statement_0
  refine dp_s1 hF (i := .aload 4) rfl (fun _ => rfl) ?_
  refine dp_s1 hF (i := .iconst 0) rfl (fun _ => rfl) ?_
  refine dp_s1 hF (i := .aload_n 0) rfl (fun _ => rfl) ?_
  refine dp_s1 hF (i := .iload_n 1) rfl (fun _ => rfl) ?_
  refine dp_s1 hF (i := .iload_n 2) rfl (fun _ => rfl) ?_
  refine dp_s1 hF (i := .iload_n 3) rfl (fun _ => rfl) ?_
  refine dp_cl9 (mj := dp_m_X11_statement) (i := .invokevirtual 168) rfl ⟨_, _, rfl⟩ rfl rfl (fun _ => rfl) (fun r2 M1 => ?_) ?_
  · refine dp_s3w (dp_setJ M1 245 (Int32.toNatClampNeg (0 : Int32)) r2) (fun (M3 : dp_M) => (11, [some (.ref 0), some (.int v1), some (.int v2), some (.int v3), some (.ref 245), none], [], M3)) hF (i := .lastore) rfl (fun _ => rfl) (fun M3 => ?_)
    refine dp_s1 hF (i := .goto 7) rfl (fun _ => rfl) ?_
    refine dp_s1 hF (i := .iconst 0) rfl (fun _ => rfl) ?_
    exact dp_s0 hF (i := .ireturn) rfl (fun _ => rfl)
  refine dp_ct4 (fun M4 => ?_) (fun M4 => ?_) (fun M4 => ?_) (fun M4 => ?_)
  · refine dp_ct_s (h := 16) (a := 5) rfl (Nat.le_of_ble_eq_true rfl) ?_
    refine dp_s1 hF (i := .iconst 1) rfl (fun _ => rfl) ?_
    exact dp_s0 hF (i := .ireturn) rfl (fun _ => rfl)
  · exact dp_ct_n rfl
  · exact dp_ct_n rfl
  · exact dp_ct_n rfl
noncomputable def D_L_passed_0 (xs : Nat → Int32) (xl d : Nat) (v1 : Int32) (v2 : Int32) (v3 : Int32) (M : dp_M) : Option dp_Res := dp_lim true xs xl (dp_den true xs xl d) dp_m_L_passed (0, [some (.ref 0), some (.int v1), some (.int v2), some (.int v3), some (.ref 245), none], [], M)
theorem D_L_passed_0_den (xs : Nat → Int32) (xl d : Nat) (a1 : Int32) (a2 : Int32) (a3 : Int32) (M : dp_M) : dp_den true xs xl (d + 1) 642 [.ref 0, .int a1, .int a2, .int a3, .ref 245] M = D_L_passed_0 xs xl d a1 a2 a3 M := rfl
set_option maxRecDepth 20000 in
theorem D_L_passed_0_eq (xs : Nat → Int32) (xl d : Nat) (v1 : Int32) (v2 : Int32) (v3 : Int32) (M : dp_M) : D_L_passed_0 xs xl d v1 v2 v3 M = dp_tl (dp_den true xs xl d 345 [.ref 0, .int v1, .int v2, .int v3] M) (fun r2 M1 => if (0 : Int32) < 0 ∨ 1 ≤ Int32.toNatClampNeg (0 : Int32) then none else dp_w (dp_setJ M1 245 (Int32.toNatClampNeg (0 : Int32)) r2) (fun M3 => some (.inl (some (.int (0 : Int32))), M3))) (fun e9 M4 => dp_x4 e9 (some (.inl (some (.int (1 : Int32))), M4)) (none) (none) (none)) := by
  have hF := dp_den_grow (md := true) (xs := xs) (xl := xl) d
  unfold D_L_passed_0
  refine dp_s1 hF (i := .aload 4) rfl (fun _ => rfl) ?_
  refine dp_s1 hF (i := .iconst 0) rfl (fun _ => rfl) ?_
  refine dp_s1 hF (i := .aload_n 0) rfl (fun _ => rfl) ?_
  refine dp_s1 hF (i := .iload_n 1) rfl (fun _ => rfl) ?_
  refine dp_s1 hF (i := .iload_n 2) rfl (fun _ => rfl) ?_
  refine dp_s1 hF (i := .iload_n 3) rfl (fun _ => rfl) ?_
  refine dp_cl9 (mj := dp_m_X11_passed) (i := .invokevirtual 171) rfl ⟨_, _, rfl⟩ rfl rfl (fun _ => rfl) (fun r2 M1 => ?_) ?_
  · refine dp_s3w (dp_setJ M1 245 (Int32.toNatClampNeg (0 : Int32)) r2) (fun (M3 : dp_M) => (11, [some (.ref 0), some (.int v1), some (.int v2), some (.int v3), some (.ref 245), none], [], M3)) hF (i := .lastore) rfl (fun _ => rfl) (fun M3 => ?_)
    refine dp_s1 hF (i := .goto 7) rfl (fun _ => rfl) ?_
    refine dp_s1 hF (i := .iconst 0) rfl (fun _ => rfl) ?_
    exact dp_s0 hF (i := .ireturn) rfl (fun _ => rfl)
  refine dp_ct4 (fun M4 => ?_) (fun M4 => ?_) (fun M4 => ?_) (fun M4 => ?_)
  · refine dp_ct_s (h := 16) (a := 5) rfl (Nat.le_of_ble_eq_true rfl) ?_
    refine dp_s1 hF (i := .iconst 1) rfl (fun _ => rfl) ?_
    exact dp_s0 hF (i := .ireturn) rfl (fun _ => rfl)
  · exact dp_ct_n rfl
  · exact dp_ct_n rfl
  · exact dp_ct_n rfl
noncomputable def D_L_read_0 (xs : Nat → Int32) (xl d : Nat) (v1 : Int32) (v2 : Int32) (M : dp_M) : Option dp_Res := dp_lim true xs xl (dp_den true xs xl d) dp_m_L_read (0, [some (.ref 0), some (.int v1), some (.int v2), some (.ref 245), none], [], M)
theorem D_L_read_0_den (xs : Nat → Int32) (xl d : Nat) (a1 : Int32) (a2 : Int32) (M : dp_M) : dp_den true xs xl (d + 1) 643 [.ref 0, .int a1, .int a2, .ref 245] M = D_L_read_0 xs xl d a1 a2 M := rfl
set_option maxRecDepth 20000 in
theorem D_L_read_0_eq (xs : Nat → Int32) (xl d : Nat) (v1 : Int32) (v2 : Int32) (M : dp_M) : D_L_read_0 xs xl d v1 v2 M = dp_tl (dp_den true xs xl d 346 [.ref 0, .int v1, .int v2] M) (fun r2 M1 => if (0 : Int32) < 0 ∨ 1 ≤ Int32.toNatClampNeg (0 : Int32) then none else dp_w (dp_setJ M1 245 (Int32.toNatClampNeg (0 : Int32)) r2) (fun M3 => some (.inl (some (.int (0 : Int32))), M3))) (fun e9 M4 => dp_x4 e9 (none) (none) (some (.inl (some (.int (1 : Int32))), M4)) (none)) := by
  have hF := dp_den_grow (md := true) (xs := xs) (xl := xl) d
  unfold D_L_read_0
  refine dp_s1 hF (i := .aload_n 3) rfl (fun _ => rfl) ?_
  refine dp_s1 hF (i := .iconst 0) rfl (fun _ => rfl) ?_
  refine dp_s1 hF (i := .aload_n 0) rfl (fun _ => rfl) ?_
  refine dp_s1 hF (i := .iload_n 1) rfl (fun _ => rfl) ?_
  refine dp_s1 hF (i := .iload_n 2) rfl (fun _ => rfl) ?_
  refine dp_cl9 (mj := dp_m_X11_read) (i := .invokevirtual 174) rfl ⟨_, _, rfl⟩ rfl rfl (fun _ => rfl) (fun r2 M1 => ?_) ?_
  · refine dp_s3w (dp_setJ M1 245 (Int32.toNatClampNeg (0 : Int32)) r2) (fun (M3 : dp_M) => (9, [some (.ref 0), some (.int v1), some (.int v2), some (.ref 245), none], [], M3)) hF (i := .lastore) rfl (fun _ => rfl) (fun M3 => ?_)
    refine dp_s1 hF (i := .goto 7) rfl (fun _ => rfl) ?_
    refine dp_s1 hF (i := .iconst 0) rfl (fun _ => rfl) ?_
    exact dp_s0 hF (i := .ireturn) rfl (fun _ => rfl)
  refine dp_ct4 (fun M4 => ?_) (fun M4 => ?_) (fun M4 => ?_) (fun M4 => ?_)
  · exact dp_ct_n rfl
  · exact dp_ct_n rfl
  · refine dp_ct_s (h := 14) (a := 4) rfl (Nat.le_of_ble_eq_true rfl) ?_
    refine dp_s1 hF (i := .iconst 1) rfl (fun _ => rfl) ?_
    exact dp_s0 hF (i := .ireturn) rfl (fun _ => rfl)
  · exact dp_ct_n rfl
noncomputable def D_L_batchOf_0 (xs : Nat → Int32) (xl d : Nat) (v1 : Int32) (v2 : Int32) (M : dp_M) : Option dp_Res := dp_lim true xs xl (dp_den true xs xl d) dp_m_L_batchOf (0, [some (.ref 0), some (.int v1), some (.int v2), some (.ref 245), none], [], M)
theorem D_L_batchOf_0_den (xs : Nat → Int32) (xl d : Nat) (a1 : Int32) (a2 : Int32) (M : dp_M) : dp_den true xs xl (d + 1) 644 [.ref 0, .int a1, .int a2, .ref 245] M = D_L_batchOf_0 xs xl d a1 a2 M := rfl
set_option maxRecDepth 20000 in
theorem D_L_batchOf_0_eq (xs : Nat → Int32) (xl d : Nat) (v1 : Int32) (v2 : Int32) (M : dp_M) : D_L_batchOf_0 xs xl d v1 v2 M = dp_ti (dp_den true xs xl d 347 [.ref 0, .int v1, .int v2] M) (fun r2 M1 => if (0 : Int32) < 0 ∨ 1 ≤ Int32.toNatClampNeg (0 : Int32) then none else dp_w (dp_setJ M1 245 (Int32.toNatClampNeg (0 : Int32)) (Int32.toInt64 r2)) (fun M3 => some (.inl (some (.int (0 : Int32))), M3))) (fun e9 M4 => dp_x4 e9 (none) (none) (some (.inl (some (.int (1 : Int32))), M4)) (none)) := by
  have hF := dp_den_grow (md := true) (xs := xs) (xl := xl) d
  unfold D_L_batchOf_0
  refine dp_s1 hF (i := .aload_n 3) rfl (fun _ => rfl) ?_
  refine dp_s1 hF (i := .iconst 0) rfl (fun _ => rfl) ?_
  refine dp_s1 hF (i := .aload_n 0) rfl (fun _ => rfl) ?_
  refine dp_s1 hF (i := .iload_n 1) rfl (fun _ => rfl) ?_
  refine dp_s1 hF (i := .iload_n 2) rfl (fun _ => rfl) ?_
  refine dp_ci9 (mj := dp_m_X11_batchOf) (i := .invokevirtual 177) rfl ⟨_, _, rfl⟩ (Or.inl rfl) rfl (fun _ => rfl) (fun r2 M1 => ?_) ?_
  · refine dp_s1 hF (i := .i2l) rfl (fun _ => rfl) ?_
    refine dp_s3w (dp_setJ M1 245 (Int32.toNatClampNeg (0 : Int32)) (Int32.toInt64 r2)) (fun (M3 : dp_M) => (10, [some (.ref 0), some (.int v1), some (.int v2), some (.ref 245), none], [], M3)) hF (i := .lastore) rfl (fun _ => rfl) (fun M3 => ?_)
    refine dp_s1 hF (i := .goto 7) rfl (fun _ => rfl) ?_
    refine dp_s1 hF (i := .iconst 0) rfl (fun _ => rfl) ?_
    exact dp_s0 hF (i := .ireturn) rfl (fun _ => rfl)
  refine dp_ct4 (fun M4 => ?_) (fun M4 => ?_) (fun M4 => ?_) (fun M4 => ?_)
  · exact dp_ct_n rfl
  · exact dp_ct_n rfl
  · refine dp_ct_s (h := 15) (a := 4) rfl (Nat.le_of_ble_eq_true rfl) ?_
    refine dp_s1 hF (i := .iconst 1) rfl (fun _ => rfl) ?_
    exact dp_s0 hF (i := .ireturn) rfl (fun _ => rfl)
  · exact dp_ct_n rfl
noncomputable def D_L_declare_0 (xs : Nat → Int32) (xl d : Nat) (v1 : Int32) (v2 : Int32) (v3 : Int32) (v4 : Int32) (v5 : Int32) (v6 : Int32) (v7 : Int64) (M : dp_M) : Option dp_Res := dp_lim true xs xl (dp_den true xs xl d) dp_m_L_declare (0, [some (.ref 0), some (.int v1), some (.int v2), some (.int v3), some (.int v4), some (.int v5), some (.int v6), some (.long v7), none, some (.ref 245), none], [], M)
theorem D_L_declare_0_den (xs : Nat → Int32) (xl d : Nat) (a1 : Int32) (a2 : Int32) (a3 : Int32) (a4 : Int32) (a5 : Int32) (a6 : Int32) (a7 : Int64) (M : dp_M) : dp_den true xs xl (d + 1) 645 [.ref 0, .int a1, .int a2, .int a3, .int a4, .int a5, .int a6, .long a7, .ref 245] M = D_L_declare_0 xs xl d a1 a2 a3 a4 a5 a6 a7 M := rfl
set_option maxRecDepth 20000 in
theorem D_L_declare_0_eq (xs : Nat → Int32) (xl d : Nat) (v1 : Int32) (v2 : Int32) (v3 : Int32) (v4 : Int32) (v5 : Int32) (v6 : Int32) (v7 : Int64) (M : dp_M) : D_L_declare_0 xs xl d v1 v2 v3 v4 v5 v6 v7 M = dp_ti (dp_den true xs xl d 348 [.ref 0, .int v1, .int v2, .int v3, .int v4, .int v5, .int v6, .long v7] M) (fun r2 M1 => if (0 : Int32) < 0 ∨ 1 ≤ Int32.toNatClampNeg (0 : Int32) then none else dp_w (dp_setJ M1 245 (Int32.toNatClampNeg (0 : Int32)) (Int32.toInt64 r2)) (fun M3 => some (.inl (some (.int (0 : Int32))), M3))) (fun e9 M4 => dp_x4 e9 (some (.inl (some (.int (1 : Int32))), M4)) (some (.inl (some (.int (2 : Int32))), M4)) (none) (none)) := by
  have hF := dp_den_grow (md := true) (xs := xs) (xl := xl) d
  unfold D_L_declare_0
  refine dp_s1 hF (i := .aload 9) rfl (fun _ => rfl) ?_
  refine dp_s1 hF (i := .iconst 0) rfl (fun _ => rfl) ?_
  refine dp_s1 hF (i := .aload_n 0) rfl (fun _ => rfl) ?_
  refine dp_s1 hF (i := .iload_n 1) rfl (fun _ => rfl) ?_
  refine dp_s1 hF (i := .iload_n 2) rfl (fun _ => rfl) ?_
  refine dp_s1 hF (i := .iload_n 3) rfl (fun _ => rfl) ?_
  refine dp_s1 hF (i := .iload 4) rfl (fun _ => rfl) ?_
  refine dp_s1 hF (i := .iload 5) rfl (fun _ => rfl) ?_
  refine dp_s1 hF (i := .iload 6) rfl (fun _ => rfl) ?_
  refine dp_s1 hF (i := .lload 7) rfl (fun _ => rfl) ?_
  refine dp_ci9 (mj := dp_m_X11_declare) (i := .invokevirtual 180) rfl ⟨_, _, rfl⟩ (Or.inl rfl) rfl (fun _ => rfl) (fun r2 M1 => ?_) ?_
  · refine dp_s1 hF (i := .i2l) rfl (fun _ => rfl) ?_
    refine dp_s3w (dp_setJ M1 245 (Int32.toNatClampNeg (0 : Int32)) (Int32.toInt64 r2)) (fun (M3 : dp_M) => (20, [some (.ref 0), some (.int v1), some (.int v2), some (.int v3), some (.int v4), some (.int v5), some (.int v6), some (.long v7), none, some (.ref 245), none], [], M3)) hF (i := .lastore) rfl (fun _ => rfl) (fun M3 => ?_)
    refine dp_s1 hF (i := .goto 11) rfl (fun _ => rfl) ?_
    refine dp_s1 hF (i := .iconst 0) rfl (fun _ => rfl) ?_
    exact dp_s0 hF (i := .ireturn) rfl (fun _ => rfl)
  refine dp_ct4 (fun M4 => ?_) (fun M4 => ?_) (fun M4 => ?_) (fun M4 => ?_)
  · refine dp_ct_s (h := 25) (a := 10) rfl (Nat.le_of_ble_eq_true rfl) ?_
    refine dp_s1 hF (i := .iconst 1) rfl (fun _ => rfl) ?_
    exact dp_s0 hF (i := .ireturn) rfl (fun _ => rfl)
  · refine dp_ct_s (h := 29) (a := 10) rfl (Nat.le_of_ble_eq_true rfl) ?_
    refine dp_s1 hF (i := .iconst 2) rfl (fun _ => rfl) ?_
    exact dp_s0 hF (i := .ireturn) rfl (fun _ => rfl)
  · exact dp_ct_n rfl
  · exact dp_ct_n rfl
noncomputable def D_L_ask_0 (xs : Nat → Int32) (xl d : Nat) (v1 : Int32) (v2 : Int32) (v3 : Int64) (M : dp_M) : Option dp_Res := dp_lim true xs xl (dp_den true xs xl d) dp_m_L_ask (0, [some (.ref 0), some (.int v1), some (.int v2), some (.long v3), none, some (.ref 245), none], [], M)
theorem D_L_ask_0_den (xs : Nat → Int32) (xl d : Nat) (a1 : Int32) (a2 : Int32) (a3 : Int64) (M : dp_M) : dp_den true xs xl (d + 1) 646 [.ref 0, .int a1, .int a2, .long a3, .ref 245] M = D_L_ask_0 xs xl d a1 a2 a3 M := rfl
set_option maxRecDepth 20000 in
theorem D_L_ask_0_eq (xs : Nat → Int32) (xl d : Nat) (v1 : Int32) (v2 : Int32) (v3 : Int64) (M : dp_M) : D_L_ask_0 xs xl d v1 v2 v3 M = dp_ti (dp_den true xs xl d 350 [.ref 0, .int v1, .int v2, .long v3] M) (fun r2 M1 => if (0 : Int32) < 0 ∨ 1 ≤ Int32.toNatClampNeg (0 : Int32) then none else dp_w (dp_setJ M1 245 (Int32.toNatClampNeg (0 : Int32)) (Int32.toInt64 r2)) (fun M3 => some (.inl (some (.int (0 : Int32))), M3))) (fun e9 M4 => dp_x4 e9 (some (.inl (some (.int (1 : Int32))), M4)) (some (.inl (some (.int (3 : Int32))), M4)) (some (.inl (some (.int (2 : Int32))), M4)) (none)) := by
  have hF := dp_den_grow (md := true) (xs := xs) (xl := xl) d
  unfold D_L_ask_0
  refine dp_s1 hF (i := .aload 5) rfl (fun _ => rfl) ?_
  refine dp_s1 hF (i := .iconst 0) rfl (fun _ => rfl) ?_
  refine dp_s1 hF (i := .aload_n 0) rfl (fun _ => rfl) ?_
  refine dp_s1 hF (i := .iload_n 1) rfl (fun _ => rfl) ?_
  refine dp_s1 hF (i := .iload_n 2) rfl (fun _ => rfl) ?_
  refine dp_s1 hF (i := .lload_n 3) rfl (fun _ => rfl) ?_
  refine dp_ci9 (mj := dp_m_X11_ask) (i := .invokevirtual 184) rfl ⟨_, _, rfl⟩ (Or.inl rfl) rfl (fun _ => rfl) (fun r2 M1 => ?_) ?_
  · refine dp_s1 hF (i := .i2l) rfl (fun _ => rfl) ?_
    refine dp_s3w (dp_setJ M1 245 (Int32.toNatClampNeg (0 : Int32)) (Int32.toInt64 r2)) (fun (M3 : dp_M) => (12, [some (.ref 0), some (.int v1), some (.int v2), some (.long v3), none, some (.ref 245), none], [], M3)) hF (i := .lastore) rfl (fun _ => rfl) (fun M3 => ?_)
    refine dp_s1 hF (i := .goto 15) rfl (fun _ => rfl) ?_
    refine dp_s1 hF (i := .iconst 0) rfl (fun _ => rfl) ?_
    exact dp_s0 hF (i := .ireturn) rfl (fun _ => rfl)
  refine dp_ct4 (fun M4 => ?_) (fun M4 => ?_) (fun M4 => ?_) (fun M4 => ?_)
  · refine dp_ct_s (h := 17) (a := 6) rfl (Nat.le_of_ble_eq_true rfl) ?_
    refine dp_s1 hF (i := .iconst 1) rfl (fun _ => rfl) ?_
    exact dp_s0 hF (i := .ireturn) rfl (fun _ => rfl)
  · refine dp_ct_s (h := 25) (a := 6) rfl (Nat.le_of_ble_eq_true rfl) ?_
    refine dp_s1 hF (i := .iconst 3) rfl (fun _ => rfl) ?_
    exact dp_s0 hF (i := .ireturn) rfl (fun _ => rfl)
  · refine dp_ct_s (h := 21) (a := 6) rfl (Nat.le_of_ble_eq_true rfl) ?_
    refine dp_s1 hF (i := .iconst 2) rfl (fun _ => rfl) ?_
    exact dp_s0 hF (i := .ireturn) rfl (fun _ => rfl)
  · exact dp_ct_n rfl
noncomputable def D_L_again_0 (xs : Nat → Int32) (xl d : Nat) (v1 : Int32) (v2 : Int64) (M : dp_M) : Option dp_Res := dp_lim true xs xl (dp_den true xs xl d) dp_m_L_again (0, [some (.ref 0), some (.int v1), some (.long v2), none, some (.ref 245), none], [], M)
theorem D_L_again_0_den (xs : Nat → Int32) (xl d : Nat) (a1 : Int32) (a2 : Int64) (M : dp_M) : dp_den true xs xl (d + 1) 647 [.ref 0, .int a1, .long a2, .ref 245] M = D_L_again_0 xs xl d a1 a2 M := rfl
set_option maxRecDepth 20000 in
theorem D_L_again_0_eq (xs : Nat → Int32) (xl d : Nat) (v1 : Int32) (v2 : Int64) (M : dp_M) : D_L_again_0 xs xl d v1 v2 M = dp_ti (dp_den true xs xl d 351 [.ref 0, .int v1, .long v2] M) (fun r2 M1 => if (0 : Int32) < 0 ∨ 1 ≤ Int32.toNatClampNeg (0 : Int32) then none else dp_w (dp_setJ M1 245 (Int32.toNatClampNeg (0 : Int32)) (Int32.toInt64 r2)) (fun M3 => some (.inl (some (.int (0 : Int32))), M3))) (fun e9 M4 => dp_x4 e9 (some (.inl (some (.int (1 : Int32))), M4)) (none) (none) (none)) := by
  have hF := dp_den_grow (md := true) (xs := xs) (xl := xl) d
  unfold D_L_again_0
  refine dp_s1 hF (i := .aload 4) rfl (fun _ => rfl) ?_
  refine dp_s1 hF (i := .iconst 0) rfl (fun _ => rfl) ?_
  refine dp_s1 hF (i := .aload_n 0) rfl (fun _ => rfl) ?_
  refine dp_s1 hF (i := .iload_n 1) rfl (fun _ => rfl) ?_
  refine dp_s1 hF (i := .lload_n 2) rfl (fun _ => rfl) ?_
  refine dp_ci9 (mj := dp_m_X11_again) (i := .invokevirtual 188) rfl ⟨_, _, rfl⟩ (Or.inl rfl) rfl (fun _ => rfl) (fun r2 M1 => ?_) ?_
  · refine dp_s1 hF (i := .i2l) rfl (fun _ => rfl) ?_
    refine dp_s3w (dp_setJ M1 245 (Int32.toNatClampNeg (0 : Int32)) (Int32.toInt64 r2)) (fun (M3 : dp_M) => (11, [some (.ref 0), some (.int v1), some (.long v2), none, some (.ref 245), none], [], M3)) hF (i := .lastore) rfl (fun _ => rfl) (fun M3 => ?_)
    refine dp_s1 hF (i := .goto 7) rfl (fun _ => rfl) ?_
    refine dp_s1 hF (i := .iconst 0) rfl (fun _ => rfl) ?_
    exact dp_s0 hF (i := .ireturn) rfl (fun _ => rfl)
  refine dp_ct4 (fun M4 => ?_) (fun M4 => ?_) (fun M4 => ?_) (fun M4 => ?_)
  · refine dp_ct_s (h := 16) (a := 5) rfl (Nat.le_of_ble_eq_true rfl) ?_
    refine dp_s1 hF (i := .iconst 1) rfl (fun _ => rfl) ?_
    exact dp_s0 hF (i := .ireturn) rfl (fun _ => rfl)
  · exact dp_ct_n rfl
  · exact dp_ct_n rfl
  · exact dp_ct_n rfl
noncomputable def D_L_duty_0 (xs : Nat → Int32) (xl d : Nat) (v1 : Int32) (v2 : Int32) (M : dp_M) : Option dp_Res := dp_lim true xs xl (dp_den true xs xl d) dp_m_L_duty (0, [some (.ref 0), some (.int v1), some (.int v2), some (.ref 245), none], [], M)
theorem D_L_duty_0_den (xs : Nat → Int32) (xl d : Nat) (a1 : Int32) (a2 : Int32) (M : dp_M) : dp_den true xs xl (d + 1) 648 [.ref 0, .int a1, .int a2, .ref 245] M = D_L_duty_0 xs xl d a1 a2 M := rfl
set_option maxRecDepth 20000 in
theorem D_L_duty_0_eq (xs : Nat → Int32) (xl d : Nat) (v1 : Int32) (v2 : Int32) (M : dp_M) : D_L_duty_0 xs xl d v1 v2 M = dp_tl (dp_den true xs xl d 352 [.ref 0, .int v1, .int v2] M) (fun r2 M1 => if (0 : Int32) < 0 ∨ 1 ≤ Int32.toNatClampNeg (0 : Int32) then none else dp_w (dp_setJ M1 245 (Int32.toNatClampNeg (0 : Int32)) r2) (fun M3 => some (.inl (some (.int (0 : Int32))), M3))) (fun e9 M4 => dp_x4 e9 (some (.inl (some (.int (1 : Int32))), M4)) (none) (none) (some (.inl (some (.int (2 : Int32))), M4))) := by
  have hF := dp_den_grow (md := true) (xs := xs) (xl := xl) d
  unfold D_L_duty_0
  refine dp_s1 hF (i := .aload_n 3) rfl (fun _ => rfl) ?_
  refine dp_s1 hF (i := .iconst 0) rfl (fun _ => rfl) ?_
  refine dp_s1 hF (i := .aload_n 0) rfl (fun _ => rfl) ?_
  refine dp_s1 hF (i := .iload_n 1) rfl (fun _ => rfl) ?_
  refine dp_s1 hF (i := .iload_n 2) rfl (fun _ => rfl) ?_
  refine dp_cl9 (mj := dp_m_X11_duty) (i := .invokevirtual 192) rfl ⟨_, _, rfl⟩ rfl rfl (fun _ => rfl) (fun r2 M1 => ?_) ?_
  · refine dp_s3w (dp_setJ M1 245 (Int32.toNatClampNeg (0 : Int32)) r2) (fun (M3 : dp_M) => (9, [some (.ref 0), some (.int v1), some (.int v2), some (.ref 245), none], [], M3)) hF (i := .lastore) rfl (fun _ => rfl) (fun M3 => ?_)
    refine dp_s1 hF (i := .goto 11) rfl (fun _ => rfl) ?_
    refine dp_s1 hF (i := .iconst 0) rfl (fun _ => rfl) ?_
    exact dp_s0 hF (i := .ireturn) rfl (fun _ => rfl)
  refine dp_ct4 (fun M4 => ?_) (fun M4 => ?_) (fun M4 => ?_) (fun M4 => ?_)
  · refine dp_ct_s (h := 14) (a := 4) rfl (Nat.le_of_ble_eq_true rfl) ?_
    refine dp_s1 hF (i := .iconst 1) rfl (fun _ => rfl) ?_
    exact dp_s0 hF (i := .ireturn) rfl (fun _ => rfl)
  · exact dp_ct_n rfl
  · exact dp_ct_n rfl
  · refine dp_ct_s (h := 18) (a := 4) rfl (Nat.le_of_ble_eq_true rfl) ?_
    refine dp_s1 hF (i := .iconst 2) rfl (fun _ => rfl) ?_
    exact dp_s0 hF (i := .ireturn) rfl (fun _ => rfl)
noncomputable def D_L_assess_0 (xs : Nat → Int32) (xl d : Nat) (v1 : Int32) (v2 : Int32) (M : dp_M) : Option dp_Res := dp_lim true xs xl (dp_den true xs xl d) dp_m_L_assess (0, [some (.ref 0), some (.int v1), some (.int v2), some (.ref 245), none], [], M)
theorem D_L_assess_0_den (xs : Nat → Int32) (xl d : Nat) (a1 : Int32) (a2 : Int32) (M : dp_M) : dp_den true xs xl (d + 1) 649 [.ref 0, .int a1, .int a2, .ref 245] M = D_L_assess_0 xs xl d a1 a2 M := rfl
set_option maxRecDepth 20000 in
theorem D_L_assess_0_eq (xs : Nat → Int32) (xl d : Nat) (v1 : Int32) (v2 : Int32) (M : dp_M) : D_L_assess_0 xs xl d v1 v2 M = dp_tl (dp_den true xs xl d 353 [.ref 0, .int v1, .int v2] M) (fun r2 M1 => if (0 : Int32) < 0 ∨ 1 ≤ Int32.toNatClampNeg (0 : Int32) then none else dp_w (dp_setJ M1 245 (Int32.toNatClampNeg (0 : Int32)) r2) (fun M3 => some (.inl (some (.int (0 : Int32))), M3))) (fun e9 M4 => dp_x4 e9 (some (.inl (some (.int (1 : Int32))), M4)) (none) (none) (some (.inl (some (.int (2 : Int32))), M4))) := by
  have hF := dp_den_grow (md := true) (xs := xs) (xl := xl) d
  unfold D_L_assess_0
  refine dp_s1 hF (i := .aload_n 3) rfl (fun _ => rfl) ?_
  refine dp_s1 hF (i := .iconst 0) rfl (fun _ => rfl) ?_
  refine dp_s1 hF (i := .aload_n 0) rfl (fun _ => rfl) ?_
  refine dp_s1 hF (i := .iload_n 1) rfl (fun _ => rfl) ?_
  refine dp_s1 hF (i := .iload_n 2) rfl (fun _ => rfl) ?_
  refine dp_cl9 (mj := dp_m_X11_assess) (i := .invokevirtual 195) rfl ⟨_, _, rfl⟩ rfl rfl (fun _ => rfl) (fun r2 M1 => ?_) ?_
  · refine dp_s3w (dp_setJ M1 245 (Int32.toNatClampNeg (0 : Int32)) r2) (fun (M3 : dp_M) => (9, [some (.ref 0), some (.int v1), some (.int v2), some (.ref 245), none], [], M3)) hF (i := .lastore) rfl (fun _ => rfl) (fun M3 => ?_)
    refine dp_s1 hF (i := .goto 11) rfl (fun _ => rfl) ?_
    refine dp_s1 hF (i := .iconst 0) rfl (fun _ => rfl) ?_
    exact dp_s0 hF (i := .ireturn) rfl (fun _ => rfl)
  refine dp_ct4 (fun M4 => ?_) (fun M4 => ?_) (fun M4 => ?_) (fun M4 => ?_)
  · refine dp_ct_s (h := 14) (a := 4) rfl (Nat.le_of_ble_eq_true rfl) ?_
    refine dp_s1 hF (i := .iconst 1) rfl (fun _ => rfl) ?_
    exact dp_s0 hF (i := .ireturn) rfl (fun _ => rfl)
  · exact dp_ct_n rfl
  · exact dp_ct_n rfl
  · refine dp_ct_s (h := 18) (a := 4) rfl (Nat.le_of_ble_eq_true rfl) ?_
    refine dp_s1 hF (i := .iconst 2) rfl (fun _ => rfl) ?_
    exact dp_s0 hF (i := .ireturn) rfl (fun _ => rfl)
noncomputable def D_L_pay_0 (xs : Nat → Int32) (xl d : Nat) (v1 : Int32) (v2 : Int32) (M : dp_M) : Option dp_Res := dp_lim true xs xl (dp_den true xs xl d) dp_m_L_pay (0, [some (.ref 0), some (.int v1), some (.int v2), some (.ref 245), none], [], M)
theorem D_L_pay_0_den (xs : Nat → Int32) (xl d : Nat) (a1 : Int32) (a2 : Int32) (M : dp_M) : dp_den true xs xl (d + 1) 650 [.ref 0, .int a1, .int a2, .ref 245] M = D_L_pay_0 xs xl d a1 a2 M := rfl
set_option maxRecDepth 20000 in
theorem D_L_pay_0_eq (xs : Nat → Int32) (xl d : Nat) (v1 : Int32) (v2 : Int32) (M : dp_M) : D_L_pay_0 xs xl d v1 v2 M = dp_ti (dp_den true xs xl d 354 [.ref 0, .int v1, .int v2] M) (fun r2 M1 => if (0 : Int32) < 0 ∨ 1 ≤ Int32.toNatClampNeg (0 : Int32) then none else dp_w (dp_setJ M1 245 (Int32.toNatClampNeg (0 : Int32)) (Int32.toInt64 r2)) (fun M3 => some (.inl (some (.int (0 : Int32))), M3))) (fun e9 M4 => dp_x4 e9 (some (.inl (some (.int (1 : Int32))), M4)) (some (.inl (some (.int (2 : Int32))), M4)) (none) (none)) := by
  have hF := dp_den_grow (md := true) (xs := xs) (xl := xl) d
  unfold D_L_pay_0
  refine dp_s1 hF (i := .aload_n 3) rfl (fun _ => rfl) ?_
  refine dp_s1 hF (i := .iconst 0) rfl (fun _ => rfl) ?_
  refine dp_s1 hF (i := .aload_n 0) rfl (fun _ => rfl) ?_
  refine dp_s1 hF (i := .iload_n 1) rfl (fun _ => rfl) ?_
  refine dp_s1 hF (i := .iload_n 2) rfl (fun _ => rfl) ?_
  refine dp_ci9 (mj := dp_m_X11_pay) (i := .invokevirtual 198) rfl ⟨_, _, rfl⟩ (Or.inl rfl) rfl (fun _ => rfl) (fun r2 M1 => ?_) ?_
  · refine dp_s1 hF (i := .i2l) rfl (fun _ => rfl) ?_
    refine dp_s3w (dp_setJ M1 245 (Int32.toNatClampNeg (0 : Int32)) (Int32.toInt64 r2)) (fun (M3 : dp_M) => (10, [some (.ref 0), some (.int v1), some (.int v2), some (.ref 245), none], [], M3)) hF (i := .lastore) rfl (fun _ => rfl) (fun M3 => ?_)
    refine dp_s1 hF (i := .goto 11) rfl (fun _ => rfl) ?_
    refine dp_s1 hF (i := .iconst 0) rfl (fun _ => rfl) ?_
    exact dp_s0 hF (i := .ireturn) rfl (fun _ => rfl)
  refine dp_ct4 (fun M4 => ?_) (fun M4 => ?_) (fun M4 => ?_) (fun M4 => ?_)
  · refine dp_ct_s (h := 15) (a := 4) rfl (Nat.le_of_ble_eq_true rfl) ?_
    refine dp_s1 hF (i := .iconst 1) rfl (fun _ => rfl) ?_
    exact dp_s0 hF (i := .ireturn) rfl (fun _ => rfl)
  · refine dp_ct_s (h := 19) (a := 4) rfl (Nat.le_of_ble_eq_true rfl) ?_
    refine dp_s1 hF (i := .iconst 2) rfl (fun _ => rfl) ?_
    exact dp_s0 hF (i := .ireturn) rfl (fun _ => rfl)
  · exact dp_ct_n rfl
  · exact dp_ct_n rfl
noncomputable def D_L_claim_0 (xs : Nat → Int32) (xl d : Nat) (v1 : Int32) (v2 : Int32) (M : dp_M) : Option dp_Res := dp_lim true xs xl (dp_den true xs xl d) dp_m_L_claim (0, [some (.ref 0), some (.int v1), some (.int v2), some (.ref 245), none], [], M)
theorem D_L_claim_0_den (xs : Nat → Int32) (xl d : Nat) (a1 : Int32) (a2 : Int32) (M : dp_M) : dp_den true xs xl (d + 1) 651 [.ref 0, .int a1, .int a2, .ref 245] M = D_L_claim_0 xs xl d a1 a2 M := rfl
set_option maxRecDepth 20000 in
theorem D_L_claim_0_eq (xs : Nat → Int32) (xl d : Nat) (v1 : Int32) (v2 : Int32) (M : dp_M) : D_L_claim_0 xs xl d v1 v2 M = dp_tl (dp_den true xs xl d 355 [.ref 0, .int v1, .int v2] M) (fun r2 M1 => if (0 : Int32) < 0 ∨ 1 ≤ Int32.toNatClampNeg (0 : Int32) then none else dp_w (dp_setJ M1 245 (Int32.toNatClampNeg (0 : Int32)) r2) (fun M3 => some (.inl (some (.int (0 : Int32))), M3))) (fun e9 M4 => dp_x4 e9 (some (.inl (some (.int (1 : Int32))), M4)) (some (.inl (some (.int (2 : Int32))), M4)) (none) (none)) := by
  have hF := dp_den_grow (md := true) (xs := xs) (xl := xl) d
  unfold D_L_claim_0
  refine dp_s1 hF (i := .aload_n 3) rfl (fun _ => rfl) ?_
  refine dp_s1 hF (i := .iconst 0) rfl (fun _ => rfl) ?_
  refine dp_s1 hF (i := .aload_n 0) rfl (fun _ => rfl) ?_
  refine dp_s1 hF (i := .iload_n 1) rfl (fun _ => rfl) ?_
  refine dp_s1 hF (i := .iload_n 2) rfl (fun _ => rfl) ?_
  refine dp_cl9 (mj := dp_m_X11_claim) (i := .invokevirtual 201) rfl ⟨_, _, rfl⟩ rfl rfl (fun _ => rfl) (fun r2 M1 => ?_) ?_
  · refine dp_s3w (dp_setJ M1 245 (Int32.toNatClampNeg (0 : Int32)) r2) (fun (M3 : dp_M) => (9, [some (.ref 0), some (.int v1), some (.int v2), some (.ref 245), none], [], M3)) hF (i := .lastore) rfl (fun _ => rfl) (fun M3 => ?_)
    refine dp_s1 hF (i := .goto 11) rfl (fun _ => rfl) ?_
    refine dp_s1 hF (i := .iconst 0) rfl (fun _ => rfl) ?_
    exact dp_s0 hF (i := .ireturn) rfl (fun _ => rfl)
  refine dp_ct4 (fun M4 => ?_) (fun M4 => ?_) (fun M4 => ?_) (fun M4 => ?_)
  · refine dp_ct_s (h := 14) (a := 4) rfl (Nat.le_of_ble_eq_true rfl) ?_
    refine dp_s1 hF (i := .iconst 1) rfl (fun _ => rfl) ?_
    exact dp_s0 hF (i := .ireturn) rfl (fun _ => rfl)
  · refine dp_ct_s (h := 18) (a := 4) rfl (Nat.le_of_ble_eq_true rfl) ?_
    refine dp_s1 hF (i := .iconst 2) rfl (fun _ => rfl) ?_
    exact dp_s0 hF (i := .ireturn) rfl (fun _ => rfl)
  · exact dp_ct_n rfl
  · exact dp_ct_n rfl
noncomputable def D_L_correct_0 (xs : Nat → Int32) (xl d : Nat) (v1 : Int32) (v2 : Int32) (M : dp_M) : Option dp_Res := dp_lim true xs xl (dp_den true xs xl d) dp_m_L_correct (0, [some (.ref 0), some (.int v1), some (.int v2), some (.ref 245), none], [], M)
theorem D_L_correct_0_den (xs : Nat → Int32) (xl d : Nat) (a1 : Int32) (a2 : Int32) (M : dp_M) : dp_den true xs xl (d + 1) 652 [.ref 0, .int a1, .int a2, .ref 245] M = D_L_correct_0 xs xl d a1 a2 M := rfl
set_option maxRecDepth 20000 in
theorem D_L_correct_0_eq (xs : Nat → Int32) (xl d : Nat) (v1 : Int32) (v2 : Int32) (M : dp_M) : D_L_correct_0 xs xl d v1 v2 M = dp_tl (dp_den true xs xl d 356 [.ref 0, .int v1, .int v2] M) (fun r2 M1 => if (0 : Int32) < 0 ∨ 1 ≤ Int32.toNatClampNeg (0 : Int32) then none else dp_w (dp_setJ M1 245 (Int32.toNatClampNeg (0 : Int32)) r2) (fun M3 => some (.inl (some (.int (0 : Int32))), M3))) (fun e9 M4 => dp_x4 e9 (some (.inl (some (.int (1 : Int32))), M4)) (some (.inl (some (.int (3 : Int32))), M4)) (none) (some (.inl (some (.int (2 : Int32))), M4))) := by
  have hF := dp_den_grow (md := true) (xs := xs) (xl := xl) d
  unfold D_L_correct_0
  refine dp_s1 hF (i := .aload_n 3) rfl (fun _ => rfl) ?_
  refine dp_s1 hF (i := .iconst 0) rfl (fun _ => rfl) ?_
  refine dp_s1 hF (i := .aload_n 0) rfl (fun _ => rfl) ?_
  refine dp_s1 hF (i := .iload_n 1) rfl (fun _ => rfl) ?_
  refine dp_s1 hF (i := .iload_n 2) rfl (fun _ => rfl) ?_
  refine dp_cl9 (mj := dp_m_X11_correct) (i := .invokevirtual 204) rfl ⟨_, _, rfl⟩ rfl rfl (fun _ => rfl) (fun r2 M1 => ?_) ?_
  · refine dp_s3w (dp_setJ M1 245 (Int32.toNatClampNeg (0 : Int32)) r2) (fun (M3 : dp_M) => (9, [some (.ref 0), some (.int v1), some (.int v2), some (.ref 245), none], [], M3)) hF (i := .lastore) rfl (fun _ => rfl) (fun M3 => ?_)
    refine dp_s1 hF (i := .goto 15) rfl (fun _ => rfl) ?_
    refine dp_s1 hF (i := .iconst 0) rfl (fun _ => rfl) ?_
    exact dp_s0 hF (i := .ireturn) rfl (fun _ => rfl)
  refine dp_ct4 (fun M4 => ?_) (fun M4 => ?_) (fun M4 => ?_) (fun M4 => ?_)
  · refine dp_ct_s (h := 14) (a := 4) rfl (Nat.le_of_ble_eq_true rfl) ?_
    refine dp_s1 hF (i := .iconst 1) rfl (fun _ => rfl) ?_
    exact dp_s0 hF (i := .ireturn) rfl (fun _ => rfl)
  · refine dp_ct_s (h := 22) (a := 4) rfl (Nat.le_of_ble_eq_true rfl) ?_
    refine dp_s1 hF (i := .iconst 3) rfl (fun _ => rfl) ?_
    exact dp_s0 hF (i := .ireturn) rfl (fun _ => rfl)
  · exact dp_ct_n rfl
  · refine dp_ct_s (h := 18) (a := 4) rfl (Nat.le_of_ble_eq_true rfl) ?_
    refine dp_s1 hF (i := .iconst 2) rfl (fun _ => rfl) ?_
    exact dp_s0 hF (i := .ireturn) rfl (fun _ => rfl)
noncomputable def D_L_cancel_0 (xs : Nat → Int32) (xl d : Nat) (v1 : Int32) (M : dp_M) : Option dp_Res := dp_lim true xs xl (dp_den true xs xl d) dp_m_L_cancel (0, [some (.ref 0), some (.int v1), some (.ref 245), none], [], M)
theorem D_L_cancel_0_den (xs : Nat → Int32) (xl d : Nat) (a1 : Int32) (M : dp_M) : dp_den true xs xl (d + 1) 653 [.ref 0, .int a1, .ref 245] M = D_L_cancel_0 xs xl d a1 M := rfl
set_option maxRecDepth 20000 in
theorem D_L_cancel_0_eq (xs : Nat → Int32) (xl d : Nat) (v1 : Int32) (M : dp_M) : D_L_cancel_0 xs xl d v1 M = dp_ti (dp_den true xs xl d 357 [.ref 0, .int v1] M) (fun r2 M1 => if (0 : Int32) < 0 ∨ 1 ≤ Int32.toNatClampNeg (0 : Int32) then none else dp_w (dp_setJ M1 245 (Int32.toNatClampNeg (0 : Int32)) (Int32.toInt64 r2)) (fun M3 => some (.inl (some (.int (0 : Int32))), M3))) (fun e9 M4 => dp_x4 e9 (some (.inl (some (.int (1 : Int32))), M4)) (none) (none) (none)) := by
  have hF := dp_den_grow (md := true) (xs := xs) (xl := xl) d
  unfold D_L_cancel_0
  refine dp_s1 hF (i := .aload_n 2) rfl (fun _ => rfl) ?_
  refine dp_s1 hF (i := .iconst 0) rfl (fun _ => rfl) ?_
  refine dp_s1 hF (i := .aload_n 0) rfl (fun _ => rfl) ?_
  refine dp_s1 hF (i := .iload_n 1) rfl (fun _ => rfl) ?_
  refine dp_ci9 (mj := dp_m_X11_cancel) (i := .invokevirtual 207) rfl ⟨_, _, rfl⟩ (Or.inl rfl) rfl (fun _ => rfl) (fun r2 M1 => ?_) ?_
  · refine dp_s1 hF (i := .i2l) rfl (fun _ => rfl) ?_
    refine dp_s3w (dp_setJ M1 245 (Int32.toNatClampNeg (0 : Int32)) (Int32.toInt64 r2)) (fun (M3 : dp_M) => (9, [some (.ref 0), some (.int v1), some (.ref 245), none], [], M3)) hF (i := .lastore) rfl (fun _ => rfl) (fun M3 => ?_)
    refine dp_s1 hF (i := .goto 6) rfl (fun _ => rfl) ?_
    refine dp_s1 hF (i := .iconst 0) rfl (fun _ => rfl) ?_
    exact dp_s0 hF (i := .ireturn) rfl (fun _ => rfl)
  refine dp_ct4 (fun M4 => ?_) (fun M4 => ?_) (fun M4 => ?_) (fun M4 => ?_)
  · refine dp_ct_s (h := 13) (a := 3) rfl (Nat.le_of_ble_eq_true rfl) ?_
    refine dp_s1 hF (i := .iconst 1) rfl (fun _ => rfl) ?_
    exact dp_s0 hF (i := .ireturn) rfl (fun _ => rfl)
  · exact dp_ct_n rfl
  · exact dp_ct_n rfl
  · exact dp_ct_n rfl
noncomputable def D_L_declared_0 (xs : Nat → Int32) (xl d : Nat) (v1 : Int32) (v2 : Int32) (M : dp_M) : Option dp_Res := dp_lim true xs xl (dp_den true xs xl d) dp_m_L_declared (0, [some (.ref 0), some (.int v1), some (.int v2), some (.ref 245), none], [], M)
theorem D_L_declared_0_den (xs : Nat → Int32) (xl d : Nat) (a1 : Int32) (a2 : Int32) (M : dp_M) : dp_den true xs xl (d + 1) 654 [.ref 0, .int a1, .int a2, .ref 245] M = D_L_declared_0 xs xl d a1 a2 M := rfl
set_option maxRecDepth 20000 in
theorem D_L_declared_0_eq (xs : Nat → Int32) (xl d : Nat) (v1 : Int32) (v2 : Int32) (M : dp_M) : D_L_declared_0 xs xl d v1 v2 M = dp_tl (dp_den true xs xl d 358 [.ref 0, .int v1, .int v2] M) (fun r2 M1 => if (0 : Int32) < 0 ∨ 1 ≤ Int32.toNatClampNeg (0 : Int32) then none else dp_w (dp_setJ M1 245 (Int32.toNatClampNeg (0 : Int32)) r2) (fun M3 => some (.inl (some (.int (0 : Int32))), M3))) (fun e9 M4 => dp_x4 e9 (none) (none) (some (.inl (some (.int (1 : Int32))), M4)) (none)) := by
  have hF := dp_den_grow (md := true) (xs := xs) (xl := xl) d
  unfold D_L_declared_0
  refine dp_s1 hF (i := .aload_n 3) rfl (fun _ => rfl) ?_
  refine dp_s1 hF (i := .iconst 0) rfl (fun _ => rfl) ?_
  refine dp_s1 hF (i := .aload_n 0) rfl (fun _ => rfl) ?_
  refine dp_s1 hF (i := .iload_n 1) rfl (fun _ => rfl) ?_
  refine dp_s1 hF (i := .iload_n 2) rfl (fun _ => rfl) ?_
  refine dp_cl9 (mj := dp_m_X11_declared) (i := .invokevirtual 210) rfl ⟨_, _, rfl⟩ rfl rfl (fun _ => rfl) (fun r2 M1 => ?_) ?_
  · refine dp_s3w (dp_setJ M1 245 (Int32.toNatClampNeg (0 : Int32)) r2) (fun (M3 : dp_M) => (9, [some (.ref 0), some (.int v1), some (.int v2), some (.ref 245), none], [], M3)) hF (i := .lastore) rfl (fun _ => rfl) (fun M3 => ?_)
    refine dp_s1 hF (i := .goto 7) rfl (fun _ => rfl) ?_
    refine dp_s1 hF (i := .iconst 0) rfl (fun _ => rfl) ?_
    exact dp_s0 hF (i := .ireturn) rfl (fun _ => rfl)
  refine dp_ct4 (fun M4 => ?_) (fun M4 => ?_) (fun M4 => ?_) (fun M4 => ?_)
  · exact dp_ct_n rfl
  · exact dp_ct_n rfl
  · refine dp_ct_s (h := 14) (a := 4) rfl (Nat.le_of_ble_eq_true rfl) ?_
    refine dp_s1 hF (i := .iconst 1) rfl (fun _ => rfl) ?_
    exact dp_s0 hF (i := .ireturn) rfl (fun _ => rfl)
  · exact dp_ct_n rfl

