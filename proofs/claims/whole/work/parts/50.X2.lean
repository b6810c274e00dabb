noncomputable def D_X2_isHere_0 (xs : Nat → Int32) (xl d : Nat) (v1 : Int32) (M : dp_M) : Option dp_Res := dp_lim true xs xl (dp_den true xs xl d) dp_m_X2_isHere (0, [some (.ref 1), some (.int v1)], [], M)
theorem D_X2_isHere_0_den (xs : Nat → Int32) (xl d : Nat) (a0 : Int32) (M : dp_M) : dp_den true xs xl (d + 1) 53 [.ref 1, .int a0] M = D_X2_isHere_0 xs xl d a0 M := rfl
set_option maxRecDepth 20000 in
theorem D_X2_isHere_0_eq (xs : Nat → Int32) (xl d : Nat) (v1 : Int32) (M : dp_M) : D_X2_isHere_0 xs xl d v1 M = if v1 < 0 ∨ 100 ≤ Int32.toNatClampNeg v1 then none else (if (dp_I M 9 (Int32.toNatClampNeg v1)) = (3 : Int32) then (if v1 < 0 ∨ 100 ≤ Int32.toNatClampNeg v1 then none else (if (dp_I M 11 (Int32.toNatClampNeg v1)) = 0 then (some (.inl (some (.int (1 : Int32))), M)) else (some (.inl (some (.int (0 : Int32))), M)))) else (some (.inl (some (.int (0 : Int32))), M))) := by
  have hF := dp_den_grow (md := true) (xs := xs) (xl := xl) d
  unfold D_X2_isHere_0
  refine dp_s1 hF (i := .aload_n 0) rfl (fun _ => rfl) ?_
  refine dp_s1 hF (i := .getfield 33) rfl (fun _ => rfl) ?_
  refine dp_s1 hF (i := .iload_n 1) rfl (fun _ => rfl) ?_
  refine dp_s3 hF (i := .iaload) rfl (fun _ => rfl) ?_
  refine dp_s1 hF (i := .iconst 3) rfl (fun _ => rfl) ?_
  refine dp_s2 hF (i := .if_icmp .ne 16) (a := (10, [some (.ref 1), some (.int v1)], [], M)) (b := (23, [some (.ref 1), some (.int v1)], [], M)) rfl (fun _ => rfl) ?_ ?_
  · refine dp_s1 hF (i := .aload_n 0) rfl (fun _ => rfl) ?_
    refine dp_s1 hF (i := .getfield 39) rfl (fun _ => rfl) ?_
    refine dp_s1 hF (i := .iload_n 1) rfl (fun _ => rfl) ?_
    refine dp_s3 hF (i := .iaload) rfl (fun _ => rfl) ?_
    refine dp_s2 hF (i := .ifCond .ne 7) (a := (19, [some (.ref 1), some (.int v1)], [], M)) (b := (23, [some (.ref 1), some (.int v1)], [], M)) rfl (fun _ => rfl) ?_ ?_
    · refine dp_s1 hF (i := .iconst 1) rfl (fun _ => rfl) ?_
      refine dp_s1 hF (i := .goto 4) rfl (fun _ => rfl) ?_
      exact dp_s0 hF (i := .ireturn) rfl (fun _ => rfl)
    refine dp_s1 hF (i := .iconst 0) rfl (fun _ => rfl) ?_
    exact dp_s0 hF (i := .ireturn) rfl (fun _ => rfl)
  refine dp_s1 hF (i := .iconst 0) rfl (fun _ => rfl) ?_
  exact dp_s0 hF (i := .ireturn) rfl (fun _ => rfl)
noncomputable def D_X2_isLeaving_0 (xs : Nat → Int32) (xl d : Nat) (v1 : Int32) (M : dp_M) : Option dp_Res := dp_lim true xs xl (dp_den true xs xl d) dp_m_X2_isLeaving (0, [some (.ref 1), some (.int v1)], [], M)
theorem D_X2_isLeaving_0_den (xs : Nat → Int32) (xl d : Nat) (a0 : Int32) (M : dp_M) : dp_den true xs xl (d + 1) 54 [.ref 1, .int a0] M = D_X2_isLeaving_0 xs xl d a0 M := rfl
set_option maxRecDepth 20000 in
theorem D_X2_isLeaving_0_eq (xs : Nat → Int32) (xl d : Nat) (v1 : Int32) (M : dp_M) : D_X2_isLeaving_0 xs xl d v1 M = if v1 < 0 ∨ 100 ≤ Int32.toNatClampNeg v1 then none else (if (dp_I M 2 (Int32.toNatClampNeg v1)) = 0 then (if v1 < 0 ∨ 100 ≤ Int32.toNatClampNeg v1 then none else (if (dp_I M 9 (Int32.toNatClampNeg v1)) = (3 : Int32) then (some (.inl (some (.int (0 : Int32))), M)) else (some (.inl (some (.int (1 : Int32))), M)))) else (some (.inl (some (.int (0 : Int32))), M))) := by
  have hF := dp_den_grow (md := true) (xs := xs) (xl := xl) d
  unfold D_X2_isLeaving_0
  refine dp_s1 hF (i := .aload_n 0) rfl (fun _ => rfl) ?_
  refine dp_s1 hF (i := .getfield 11) rfl (fun _ => rfl) ?_
  refine dp_s1 hF (i := .iload_n 1) rfl (fun _ => rfl) ?_
  refine dp_s3 hF (i := .iaload) rfl (fun _ => rfl) ?_
  refine dp_s2 hF (i := .ifCond .ne 17) (a := (9, [some (.ref 1), some (.int v1)], [], M)) (b := (23, [some (.ref 1), some (.int v1)], [], M)) rfl (fun _ => rfl) ?_ ?_
  · refine dp_s1 hF (i := .aload_n 0) rfl (fun _ => rfl) ?_
    refine dp_s1 hF (i := .getfield 33) rfl (fun _ => rfl) ?_
    refine dp_s1 hF (i := .iload_n 1) rfl (fun _ => rfl) ?_
    refine dp_s3 hF (i := .iaload) rfl (fun _ => rfl) ?_
    refine dp_s1 hF (i := .iconst 3) rfl (fun _ => rfl) ?_
    refine dp_s2 hF (i := .if_icmp .eq 7) (a := (23, [some (.ref 1), some (.int v1)], [], M)) (b := (19, [some (.ref 1), some (.int v1)], [], M)) rfl (fun _ => rfl) ?_ ?_
    · refine dp_s1 hF (i := .iconst 0) rfl (fun _ => rfl) ?_
      exact dp_s0 hF (i := .ireturn) rfl (fun _ => rfl)
    refine dp_s1 hF (i := .iconst 1) rfl (fun _ => rfl) ?_
    refine dp_s1 hF (i := .goto 4) rfl (fun _ => rfl) ?_
    exact dp_s0 hF (i := .ireturn) rfl (fun _ => rfl)
  refine dp_s1 hF (i := .iconst 0) rfl (fun _ => rfl) ?_
  exact dp_s0 hF (i := .ireturn) rfl (fun _ => rfl)
noncomputable def D_X2_countIn_0 (xs : Nat → Int32) (xl d : Nat) (v1 : Int32) (M : dp_M) : Option dp_Res := dp_lim true xs xl (dp_den true xs xl d) dp_m_X2_countIn (0, [some (.ref 1), some (.int v1), none, none], [], M)
noncomputable def D_X2_countIn_4 (xs : Nat → Int32) (xl d : Nat) (v1 : Int32) (v2 : Int32) (v3 : Int32) (M : dp_M) : Option dp_Res := dp_lim true xs xl (dp_den true xs xl d) dp_m_X2_countIn (4, [some (.ref 1), some (.int v1), some (.int v2), some (.int v3)], [], M)
theorem D_X2_countIn_0_den (xs : Nat → Int32) (xl d : Nat) (a0 : Int32) (M : dp_M) : dp_den true xs xl (d + 1) 55 [.ref 1, .int a0] M = D_X2_countIn_0 xs xl d a0 M := rfl
set_option maxRecDepth 20000 in
theorem D_X2_countIn_0_eq (xs : Nat → Int32) (xl d : Nat) (v1 : Int32) (M : dp_M) : D_X2_countIn_0 xs xl d v1 M = dp_w (0 : Int32) (fun y1 => dp_w (0 : Int32) (fun y2 => D_X2_countIn_4 xs xl d v1 y1 y2 M)) := by
  have hF := dp_den_grow (md := true) (xs := xs) (xl := xl) d
  unfold D_X2_countIn_0
  refine dp_s1 hF (i := .iconst 0) rfl (fun _ => rfl) ?_
  refine dp_s1w (0 : Int32) (fun (y1 : Int32) => (2, [some (.ref 1), some (.int v1), some (.int y1), none], [], M)) hF (i := .istore_n 2) rfl (fun _ => rfl) (fun y1 => ?_)
  refine dp_s1 hF (i := .iconst 0) rfl (fun _ => rfl) ?_
  refine dp_s1w (0 : Int32) (fun (y2 : Int32) => (4, [some (.ref 1), some (.int v1), some (.int y1), some (.int y2)], [], M)) hF (i := .istore_n 3) rfl (fun _ => rfl) (fun y2 => ?_)
  exact rfl
set_option maxRecDepth 20000 in
theorem D_X2_countIn_4_eq (xs : Nat → Int32) (xl d : Nat) (v1 : Int32) (v2 : Int32) (v3 : Int32) (M : dp_M) : D_X2_countIn_4 xs xl d v1 v2 v3 M = if (dp_I M 1 2) ≤ v3 then (some (.inl (some (.int v2)), M)) else (if v3 < 0 ∨ 100 ≤ Int32.toNatClampNeg v3 then none else (if (dp_I M 9 (Int32.toNatClampNeg v3)) = v1 then (dp_w (v2 + (1 : Int32)) (fun y1 => dp_w (v3 + (1 : Int32)) (fun y2 => D_X2_countIn_4 xs xl d v1 y1 y2 M))) else (dp_w (v2 + (0 : Int32)) (fun y3 => dp_w (v3 + (1 : Int32)) (fun y4 => D_X2_countIn_4 xs xl d v1 y3 y4 M))))) := by
  have hF := dp_den_grow (md := true) (xs := xs) (xl := xl) d
  unfold D_X2_countIn_4
  refine dp_s1 hF (i := .iload_n 3) rfl (fun _ => rfl) ?_
  refine dp_s1 hF (i := .aload_n 0) rfl (fun _ => rfl) ?_
  refine dp_s1 hF (i := .getfield 78) rfl (fun _ => rfl) ?_
  refine dp_s2 hF (i := .if_icmp .ge 27) (a := (36, [some (.ref 1), some (.int v1), some (.int v2), some (.int v3)], [], M)) (b := (12, [some (.ref 1), some (.int v1), some (.int v2), some (.int v3)], [], M)) rfl (fun _ => rfl) ?_ ?_
  · refine dp_s1 hF (i := .iload_n 2) rfl (fun _ => rfl) ?_
    exact dp_s0 hF (i := .ireturn) rfl (fun _ => rfl)
  refine dp_s1 hF (i := .iload_n 2) rfl (fun _ => rfl) ?_
  refine dp_s1 hF (i := .aload_n 0) rfl (fun _ => rfl) ?_
  refine dp_s1 hF (i := .getfield 33) rfl (fun _ => rfl) ?_
  refine dp_s1 hF (i := .iload_n 3) rfl (fun _ => rfl) ?_
  refine dp_s3 hF (i := .iaload) rfl (fun _ => rfl) ?_
  refine dp_s1 hF (i := .iload_n 1) rfl (fun _ => rfl) ?_
  refine dp_s2 hF (i := .if_icmp .ne 7) (a := (23, [some (.ref 1), some (.int v1), some (.int v2), some (.int v3)], [.int v2], M)) (b := (27, [some (.ref 1), some (.int v1), some (.int v2), some (.int v3)], [.int v2], M)) rfl (fun _ => rfl) ?_ ?_
  · refine dp_s1 hF (i := .iconst 1) rfl (fun _ => rfl) ?_
    refine dp_s1 hF (i := .goto 4) rfl (fun _ => rfl) ?_
    refine dp_s1 hF (i := .iadd) rfl (fun _ => rfl) ?_
    refine dp_s1w (v2 + (1 : Int32)) (fun (y1 : Int32) => (30, [some (.ref 1), some (.int v1), some (.int y1), some (.int v3)], [], M)) hF (i := .istore_n 2) rfl (fun _ => rfl) (fun y1 => ?_)
    refine dp_s1w (v3 + (1 : Int32)) (fun (y2 : Int32) => (33, [some (.ref 1), some (.int v1), some (.int y1), some (.int y2)], [], M)) hF (i := .iinc 3 1) rfl (fun _ => rfl) (fun y2 => ?_)
    refine dp_s1 hF (i := .goto (-29)) rfl (fun _ => rfl) ?_
    exact rfl
  refine dp_s1 hF (i := .iconst 0) rfl (fun _ => rfl) ?_
  refine dp_s1 hF (i := .iadd) rfl (fun _ => rfl) ?_
  refine dp_s1w (v2 + (0 : Int32)) (fun (y3 : Int32) => (30, [some (.ref 1), some (.int v1), some (.int y3), some (.int v3)], [], M)) hF (i := .istore_n 2) rfl (fun _ => rfl) (fun y3 => ?_)
  refine dp_s1w (v3 + (1 : Int32)) (fun (y4 : Int32) => (33, [some (.ref 1), some (.int v1), some (.int y3), some (.int y4)], [], M)) hF (i := .iinc 3 1) rfl (fun _ => rfl) (fun y4 => ?_)
  refine dp_s1 hF (i := .goto (-29)) rfl (fun _ => rfl) ?_
  exact rfl
noncomputable def D_X2_countStaying_0 (xs : Nat → Int32) (xl d : Nat) (v1 : Int32) (M : dp_M) : Option dp_Res := dp_lim true xs xl (dp_den true xs xl d) dp_m_X2_countStaying (0, [some (.ref 1), some (.int v1), none, none], [], M)
noncomputable def D_X2_countStaying_4 (xs : Nat → Int32) (xl d : Nat) (v1 : Int32) (v2 : Int32) (v3 : Int32) (M : dp_M) : Option dp_Res := dp_lim true xs xl (dp_den true xs xl d) dp_m_X2_countStaying (4, [some (.ref 1), some (.int v1), some (.int v2), some (.int v3)], [], M)
theorem D_X2_countStaying_0_den (xs : Nat → Int32) (xl d : Nat) (a0 : Int32) (M : dp_M) : dp_den true xs xl (d + 1) 56 [.ref 1, .int a0] M = D_X2_countStaying_0 xs xl d a0 M := rfl
set_option maxRecDepth 20000 in
theorem D_X2_countStaying_0_eq (xs : Nat → Int32) (xl d : Nat) (v1 : Int32) (M : dp_M) : D_X2_countStaying_0 xs xl d v1 M = dp_w (0 : Int32) (fun y1 => dp_w (0 : Int32) (fun y2 => D_X2_countStaying_4 xs xl d v1 y1 y2 M)) := by
  have hF := dp_den_grow (md := true) (xs := xs) (xl := xl) d
  unfold D_X2_countStaying_0
  refine dp_s1 hF (i := .iconst 0) rfl (fun _ => rfl) ?_
  refine dp_s1w (0 : Int32) (fun (y1 : Int32) => (2, [some (.ref 1), some (.int v1), some (.int y1), none], [], M)) hF (i := .istore_n 2) rfl (fun _ => rfl) (fun y1 => ?_)
  refine dp_s1 hF (i := .iconst 0) rfl (fun _ => rfl) ?_
  refine dp_s1w (0 : Int32) (fun (y2 : Int32) => (4, [some (.ref 1), some (.int v1), some (.int y1), some (.int y2)], [], M)) hF (i := .istore_n 3) rfl (fun _ => rfl) (fun y2 => ?_)
  exact rfl
set_option maxRecDepth 20000 in
theorem D_X2_countStaying_4_eq (xs : Nat → Int32) (xl d : Nat) (v1 : Int32) (v2 : Int32) (v3 : Int32) (M : dp_M) : D_X2_countStaying_4 xs xl d v1 v2 v3 M = if (dp_I M 1 2) ≤ v3 then (some (.inl (some (.int v2)), M)) else (if v3 < 0 ∨ 100 ≤ Int32.toNatClampNeg v3 then none else (if (dp_I M 11 (Int32.toNatClampNeg v3)) = v1 then (dp_w (v2 + (1 : Int32)) (fun y1 => dp_w (v3 + (1 : Int32)) (fun y2 => D_X2_countStaying_4 xs xl d v1 y1 y2 M))) else (dp_w (v2 + (0 : Int32)) (fun y3 => dp_w (v3 + (1 : Int32)) (fun y4 => D_X2_countStaying_4 xs xl d v1 y3 y4 M))))) := by
  have hF := dp_den_grow (md := true) (xs := xs) (xl := xl) d
  unfold D_X2_countStaying_4
  refine dp_s1 hF (i := .iload_n 3) rfl (fun _ => rfl) ?_
  refine dp_s1 hF (i := .aload_n 0) rfl (fun _ => rfl) ?_
  refine dp_s1 hF (i := .getfield 78) rfl (fun _ => rfl) ?_
  refine dp_s2 hF (i := .if_icmp .ge 27) (a := (36, [some (.ref 1), some (.int v1), some (.int v2), some (.int v3)], [], M)) (b := (12, [some (.ref 1), some (.int v1), some (.int v2), some (.int v3)], [], M)) rfl (fun _ => rfl) ?_ ?_
  · refine dp_s1 hF (i := .iload_n 2) rfl (fun _ => rfl) ?_
    exact dp_s0 hF (i := .ireturn) rfl (fun _ => rfl)
  refine dp_s1 hF (i := .iload_n 2) rfl (fun _ => rfl) ?_
  refine dp_s1 hF (i := .aload_n 0) rfl (fun _ => rfl) ?_
  refine dp_s1 hF (i := .getfield 39) rfl (fun _ => rfl) ?_
  refine dp_s1 hF (i := .iload_n 3) rfl (fun _ => rfl) ?_
  refine dp_s3 hF (i := .iaload) rfl (fun _ => rfl) ?_
  refine dp_s1 hF (i := .iload_n 1) rfl (fun _ => rfl) ?_
  refine dp_s2 hF (i := .if_icmp .ne 7) (a := (23, [some (.ref 1), some (.int v1), some (.int v2), some (.int v3)], [.int v2], M)) (b := (27, [some (.ref 1), some (.int v1), some (.int v2), some (.int v3)], [.int v2], M)) rfl (fun _ => rfl) ?_ ?_
  · refine dp_s1 hF (i := .iconst 1) rfl (fun _ => rfl) ?_
    refine dp_s1 hF (i := .goto 4) rfl (fun _ => rfl) ?_
    refine dp_s1 hF (i := .iadd) rfl (fun _ => rfl) ?_
    refine dp_s1w (v2 + (1 : Int32)) (fun (y1 : Int32) => (30, [some (.ref 1), some (.int v1), some (.int y1), some (.int v3)], [], M)) hF (i := .istore_n 2) rfl (fun _ => rfl) (fun y1 => ?_)
    refine dp_s1w (v3 + (1 : Int32)) (fun (y2 : Int32) => (33, [some (.ref 1), some (.int v1), some (.int y1), some (.int y2)], [], M)) hF (i := .iinc 3 1) rfl (fun _ => rfl) (fun y2 => ?_)
    refine dp_s1 hF (i := .goto (-29)) rfl (fun _ => rfl) ?_
    exact rfl
  refine dp_s1 hF (i := .iconst 0) rfl (fun _ => rfl) ?_
  refine dp_s1 hF (i := .iadd) rfl (fun _ => rfl) ?_
  refine dp_s1w (v2 + (0 : Int32)) (fun (y3 : Int32) => (30, [some (.ref 1), some (.int v1), some (.int y3), some (.int v3)], [], M)) hF (i := .istore_n 2) rfl (fun _ => rfl) (fun y3 => ?_)
  refine dp_s1w (v3 + (1 : Int32)) (fun (y4 : Int32) => (33, [some (.ref 1), some (.int v1), some (.int y3), some (.int y4)], [], M)) hF (i := .iinc 3 1) rfl (fun _ => rfl) (fun y4 => ?_)
  refine dp_s1 hF (i := .goto (-29)) rfl (fun _ => rfl) ?_
  exact rfl
noncomputable def D_X2_lyingIn_0 (xs : Nat → Int32) (xl d : Nat) (v1 : Int32) (M : dp_M) : Option dp_Res := dp_lim true xs xl (dp_den true xs xl d) dp_m_X2_lyingIn (0, [some (.ref 1), some (.int v1), none, none], [], M)
noncomputable def D_X2_lyingIn_4 (xs : Nat → Int32) (xl d : Nat) (v1 : Int32) (v2 : Int32) (v3 : Int32) (M : dp_M) : Option dp_Res := dp_lim true xs xl (dp_den true xs xl d) dp_m_X2_lyingIn (4, [some (.ref 1), some (.int v1), some (.int v2), some (.int v3)], [], M)
theorem D_X2_lyingIn_0_den (xs : Nat → Int32) (xl d : Nat) (a0 : Int32) (M : dp_M) : dp_den true xs xl (d + 1) 57 [.ref 1, .int a0] M = D_X2_lyingIn_0 xs xl d a0 M := rfl
set_option maxRecDepth 20000 in
theorem D_X2_lyingIn_0_eq (xs : Nat → Int32) (xl d : Nat) (v1 : Int32) (M : dp_M) : D_X2_lyingIn_0 xs xl d v1 M = dp_w (0 : Int32) (fun y1 => dp_w (0 : Int32) (fun y2 => D_X2_lyingIn_4 xs xl d v1 y1 y2 M)) := by
  have hF := dp_den_grow (md := true) (xs := xs) (xl := xl) d
  unfold D_X2_lyingIn_0
  refine dp_s1 hF (i := .iconst 0) rfl (fun _ => rfl) ?_
  refine dp_s1w (0 : Int32) (fun (y1 : Int32) => (2, [some (.ref 1), some (.int v1), some (.int y1), none], [], M)) hF (i := .istore_n 2) rfl (fun _ => rfl) (fun y1 => ?_)
  refine dp_s1 hF (i := .iconst 0) rfl (fun _ => rfl) ?_
  refine dp_s1w (0 : Int32) (fun (y2 : Int32) => (4, [some (.ref 1), some (.int v1), some (.int y1), some (.int y2)], [], M)) hF (i := .istore_n 3) rfl (fun _ => rfl) (fun y2 => ?_)
  exact rfl
set_option maxRecDepth 20000 in
theorem D_X2_lyingIn_4_eq (xs : Nat → Int32) (xl d : Nat) (v1 : Int32) (v2 : Int32) (v3 : Int32) (M : dp_M) : D_X2_lyingIn_4 xs xl d v1 v2 v3 M = if (dp_I M 1 2) ≤ v3 then (some (.inl (some (.int v2)), M)) else (if v3 < 0 ∨ 100 ≤ Int32.toNatClampNeg v3 then none else (if (dp_I M 8 (Int32.toNatClampNeg v3)) = v1 then (if v3 < 0 ∨ 100 ≤ Int32.toNatClampNeg v3 then none else (if (dp_I M 9 (Int32.toNatClampNeg v3)) = (3 : Int32) then (dp_w (v2 + (0 : Int32)) (fun y1 => dp_w (v3 + (1 : Int32)) (fun y2 => D_X2_lyingIn_4 xs xl d v1 y1 y2 M))) else (dp_w (v2 + (1 : Int32)) (fun y3 => dp_w (v3 + (1 : Int32)) (fun y4 => D_X2_lyingIn_4 xs xl d v1 y3 y4 M))))) else (dp_w (v2 + (0 : Int32)) (fun y5 => dp_w (v3 + (1 : Int32)) (fun y6 => D_X2_lyingIn_4 xs xl d v1 y5 y6 M))))) := by
  have hF := dp_den_grow (md := true) (xs := xs) (xl := xl) d
  unfold D_X2_lyingIn_4
  refine dp_s1 hF (i := .iload_n 3) rfl (fun _ => rfl) ?_
  refine dp_s1 hF (i := .aload_n 0) rfl (fun _ => rfl) ?_
  refine dp_s1 hF (i := .getfield 78) rfl (fun _ => rfl) ?_
  refine dp_s2 hF (i := .if_icmp .ge 37) (a := (46, [some (.ref 1), some (.int v1), some (.int v2), some (.int v3)], [], M)) (b := (12, [some (.ref 1), some (.int v1), some (.int v2), some (.int v3)], [], M)) rfl (fun _ => rfl) ?_ ?_
  · refine dp_s1 hF (i := .iload_n 2) rfl (fun _ => rfl) ?_
    exact dp_s0 hF (i := .ireturn) rfl (fun _ => rfl)
  refine dp_s1 hF (i := .iload_n 2) rfl (fun _ => rfl) ?_
  refine dp_s1 hF (i := .aload_n 0) rfl (fun _ => rfl) ?_
  refine dp_s1 hF (i := .getfield 30) rfl (fun _ => rfl) ?_
  refine dp_s1 hF (i := .iload_n 3) rfl (fun _ => rfl) ?_
  refine dp_s3 hF (i := .iaload) rfl (fun _ => rfl) ?_
  refine dp_s1 hF (i := .iload_n 1) rfl (fun _ => rfl) ?_
  refine dp_s2 hF (i := .if_icmp .ne 17) (a := (23, [some (.ref 1), some (.int v1), some (.int v2), some (.int v3)], [.int v2], M)) (b := (37, [some (.ref 1), some (.int v1), some (.int v2), some (.int v3)], [.int v2], M)) rfl (fun _ => rfl) ?_ ?_
  · refine dp_s1 hF (i := .aload_n 0) rfl (fun _ => rfl) ?_
    refine dp_s1 hF (i := .getfield 33) rfl (fun _ => rfl) ?_
    refine dp_s1 hF (i := .iload_n 3) rfl (fun _ => rfl) ?_
    refine dp_s3 hF (i := .iaload) rfl (fun _ => rfl) ?_
    refine dp_s1 hF (i := .iconst 3) rfl (fun _ => rfl) ?_
    refine dp_s2 hF (i := .if_icmp .eq 7) (a := (37, [some (.ref 1), some (.int v1), some (.int v2), some (.int v3)], [.int v2], M)) (b := (33, [some (.ref 1), some (.int v1), some (.int v2), some (.int v3)], [.int v2], M)) rfl (fun _ => rfl) ?_ ?_
    · refine dp_s1 hF (i := .iconst 0) rfl (fun _ => rfl) ?_
      refine dp_s1 hF (i := .iadd) rfl (fun _ => rfl) ?_
      refine dp_s1w (v2 + (0 : Int32)) (fun (y1 : Int32) => (40, [some (.ref 1), some (.int v1), some (.int y1), some (.int v3)], [], M)) hF (i := .istore_n 2) rfl (fun _ => rfl) (fun y1 => ?_)
      refine dp_s1w (v3 + (1 : Int32)) (fun (y2 : Int32) => (43, [some (.ref 1), some (.int v1), some (.int y1), some (.int y2)], [], M)) hF (i := .iinc 3 1) rfl (fun _ => rfl) (fun y2 => ?_)
      refine dp_s1 hF (i := .goto (-39)) rfl (fun _ => rfl) ?_
      exact rfl
    refine dp_s1 hF (i := .iconst 1) rfl (fun _ => rfl) ?_
    refine dp_s1 hF (i := .goto 4) rfl (fun _ => rfl) ?_
    refine dp_s1 hF (i := .iadd) rfl (fun _ => rfl) ?_
    refine dp_s1w (v2 + (1 : Int32)) (fun (y3 : Int32) => (40, [some (.ref 1), some (.int v1), some (.int y3), some (.int v3)], [], M)) hF (i := .istore_n 2) rfl (fun _ => rfl) (fun y3 => ?_)
    refine dp_s1w (v3 + (1 : Int32)) (fun (y4 : Int32) => (43, [some (.ref 1), some (.int v1), some (.int y3), some (.int y4)], [], M)) hF (i := .iinc 3 1) rfl (fun _ => rfl) (fun y4 => ?_)
    refine dp_s1 hF (i := .goto (-39)) rfl (fun _ => rfl) ?_
    exact rfl
  refine dp_s1 hF (i := .iconst 0) rfl (fun _ => rfl) ?_
  refine dp_s1 hF (i := .iadd) rfl (fun _ => rfl) ?_
  refine dp_s1w (v2 + (0 : Int32)) (fun (y5 : Int32) => (40, [some (.ref 1), some (.int v1), some (.int y5), some (.int v3)], [], M)) hF (i := .istore_n 2) rfl (fun _ => rfl) (fun y5 => ?_)
  refine dp_s1w (v3 + (1 : Int32)) (fun (y6 : Int32) => (43, [some (.ref 1), some (.int v1), some (.int y5), some (.int y6)], [], M)) hF (i := .iinc 3 1) rfl (fun _ => rfl) (fun y6 => ?_)
  refine dp_s1 hF (i := .goto (-39)) rfl (fun _ => rfl) ?_
  exact rfl
noncomputable def D_X2_heightOf_0 (xs : Nat → Int32) (xl d : Nat) (v1 : Int32) (v2 : Int32) (M : dp_M) : Option dp_Res := dp_lim true xs xl (dp_den true xs xl d) dp_m_X2_heightOf (0, [some (.ref 1), some (.int v1), some (.int v2), none, none], [], M)
noncomputable def D_X2_heightOf_5 (xs : Nat → Int32) (xl d : Nat) (v1 : Int32) (v2 : Int32) (v3 : Int32) (v4 : Int32) (M : dp_M) : Option dp_Res := dp_lim true xs xl (dp_den true xs xl d) dp_m_X2_heightOf (5, [some (.ref 1), some (.int v1), some (.int v2), some (.int v3), some (.int v4)], [], M)
theorem D_X2_heightOf_0_den (xs : Nat → Int32) (xl d : Nat) (a0 : Int32) (a1 : Int32) (M : dp_M) : dp_den true xs xl (d + 1) 58 [.ref 1, .int a0, .int a1] M = D_X2_heightOf_0 xs xl d a0 a1 M := rfl
set_option maxRecDepth 20000 in
theorem D_X2_heightOf_0_eq (xs : Nat → Int32) (xl d : Nat) (v1 : Int32) (v2 : Int32) (M : dp_M) : D_X2_heightOf_0 xs xl d v1 v2 M = dp_w (0 : Int32) (fun y1 => dp_w (0 : Int32) (fun y2 => D_X2_heightOf_5 xs xl d v1 v2 y1 y2 M)) := by
  have hF := dp_den_grow (md := true) (xs := xs) (xl := xl) d
  unfold D_X2_heightOf_0
  refine dp_s1 hF (i := .iconst 0) rfl (fun _ => rfl) ?_
  refine dp_s1w (0 : Int32) (fun (y1 : Int32) => (2, [some (.ref 1), some (.int v1), some (.int v2), some (.int y1), none], [], M)) hF (i := .istore_n 3) rfl (fun _ => rfl) (fun y1 => ?_)
  refine dp_s1 hF (i := .iconst 0) rfl (fun _ => rfl) ?_
  refine dp_s1w (0 : Int32) (fun (y2 : Int32) => (5, [some (.ref 1), some (.int v1), some (.int v2), some (.int y1), some (.int y2)], [], M)) hF (i := .istore 4) rfl (fun _ => rfl) (fun y2 => ?_)
  exact rfl
set_option maxRecDepth 20000 in
theorem D_X2_heightOf_5_eq (xs : Nat → Int32) (xl d : Nat) (v1 : Int32) (v2 : Int32) (v3 : Int32) (v4 : Int32) (M : dp_M) : D_X2_heightOf_5 xs xl d v1 v2 v3 v4 M = if (dp_I M 1 2) ≤ v4 then (some (.inl (some (.int v3)), M)) else (if v4 < 0 ∨ 100 ≤ Int32.toNatClampNeg v4 then none else (if (dp_I M 8 (Int32.toNatClampNeg v4)) = v1 then (if v4 < 0 ∨ 100 ≤ Int32.toNatClampNeg v4 then none else (if (dp_I M 9 (Int32.toNatClampNeg v4)) = v2 then (dp_w (v3 + (1 : Int32)) (fun y1 => dp_w (v4 + (1 : Int32)) (fun y2 => D_X2_heightOf_5 xs xl d v1 v2 y1 y2 M))) else (dp_w (v3 + (0 : Int32)) (fun y3 => dp_w (v4 + (1 : Int32)) (fun y4 => D_X2_heightOf_5 xs xl d v1 v2 y3 y4 M))))) else (dp_w (v3 + (0 : Int32)) (fun y5 => dp_w (v4 + (1 : Int32)) (fun y6 => D_X2_heightOf_5 xs xl d v1 v2 y5 y6 M))))) := by
  have hF := dp_den_grow (md := true) (xs := xs) (xl := xl) d
  unfold D_X2_heightOf_5
  refine dp_s1 hF (i := .iload 4) rfl (fun _ => rfl) ?_
  refine dp_s1 hF (i := .aload_n 0) rfl (fun _ => rfl) ?_
  refine dp_s1 hF (i := .getfield 78) rfl (fun _ => rfl) ?_
  refine dp_s2 hF (i := .if_icmp .ge 39) (a := (50, [some (.ref 1), some (.int v1), some (.int v2), some (.int v3), some (.int v4)], [], M)) (b := (14, [some (.ref 1), some (.int v1), some (.int v2), some (.int v3), some (.int v4)], [], M)) rfl (fun _ => rfl) ?_ ?_
  · refine dp_s1 hF (i := .iload_n 3) rfl (fun _ => rfl) ?_
    exact dp_s0 hF (i := .ireturn) rfl (fun _ => rfl)
  refine dp_s1 hF (i := .iload_n 3) rfl (fun _ => rfl) ?_
  refine dp_s1 hF (i := .aload_n 0) rfl (fun _ => rfl) ?_
  refine dp_s1 hF (i := .getfield 30) rfl (fun _ => rfl) ?_
  refine dp_s1 hF (i := .iload 4) rfl (fun _ => rfl) ?_
  refine dp_s3 hF (i := .iaload) rfl (fun _ => rfl) ?_
  refine dp_s1 hF (i := .iload_n 1) rfl (fun _ => rfl) ?_
  refine dp_s2 hF (i := .if_icmp .ne 18) (a := (26, [some (.ref 1), some (.int v1), some (.int v2), some (.int v3), some (.int v4)], [.int v3], M)) (b := (41, [some (.ref 1), some (.int v1), some (.int v2), some (.int v3), some (.int v4)], [.int v3], M)) rfl (fun _ => rfl) ?_ ?_
  · refine dp_s1 hF (i := .aload_n 0) rfl (fun _ => rfl) ?_
    refine dp_s1 hF (i := .getfield 33) rfl (fun _ => rfl) ?_
    refine dp_s1 hF (i := .iload 4) rfl (fun _ => rfl) ?_
    refine dp_s3 hF (i := .iaload) rfl (fun _ => rfl) ?_
    refine dp_s1 hF (i := .iload_n 2) rfl (fun _ => rfl) ?_
    refine dp_s2 hF (i := .if_icmp .ne 7) (a := (37, [some (.ref 1), some (.int v1), some (.int v2), some (.int v3), some (.int v4)], [.int v3], M)) (b := (41, [some (.ref 1), some (.int v1), some (.int v2), some (.int v3), some (.int v4)], [.int v3], M)) rfl (fun _ => rfl) ?_ ?_
    · refine dp_s1 hF (i := .iconst 1) rfl (fun _ => rfl) ?_
      refine dp_s1 hF (i := .goto 4) rfl (fun _ => rfl) ?_
      refine dp_s1 hF (i := .iadd) rfl (fun _ => rfl) ?_
      refine dp_s1w (v3 + (1 : Int32)) (fun (y1 : Int32) => (44, [some (.ref 1), some (.int v1), some (.int v2), some (.int y1), some (.int v4)], [], M)) hF (i := .istore_n 3) rfl (fun _ => rfl) (fun y1 => ?_)
      refine dp_s1w (v4 + (1 : Int32)) (fun (y2 : Int32) => (47, [some (.ref 1), some (.int v1), some (.int v2), some (.int y1), some (.int y2)], [], M)) hF (i := .iinc 4 1) rfl (fun _ => rfl) (fun y2 => ?_)
      refine dp_s1 hF (i := .goto (-42)) rfl (fun _ => rfl) ?_
      exact rfl
    refine dp_s1 hF (i := .iconst 0) rfl (fun _ => rfl) ?_
    refine dp_s1 hF (i := .iadd) rfl (fun _ => rfl) ?_
    refine dp_s1w (v3 + (0 : Int32)) (fun (y3 : Int32) => (44, [some (.ref 1), some (.int v1), some (.int v2), some (.int y3), some (.int v4)], [], M)) hF (i := .istore_n 3) rfl (fun _ => rfl) (fun y3 => ?_)
    refine dp_s1w (v4 + (1 : Int32)) (fun (y4 : Int32) => (47, [some (.ref 1), some (.int v1), some (.int v2), some (.int y3), some (.int y4)], [], M)) hF (i := .iinc 4 1) rfl (fun _ => rfl) (fun y4 => ?_)
    refine dp_s1 hF (i := .goto (-42)) rfl (fun _ => rfl) ?_
    exact rfl
  refine dp_s1 hF (i := .iconst 0) rfl (fun _ => rfl) ?_
  refine dp_s1 hF (i := .iadd) rfl (fun _ => rfl) ?_
  refine dp_s1w (v3 + (0 : Int32)) (fun (y5 : Int32) => (44, [some (.ref 1), some (.int v1), some (.int v2), some (.int y5), some (.int v4)], [], M)) hF (i := .istore_n 3) rfl (fun _ => rfl) (fun y5 => ?_)
  refine dp_s1w (v4 + (1 : Int32)) (fun (y6 : Int32) => (47, [some (.ref 1), some (.int v1), some (.int v2), some (.int y5), some (.int y6)], [], M)) hF (i := .iinc 4 1) rfl (fun _ => rfl) (fun y6 => ?_)
  refine dp_s1 hF (i := .goto (-42)) rfl (fun _ => rfl) ?_
  exact rfl
noncomputable def D_X2_add_0 (xs : Nat → Int32) (xl d : Nat) (v1 : Int32) (v2 : Int32) (v3 : Int32) (v4 : Int32) (v5 : Int32) (v6 : Int32) (v7 : Int32) (M : dp_M) : Option dp_Res := dp_lim true xs xl (dp_den true xs xl d) dp_m_X2_add (0, [some (.ref 1), some (.int v1), some (.int v2), some (.int v3), some (.int v4), some (.int v5), some (.int v6), some (.int v7), none], [], M)
theorem D_X2_add_0_den (xs : Nat → Int32) (xl d : Nat) (a0 : Int32) (a1 : Int32) (a2 : Int32) (a3 : Int32) (a4 : Int32) (a5 : Int32) (a6 : Int32) (M : dp_M) : dp_den true xs xl (d + 1) 59 [.ref 1, .int a0, .int a1, .int a2, .int a3, .int a4, .int a5, .int a6] M = D_X2_add_0 xs xl d a0 a1 a2 a3 a4 a5 a6 M := rfl
set_option maxRecDepth 20000 in
theorem D_X2_add_0_eq (xs : Nat → Int32) (xl d : Nat) (v1 : Int32) (v2 : Int32) (v3 : Int32) (v4 : Int32) (v5 : Int32) (v6 : Int32) (v7 : Int32) (M : dp_M) : D_X2_add_0 xs xl d v1 v2 v3 v4 v5 v6 v7 M = dp_w (dp_I M 1 2) (fun y1 => dp_bi (dp_den true xs xl d 58 [.ref 1, .int v1, .int v2] M) (fun r3 M2 => if y1 < 0 ∨ 100 ≤ Int32.toNatClampNeg y1 then none else dp_w (dp_setI M2 10 (Int32.toNatClampNeg y1) r3) (fun M4 => if y1 < 0 ∨ 100 ≤ Int32.toNatClampNeg y1 then none else dp_w (dp_setI M4 8 (Int32.toNatClampNeg y1) v1) (fun M5 => if y1 < 0 ∨ 100 ≤ Int32.toNatClampNeg y1 then none else dp_w (dp_setI M5 9 (Int32.toNatClampNeg y1) v2) (fun M6 => if y1 < 0 ∨ 100 ≤ Int32.toNatClampNeg y1 then none else dp_w (dp_setI M6 2 (Int32.toNatClampNeg y1) v3) (fun M7 => if y1 < 0 ∨ 100 ≤ Int32.toNatClampNeg y1 then none else dp_w (dp_setI M7 3 (Int32.toNatClampNeg y1) (v4 / (3 : Int32))) (fun M8 => if y1 < 0 ∨ 100 ≤ Int32.toNatClampNeg y1 then none else dp_w (dp_setI M8 4 (Int32.toNatClampNeg y1) ((v4 - v4 / (3 : Int32) * (3 : Int32)) + (1 : Int32))) (fun M9 => if y1 < 0 ∨ 100 ≤ Int32.toNatClampNeg y1 then none else dp_w (dp_setI M9 5 (Int32.toNatClampNeg y1) v5) (fun M10 => if y1 < 0 ∨ 100 ≤ Int32.toNatClampNeg y1 then none else dp_w (dp_setI M10 6 (Int32.toNatClampNeg y1) v6) (fun M11 => if y1 < 0 ∨ 100 ≤ Int32.toNatClampNeg y1 then none else dp_w (dp_setI M11 7 (Int32.toNatClampNeg y1) v7) (fun M12 => dp_w (dp_setI M12 1 2 ((dp_I M12 1 2) + (1 : Int32))) (fun M13 => if v1 < 0 ∨ dp_len M13 25 ≤ Int32.toNatClampNeg v1 then none else dp_w (dp_setI M13 25 (Int32.toNatClampNeg v1) (-1 : Int32)) (fun M14 => some (.inl (some (.int y1)), M14)))))))))))))) := by
  have hF := dp_den_grow (md := true) (xs := xs) (xl := xl) d
  unfold D_X2_add_0
  refine dp_s1 hF (i := .aload_n 0) rfl (fun _ => rfl) ?_
  refine dp_s1 hF (i := .getfield 78) rfl (fun _ => rfl) ?_
  refine dp_s1w (dp_I M 1 2) (fun (y1 : Int32) => (6, [some (.ref 1), some (.int v1), some (.int v2), some (.int v3), some (.int v4), some (.int v5), some (.int v6), some (.int v7), some (.int y1)], [], M)) hF (i := .istore 8) rfl (fun _ => rfl) (fun y1 => ?_)
  refine dp_s1 hF (i := .aload_n 0) rfl (fun _ => rfl) ?_
  refine dp_s1 hF (i := .getfield 36) rfl (fun _ => rfl) ?_
  refine dp_s1 hF (i := .iload 8) rfl (fun _ => rfl) ?_
  refine dp_s1 hF (i := .aload_n 0) rfl (fun _ => rfl) ?_
  refine dp_s1 hF (i := .iload_n 1) rfl (fun _ => rfl) ?_
  refine dp_s1 hF (i := .iload_n 2) rfl (fun _ => rfl) ?_
  refine dp_si (mj := dp_m_X2_heightOf) (i := .invokevirtual 81) rfl rfl (Or.inl rfl) rfl (fun _ => rfl) (fun r3 M2 => ?_)
  refine dp_s3w (dp_setI M2 10 (Int32.toNatClampNeg y1) r3) (fun (M4 : dp_M) => (19, [some (.ref 1), some (.int v1), some (.int v2), some (.int v3), some (.int v4), some (.int v5), some (.int v6), some (.int v7), some (.int y1)], [], M4)) hF (i := .iastore) rfl (fun _ => rfl) (fun M4 => ?_)
  refine dp_s1 hF (i := .aload_n 0) rfl (fun _ => rfl) ?_
  refine dp_s1 hF (i := .getfield 30) rfl (fun _ => rfl) ?_
  refine dp_s1 hF (i := .iload 8) rfl (fun _ => rfl) ?_
  refine dp_s1 hF (i := .iload_n 1) rfl (fun _ => rfl) ?_
  refine dp_s3w (dp_setI M4 8 (Int32.toNatClampNeg y1) v1) (fun (M5 : dp_M) => (27, [some (.ref 1), some (.int v1), some (.int v2), some (.int v3), some (.int v4), some (.int v5), some (.int v6), some (.int v7), some (.int y1)], [], M5)) hF (i := .iastore) rfl (fun _ => rfl) (fun M5 => ?_)
  refine dp_s1 hF (i := .aload_n 0) rfl (fun _ => rfl) ?_
  refine dp_s1 hF (i := .getfield 33) rfl (fun _ => rfl) ?_
  refine dp_s1 hF (i := .iload 8) rfl (fun _ => rfl) ?_
  refine dp_s1 hF (i := .iload_n 2) rfl (fun _ => rfl) ?_
  refine dp_s3w (dp_setI M5 9 (Int32.toNatClampNeg y1) v2) (fun (M6 : dp_M) => (35, [some (.ref 1), some (.int v1), some (.int v2), some (.int v3), some (.int v4), some (.int v5), some (.int v6), some (.int v7), some (.int y1)], [], M6)) hF (i := .iastore) rfl (fun _ => rfl) (fun M6 => ?_)
  refine dp_s1 hF (i := .aload_n 0) rfl (fun _ => rfl) ?_
  refine dp_s1 hF (i := .getfield 11) rfl (fun _ => rfl) ?_
  refine dp_s1 hF (i := .iload 8) rfl (fun _ => rfl) ?_
  refine dp_s1 hF (i := .iload_n 3) rfl (fun _ => rfl) ?_
  refine dp_s3w (dp_setI M6 2 (Int32.toNatClampNeg y1) v3) (fun (M7 : dp_M) => (43, [some (.ref 1), some (.int v1), some (.int v2), some (.int v3), some (.int v4), some (.int v5), some (.int v6), some (.int v7), some (.int y1)], [], M7)) hF (i := .iastore) rfl (fun _ => rfl) (fun M7 => ?_)
  refine dp_s1 hF (i := .aload_n 0) rfl (fun _ => rfl) ?_
  refine dp_s1 hF (i := .getfield 15) rfl (fun _ => rfl) ?_
  refine dp_s1 hF (i := .iload 8) rfl (fun _ => rfl) ?_
  refine dp_s1 hF (i := .iload 4) rfl (fun _ => rfl) ?_
  refine dp_s1 hF (i := .iconst 3) rfl (fun _ => rfl) ?_
  refine dp_s1 hF (i := .idiv) rfl (fun _ => rfl) ?_
  refine dp_s3w (dp_setI M7 3 (Int32.toNatClampNeg y1) (v4 / (3 : Int32))) (fun (M8 : dp_M) => (54, [some (.ref 1), some (.int v1), some (.int v2), some (.int v3), some (.int v4), some (.int v5), some (.int v6), some (.int v7), some (.int y1)], [], M8)) hF (i := .iastore) rfl (fun _ => rfl) (fun M8 => ?_)
  refine dp_s1 hF (i := .aload_n 0) rfl (fun _ => rfl) ?_
  refine dp_s1 hF (i := .getfield 18) rfl (fun _ => rfl) ?_
  refine dp_s1 hF (i := .iload 8) rfl (fun _ => rfl) ?_
  refine dp_s1 hF (i := .iload 4) rfl (fun _ => rfl) ?_
  refine dp_s1 hF (i := .iconst 3) rfl (fun _ => rfl) ?_
  refine dp_s1 hF (i := .irem) rfl (fun _ => rfl) ?_
  refine dp_s1 hF (i := .iconst 1) rfl (fun _ => rfl) ?_
  refine dp_s1 hF (i := .iadd) rfl (fun _ => rfl) ?_
  refine dp_s3w (dp_setI M8 4 (Int32.toNatClampNeg y1) ((v4 - v4 / (3 : Int32) * (3 : Int32)) + (1 : Int32))) (fun (M9 : dp_M) => (67, [some (.ref 1), some (.int v1), some (.int v2), some (.int v3), some (.int v4), some (.int v5), some (.int v6), some (.int v7), some (.int y1)], [], M9)) hF (i := .iastore) rfl (fun _ => rfl) (fun M9 => ?_)
  refine dp_s1 hF (i := .aload_n 0) rfl (fun _ => rfl) ?_
  refine dp_s1 hF (i := .getfield 21) rfl (fun _ => rfl) ?_
  refine dp_s1 hF (i := .iload 8) rfl (fun _ => rfl) ?_
  refine dp_s1 hF (i := .iload 5) rfl (fun _ => rfl) ?_
  refine dp_s3w (dp_setI M9 5 (Int32.toNatClampNeg y1) v5) (fun (M10 : dp_M) => (76, [some (.ref 1), some (.int v1), some (.int v2), some (.int v3), some (.int v4), some (.int v5), some (.int v6), some (.int v7), some (.int y1)], [], M10)) hF (i := .iastore) rfl (fun _ => rfl) (fun M10 => ?_)
  refine dp_s1 hF (i := .aload_n 0) rfl (fun _ => rfl) ?_
  refine dp_s1 hF (i := .getfield 24) rfl (fun _ => rfl) ?_
  refine dp_s1 hF (i := .iload 8) rfl (fun _ => rfl) ?_
  refine dp_s1 hF (i := .iload 6) rfl (fun _ => rfl) ?_
  refine dp_s3w (dp_setI M10 6 (Int32.toNatClampNeg y1) v6) (fun (M11 : dp_M) => (85, [some (.ref 1), some (.int v1), some (.int v2), some (.int v3), some (.int v4), some (.int v5), some (.int v6), some (.int v7), some (.int y1)], [], M11)) hF (i := .iastore) rfl (fun _ => rfl) (fun M11 => ?_)
  refine dp_s1 hF (i := .aload_n 0) rfl (fun _ => rfl) ?_
  refine dp_s1 hF (i := .getfield 27) rfl (fun _ => rfl) ?_
  refine dp_s1 hF (i := .iload 8) rfl (fun _ => rfl) ?_
  refine dp_s1 hF (i := .iload 7) rfl (fun _ => rfl) ?_
  refine dp_s3w (dp_setI M11 7 (Int32.toNatClampNeg y1) v7) (fun (M12 : dp_M) => (94, [some (.ref 1), some (.int v1), some (.int v2), some (.int v3), some (.int v4), some (.int v5), some (.int v6), some (.int v7), some (.int y1)], [], M12)) hF (i := .iastore) rfl (fun _ => rfl) (fun M12 => ?_)
  refine dp_s1 hF (i := .aload_n 0) rfl (fun _ => rfl) ?_
  refine dp_s1 hF (i := .dup) rfl (fun _ => rfl) ?_
  refine dp_s1 hF (i := .getfield 78) rfl (fun _ => rfl) ?_
  refine dp_s1 hF (i := .iconst 1) rfl (fun _ => rfl) ?_
  refine dp_s1 hF (i := .iadd) rfl (fun _ => rfl) ?_
  refine dp_s1w (dp_setI M12 1 2 ((dp_I M12 1 2) + (1 : Int32))) (fun (M13 : dp_M) => (104, [some (.ref 1), some (.int v1), some (.int v2), some (.int v3), some (.int v4), some (.int v5), some (.int v6), some (.int v7), some (.int y1)], [], M13)) hF (i := .putfield 78) rfl (fun _ => rfl) (fun M13 => ?_)
  refine dp_s1 hF (i := .aload_n 0) rfl (fun _ => rfl) ?_
  refine dp_s1 hF (i := .getfield 63) rfl (fun _ => rfl) ?_
  refine dp_s1 hF (i := .iload_n 1) rfl (fun _ => rfl) ?_
  refine dp_s1 hF (i := .iconst (-1)) rfl (fun _ => rfl) ?_
  refine dp_s3w (dp_setI M13 25 (Int32.toNatClampNeg v1) (-1 : Int32)) (fun (M14 : dp_M) => (111, [some (.ref 1), some (.int v1), some (.int v2), some (.int v3), some (.int v4), some (.int v5), some (.int v6), some (.int v7), some (.int y1)], [], M14)) hF (i := .iastore) rfl (fun _ => rfl) (fun M14 => ?_)
  refine dp_s1 hF (i := .iload 8) rfl (fun _ => rfl) ?_
  exact dp_s0 hF (i := .ireturn) rfl (fun _ => rfl)
noncomputable def D_X2_isNeeded_0 (xs : Nat → Int32) (xl d : Nat) (v1 : Int32) (v2 : Int32) (M : dp_M) : Option dp_Res := dp_lim true xs xl (dp_den true xs xl d) dp_m_X2_isNeeded (0, [some (.ref 1), some (.int v1), some (.int v2)], [], M)
theorem D_X2_isNeeded_0_den (xs : Nat → Int32) (xl d : Nat) (a0 : Int32) (a1 : Int32) (M : dp_M) : dp_den true xs xl (d + 1) 60 [.ref 1, .int a0, .int a1] M = D_X2_isNeeded_0 xs xl d a0 a1 M := rfl
set_option maxRecDepth 20000 in
theorem D_X2_isNeeded_0_eq (xs : Nat → Int32) (xl d : Nat) (v1 : Int32) (v2 : Int32) (M : dp_M) : D_X2_isNeeded_0 xs xl d v1 v2 M = if ((v1 * (100 : Int32)) + v2) < 0 ∨ 10000 ≤ Int32.toNatClampNeg ((v1 * (100 : Int32)) + v2) then none else (if (dp_I M 12 (Int32.toNatClampNeg ((v1 * (100 : Int32)) + v2))) = 0 ∨ (dp_I M 12 (Int32.toNatClampNeg ((v1 * (100 : Int32)) + v2))) = 1 then some (.inl (some (.int (dp_I M 12 (Int32.toNatClampNeg ((v1 * (100 : Int32)) + v2))))), M) else none) := by
  have hF := dp_den_grow (md := true) (xs := xs) (xl := xl) d
  unfold D_X2_isNeeded_0
  refine dp_s1 hF (i := .aload_n 0) rfl (fun _ => rfl) ?_
  refine dp_s1 hF (i := .getfield 42) rfl (fun _ => rfl) ?_
  refine dp_s1 hF (i := .iload_n 1) rfl (fun _ => rfl) ?_
  refine dp_s1 hF (i := .bipush 100) rfl (fun _ => rfl) ?_
  refine dp_s1 hF (i := .imul) rfl (fun _ => rfl) ?_
  refine dp_s1 hF (i := .iload_n 2) rfl (fun _ => rfl) ?_
  refine dp_s1 hF (i := .iadd) rfl (fun _ => rfl) ?_
  refine dp_s3 hF (i := .baload) rfl (fun _ => rfl) ?_
  exact dp_s0 hF (i := .ireturn) rfl (fun _ => rfl)
noncomputable def D_X2_addNeed_0 (xs : Nat → Int32) (xl d : Nat) (v1 : Int32) (v2 : Int32) (M : dp_M) : Option dp_Res := dp_lim true xs xl (dp_den true xs xl d) dp_m_X2_addNeed (0, [some (.ref 1), some (.int v1), some (.int v2), none], [], M)
noncomputable def D_X2_addNeed_45 (xs : Nat → Int32) (xl d : Nat) (v1 : Int32) (v2 : Int32) (vs0 : Int32) (M : dp_M) : Option dp_Res := dp_lim true xs xl (dp_den true xs xl d) dp_m_X2_addNeed (45, [some (.ref 1), some (.int v1), some (.int v2), none], [.int vs0], M)
theorem D_X2_addNeed_0_den (xs : Nat → Int32) (xl d : Nat) (a0 : Int32) (a1 : Int32) (M : dp_M) : dp_den true xs xl (d + 1) 61 [.ref 1, .int a0, .int a1] M = D_X2_addNeed_0 xs xl d a0 a1 M := rfl
set_option maxRecDepth 20000 in
theorem D_X2_addNeed_0_eq (xs : Nat → Int32) (xl d : Nat) (v1 : Int32) (v2 : Int32) (M : dp_M) : D_X2_addNeed_0 xs xl d v1 v2 M = if v1 < 0 ∨ 100 ≤ Int32.toNatClampNeg v1 then none else (if v2 < 0 ∨ 100 ≤ Int32.toNatClampNeg v2 then none else (if (dp_I M 8 (Int32.toNatClampNeg v1)) = (dp_I M 8 (Int32.toNatClampNeg v2)) then (dp_bi (dp_den true xs xl d 54 [.ref 1, .int v1] M) (fun r2 M1 => if r2 = 0 then (D_X2_addNeed_45 xs xl d v1 v2 (0 : Int32) M1) else (dp_bi (dp_den true xs xl d 54 [.ref 1, .int v2] M1) (fun r4 M3 => if r4 = 0 then (D_X2_addNeed_45 xs xl d v1 v2 (0 : Int32) M3) else (dp_bi (dp_den true xs xl d 60 [.ref 1, .int v1, .int v2] M3) (fun r6 M5 => if r6 = 0 then (D_X2_addNeed_45 xs xl d v1 v2 (1 : Int32) M5) else (D_X2_addNeed_45 xs xl d v1 v2 (0 : Int32) M5))))))) else (D_X2_addNeed_45 xs xl d v1 v2 (0 : Int32) M))) := by
  have hF := dp_den_grow (md := true) (xs := xs) (xl := xl) d
  unfold D_X2_addNeed_0
  refine dp_s1 hF (i := .aload_n 0) rfl (fun _ => rfl) ?_
  refine dp_s1 hF (i := .getfield 30) rfl (fun _ => rfl) ?_
  refine dp_s1 hF (i := .iload_n 1) rfl (fun _ => rfl) ?_
  refine dp_s3 hF (i := .iaload) rfl (fun _ => rfl) ?_
  refine dp_s1 hF (i := .aload_n 0) rfl (fun _ => rfl) ?_
  refine dp_s1 hF (i := .getfield 30) rfl (fun _ => rfl) ?_
  refine dp_s1 hF (i := .iload_n 2) rfl (fun _ => rfl) ?_
  refine dp_s3 hF (i := .iaload) rfl (fun _ => rfl) ?_
  refine dp_s2 hF (i := .if_icmp .ne 32) (a := (15, [some (.ref 1), some (.int v1), some (.int v2), none], [], M)) (b := (44, [some (.ref 1), some (.int v1), some (.int v2), none], [], M)) rfl (fun _ => rfl) ?_ ?_
  · refine dp_s1 hF (i := .aload_n 0) rfl (fun _ => rfl) ?_
    refine dp_s1 hF (i := .iload_n 1) rfl (fun _ => rfl) ?_
    refine dp_si (mj := dp_m_X2_isLeaving) (i := .invokevirtual 85) rfl rfl (Or.inr rfl) rfl (fun _ => rfl) (fun r2 M1 => ?_)
    refine dp_s2 hF (i := .ifCond .eq 24) (a := (44, [some (.ref 1), some (.int v1), some (.int v2), none], [], M1)) (b := (23, [some (.ref 1), some (.int v1), some (.int v2), none], [], M1)) rfl (fun _ => rfl) ?_ ?_
    · refine dp_s1 hF (i := .iconst 0) rfl (fun _ => rfl) ?_
      exact rfl
    refine dp_s1 hF (i := .aload_n 0) rfl (fun _ => rfl) ?_
    refine dp_s1 hF (i := .iload_n 2) rfl (fun _ => rfl) ?_
    refine dp_si (mj := dp_m_X2_isLeaving) (i := .invokevirtual 85) rfl rfl (Or.inr rfl) rfl (fun _ => rfl) (fun r4 M3 => ?_)
    refine dp_s2 hF (i := .ifCond .eq 16) (a := (44, [some (.ref 1), some (.int v1), some (.int v2), none], [], M3)) (b := (31, [some (.ref 1), some (.int v1), some (.int v2), none], [], M3)) rfl (fun _ => rfl) ?_ ?_
    · refine dp_s1 hF (i := .iconst 0) rfl (fun _ => rfl) ?_
      exact rfl
    refine dp_s1 hF (i := .aload_n 0) rfl (fun _ => rfl) ?_
    refine dp_s1 hF (i := .iload_n 1) rfl (fun _ => rfl) ?_
    refine dp_s1 hF (i := .iload_n 2) rfl (fun _ => rfl) ?_
    refine dp_si (mj := dp_m_X2_isNeeded) (i := .invokevirtual 89) rfl rfl (Or.inr rfl) rfl (fun _ => rfl) (fun r6 M5 => ?_)
    refine dp_s2 hF (i := .ifCond .ne 7) (a := (40, [some (.ref 1), some (.int v1), some (.int v2), none], [], M5)) (b := (44, [some (.ref 1), some (.int v1), some (.int v2), none], [], M5)) rfl (fun _ => rfl) ?_ ?_
    · refine dp_s1 hF (i := .iconst 1) rfl (fun _ => rfl) ?_
      refine dp_s1 hF (i := .goto 4) rfl (fun _ => rfl) ?_
      exact rfl
    refine dp_s1 hF (i := .iconst 0) rfl (fun _ => rfl) ?_
    exact rfl
  refine dp_s1 hF (i := .iconst 0) rfl (fun _ => rfl) ?_
  exact rfl
set_option maxRecDepth 20000 in
theorem D_X2_addNeed_45_eq (xs : Nat → Int32) (xl d : Nat) (v1 : Int32) (v2 : Int32) (vs0 : Int32) (M : dp_M) : D_X2_addNeed_45 xs xl d v1 v2 vs0 M = if vs0 = 0 then (some (.inl (some (.int (0 : Int32))), M)) else (dp_bi (dp_den true xs xl d 62 [.ref 1, .int v2, .int v1] M) (fun r2 M1 => if r2 = 0 then (if ((v1 * (100 : Int32)) + v2) < 0 ∨ 10000 ≤ Int32.toNatClampNeg ((v1 * (100 : Int32)) + v2) then none else dp_w (dp_setI M1 12 (Int32.toNatClampNeg ((v1 * (100 : Int32)) + v2)) ((1 : Int32) &&& 1)) (fun M3 => if v1 < 0 ∨ 100 ≤ Int32.toNatClampNeg v1 then none else (if (dp_I M3 8 (Int32.toNatClampNeg v1)) < 0 ∨ dp_len M3 25 ≤ Int32.toNatClampNeg (dp_I M3 8 (Int32.toNatClampNeg v1)) then none else dp_w (dp_setI M3 25 (Int32.toNatClampNeg (dp_I M3 8 (Int32.toNatClampNeg v1))) (-1 : Int32)) (fun M4 => some (.inl (some (.int (1 : Int32))), M4))))) else (some (.inl (some (.int (0 : Int32))), M1)))) := by
  have hF := dp_den_grow (md := true) (xs := xs) (xl := xl) d
  unfold D_X2_addNeed_45
  refine dp_s1 hF (i := .istore_n 3) rfl (fun _ => rfl) ?_
  refine dp_s1 hF (i := .iload_n 3) rfl (fun _ => rfl) ?_
  refine dp_s2 hF (i := .ifCond .eq 12) (a := (59, [some (.ref 1), some (.int v1), some (.int v2), some (.int vs0)], [], M)) (b := (50, [some (.ref 1), some (.int v1), some (.int v2), some (.int vs0)], [], M)) rfl (fun _ => rfl) ?_ ?_
  · refine dp_s1 hF (i := .iconst 0) rfl (fun _ => rfl) ?_
    exact dp_s0 hF (i := .ireturn) rfl (fun _ => rfl)
  refine dp_s1 hF (i := .aload_n 0) rfl (fun _ => rfl) ?_
  refine dp_s1 hF (i := .iload_n 2) rfl (fun _ => rfl) ?_
  refine dp_s1 hF (i := .iload_n 1) rfl (fun _ => rfl) ?_
  refine dp_si (mj := dp_m_X2_isAheadOf) (i := .invokevirtual 93) rfl rfl (Or.inr rfl) rfl (fun _ => rfl) (fun r2 M1 => ?_)
  refine dp_s2 hF (i := .ifCond .eq 5) (a := (61, [some (.ref 1), some (.int v1), some (.int v2), some (.int vs0)], [], M1)) (b := (59, [some (.ref 1), some (.int v1), some (.int v2), some (.int vs0)], [], M1)) rfl (fun _ => rfl) ?_ ?_
  · refine dp_s1 hF (i := .aload_n 0) rfl (fun _ => rfl) ?_
    refine dp_s1 hF (i := .getfield 42) rfl (fun _ => rfl) ?_
    refine dp_s1 hF (i := .iload_n 1) rfl (fun _ => rfl) ?_
    refine dp_s1 hF (i := .bipush 100) rfl (fun _ => rfl) ?_
    refine dp_s1 hF (i := .imul) rfl (fun _ => rfl) ?_
    refine dp_s1 hF (i := .iload_n 2) rfl (fun _ => rfl) ?_
    refine dp_s1 hF (i := .iadd) rfl (fun _ => rfl) ?_
    refine dp_s1 hF (i := .iconst 1) rfl (fun _ => rfl) ?_
    refine dp_s3w (dp_setI M1 12 (Int32.toNatClampNeg ((v1 * (100 : Int32)) + v2)) ((1 : Int32) &&& 1)) (fun (M3 : dp_M) => (73, [some (.ref 1), some (.int v1), some (.int v2), some (.int vs0)], [], M3)) hF (i := .bastore) rfl (fun _ => rfl) (fun M3 => ?_)
    refine dp_s1 hF (i := .aload_n 0) rfl (fun _ => rfl) ?_
    refine dp_s1 hF (i := .getfield 63) rfl (fun _ => rfl) ?_
    refine dp_s1 hF (i := .aload_n 0) rfl (fun _ => rfl) ?_
    refine dp_s1 hF (i := .getfield 30) rfl (fun _ => rfl) ?_
    refine dp_s1 hF (i := .iload_n 1) rfl (fun _ => rfl) ?_
    refine dp_s3 hF (i := .iaload) rfl (fun _ => rfl) ?_
    refine dp_s1 hF (i := .iconst (-1)) rfl (fun _ => rfl) ?_
    refine dp_s3w (dp_setI M3 25 (Int32.toNatClampNeg (dp_I M3 8 (Int32.toNatClampNeg v1))) (-1 : Int32)) (fun (M4 : dp_M) => (85, [some (.ref 1), some (.int v1), some (.int v2), some (.int vs0)], [], M4)) hF (i := .iastore) rfl (fun _ => rfl) (fun M4 => ?_)
    refine dp_s1 hF (i := .iconst 1) rfl (fun _ => rfl) ?_
    exact dp_s0 hF (i := .ireturn) rfl (fun _ => rfl)
  refine dp_s1 hF (i := .iconst 0) rfl (fun _ => rfl) ?_
  exact dp_s0 hF (i := .ireturn) rfl (fun _ => rfl)
noncomputable def D_X2_isAheadOf_0 (xs : Nat → Int32) (xl d : Nat) (v1 : Int32) (v2 : Int32) (M : dp_M) : Option dp_Res := dp_lim true xs xl (dp_den true xs xl d) dp_m_X2_isAheadOf (0, [some (.ref 1), some (.int v1), some (.int v2), none, none, none, none], [], M)
noncomputable def D_X2_isAheadOf_24 (xs : Nat → Int32) (xl d : Nat) (v1 : Int32) (v2 : Int32) (v3 : Int32) (v4 : Int32) (v5 : Int32) (M : dp_M) : Option dp_Res := dp_lim true xs xl (dp_den true xs xl d) dp_m_X2_isAheadOf (24, [some (.ref 1), some (.int v1), some (.int v2), some (.int v3), some (.int v4), some (.int v5), none], [], M)
noncomputable def D_X2_isAheadOf_33 (xs : Nat → Int32) (xl d : Nat) (v1 : Int32) (v2 : Int32) (v3 : Int32) (v4 : Int32) (v5 : Int32) (v6 : Int32) (M : dp_M) : Option dp_Res := dp_lim true xs xl (dp_den true xs xl d) dp_m_X2_isAheadOf (33, [some (.ref 1), some (.int v1), some (.int v2), some (.int v3), some (.int v4), some (.int v5), some (.int v6)], [], M)
noncomputable def D_X2_isAheadOf_24_a (xs : Nat → Int32) (xl d : Nat) (v1 : Int32) (v2 : Int32) (v3 : Int32) (v4 : Int32) (v5 : Int32) (v6 : Int32) (M : dp_M) : Option dp_Res := dp_lim true xs xl (dp_den true xs xl d) dp_m_X2_isAheadOf (24, [some (.ref 1), some (.int v1), some (.int v2), some (.int v3), some (.int v4), some (.int v5), some (.int v6)], [], M)
theorem D_X2_isAheadOf_0_den (xs : Nat → Int32) (xl d : Nat) (a0 : Int32) (a1 : Int32) (M : dp_M) : dp_den true xs xl (d + 1) 62 [.ref 1, .int a0, .int a1] M = D_X2_isAheadOf_0 xs xl d a0 a1 M := rfl
set_option maxRecDepth 20000 in
theorem D_X2_isAheadOf_0_eq (xs : Nat → Int32) (xl d : Nat) (v1 : Int32) (v2 : Int32) (M : dp_M) : D_X2_isAheadOf_0 xs xl d v1 v2 M = if v1 < 0 ∨ 100 ≤ Int32.toNatClampNeg v1 then none else (dp_bi (dp_den true xs xl d 65 [.ref 1, .int (dp_I M 8 (Int32.toNatClampNeg v1))] M) (fun r2 M1 => dp_bi (dp_den true xs xl d 66 [.ref 1, .int v1, .int r2] M1) (fun r4 M3 => dp_w ((1 : Int32) <<< (r4 &&& 31)) (fun y5 => dp_w (0 : Int32) (fun y6 => D_X2_isAheadOf_24 xs xl d v1 v2 r2 y5 y6 M3))))) := by
  have hF := dp_den_grow (md := true) (xs := xs) (xl := xl) d
  unfold D_X2_isAheadOf_0
  refine dp_s1 hF (i := .aload_n 0) rfl (fun _ => rfl) ?_
  refine dp_s1 hF (i := .aload_n 0) rfl (fun _ => rfl) ?_
  refine dp_s1 hF (i := .getfield 30) rfl (fun _ => rfl) ?_
  refine dp_s1 hF (i := .iload_n 1) rfl (fun _ => rfl) ?_
  refine dp_s3 hF (i := .iaload) rfl (fun _ => rfl) ?_
  refine dp_si (mj := dp_m_X2_gather) (i := .invokevirtual 96) rfl rfl (Or.inl rfl) rfl (fun _ => rfl) (fun r2 M1 => ?_)
  refine dp_s1 hF (i := .istore_n 3) rfl (fun _ => rfl) ?_
  refine dp_s1 hF (i := .iconst 1) rfl (fun _ => rfl) ?_
  refine dp_s1 hF (i := .aload_n 0) rfl (fun _ => rfl) ?_
  refine dp_s1 hF (i := .iload_n 1) rfl (fun _ => rfl) ?_
  refine dp_s1 hF (i := .iload_n 3) rfl (fun _ => rfl) ?_
  refine dp_si (mj := dp_m_X2_indexOf) (i := .invokevirtual 100) rfl rfl (Or.inl rfl) rfl (fun _ => rfl) (fun r4 M3 => ?_)
  refine dp_s1 hF (i := .ishl) rfl (fun _ => rfl) ?_
  refine dp_s1w ((1 : Int32) <<< (r4 &&& 31)) (fun (y5 : Int32) => (21, [some (.ref 1), some (.int v1), some (.int v2), some (.int r2), some (.int y5), none, none], [], M3)) hF (i := .istore 4) rfl (fun _ => rfl) (fun y5 => ?_)
  refine dp_s1 hF (i := .iconst 0) rfl (fun _ => rfl) ?_
  refine dp_s1w (0 : Int32) (fun (y6 : Int32) => (24, [some (.ref 1), some (.int v1), some (.int v2), some (.int r2), some (.int y5), some (.int y6), none], [], M3)) hF (i := .istore 5) rfl (fun _ => rfl) (fun y6 => ?_)
  exact rfl
set_option maxRecDepth 20000 in
theorem D_X2_isAheadOf_24_eq (xs : Nat → Int32) (xl d : Nat) (v1 : Int32) (v2 : Int32) (v3 : Int32) (v4 : Int32) (v5 : Int32) (M : dp_M) : D_X2_isAheadOf_24 xs xl d v1 v2 v3 v4 v5 M = if v3 ≤ v5 then (dp_bi (dp_den true xs xl d 66 [.ref 1, .int v2, .int v3] M) (fun r2 M1 => if ((v4 >>> (r2 &&& 31)) &&& (1 : Int32)) = (1 : Int32) then (some (.inl (some (.int (1 : Int32))), M1)) else (some (.inl (some (.int (0 : Int32))), M1)))) else (dp_w (0 : Int32) (fun y3 => D_X2_isAheadOf_33 xs xl d v1 v2 v3 v4 v5 y3 M)) := by
  have hF := dp_den_grow (md := true) (xs := xs) (xl := xl) d
  unfold D_X2_isAheadOf_24
  refine dp_s1 hF (i := .iload 5) rfl (fun _ => rfl) ?_
  refine dp_s1 hF (i := .iload_n 3) rfl (fun _ => rfl) ?_
  refine dp_s2 hF (i := .if_icmp .ge 47) (a := (74, [some (.ref 1), some (.int v1), some (.int v2), some (.int v3), some (.int v4), some (.int v5), none], [], M)) (b := (30, [some (.ref 1), some (.int v1), some (.int v2), some (.int v3), some (.int v4), some (.int v5), none], [], M)) rfl (fun _ => rfl) ?_ ?_
  · refine dp_s1 hF (i := .iload 4) rfl (fun _ => rfl) ?_
    refine dp_s1 hF (i := .aload_n 0) rfl (fun _ => rfl) ?_
    refine dp_s1 hF (i := .iload_n 2) rfl (fun _ => rfl) ?_
    refine dp_s1 hF (i := .iload_n 3) rfl (fun _ => rfl) ?_
    refine dp_si (mj := dp_m_X2_indexOf) (i := .invokevirtual 100) rfl rfl (Or.inl rfl) rfl (fun _ => rfl) (fun r2 M1 => ?_)
    refine dp_s1 hF (i := .ishr) rfl (fun _ => rfl) ?_
    refine dp_s1 hF (i := .iconst 1) rfl (fun _ => rfl) ?_
    refine dp_s1 hF (i := .iand) rfl (fun _ => rfl) ?_
    refine dp_s1 hF (i := .iconst 1) rfl (fun _ => rfl) ?_
    refine dp_s2 hF (i := .if_icmp .ne 7) (a := (89, [some (.ref 1), some (.int v1), some (.int v2), some (.int v3), some (.int v4), some (.int v5), none], [], M1)) (b := (93, [some (.ref 1), some (.int v1), some (.int v2), some (.int v3), some (.int v4), some (.int v5), none], [], M1)) rfl (fun _ => rfl) ?_ ?_
    · refine dp_s1 hF (i := .iconst 1) rfl (fun _ => rfl) ?_
      refine dp_s1 hF (i := .goto 4) rfl (fun _ => rfl) ?_
      exact dp_s0 hF (i := .ireturn) rfl (fun _ => rfl)
    refine dp_s1 hF (i := .iconst 0) rfl (fun _ => rfl) ?_
    exact dp_s0 hF (i := .ireturn) rfl (fun _ => rfl)
  refine dp_s1 hF (i := .iconst 0) rfl (fun _ => rfl) ?_
  refine dp_s1w (0 : Int32) (fun (y3 : Int32) => (33, [some (.ref 1), some (.int v1), some (.int v2), some (.int v3), some (.int v4), some (.int v5), some (.int y3)], [], M)) hF (i := .istore 6) rfl (fun _ => rfl) (fun y3 => ?_)
  exact rfl
set_option maxRecDepth 20000 in
theorem D_X2_isAheadOf_33_eq (xs : Nat → Int32) (xl d : Nat) (v1 : Int32) (v2 : Int32) (v3 : Int32) (v4 : Int32) (v5 : Int32) (v6 : Int32) (M : dp_M) : D_X2_isAheadOf_33 xs xl d v1 v2 v3 v4 v5 v6 M = if v3 ≤ v6 then (dp_w (v5 + (1 : Int32)) (fun y1 => D_X2_isAheadOf_24_a xs xl d v1 v2 v3 v4 y1 v6 M)) else (if ((v4 >>> (v6 &&& 31)) &&& (1 : Int32)) = (1 : Int32) then (dp_bi (dp_den true xs xl d 63 [.ref 1, .int v6, .int v3] M) (fun r3 M2 => dp_w (v4 ||| r3) (fun y4 => dp_w (v6 + (1 : Int32)) (fun y5 => D_X2_isAheadOf_33 xs xl d v1 v2 v3 y4 v5 y5 M2)))) else (dp_w (v6 + (1 : Int32)) (fun y6 => D_X2_isAheadOf_33 xs xl d v1 v2 v3 v4 v5 y6 M))) := by
  have hF := dp_den_grow (md := true) (xs := xs) (xl := xl) d
  unfold D_X2_isAheadOf_33
  refine dp_s1 hF (i := .iload 6) rfl (fun _ => rfl) ?_
  refine dp_s1 hF (i := .iload_n 3) rfl (fun _ => rfl) ?_
  refine dp_s2 hF (i := .if_icmp .ge 32) (a := (68, [some (.ref 1), some (.int v1), some (.int v2), some (.int v3), some (.int v4), some (.int v5), some (.int v6)], [], M)) (b := (39, [some (.ref 1), some (.int v1), some (.int v2), some (.int v3), some (.int v4), some (.int v5), some (.int v6)], [], M)) rfl (fun _ => rfl) ?_ ?_
  · refine dp_s1w (v5 + (1 : Int32)) (fun (y1 : Int32) => (71, [some (.ref 1), some (.int v1), some (.int v2), some (.int v3), some (.int v4), some (.int y1), some (.int v6)], [], M)) hF (i := .iinc 5 1) rfl (fun _ => rfl) (fun y1 => ?_)
    refine dp_s1 hF (i := .goto (-47)) rfl (fun _ => rfl) ?_
    exact rfl
  refine dp_s1 hF (i := .iload 4) rfl (fun _ => rfl) ?_
  refine dp_s1 hF (i := .iload 6) rfl (fun _ => rfl) ?_
  refine dp_s1 hF (i := .ishr) rfl (fun _ => rfl) ?_
  refine dp_s1 hF (i := .iconst 1) rfl (fun _ => rfl) ?_
  refine dp_s1 hF (i := .iand) rfl (fun _ => rfl) ?_
  refine dp_s1 hF (i := .iconst 1) rfl (fun _ => rfl) ?_
  refine dp_s2 hF (i := .if_icmp .ne 15) (a := (50, [some (.ref 1), some (.int v1), some (.int v2), some (.int v3), some (.int v4), some (.int v5), some (.int v6)], [], M)) (b := (62, [some (.ref 1), some (.int v1), some (.int v2), some (.int v3), some (.int v4), some (.int v5), some (.int v6)], [], M)) rfl (fun _ => rfl) ?_ ?_
  · refine dp_s1 hF (i := .iload 4) rfl (fun _ => rfl) ?_
    refine dp_s1 hF (i := .aload_n 0) rfl (fun _ => rfl) ?_
    refine dp_s1 hF (i := .iload 6) rfl (fun _ => rfl) ?_
    refine dp_s1 hF (i := .iload_n 3) rfl (fun _ => rfl) ?_
    refine dp_si (mj := dp_m_X2_behind) (i := .invokevirtual 103) rfl rfl (Or.inl rfl) rfl (fun _ => rfl) (fun r3 M2 => ?_)
    refine dp_s1 hF (i := .ior) rfl (fun _ => rfl) ?_
    refine dp_s1w (v4 ||| r3) (fun (y4 : Int32) => (62, [some (.ref 1), some (.int v1), some (.int v2), some (.int v3), some (.int y4), some (.int v5), some (.int v6)], [], M2)) hF (i := .istore 4) rfl (fun _ => rfl) (fun y4 => ?_)
    refine dp_s1w (v6 + (1 : Int32)) (fun (y5 : Int32) => (65, [some (.ref 1), some (.int v1), some (.int v2), some (.int v3), some (.int y4), some (.int v5), some (.int y5)], [], M2)) hF (i := .iinc 6 1) rfl (fun _ => rfl) (fun y5 => ?_)
    refine dp_s1 hF (i := .goto (-32)) rfl (fun _ => rfl) ?_
    exact rfl
  refine dp_s1w (v6 + (1 : Int32)) (fun (y6 : Int32) => (65, [some (.ref 1), some (.int v1), some (.int v2), some (.int v3), some (.int v4), some (.int v5), some (.int y6)], [], M)) hF (i := .iinc 6 1) rfl (fun _ => rfl) (fun y6 => ?_)
  refine dp_s1 hF (i := .goto (-32)) rfl (fun _ => rfl) ?_
  exact rfl
set_option maxRecDepth 20000 in
theorem D_X2_isAheadOf_24_a_eq (xs : Nat → Int32) (xl d : Nat) (v1 : Int32) (v2 : Int32) (v3 : Int32) (v4 : Int32) (v5 : Int32) (v6 : Int32) (M : dp_M) : D_X2_isAheadOf_24_a xs xl d v1 v2 v3 v4 v5 v6 M = if v3 ≤ v5 then (dp_bi (dp_den true xs xl d 66 [.ref 1, .int v2, .int v3] M) (fun r2 M1 => if ((v4 >>> (r2 &&& 31)) &&& (1 : Int32)) = (1 : Int32) then (some (.inl (some (.int (1 : Int32))), M1)) else (some (.inl (some (.int (0 : Int32))), M1)))) else (dp_w (0 : Int32) (fun y3 => D_X2_isAheadOf_33 xs xl d v1 v2 v3 v4 v5 y3 M)) := by
  have hF := dp_den_grow (md := true) (xs := xs) (xl := xl) d
  unfold D_X2_isAheadOf_24_a
  refine dp_s1 hF (i := .iload 5) rfl (fun _ => rfl) ?_
  refine dp_s1 hF (i := .iload_n 3) rfl (fun _ => rfl) ?_
  refine dp_s2 hF (i := .if_icmp .ge 47) (a := (74, [some (.ref 1), some (.int v1), some (.int v2), some (.int v3), some (.int v4), some (.int v5), some (.int v6)], [], M)) (b := (30, [some (.ref 1), some (.int v1), some (.int v2), some (.int v3), some (.int v4), some (.int v5), some (.int v6)], [], M)) rfl (fun _ => rfl) ?_ ?_
  · refine dp_s1 hF (i := .iload 4) rfl (fun _ => rfl) ?_
    refine dp_s1 hF (i := .aload_n 0) rfl (fun _ => rfl) ?_
    refine dp_s1 hF (i := .iload_n 2) rfl (fun _ => rfl) ?_
    refine dp_s1 hF (i := .iload_n 3) rfl (fun _ => rfl) ?_
    refine dp_si (mj := dp_m_X2_indexOf) (i := .invokevirtual 100) rfl rfl (Or.inl rfl) rfl (fun _ => rfl) (fun r2 M1 => ?_)
    refine dp_s1 hF (i := .ishr) rfl (fun _ => rfl) ?_
    refine dp_s1 hF (i := .iconst 1) rfl (fun _ => rfl) ?_
    refine dp_s1 hF (i := .iand) rfl (fun _ => rfl) ?_
    refine dp_s1 hF (i := .iconst 1) rfl (fun _ => rfl) ?_
    refine dp_s2 hF (i := .if_icmp .ne 7) (a := (89, [some (.ref 1), some (.int v1), some (.int v2), some (.int v3), some (.int v4), some (.int v5), some (.int v6)], [], M1)) (b := (93, [some (.ref 1), some (.int v1), some (.int v2), some (.int v3), some (.int v4), some (.int v5), some (.int v6)], [], M1)) rfl (fun _ => rfl) ?_ ?_
    · refine dp_s1 hF (i := .iconst 1) rfl (fun _ => rfl) ?_
      refine dp_s1 hF (i := .goto 4) rfl (fun _ => rfl) ?_
      exact dp_s0 hF (i := .ireturn) rfl (fun _ => rfl)
    refine dp_s1 hF (i := .iconst 0) rfl (fun _ => rfl) ?_
    exact dp_s0 hF (i := .ireturn) rfl (fun _ => rfl)
  refine dp_s1 hF (i := .iconst 0) rfl (fun _ => rfl) ?_
  refine dp_s1w (0 : Int32) (fun (y3 : Int32) => (33, [some (.ref 1), some (.int v1), some (.int v2), some (.int v3), some (.int v4), some (.int v5), some (.int y3)], [], M)) hF (i := .istore 6) rfl (fun _ => rfl) (fun y3 => ?_)
  exact rfl
noncomputable def D_X2_behind_0 (xs : Nat → Int32) (xl d : Nat) (v1 : Int32) (v2 : Int32) (M : dp_M) : Option dp_Res := dp_lim true xs xl (dp_den true xs xl d) dp_m_X2_behind (0, [some (.ref 1), some (.int v1), some (.int v2), none, none], [], M)
noncomputable def D_X2_behind_5 (xs : Nat → Int32) (xl d : Nat) (v1 : Int32) (v2 : Int32) (v3 : Int32) (v4 : Int32) (M : dp_M) : Option dp_Res := dp_lim true xs xl (dp_den true xs xl d) dp_m_X2_behind (5, [some (.ref 1), some (.int v1), some (.int v2), some (.int v3), some (.int v4)], [], M)
theorem D_X2_behind_0_den (xs : Nat → Int32) (xl d : Nat) (a0 : Int32) (a1 : Int32) (M : dp_M) : dp_den true xs xl (d + 1) 63 [.ref 1, .int a0, .int a1] M = D_X2_behind_0 xs xl d a0 a1 M := rfl
set_option maxRecDepth 20000 in
theorem D_X2_behind_0_eq (xs : Nat → Int32) (xl d : Nat) (v1 : Int32) (v2 : Int32) (M : dp_M) : D_X2_behind_0 xs xl d v1 v2 M = dp_w (0 : Int32) (fun y1 => dp_w (0 : Int32) (fun y2 => D_X2_behind_5 xs xl d v1 v2 y1 y2 M)) := by
  have hF := dp_den_grow (md := true) (xs := xs) (xl := xl) d
  unfold D_X2_behind_0
  refine dp_s1 hF (i := .iconst 0) rfl (fun _ => rfl) ?_
  refine dp_s1w (0 : Int32) (fun (y1 : Int32) => (2, [some (.ref 1), some (.int v1), some (.int v2), some (.int y1), none], [], M)) hF (i := .istore_n 3) rfl (fun _ => rfl) (fun y1 => ?_)
  refine dp_s1 hF (i := .iconst 0) rfl (fun _ => rfl) ?_
  refine dp_s1w (0 : Int32) (fun (y2 : Int32) => (5, [some (.ref 1), some (.int v1), some (.int v2), some (.int y1), some (.int y2)], [], M)) hF (i := .istore 4) rfl (fun _ => rfl) (fun y2 => ?_)
  exact rfl
set_option maxRecDepth 20000 in
theorem D_X2_behind_5_eq (xs : Nat → Int32) (xl d : Nat) (v1 : Int32) (v2 : Int32) (v3 : Int32) (v4 : Int32) (M : dp_M) : D_X2_behind_5 xs xl d v1 v2 v3 v4 M = if v2 ≤ v4 then (some (.inl (some (.int v3)), M)) else (if v1 < 0 ∨ 4 ≤ Int32.toNatClampNeg v1 then none else (if v4 < 0 ∨ 4 ≤ Int32.toNatClampNeg v4 then none else (dp_bi (dp_den true xs xl d 60 [.ref 1, .int (dp_I M 13 (Int32.toNatClampNeg v1)), .int (dp_I M 13 (Int32.toNatClampNeg v4))] M) (fun r2 M1 => if r2 = 0 then (dp_w (v3 ||| (0 : Int32)) (fun y3 => dp_w (v4 + (1 : Int32)) (fun y4 => D_X2_behind_5 xs xl d v1 v2 y3 y4 M1))) else (dp_w (v3 ||| ((1 : Int32) <<< (v4 &&& 31))) (fun y5 => dp_w (v4 + (1 : Int32)) (fun y6 => D_X2_behind_5 xs xl d v1 v2 y5 y6 M1))))))) := by
  have hF := dp_den_grow (md := true) (xs := xs) (xl := xl) d
  unfold D_X2_behind_5
  refine dp_s1 hF (i := .iload 4) rfl (fun _ => rfl) ?_
  refine dp_s1 hF (i := .iload_n 2) rfl (fun _ => rfl) ?_
  refine dp_s2 hF (i := .if_icmp .ge 40) (a := (48, [some (.ref 1), some (.int v1), some (.int v2), some (.int v3), some (.int v4)], [], M)) (b := (11, [some (.ref 1), some (.int v1), some (.int v2), some (.int v3), some (.int v4)], [], M)) rfl (fun _ => rfl) ?_ ?_
  · refine dp_s1 hF (i := .iload_n 3) rfl (fun _ => rfl) ?_
    exact dp_s0 hF (i := .ireturn) rfl (fun _ => rfl)
  refine dp_s1 hF (i := .iload_n 3) rfl (fun _ => rfl) ?_
  refine dp_s1 hF (i := .aload_n 0) rfl (fun _ => rfl) ?_
  refine dp_s1 hF (i := .aload_n 0) rfl (fun _ => rfl) ?_
  refine dp_s1 hF (i := .getfield 46) rfl (fun _ => rfl) ?_
  refine dp_s1 hF (i := .iload_n 1) rfl (fun _ => rfl) ?_
  refine dp_s3 hF (i := .iaload) rfl (fun _ => rfl) ?_
  refine dp_s1 hF (i := .aload_n 0) rfl (fun _ => rfl) ?_
  refine dp_s1 hF (i := .getfield 46) rfl (fun _ => rfl) ?_
  refine dp_s1 hF (i := .iload 4) rfl (fun _ => rfl) ?_
  refine dp_s3 hF (i := .iaload) rfl (fun _ => rfl) ?_
  refine dp_si (mj := dp_m_X2_isNeeded) (i := .invokevirtual 89) rfl rfl (Or.inr rfl) rfl (fun _ => rfl) (fun r2 M1 => ?_)
  refine dp_s2 hF (i := .ifCond .eq 10) (a := (39, [some (.ref 1), some (.int v1), some (.int v2), some (.int v3), some (.int v4)], [.int v3], M1)) (b := (32, [some (.ref 1), some (.int v1), some (.int v2), some (.int v3), some (.int v4)], [.int v3], M1)) rfl (fun _ => rfl) ?_ ?_
  · refine dp_s1 hF (i := .iconst 0) rfl (fun _ => rfl) ?_
    refine dp_s1 hF (i := .ior) rfl (fun _ => rfl) ?_
    refine dp_s1w (v3 ||| (0 : Int32)) (fun (y3 : Int32) => (42, [some (.ref 1), some (.int v1), some (.int v2), some (.int y3), some (.int v4)], [], M1)) hF (i := .istore_n 3) rfl (fun _ => rfl) (fun y3 => ?_)
    refine dp_s1w (v4 + (1 : Int32)) (fun (y4 : Int32) => (45, [some (.ref 1), some (.int v1), some (.int v2), some (.int y3), some (.int y4)], [], M1)) hF (i := .iinc 4 1) rfl (fun _ => rfl) (fun y4 => ?_)
    refine dp_s1 hF (i := .goto (-40)) rfl (fun _ => rfl) ?_
    exact rfl
  refine dp_s1 hF (i := .iconst 1) rfl (fun _ => rfl) ?_
  refine dp_s1 hF (i := .iload 4) rfl (fun _ => rfl) ?_
  refine dp_s1 hF (i := .ishl) rfl (fun _ => rfl) ?_
  refine dp_s1 hF (i := .goto 4) rfl (fun _ => rfl) ?_
  refine dp_s1 hF (i := .ior) rfl (fun _ => rfl) ?_
  refine dp_s1w (v3 ||| ((1 : Int32) <<< (v4 &&& 31))) (fun (y5 : Int32) => (42, [some (.ref 1), some (.int v1), some (.int v2), some (.int y5), some (.int v4)], [], M1)) hF (i := .istore_n 3) rfl (fun _ => rfl) (fun y5 => ?_)
  refine dp_s1w (v4 + (1 : Int32)) (fun (y6 : Int32) => (45, [some (.ref 1), some (.int v1), some (.int v2), some (.int y5), some (.int y6)], [], M1)) hF (i := .iinc 4 1) rfl (fun _ => rfl) (fun y6 => ?_)
  refine dp_s1 hF (i := .goto (-40)) rfl (fun _ => rfl) ?_
  exact rfl
noncomputable def D_X2_ahead_0 (xs : Nat → Int32) (xl d : Nat) (v1 : Int32) (v2 : Int32) (M : dp_M) : Option dp_Res := dp_lim true xs xl (dp_den true xs xl d) dp_m_X2_ahead (0, [some (.ref 1), some (.int v1), some (.int v2), none, none], [], M)
noncomputable def D_X2_ahead_5 (xs : Nat → Int32) (xl d : Nat) (v1 : Int32) (v2 : Int32) (v3 : Int32) (v4 : Int32) (M : dp_M) : Option dp_Res := dp_lim true xs xl (dp_den true xs xl d) dp_m_X2_ahead (5, [some (.ref 1), some (.int v1), some (.int v2), some (.int v3), some (.int v4)], [], M)
theorem D_X2_ahead_0_den (xs : Nat → Int32) (xl d : Nat) (a0 : Int32) (a1 : Int32) (M : dp_M) : dp_den true xs xl (d + 1) 64 [.ref 1, .int a0, .int a1] M = D_X2_ahead_0 xs xl d a0 a1 M := rfl
set_option maxRecDepth 20000 in
theorem D_X2_ahead_0_eq (xs : Nat → Int32) (xl d : Nat) (v1 : Int32) (v2 : Int32) (M : dp_M) : D_X2_ahead_0 xs xl d v1 v2 M = dp_w (0 : Int32) (fun y1 => dp_w (0 : Int32) (fun y2 => D_X2_ahead_5 xs xl d v1 v2 y1 y2 M)) := by
  have hF := dp_den_grow (md := true) (xs := xs) (xl := xl) d
  unfold D_X2_ahead_0
  refine dp_s1 hF (i := .iconst 0) rfl (fun _ => rfl) ?_
  refine dp_s1w (0 : Int32) (fun (y1 : Int32) => (2, [some (.ref 1), some (.int v1), some (.int v2), some (.int y1), none], [], M)) hF (i := .istore_n 3) rfl (fun _ => rfl) (fun y1 => ?_)
  refine dp_s1 hF (i := .iconst 0) rfl (fun _ => rfl) ?_
  refine dp_s1w (0 : Int32) (fun (y2 : Int32) => (5, [some (.ref 1), some (.int v1), some (.int v2), some (.int y1), some (.int y2)], [], M)) hF (i := .istore 4) rfl (fun _ => rfl) (fun y2 => ?_)
  exact rfl
set_option maxRecDepth 20000 in
theorem D_X2_ahead_5_eq (xs : Nat → Int32) (xl d : Nat) (v1 : Int32) (v2 : Int32) (v3 : Int32) (v4 : Int32) (M : dp_M) : D_X2_ahead_5 xs xl d v1 v2 v3 v4 M = if v2 ≤ v4 then (some (.inl (some (.int v3)), M)) else (if v4 < 0 ∨ 4 ≤ Int32.toNatClampNeg v4 then none else (if v1 < 0 ∨ 4 ≤ Int32.toNatClampNeg v1 then none else (dp_bi (dp_den true xs xl d 60 [.ref 1, .int (dp_I M 13 (Int32.toNatClampNeg v4)), .int (dp_I M 13 (Int32.toNatClampNeg v1))] M) (fun r2 M1 => if r2 = 0 then (dp_w (v3 ||| (0 : Int32)) (fun y3 => dp_w (v4 + (1 : Int32)) (fun y4 => D_X2_ahead_5 xs xl d v1 v2 y3 y4 M1))) else (dp_w (v3 ||| ((1 : Int32) <<< (v4 &&& 31))) (fun y5 => dp_w (v4 + (1 : Int32)) (fun y6 => D_X2_ahead_5 xs xl d v1 v2 y5 y6 M1))))))) := by
  have hF := dp_den_grow (md := true) (xs := xs) (xl := xl) d
  unfold D_X2_ahead_5
  refine dp_s1 hF (i := .iload 4) rfl (fun _ => rfl) ?_
  refine dp_s1 hF (i := .iload_n 2) rfl (fun _ => rfl) ?_
  refine dp_s2 hF (i := .if_icmp .ge 40) (a := (48, [some (.ref 1), some (.int v1), some (.int v2), some (.int v3), some (.int v4)], [], M)) (b := (11, [some (.ref 1), some (.int v1), some (.int v2), some (.int v3), some (.int v4)], [], M)) rfl (fun _ => rfl) ?_ ?_
  · refine dp_s1 hF (i := .iload_n 3) rfl (fun _ => rfl) ?_
    exact dp_s0 hF (i := .ireturn) rfl (fun _ => rfl)
  refine dp_s1 hF (i := .iload_n 3) rfl (fun _ => rfl) ?_
  refine dp_s1 hF (i := .aload_n 0) rfl (fun _ => rfl) ?_
  refine dp_s1 hF (i := .aload_n 0) rfl (fun _ => rfl) ?_
  refine dp_s1 hF (i := .getfield 46) rfl (fun _ => rfl) ?_
  refine dp_s1 hF (i := .iload 4) rfl (fun _ => rfl) ?_
  refine dp_s3 hF (i := .iaload) rfl (fun _ => rfl) ?_
  refine dp_s1 hF (i := .aload_n 0) rfl (fun _ => rfl) ?_
  refine dp_s1 hF (i := .getfield 46) rfl (fun _ => rfl) ?_
  refine dp_s1 hF (i := .iload_n 1) rfl (fun _ => rfl) ?_
  refine dp_s3 hF (i := .iaload) rfl (fun _ => rfl) ?_
  refine dp_si (mj := dp_m_X2_isNeeded) (i := .invokevirtual 89) rfl rfl (Or.inr rfl) rfl (fun _ => rfl) (fun r2 M1 => ?_)
  refine dp_s2 hF (i := .ifCond .eq 10) (a := (39, [some (.ref 1), some (.int v1), some (.int v2), some (.int v3), some (.int v4)], [.int v3], M1)) (b := (32, [some (.ref 1), some (.int v1), some (.int v2), some (.int v3), some (.int v4)], [.int v3], M1)) rfl (fun _ => rfl) ?_ ?_
  · refine dp_s1 hF (i := .iconst 0) rfl (fun _ => rfl) ?_
    refine dp_s1 hF (i := .ior) rfl (fun _ => rfl) ?_
    refine dp_s1w (v3 ||| (0 : Int32)) (fun (y3 : Int32) => (42, [some (.ref 1), some (.int v1), some (.int v2), some (.int y3), some (.int v4)], [], M1)) hF (i := .istore_n 3) rfl (fun _ => rfl) (fun y3 => ?_)
    refine dp_s1w (v4 + (1 : Int32)) (fun (y4 : Int32) => (45, [some (.ref 1), some (.int v1), some (.int v2), some (.int y3), some (.int y4)], [], M1)) hF (i := .iinc 4 1) rfl (fun _ => rfl) (fun y4 => ?_)
    refine dp_s1 hF (i := .goto (-40)) rfl (fun _ => rfl) ?_
    exact rfl
  refine dp_s1 hF (i := .iconst 1) rfl (fun _ => rfl) ?_
  refine dp_s1 hF (i := .iload 4) rfl (fun _ => rfl) ?_
  refine dp_s1 hF (i := .ishl) rfl (fun _ => rfl) ?_
  refine dp_s1 hF (i := .goto 4) rfl (fun _ => rfl) ?_
  refine dp_s1 hF (i := .ior) rfl (fun _ => rfl) ?_
  refine dp_s1w (v3 ||| ((1 : Int32) <<< (v4 &&& 31))) (fun (y5 : Int32) => (42, [some (.ref 1), some (.int v1), some (.int v2), some (.int y5), some (.int v4)], [], M1)) hF (i := .istore_n 3) rfl (fun _ => rfl) (fun y5 => ?_)
  refine dp_s1w (v4 + (1 : Int32)) (fun (y6 : Int32) => (45, [some (.ref 1), some (.int v1), some (.int v2), some (.int y5), some (.int y6)], [], M1)) hF (i := .iinc 4 1) rfl (fun _ => rfl) (fun y6 => ?_)
  refine dp_s1 hF (i := .goto (-40)) rfl (fun _ => rfl) ?_
  exact rfl
noncomputable def D_X2_gather_0 (xs : Nat → Int32) (xl d : Nat) (v1 : Int32) (M : dp_M) : Option dp_Res := dp_lim true xs xl (dp_den true xs xl d) dp_m_X2_gather (0, [some (.ref 1), some (.int v1), none, none], [], M)
noncomputable def D_X2_gather_4 (xs : Nat → Int32) (xl d : Nat) (v1 : Int32) (v2 : Int32) (v3 : Int32) (M : dp_M) : Option dp_Res := dp_lim true xs xl (dp_den true xs xl d) dp_m_X2_gather (4, [some (.ref 1), some (.int v1), some (.int v2), some (.int v3)], [], M)
theorem D_X2_gather_0_den (xs : Nat → Int32) (xl d : Nat) (a0 : Int32) (M : dp_M) : dp_den true xs xl (d + 1) 65 [.ref 1, .int a0] M = D_X2_gather_0 xs xl d a0 M := rfl
set_option maxRecDepth 20000 in
theorem D_X2_gather_0_eq (xs : Nat → Int32) (xl d : Nat) (v1 : Int32) (M : dp_M) : D_X2_gather_0 xs xl d v1 M = dp_w (0 : Int32) (fun y1 => dp_w (0 : Int32) (fun y2 => D_X2_gather_4 xs xl d v1 y1 y2 M)) := by
  have hF := dp_den_grow (md := true) (xs := xs) (xl := xl) d
  unfold D_X2_gather_0
  refine dp_s1 hF (i := .iconst 0) rfl (fun _ => rfl) ?_
  refine dp_s1w (0 : Int32) (fun (y1 : Int32) => (2, [some (.ref 1), some (.int v1), some (.int y1), none], [], M)) hF (i := .istore_n 2) rfl (fun _ => rfl) (fun y1 => ?_)
  refine dp_s1 hF (i := .iconst 0) rfl (fun _ => rfl) ?_
  refine dp_s1w (0 : Int32) (fun (y2 : Int32) => (4, [some (.ref 1), some (.int v1), some (.int y1), some (.int y2)], [], M)) hF (i := .istore_n 3) rfl (fun _ => rfl) (fun y2 => ?_)
  exact rfl
set_option maxRecDepth 20000 in
theorem D_X2_gather_4_eq (xs : Nat → Int32) (xl d : Nat) (v1 : Int32) (v2 : Int32) (v3 : Int32) (M : dp_M) : D_X2_gather_4 xs xl d v1 v2 v3 M = if (dp_I M 1 2) ≤ v3 then (some (.inl (some (.int v2)), M)) else (if (4 : Int32) ≤ v2 then (some (.inl (some (.int v2)), M)) else (if v3 < 0 ∨ 100 ≤ Int32.toNatClampNeg v3 then none else (if (dp_I M 8 (Int32.toNatClampNeg v3)) = v1 then (if v3 < 0 ∨ 100 ≤ Int32.toNatClampNeg v3 then none else (if (dp_I M 9 (Int32.toNatClampNeg v3)) = (3 : Int32) then (dp_w (v3 + (1 : Int32)) (fun y1 => D_X2_gather_4 xs xl d v1 v2 y1 M)) else (if v2 < 0 ∨ 4 ≤ Int32.toNatClampNeg v2 then none else dp_w (dp_setI M 13 (Int32.toNatClampNeg v2) v3) (fun M2 => dp_w (v2 + (1 : Int32)) (fun y3 => dp_w (v3 + (1 : Int32)) (fun y4 => D_X2_gather_4 xs xl d v1 y3 y4 M2)))))) else (dp_w (v3 + (1 : Int32)) (fun y5 => D_X2_gather_4 xs xl d v1 v2 y5 M))))) := by
  have hF := dp_den_grow (md := true) (xs := xs) (xl := xl) d
  unfold D_X2_gather_4
  refine dp_s1 hF (i := .iload_n 3) rfl (fun _ => rfl) ?_
  refine dp_s1 hF (i := .aload_n 0) rfl (fun _ => rfl) ?_
  refine dp_s1 hF (i := .getfield 78) rfl (fun _ => rfl) ?_
  refine dp_s2 hF (i := .if_icmp .ge 44) (a := (53, [some (.ref 1), some (.int v1), some (.int v2), some (.int v3)], [], M)) (b := (12, [some (.ref 1), some (.int v1), some (.int v2), some (.int v3)], [], M)) rfl (fun _ => rfl) ?_ ?_
  · refine dp_s1 hF (i := .iload_n 2) rfl (fun _ => rfl) ?_
    exact dp_s0 hF (i := .ireturn) rfl (fun _ => rfl)
  refine dp_s1 hF (i := .iload_n 2) rfl (fun _ => rfl) ?_
  refine dp_s1 hF (i := .iconst 4) rfl (fun _ => rfl) ?_
  refine dp_s2 hF (i := .if_icmp .ge 39) (a := (53, [some (.ref 1), some (.int v1), some (.int v2), some (.int v3)], [], M)) (b := (17, [some (.ref 1), some (.int v1), some (.int v2), some (.int v3)], [], M)) rfl (fun _ => rfl) ?_ ?_
  · refine dp_s1 hF (i := .iload_n 2) rfl (fun _ => rfl) ?_
    exact dp_s0 hF (i := .ireturn) rfl (fun _ => rfl)
  refine dp_s1 hF (i := .aload_n 0) rfl (fun _ => rfl) ?_
  refine dp_s1 hF (i := .getfield 30) rfl (fun _ => rfl) ?_
  refine dp_s1 hF (i := .iload_n 3) rfl (fun _ => rfl) ?_
  refine dp_s3 hF (i := .iaload) rfl (fun _ => rfl) ?_
  refine dp_s1 hF (i := .iload_n 1) rfl (fun _ => rfl) ?_
  refine dp_s2 hF (i := .if_icmp .ne 23) (a := (27, [some (.ref 1), some (.int v1), some (.int v2), some (.int v3)], [], M)) (b := (47, [some (.ref 1), some (.int v1), some (.int v2), some (.int v3)], [], M)) rfl (fun _ => rfl) ?_ ?_
  · refine dp_s1 hF (i := .aload_n 0) rfl (fun _ => rfl) ?_
    refine dp_s1 hF (i := .getfield 33) rfl (fun _ => rfl) ?_
    refine dp_s1 hF (i := .iload_n 3) rfl (fun _ => rfl) ?_
    refine dp_s3 hF (i := .iaload) rfl (fun _ => rfl) ?_
    refine dp_s1 hF (i := .iconst 3) rfl (fun _ => rfl) ?_
    refine dp_s2 hF (i := .if_icmp .eq 13) (a := (47, [some (.ref 1), some (.int v1), some (.int v2), some (.int v3)], [], M)) (b := (37, [some (.ref 1), some (.int v1), some (.int v2), some (.int v3)], [], M)) rfl (fun _ => rfl) ?_ ?_
    · refine dp_s1w (v3 + (1 : Int32)) (fun (y1 : Int32) => (50, [some (.ref 1), some (.int v1), some (.int v2), some (.int y1)], [], M)) hF (i := .iinc 3 1) rfl (fun _ => rfl) (fun y1 => ?_)
      refine dp_s1 hF (i := .goto (-46)) rfl (fun _ => rfl) ?_
      exact rfl
    refine dp_s1 hF (i := .aload_n 0) rfl (fun _ => rfl) ?_
    refine dp_s1 hF (i := .getfield 46) rfl (fun _ => rfl) ?_
    refine dp_s1 hF (i := .iload_n 2) rfl (fun _ => rfl) ?_
    refine dp_s1 hF (i := .iload_n 3) rfl (fun _ => rfl) ?_
    refine dp_s3w (dp_setI M 13 (Int32.toNatClampNeg v2) v3) (fun (M2 : dp_M) => (44, [some (.ref 1), some (.int v1), some (.int v2), some (.int v3)], [], M2)) hF (i := .iastore) rfl (fun _ => rfl) (fun M2 => ?_)
    refine dp_s1w (v2 + (1 : Int32)) (fun (y3 : Int32) => (47, [some (.ref 1), some (.int v1), some (.int y3), some (.int v3)], [], M2)) hF (i := .iinc 2 1) rfl (fun _ => rfl) (fun y3 => ?_)
    refine dp_s1w (v3 + (1 : Int32)) (fun (y4 : Int32) => (50, [some (.ref 1), some (.int v1), some (.int y3), some (.int y4)], [], M2)) hF (i := .iinc 3 1) rfl (fun _ => rfl) (fun y4 => ?_)
    refine dp_s1 hF (i := .goto (-46)) rfl (fun _ => rfl) ?_
    exact rfl
  refine dp_s1w (v3 + (1 : Int32)) (fun (y5 : Int32) => (50, [some (.ref 1), some (.int v1), some (.int v2), some (.int y5)], [], M)) hF (i := .iinc 3 1) rfl (fun _ => rfl) (fun y5 => ?_)
  refine dp_s1 hF (i := .goto (-46)) rfl (fun _ => rfl) ?_
  exact rfl
noncomputable def D_X2_indexOf_0 (xs : Nat → Int32) (xl d : Nat) (v1 : Int32) (v2 : Int32) (M : dp_M) : Option dp_Res := dp_lim true xs xl (dp_den true xs xl d) dp_m_X2_indexOf (0, [some (.ref 1), some (.int v1), some (.int v2), none], [], M)
noncomputable def D_X2_indexOf_2 (xs : Nat → Int32) (xl d : Nat) (v1 : Int32) (v2 : Int32) (v3 : Int32) (M : dp_M) : Option dp_Res := dp_lim true xs xl (dp_den true xs xl d) dp_m_X2_indexOf (2, [some (.ref 1), some (.int v1), some (.int v2), some (.int v3)], [], M)
theorem D_X2_indexOf_0_den (xs : Nat → Int32) (xl d : Nat) (a0 : Int32) (a1 : Int32) (M : dp_M) : dp_den true xs xl (d + 1) 66 [.ref 1, .int a0, .int a1] M = D_X2_indexOf_0 xs xl d a0 a1 M := rfl
set_option maxRecDepth 20000 in
theorem D_X2_indexOf_0_eq (xs : Nat → Int32) (xl d : Nat) (v1 : Int32) (v2 : Int32) (M : dp_M) : D_X2_indexOf_0 xs xl d v1 v2 M = dp_w (0 : Int32) (fun y1 => D_X2_indexOf_2 xs xl d v1 v2 y1 M) := by
  have hF := dp_den_grow (md := true) (xs := xs) (xl := xl) d
  unfold D_X2_indexOf_0
  refine dp_s1 hF (i := .iconst 0) rfl (fun _ => rfl) ?_
  refine dp_s1w (0 : Int32) (fun (y1 : Int32) => (2, [some (.ref 1), some (.int v1), some (.int v2), some (.int y1)], [], M)) hF (i := .istore_n 3) rfl (fun _ => rfl) (fun y1 => ?_)
  exact rfl
set_option maxRecDepth 20000 in
theorem D_X2_indexOf_2_eq (xs : Nat → Int32) (xl d : Nat) (v1 : Int32) (v2 : Int32) (v3 : Int32) (M : dp_M) : D_X2_indexOf_2 xs xl d v1 v2 v3 M = if v2 ≤ v3 then (some (.inl (some (.int v2)), M)) else (if v3 < 0 ∨ 4 ≤ Int32.toNatClampNeg v3 then none else (if (dp_I M 13 (Int32.toNatClampNeg v3)) = v1 then (some (.inl (some (.int v3)), M)) else (dp_w (v3 + (1 : Int32)) (fun y1 => D_X2_indexOf_2 xs xl d v1 v2 y1 M)))) := by
  have hF := dp_den_grow (md := true) (xs := xs) (xl := xl) d
  unfold D_X2_indexOf_2
  refine dp_s1 hF (i := .iload_n 3) rfl (fun _ => rfl) ?_
  refine dp_s1 hF (i := .iload_n 2) rfl (fun _ => rfl) ?_
  refine dp_s2 hF (i := .if_icmp .ge 21) (a := (25, [some (.ref 1), some (.int v1), some (.int v2), some (.int v3)], [], M)) (b := (7, [some (.ref 1), some (.int v1), some (.int v2), some (.int v3)], [], M)) rfl (fun _ => rfl) ?_ ?_
  · refine dp_s1 hF (i := .iload_n 2) rfl (fun _ => rfl) ?_
    exact dp_s0 hF (i := .ireturn) rfl (fun _ => rfl)
  refine dp_s1 hF (i := .aload_n 0) rfl (fun _ => rfl) ?_
  refine dp_s1 hF (i := .getfield 46) rfl (fun _ => rfl) ?_
  refine dp_s1 hF (i := .iload_n 3) rfl (fun _ => rfl) ?_
  refine dp_s3 hF (i := .iaload) rfl (fun _ => rfl) ?_
  refine dp_s1 hF (i := .iload_n 1) rfl (fun _ => rfl) ?_
  refine dp_s2 hF (i := .if_icmp .ne 5) (a := (17, [some (.ref 1), some (.int v1), some (.int v2), some (.int v3)], [], M)) (b := (19, [some (.ref 1), some (.int v1), some (.int v2), some (.int v3)], [], M)) rfl (fun _ => rfl) ?_ ?_
  · refine dp_s1 hF (i := .iload_n 3) rfl (fun _ => rfl) ?_
    exact dp_s0 hF (i := .ireturn) rfl (fun _ => rfl)
  refine dp_s1w (v3 + (1 : Int32)) (fun (y1 : Int32) => (22, [some (.ref 1), some (.int v1), some (.int v2), some (.int y1)], [], M)) hF (i := .iinc 3 1) rfl (fun _ => rfl) (fun y1 => ?_)
  refine dp_s1 hF (i := .goto (-20)) rfl (fun _ => rfl) ?_
  exact rfl
noncomputable def D_X2_makePlan_0 (xs : Nat → Int32) (xl d : Nat) (v1 : Int32) (M : dp_M) : Option dp_Res := dp_lim true xs xl (dp_den true xs xl d) dp_m_X2_makePlan (0, [some (.ref 1), some (.int v1), none, none, none, none], [], M)
noncomputable def D_X2_makePlan_8 (xs : Nat → Int32) (xl d : Nat) (v1 : Int32) (v2 : Int32) (v3 : Int32) (M : dp_M) : Option dp_Res := dp_lim true xs xl (dp_den true xs xl d) dp_m_X2_makePlan (8, [some (.ref 1), some (.int v1), some (.int v2), some (.int v3), none, none], [], M)
noncomputable def D_X2_makePlan_109 (xs : Nat → Int32) (xl d : Nat) (v1 : Int32) (v2 : Int32) (v3 : Int32) (v4 : Int32) (M : dp_M) : Option dp_Res := dp_lim true xs xl (dp_den true xs xl d) dp_m_X2_makePlan (109, [some (.ref 1), some (.int v1), some (.int v2), some (.int v3), some (.int v4), none], [], M)
noncomputable def D_X2_makePlan_54 (xs : Nat → Int32) (xl d : Nat) (v1 : Int32) (v2 : Int32) (v3 : Int32) (v4 : Int32) (vs0 : Int32) (M : dp_M) : Option dp_Res := dp_lim true xs xl (dp_den true xs xl d) dp_m_X2_makePlan (54, [some (.ref 1), some (.int v1), some (.int v2), some (.int v3), some (.int v4), none], [.int vs0], M)
noncomputable def D_X2_makePlan_109_a (xs : Nat → Int32) (xl d : Nat) (v1 : Int32) (v2 : Int32) (v3 : Int32) (v4 : Int32) (v5 : Int32) (M : dp_M) : Option dp_Res := dp_lim true xs xl (dp_den true xs xl d) dp_m_X2_makePlan (109, [some (.ref 1), some (.int v1), some (.int v2), some (.int v3), some (.int v4), some (.int v5)], [], M)
noncomputable def D_X2_makePlan_8_a (xs : Nat → Int32) (xl d : Nat) (v1 : Int32) (v2 : Int32) (v3 : Int32) (v4 : Int32) (v5 : Int32) (M : dp_M) : Option dp_Res := dp_lim true xs xl (dp_den true xs xl d) dp_m_X2_makePlan (8, [some (.ref 1), some (.int v1), some (.int v2), some (.int v3), some (.int v4), some (.int v5)], [], M)
noncomputable def D_X2_makePlan_54_a (xs : Nat → Int32) (xl d : Nat) (v1 : Int32) (v2 : Int32) (v3 : Int32) (v4 : Int32) (v5 : Int32) (vs0 : Int32) (M : dp_M) : Option dp_Res := dp_lim true xs xl (dp_den true xs xl d) dp_m_X2_makePlan (54, [some (.ref 1), some (.int v1), some (.int v2), some (.int v3), some (.int v4), some (.int v5)], [.int vs0], M)
theorem D_X2_makePlan_0_den (xs : Nat → Int32) (xl d : Nat) (a0 : Int32) (M : dp_M) : dp_den true xs xl (d + 1) 67 [.ref 1, .int a0] M = D_X2_makePlan_0 xs xl d a0 M := rfl
set_option maxRecDepth 20000 in
theorem D_X2_makePlan_0_eq (xs : Nat → Int32) (xl d : Nat) (v1 : Int32) (M : dp_M) : D_X2_makePlan_0 xs xl d v1 M = dp_bi (dp_den true xs xl d 65 [.ref 1, .int v1] M) (fun r2 M1 => dp_w (0 : Int32) (fun y3 => D_X2_makePlan_8 xs xl d v1 r2 y3 M1)) := by
  have hF := dp_den_grow (md := true) (xs := xs) (xl := xl) d
  unfold D_X2_makePlan_0
  refine dp_s1 hF (i := .aload_n 0) rfl (fun _ => rfl) ?_
  refine dp_s1 hF (i := .iload_n 1) rfl (fun _ => rfl) ?_
  refine dp_si (mj := dp_m_X2_gather) (i := .invokevirtual 96) rfl rfl (Or.inl rfl) rfl (fun _ => rfl) (fun r2 M1 => ?_)
  refine dp_s1 hF (i := .istore_n 2) rfl (fun _ => rfl) ?_
  refine dp_s1 hF (i := .iconst 0) rfl (fun _ => rfl) ?_
  refine dp_s1w (0 : Int32) (fun (y3 : Int32) => (8, [some (.ref 1), some (.int v1), some (.int r2), some (.int y3), none, none], [], M1)) hF (i := .istore_n 3) rfl (fun _ => rfl) (fun y3 => ?_)
  exact rfl
set_option maxRecDepth 20000 in
theorem D_X2_makePlan_8_eq (xs : Nat → Int32) (xl d : Nat) (v1 : Int32) (v2 : Int32) (v3 : Int32) (M : dp_M) : D_X2_makePlan_8 xs xl d v1 v2 v3 M = if v2 ≤ v3 then (dp_bi (dp_den true xs xl d 106 [.ref 14, .int v2, .int (dp_I M 1 1)] M) (fun r2 M1 => dp_w (0 : Int32) (fun y3 => D_X2_makePlan_109 xs xl d v1 v2 r2 y3 M1))) else (if v3 < 0 ∨ 4 ≤ Int32.toNatClampNeg v3 then none else (dp_w (dp_I M 13 (Int32.toNatClampNeg v3)) (fun y4 => if y4 < 0 ∨ 100 ≤ Int32.toNatClampNeg y4 then none else (if (dp_I M 9 (Int32.toNatClampNeg y4)) = (4 : Int32) then (D_X2_makePlan_54 xs xl d v1 v2 v3 y4 (13 : Int32) M) else (if y4 < 0 ∨ 100 ≤ Int32.toNatClampNeg y4 then none else (if y4 < 0 ∨ 100 ≤ Int32.toNatClampNeg y4 then none else (dp_bi (dp_den true xs xl d 104 [.int (dp_I M 9 (Int32.toNatClampNeg y4)), .int (dp_I M 10 (Int32.toNatClampNeg y4))] M) (fun r6 M5 => D_X2_makePlan_54 xs xl d v1 v2 v3 y4 r6 M5)))))))) := by
  have hF := dp_den_grow (md := true) (xs := xs) (xl := xl) d
  unfold D_X2_makePlan_8
  refine dp_s1 hF (i := .iload_n 3) rfl (fun _ => rfl) ?_
  refine dp_s1 hF (i := .iload_n 2) rfl (fun _ => rfl) ?_
  refine dp_s2 hF (i := .if_icmp .ge 83) (a := (93, [some (.ref 1), some (.int v1), some (.int v2), some (.int v3), none, none], [], M)) (b := (13, [some (.ref 1), some (.int v1), some (.int v2), some (.int v3), none, none], [], M)) rfl (fun _ => rfl) ?_ ?_
  · refine dp_s1 hF (i := .aload_n 0) rfl (fun _ => rfl) ?_
    refine dp_s1 hF (i := .getfield 52) rfl (fun _ => rfl) ?_
    refine dp_s1 hF (i := .iload_n 2) rfl (fun _ => rfl) ?_
    refine dp_s1 hF (i := .aload_n 0) rfl (fun _ => rfl) ?_
    refine dp_s1 hF (i := .getfield 60) rfl (fun _ => rfl) ?_
    refine dp_si (mj := dp_m_X4_search) (i := .invokevirtual 116) rfl rfl (Or.inl rfl) rfl (fun _ => rfl) (fun r2 M1 => ?_)
    refine dp_s1 hF (i := .istore_n 3) rfl (fun _ => rfl) ?_
    refine dp_s1 hF (i := .iconst 0) rfl (fun _ => rfl) ?_
    refine dp_s1w (0 : Int32) (fun (y3 : Int32) => (109, [some (.ref 1), some (.int v1), some (.int v2), some (.int r2), some (.int y3), none], [], M1)) hF (i := .istore 4) rfl (fun _ => rfl) (fun y3 => ?_)
    exact rfl
  refine dp_s1 hF (i := .aload_n 0) rfl (fun _ => rfl) ?_
  refine dp_s1 hF (i := .getfield 46) rfl (fun _ => rfl) ?_
  refine dp_s1 hF (i := .iload_n 3) rfl (fun _ => rfl) ?_
  refine dp_s3 hF (i := .iaload) rfl (fun _ => rfl) ?_
  refine dp_s1w (dp_I M 13 (Int32.toNatClampNeg v3)) (fun (y4 : Int32) => (21, [some (.ref 1), some (.int v1), some (.int v2), some (.int v3), some (.int y4), none], [], M)) hF (i := .istore 4) rfl (fun _ => rfl) (fun y4 => ?_)
  refine dp_s1 hF (i := .aload_n 0) rfl (fun _ => rfl) ?_
  refine dp_s1 hF (i := .getfield 33) rfl (fun _ => rfl) ?_
  refine dp_s1 hF (i := .iload 4) rfl (fun _ => rfl) ?_
  refine dp_s3 hF (i := .iaload) rfl (fun _ => rfl) ?_
  refine dp_s1 hF (i := .iconst 4) rfl (fun _ => rfl) ?_
  refine dp_s2 hF (i := .if_icmp .ne 8) (a := (32, [some (.ref 1), some (.int v1), some (.int v2), some (.int v3), some (.int y4), none], [], M)) (b := (37, [some (.ref 1), some (.int v1), some (.int v2), some (.int v3), some (.int y4), none], [], M)) rfl (fun _ => rfl) ?_ ?_
  · refine dp_s1 hF (i := .bipush 13) rfl (fun _ => rfl) ?_
    refine dp_s1 hF (i := .goto 20) rfl (fun _ => rfl) ?_
    exact rfl
  refine dp_s1 hF (i := .aload_n 0) rfl (fun _ => rfl) ?_
  refine dp_s1 hF (i := .getfield 33) rfl (fun _ => rfl) ?_
  refine dp_s1 hF (i := .iload 4) rfl (fun _ => rfl) ?_
  refine dp_s3 hF (i := .iaload) rfl (fun _ => rfl) ?_
  refine dp_s1 hF (i := .aload_n 0) rfl (fun _ => rfl) ?_
  refine dp_s1 hF (i := .getfield 36) rfl (fun _ => rfl) ?_
  refine dp_s1 hF (i := .iload 4) rfl (fun _ => rfl) ?_
  refine dp_s3 hF (i := .iaload) rfl (fun _ => rfl) ?_
  refine dp_si (mj := dp_m_X4_placeOf) (i := .invokestatic 106) rfl rfl (Or.inl rfl) rfl (fun _ => rfl) (fun r6 M5 => ?_)
  exact rfl
set_option maxRecDepth 20000 in
theorem D_X2_makePlan_109_eq (xs : Nat → Int32) (xl d : Nat) (v1 : Int32) (v2 : Int32) (v3 : Int32) (v4 : Int32) (M : dp_M) : D_X2_makePlan_109 xs xl d v1 v2 v3 v4 M = if v3 ≤ v4 then (if v1 < 0 ∨ dp_len M 25 ≤ Int32.toNatClampNeg v1 then none else dp_w (dp_setI M 25 (Int32.toNatClampNeg v1) v3) (fun M1 => if v1 < 0 ∨ dp_len M1 26 ≤ Int32.toNatClampNeg v1 then none else dp_w (dp_setI M1 26 (Int32.toNatClampNeg v1) (0 : Int32)) (fun M2 => some (.inl (some (.int v3)), M2)))) else (if v4 < 0 ∨ 16 ≤ Int32.toNatClampNeg v4 then none else (dp_w (dp_I M 15 (Int32.toNatClampNeg v4)) (fun y3 => if (y3 >>> ((6 : Int32) &&& 31)) < 0 ∨ 4 ≤ Int32.toNatClampNeg (y3 >>> ((6 : Int32) &&& 31)) then none else (if ((v1 * (16 : Int32)) + v4) < 0 ∨ dp_len M 27 ≤ Int32.toNatClampNeg ((v1 * (16 : Int32)) + v4) then none else dp_w (dp_setI M 27 (Int32.toNatClampNeg ((v1 * (16 : Int32)) + v4)) (((dp_I M 13 (Int32.toNatClampNeg (y3 >>> ((6 : Int32) &&& 31)))) * (64 : Int32)) + (y3 &&& (63 : Int32)))) (fun M4 => dp_w (v4 + (1 : Int32)) (fun y5 => D_X2_makePlan_109_a xs xl d v1 v2 v3 y5 y3 M4)))))) := by
  have hF := dp_den_grow (md := true) (xs := xs) (xl := xl) d
  unfold D_X2_makePlan_109
  refine dp_s1 hF (i := .iload 4) rfl (fun _ => rfl) ?_
  refine dp_s1 hF (i := .iload_n 3) rfl (fun _ => rfl) ?_
  refine dp_s2 hF (i := .if_icmp .ge 52) (a := (164, [some (.ref 1), some (.int v1), some (.int v2), some (.int v3), some (.int v4), none], [], M)) (b := (115, [some (.ref 1), some (.int v1), some (.int v2), some (.int v3), some (.int v4), none], [], M)) rfl (fun _ => rfl) ?_ ?_
  · refine dp_s1 hF (i := .aload_n 0) rfl (fun _ => rfl) ?_
    refine dp_s1 hF (i := .getfield 63) rfl (fun _ => rfl) ?_
    refine dp_s1 hF (i := .iload_n 1) rfl (fun _ => rfl) ?_
    refine dp_s1 hF (i := .iload_n 3) rfl (fun _ => rfl) ?_
    refine dp_s3w (dp_setI M 25 (Int32.toNatClampNeg v1) v3) (fun (M1 : dp_M) => (171, [some (.ref 1), some (.int v1), some (.int v2), some (.int v3), some (.int v4), none], [], M1)) hF (i := .iastore) rfl (fun _ => rfl) (fun M1 => ?_)
    refine dp_s1 hF (i := .aload_n 0) rfl (fun _ => rfl) ?_
    refine dp_s1 hF (i := .getfield 66) rfl (fun _ => rfl) ?_
    refine dp_s1 hF (i := .iload_n 1) rfl (fun _ => rfl) ?_
    refine dp_s1 hF (i := .iconst 0) rfl (fun _ => rfl) ?_
    refine dp_s3w (dp_setI M1 26 (Int32.toNatClampNeg v1) (0 : Int32)) (fun (M2 : dp_M) => (178, [some (.ref 1), some (.int v1), some (.int v2), some (.int v3), some (.int v4), none], [], M2)) hF (i := .iastore) rfl (fun _ => rfl) (fun M2 => ?_)
    refine dp_s1 hF (i := .iload_n 3) rfl (fun _ => rfl) ?_
    exact dp_s0 hF (i := .ireturn) rfl (fun _ => rfl)
  refine dp_s1 hF (i := .aload_n 0) rfl (fun _ => rfl) ?_
  refine dp_s1 hF (i := .getfield 52) rfl (fun _ => rfl) ?_
  refine dp_s1 hF (i := .getfield 119) rfl (fun _ => rfl) ?_
  refine dp_s1 hF (i := .iload 4) rfl (fun _ => rfl) ?_
  refine dp_s3 hF (i := .iaload) rfl (fun _ => rfl) ?_
  refine dp_s1w (dp_I M 15 (Int32.toNatClampNeg v4)) (fun (y3 : Int32) => (127, [some (.ref 1), some (.int v1), some (.int v2), some (.int v3), some (.int v4), some (.int y3)], [], M)) hF (i := .istore 5) rfl (fun _ => rfl) (fun y3 => ?_)
  refine dp_s1 hF (i := .aload_n 0) rfl (fun _ => rfl) ?_
  refine dp_s1 hF (i := .getfield 69) rfl (fun _ => rfl) ?_
  refine dp_s1 hF (i := .iload_n 1) rfl (fun _ => rfl) ?_
  refine dp_s1 hF (i := .bipush 16) rfl (fun _ => rfl) ?_
  refine dp_s1 hF (i := .imul) rfl (fun _ => rfl) ?_
  refine dp_s1 hF (i := .iload 4) rfl (fun _ => rfl) ?_
  refine dp_s1 hF (i := .iadd) rfl (fun _ => rfl) ?_
  refine dp_s1 hF (i := .aload_n 0) rfl (fun _ => rfl) ?_
  refine dp_s1 hF (i := .getfield 46) rfl (fun _ => rfl) ?_
  refine dp_s1 hF (i := .iload 5) rfl (fun _ => rfl) ?_
  refine dp_s1 hF (i := .bipush 6) rfl (fun _ => rfl) ?_
  refine dp_s1 hF (i := .ishr) rfl (fun _ => rfl) ?_
  refine dp_s3 hF (i := .iaload) rfl (fun _ => rfl) ?_
  refine dp_s1 hF (i := .bipush 64) rfl (fun _ => rfl) ?_
  refine dp_s1 hF (i := .imul) rfl (fun _ => rfl) ?_
  refine dp_s1 hF (i := .iload 5) rfl (fun _ => rfl) ?_
  refine dp_s1 hF (i := .bipush 63) rfl (fun _ => rfl) ?_
  refine dp_s1 hF (i := .iand) rfl (fun _ => rfl) ?_
  refine dp_s1 hF (i := .iadd) rfl (fun _ => rfl) ?_
  refine dp_s3w (dp_setI M 27 (Int32.toNatClampNeg ((v1 * (16 : Int32)) + v4)) (((dp_I M 13 (Int32.toNatClampNeg (y3 >>> ((6 : Int32) &&& 31)))) * (64 : Int32)) + (y3 &&& (63 : Int32)))) (fun (M4 : dp_M) => (158, [some (.ref 1), some (.int v1), some (.int v2), some (.int v3), some (.int v4), some (.int y3)], [], M4)) hF (i := .iastore) rfl (fun _ => rfl) (fun M4 => ?_)
  refine dp_s1w (v4 + (1 : Int32)) (fun (y5 : Int32) => (161, [some (.ref 1), some (.int v1), some (.int v2), some (.int v3), some (.int y5), some (.int y3)], [], M4)) hF (i := .iinc 4 1) rfl (fun _ => rfl) (fun y5 => ?_)
  refine dp_s1 hF (i := .goto (-52)) rfl (fun _ => rfl) ?_
  exact rfl
set_option maxRecDepth 20000 in
theorem D_X2_makePlan_54_eq (xs : Nat → Int32) (xl d : Nat) (v1 : Int32) (v2 : Int32) (v3 : Int32) (v4 : Int32) (vs0 : Int32) (M : dp_M) : D_X2_makePlan_54 xs xl d v1 v2 v3 v4 vs0 M = if v4 < 0 ∨ 100 ≤ Int32.toNatClampNeg v4 then none else (if (dp_I M 2 (Int32.toNatClampNeg v4)) = 0 then (dp_bi (dp_den true xs xl d 64 [.ref 1, .int v3, .int v2] M) (fun r2 M1 => dp_bv (dp_den true xs xl d 105 [.ref 14, .int v3, .int vs0, .int (1 : Int32), .int r2] M1) (fun M3 => dp_w (v3 + (1 : Int32)) (fun y4 => D_X2_makePlan_8_a xs xl d v1 v2 y4 v4 vs0 M3)))) else (dp_bi (dp_den true xs xl d 64 [.ref 1, .int v3, .int v2] M) (fun r6 M5 => dp_bv (dp_den true xs xl d 105 [.ref 14, .int v3, .int vs0, .int (0 : Int32), .int r6] M5) (fun M7 => dp_w (v3 + (1 : Int32)) (fun y8 => D_X2_makePlan_8_a xs xl d v1 v2 y8 v4 vs0 M7))))) := by
  have hF := dp_den_grow (md := true) (xs := xs) (xl := xl) d
  unfold D_X2_makePlan_54
  refine dp_s1 hF (i := .istore 5) rfl (fun _ => rfl) ?_
  refine dp_s1 hF (i := .aload_n 0) rfl (fun _ => rfl) ?_
  refine dp_s1 hF (i := .getfield 52) rfl (fun _ => rfl) ?_
  refine dp_s1 hF (i := .iload_n 3) rfl (fun _ => rfl) ?_
  refine dp_s1 hF (i := .iload 5) rfl (fun _ => rfl) ?_
  refine dp_s1 hF (i := .aload_n 0) rfl (fun _ => rfl) ?_
  refine dp_s1 hF (i := .getfield 11) rfl (fun _ => rfl) ?_
  refine dp_s1 hF (i := .iload 4) rfl (fun _ => rfl) ?_
  refine dp_s3 hF (i := .iaload) rfl (fun _ => rfl) ?_
  refine dp_s2 hF (i := .ifCond .ne 7) (a := (73, [some (.ref 1), some (.int v1), some (.int v2), some (.int v3), some (.int v4), some (.int vs0)], [.int vs0, .int v3, .ref 14], M)) (b := (77, [some (.ref 1), some (.int v1), some (.int v2), some (.int v3), some (.int v4), some (.int vs0)], [.int vs0, .int v3, .ref 14], M)) rfl (fun _ => rfl) ?_ ?_
  · refine dp_s1 hF (i := .iconst 1) rfl (fun _ => rfl) ?_
    refine dp_s1 hF (i := .goto 4) rfl (fun _ => rfl) ?_
    refine dp_s1 hF (i := .aload_n 0) rfl (fun _ => rfl) ?_
    refine dp_s1 hF (i := .iload_n 3) rfl (fun _ => rfl) ?_
    refine dp_s1 hF (i := .iload_n 2) rfl (fun _ => rfl) ?_
    refine dp_si (mj := dp_m_X2_ahead) (i := .invokevirtual 109) rfl rfl (Or.inl rfl) rfl (fun _ => rfl) (fun r2 M1 => ?_)
    refine dp_sv (mj := dp_m_X4_set) (i := .invokevirtual 112) rfl rfl rfl rfl (fun _ => rfl) (fun M3 => ?_)
    refine dp_s1w (v3 + (1 : Int32)) (fun (y4 : Int32) => (90, [some (.ref 1), some (.int v1), some (.int v2), some (.int y4), some (.int v4), some (.int vs0)], [], M3)) hF (i := .iinc 3 1) rfl (fun _ => rfl) (fun y4 => ?_)
    refine dp_s1 hF (i := .goto (-82)) rfl (fun _ => rfl) ?_
    exact rfl
  refine dp_s1 hF (i := .iconst 0) rfl (fun _ => rfl) ?_
  refine dp_s1 hF (i := .aload_n 0) rfl (fun _ => rfl) ?_
  refine dp_s1 hF (i := .iload_n 3) rfl (fun _ => rfl) ?_
  refine dp_s1 hF (i := .iload_n 2) rfl (fun _ => rfl) ?_
  refine dp_si (mj := dp_m_X2_ahead) (i := .invokevirtual 109) rfl rfl (Or.inl rfl) rfl (fun _ => rfl) (fun r6 M5 => ?_)
  refine dp_sv (mj := dp_m_X4_set) (i := .invokevirtual 112) rfl rfl rfl rfl (fun _ => rfl) (fun M7 => ?_)
  refine dp_s1w (v3 + (1 : Int32)) (fun (y8 : Int32) => (90, [some (.ref 1), some (.int v1), some (.int v2), some (.int y8), some (.int v4), some (.int vs0)], [], M7)) hF (i := .iinc 3 1) rfl (fun _ => rfl) (fun y8 => ?_)
  refine dp_s1 hF (i := .goto (-82)) rfl (fun _ => rfl) ?_
  exact rfl
set_option maxRecDepth 20000 in
theorem D_X2_makePlan_109_a_eq (xs : Nat → Int32) (xl d : Nat) (v1 : Int32) (v2 : Int32) (v3 : Int32) (v4 : Int32) (v5 : Int32) (M : dp_M) : D_X2_makePlan_109_a xs xl d v1 v2 v3 v4 v5 M = if v3 ≤ v4 then (if v1 < 0 ∨ dp_len M 25 ≤ Int32.toNatClampNeg v1 then none else dp_w (dp_setI M 25 (Int32.toNatClampNeg v1) v3) (fun M1 => if v1 < 0 ∨ dp_len M1 26 ≤ Int32.toNatClampNeg v1 then none else dp_w (dp_setI M1 26 (Int32.toNatClampNeg v1) (0 : Int32)) (fun M2 => some (.inl (some (.int v3)), M2)))) else (if v4 < 0 ∨ 16 ≤ Int32.toNatClampNeg v4 then none else (dp_w (dp_I M 15 (Int32.toNatClampNeg v4)) (fun y3 => if (y3 >>> ((6 : Int32) &&& 31)) < 0 ∨ 4 ≤ Int32.toNatClampNeg (y3 >>> ((6 : Int32) &&& 31)) then none else (if ((v1 * (16 : Int32)) + v4) < 0 ∨ dp_len M 27 ≤ Int32.toNatClampNeg ((v1 * (16 : Int32)) + v4) then none else dp_w (dp_setI M 27 (Int32.toNatClampNeg ((v1 * (16 : Int32)) + v4)) (((dp_I M 13 (Int32.toNatClampNeg (y3 >>> ((6 : Int32) &&& 31)))) * (64 : Int32)) + (y3 &&& (63 : Int32)))) (fun M4 => dp_w (v4 + (1 : Int32)) (fun y5 => D_X2_makePlan_109_a xs xl d v1 v2 v3 y5 y3 M4)))))) := by
  have hF := dp_den_grow (md := true) (xs := xs) (xl := xl) d
  unfold D_X2_makePlan_109_a
  refine dp_s1 hF (i := .iload 4) rfl (fun _ => rfl) ?_
  refine dp_s1 hF (i := .iload_n 3) rfl (fun _ => rfl) ?_
  refine dp_s2 hF (i := .if_icmp .ge 52) (a := (164, [some (.ref 1), some (.int v1), some (.int v2), some (.int v3), some (.int v4), some (.int v5)], [], M)) (b := (115, [some (.ref 1), some (.int v1), some (.int v2), some (.int v3), some (.int v4), some (.int v5)], [], M)) rfl (fun _ => rfl) ?_ ?_
  · refine dp_s1 hF (i := .aload_n 0) rfl (fun _ => rfl) ?_
    refine dp_s1 hF (i := .getfield 63) rfl (fun _ => rfl) ?_
    refine dp_s1 hF (i := .iload_n 1) rfl (fun _ => rfl) ?_
    refine dp_s1 hF (i := .iload_n 3) rfl (fun _ => rfl) ?_
    refine dp_s3w (dp_setI M 25 (Int32.toNatClampNeg v1) v3) (fun (M1 : dp_M) => (171, [some (.ref 1), some (.int v1), some (.int v2), some (.int v3), some (.int v4), some (.int v5)], [], M1)) hF (i := .iastore) rfl (fun _ => rfl) (fun M1 => ?_)
    refine dp_s1 hF (i := .aload_n 0) rfl (fun _ => rfl) ?_
    refine dp_s1 hF (i := .getfield 66) rfl (fun _ => rfl) ?_
    refine dp_s1 hF (i := .iload_n 1) rfl (fun _ => rfl) ?_
    refine dp_s1 hF (i := .iconst 0) rfl (fun _ => rfl) ?_
    refine dp_s3w (dp_setI M1 26 (Int32.toNatClampNeg v1) (0 : Int32)) (fun (M2 : dp_M) => (178, [some (.ref 1), some (.int v1), some (.int v2), some (.int v3), some (.int v4), some (.int v5)], [], M2)) hF (i := .iastore) rfl (fun _ => rfl) (fun M2 => ?_)
    refine dp_s1 hF (i := .iload_n 3) rfl (fun _ => rfl) ?_
    exact dp_s0 hF (i := .ireturn) rfl (fun _ => rfl)
  refine dp_s1 hF (i := .aload_n 0) rfl (fun _ => rfl) ?_
  refine dp_s1 hF (i := .getfield 52) rfl (fun _ => rfl) ?_
  refine dp_s1 hF (i := .getfield 119) rfl (fun _ => rfl) ?_
  refine dp_s1 hF (i := .iload 4) rfl (fun _ => rfl) ?_
  refine dp_s3 hF (i := .iaload) rfl (fun _ => rfl) ?_
  refine dp_s1w (dp_I M 15 (Int32.toNatClampNeg v4)) (fun (y3 : Int32) => (127, [some (.ref 1), some (.int v1), some (.int v2), some (.int v3), some (.int v4), some (.int y3)], [], M)) hF (i := .istore 5) rfl (fun _ => rfl) (fun y3 => ?_)
  refine dp_s1 hF (i := .aload_n 0) rfl (fun _ => rfl) ?_
  refine dp_s1 hF (i := .getfield 69) rfl (fun _ => rfl) ?_
  refine dp_s1 hF (i := .iload_n 1) rfl (fun _ => rfl) ?_
  refine dp_s1 hF (i := .bipush 16) rfl (fun _ => rfl) ?_
  refine dp_s1 hF (i := .imul) rfl (fun _ => rfl) ?_
  refine dp_s1 hF (i := .iload 4) rfl (fun _ => rfl) ?_
  refine dp_s1 hF (i := .iadd) rfl (fun _ => rfl) ?_
  refine dp_s1 hF (i := .aload_n 0) rfl (fun _ => rfl) ?_
  refine dp_s1 hF (i := .getfield 46) rfl (fun _ => rfl) ?_
  refine dp_s1 hF (i := .iload 5) rfl (fun _ => rfl) ?_
  refine dp_s1 hF (i := .bipush 6) rfl (fun _ => rfl) ?_
  refine dp_s1 hF (i := .ishr) rfl (fun _ => rfl) ?_
  refine dp_s3 hF (i := .iaload) rfl (fun _ => rfl) ?_
  refine dp_s1 hF (i := .bipush 64) rfl (fun _ => rfl) ?_
  refine dp_s1 hF (i := .imul) rfl (fun _ => rfl) ?_
  refine dp_s1 hF (i := .iload 5) rfl (fun _ => rfl) ?_
  refine dp_s1 hF (i := .bipush 63) rfl (fun _ => rfl) ?_
  refine dp_s1 hF (i := .iand) rfl (fun _ => rfl) ?_
  refine dp_s1 hF (i := .iadd) rfl (fun _ => rfl) ?_
  refine dp_s3w (dp_setI M 27 (Int32.toNatClampNeg ((v1 * (16 : Int32)) + v4)) (((dp_I M 13 (Int32.toNatClampNeg (y3 >>> ((6 : Int32) &&& 31)))) * (64 : Int32)) + (y3 &&& (63 : Int32)))) (fun (M4 : dp_M) => (158, [some (.ref 1), some (.int v1), some (.int v2), some (.int v3), some (.int v4), some (.int y3)], [], M4)) hF (i := .iastore) rfl (fun _ => rfl) (fun M4 => ?_)
  refine dp_s1w (v4 + (1 : Int32)) (fun (y5 : Int32) => (161, [some (.ref 1), some (.int v1), some (.int v2), some (.int v3), some (.int y5), some (.int y3)], [], M4)) hF (i := .iinc 4 1) rfl (fun _ => rfl) (fun y5 => ?_)
  refine dp_s1 hF (i := .goto (-52)) rfl (fun _ => rfl) ?_
  exact rfl
set_option maxRecDepth 20000 in
theorem D_X2_makePlan_8_a_eq (xs : Nat → Int32) (xl d : Nat) (v1 : Int32) (v2 : Int32) (v3 : Int32) (v4 : Int32) (v5 : Int32) (M : dp_M) : D_X2_makePlan_8_a xs xl d v1 v2 v3 v4 v5 M = if v2 ≤ v3 then (dp_bi (dp_den true xs xl d 106 [.ref 14, .int v2, .int (dp_I M 1 1)] M) (fun r2 M1 => dp_w (0 : Int32) (fun y3 => D_X2_makePlan_109_a xs xl d v1 v2 r2 y3 v5 M1))) else (if v3 < 0 ∨ 4 ≤ Int32.toNatClampNeg v3 then none else (dp_w (dp_I M 13 (Int32.toNatClampNeg v3)) (fun y4 => if y4 < 0 ∨ 100 ≤ Int32.toNatClampNeg y4 then none else (if (dp_I M 9 (Int32.toNatClampNeg y4)) = (4 : Int32) then (D_X2_makePlan_54_a xs xl d v1 v2 v3 y4 v5 (13 : Int32) M) else (if y4 < 0 ∨ 100 ≤ Int32.toNatClampNeg y4 then none else (if y4 < 0 ∨ 100 ≤ Int32.toNatClampNeg y4 then none else (dp_bi (dp_den true xs xl d 104 [.int (dp_I M 9 (Int32.toNatClampNeg y4)), .int (dp_I M 10 (Int32.toNatClampNeg y4))] M) (fun r6 M5 => D_X2_makePlan_54_a xs xl d v1 v2 v3 y4 v5 r6 M5)))))))) := by
  have hF := dp_den_grow (md := true) (xs := xs) (xl := xl) d
  unfold D_X2_makePlan_8_a
  refine dp_s1 hF (i := .iload_n 3) rfl (fun _ => rfl) ?_
  refine dp_s1 hF (i := .iload_n 2) rfl (fun _ => rfl) ?_
  refine dp_s2 hF (i := .if_icmp .ge 83) (a := (93, [some (.ref 1), some (.int v1), some (.int v2), some (.int v3), some (.int v4), some (.int v5)], [], M)) (b := (13, [some (.ref 1), some (.int v1), some (.int v2), some (.int v3), some (.int v4), some (.int v5)], [], M)) rfl (fun _ => rfl) ?_ ?_
  · refine dp_s1 hF (i := .aload_n 0) rfl (fun _ => rfl) ?_
    refine dp_s1 hF (i := .getfield 52) rfl (fun _ => rfl) ?_
    refine dp_s1 hF (i := .iload_n 2) rfl (fun _ => rfl) ?_
    refine dp_s1 hF (i := .aload_n 0) rfl (fun _ => rfl) ?_
    refine dp_s1 hF (i := .getfield 60) rfl (fun _ => rfl) ?_
    refine dp_si (mj := dp_m_X4_search) (i := .invokevirtual 116) rfl rfl (Or.inl rfl) rfl (fun _ => rfl) (fun r2 M1 => ?_)
    refine dp_s1 hF (i := .istore_n 3) rfl (fun _ => rfl) ?_
    refine dp_s1 hF (i := .iconst 0) rfl (fun _ => rfl) ?_
    refine dp_s1w (0 : Int32) (fun (y3 : Int32) => (109, [some (.ref 1), some (.int v1), some (.int v2), some (.int r2), some (.int y3), some (.int v5)], [], M1)) hF (i := .istore 4) rfl (fun _ => rfl) (fun y3 => ?_)
    exact rfl
  refine dp_s1 hF (i := .aload_n 0) rfl (fun _ => rfl) ?_
  refine dp_s1 hF (i := .getfield 46) rfl (fun _ => rfl) ?_
  refine dp_s1 hF (i := .iload_n 3) rfl (fun _ => rfl) ?_
  refine dp_s3 hF (i := .iaload) rfl (fun _ => rfl) ?_
  refine dp_s1w (dp_I M 13 (Int32.toNatClampNeg v3)) (fun (y4 : Int32) => (21, [some (.ref 1), some (.int v1), some (.int v2), some (.int v3), some (.int y4), some (.int v5)], [], M)) hF (i := .istore 4) rfl (fun _ => rfl) (fun y4 => ?_)
  refine dp_s1 hF (i := .aload_n 0) rfl (fun _ => rfl) ?_
  refine dp_s1 hF (i := .getfield 33) rfl (fun _ => rfl) ?_
  refine dp_s1 hF (i := .iload 4) rfl (fun _ => rfl) ?_
  refine dp_s3 hF (i := .iaload) rfl (fun _ => rfl) ?_
  refine dp_s1 hF (i := .iconst 4) rfl (fun _ => rfl) ?_
  refine dp_s2 hF (i := .if_icmp .ne 8) (a := (32, [some (.ref 1), some (.int v1), some (.int v2), some (.int v3), some (.int y4), some (.int v5)], [], M)) (b := (37, [some (.ref 1), some (.int v1), some (.int v2), some (.int v3), some (.int y4), some (.int v5)], [], M)) rfl (fun _ => rfl) ?_ ?_
  · refine dp_s1 hF (i := .bipush 13) rfl (fun _ => rfl) ?_
    refine dp_s1 hF (i := .goto 20) rfl (fun _ => rfl) ?_
    exact rfl
  refine dp_s1 hF (i := .aload_n 0) rfl (fun _ => rfl) ?_
  refine dp_s1 hF (i := .getfield 33) rfl (fun _ => rfl) ?_
  refine dp_s1 hF (i := .iload 4) rfl (fun _ => rfl) ?_
  refine dp_s3 hF (i := .iaload) rfl (fun _ => rfl) ?_
  refine dp_s1 hF (i := .aload_n 0) rfl (fun _ => rfl) ?_
  refine dp_s1 hF (i := .getfield 36) rfl (fun _ => rfl) ?_
  refine dp_s1 hF (i := .iload 4) rfl (fun _ => rfl) ?_
  refine dp_s3 hF (i := .iaload) rfl (fun _ => rfl) ?_
  refine dp_si (mj := dp_m_X4_placeOf) (i := .invokestatic 106) rfl rfl (Or.inl rfl) rfl (fun _ => rfl) (fun r6 M5 => ?_)
  exact rfl
set_option maxRecDepth 20000 in
theorem D_X2_makePlan_54_a_eq (xs : Nat → Int32) (xl d : Nat) (v1 : Int32) (v2 : Int32) (v3 : Int32) (v4 : Int32) (v5 : Int32) (vs0 : Int32) (M : dp_M) : D_X2_makePlan_54_a xs xl d v1 v2 v3 v4 v5 vs0 M = if v4 < 0 ∨ 100 ≤ Int32.toNatClampNeg v4 then none else (if (dp_I M 2 (Int32.toNatClampNeg v4)) = 0 then (dp_bi (dp_den true xs xl d 64 [.ref 1, .int v3, .int v2] M) (fun r2 M1 => dp_bv (dp_den true xs xl d 105 [.ref 14, .int v3, .int vs0, .int (1 : Int32), .int r2] M1) (fun M3 => dp_w (v3 + (1 : Int32)) (fun y4 => D_X2_makePlan_8_a xs xl d v1 v2 y4 v4 vs0 M3)))) else (dp_bi (dp_den true xs xl d 64 [.ref 1, .int v3, .int v2] M) (fun r6 M5 => dp_bv (dp_den true xs xl d 105 [.ref 14, .int v3, .int vs0, .int (0 : Int32), .int r6] M5) (fun M7 => dp_w (v3 + (1 : Int32)) (fun y8 => D_X2_makePlan_8_a xs xl d v1 v2 y8 v4 vs0 M7))))) := by
  have hF := dp_den_grow (md := true) (xs := xs) (xl := xl) d
  unfold D_X2_makePlan_54_a
  refine dp_s1 hF (i := .istore 5) rfl (fun _ => rfl) ?_
  refine dp_s1 hF (i := .aload_n 0) rfl (fun _ => rfl) ?_
  refine dp_s1 hF (i := .getfield 52) rfl (fun _ => rfl) ?_
  refine dp_s1 hF (i := .iload_n 3) rfl (fun _ => rfl) ?_
  refine dp_s1 hF (i := .iload 5) rfl (fun _ => rfl) ?_
  refine dp_s1 hF (i := .aload_n 0) rfl (fun _ => rfl) ?_
  refine dp_s1 hF (i := .getfield 11) rfl (fun _ => rfl) ?_
  refine dp_s1 hF (i := .iload 4) rfl (fun _ => rfl) ?_
  refine dp_s3 hF (i := .iaload) rfl (fun _ => rfl) ?_
  refine dp_s2 hF (i := .ifCond .ne 7) (a := (73, [some (.ref 1), some (.int v1), some (.int v2), some (.int v3), some (.int v4), some (.int vs0)], [.int vs0, .int v3, .ref 14], M)) (b := (77, [some (.ref 1), some (.int v1), some (.int v2), some (.int v3), some (.int v4), some (.int vs0)], [.int vs0, .int v3, .ref 14], M)) rfl (fun _ => rfl) ?_ ?_
  · refine dp_s1 hF (i := .iconst 1) rfl (fun _ => rfl) ?_
    refine dp_s1 hF (i := .goto 4) rfl (fun _ => rfl) ?_
    refine dp_s1 hF (i := .aload_n 0) rfl (fun _ => rfl) ?_
    refine dp_s1 hF (i := .iload_n 3) rfl (fun _ => rfl) ?_
    refine dp_s1 hF (i := .iload_n 2) rfl (fun _ => rfl) ?_
    refine dp_si (mj := dp_m_X2_ahead) (i := .invokevirtual 109) rfl rfl (Or.inl rfl) rfl (fun _ => rfl) (fun r2 M1 => ?_)
    refine dp_sv (mj := dp_m_X4_set) (i := .invokevirtual 112) rfl rfl rfl rfl (fun _ => rfl) (fun M3 => ?_)
    refine dp_s1w (v3 + (1 : Int32)) (fun (y4 : Int32) => (90, [some (.ref 1), some (.int v1), some (.int v2), some (.int y4), some (.int v4), some (.int vs0)], [], M3)) hF (i := .iinc 3 1) rfl (fun _ => rfl) (fun y4 => ?_)
    refine dp_s1 hF (i := .goto (-82)) rfl (fun _ => rfl) ?_
    exact rfl
  refine dp_s1 hF (i := .iconst 0) rfl (fun _ => rfl) ?_
  refine dp_s1 hF (i := .aload_n 0) rfl (fun _ => rfl) ?_
  refine dp_s1 hF (i := .iload_n 3) rfl (fun _ => rfl) ?_
  refine dp_s1 hF (i := .iload_n 2) rfl (fun _ => rfl) ?_
  refine dp_si (mj := dp_m_X2_ahead) (i := .invokevirtual 109) rfl rfl (Or.inl rfl) rfl (fun _ => rfl) (fun r6 M5 => ?_)
  refine dp_sv (mj := dp_m_X4_set) (i := .invokevirtual 112) rfl rfl rfl rfl (fun _ => rfl) (fun M7 => ?_)
  refine dp_s1w (v3 + (1 : Int32)) (fun (y8 : Int32) => (90, [some (.ref 1), some (.int v1), some (.int v2), some (.int y8), some (.int v4), some (.int vs0)], [], M7)) hF (i := .iinc 3 1) rfl (fun _ => rfl) (fun y8 => ?_)
  refine dp_s1 hF (i := .goto (-82)) rfl (fun _ => rfl) ?_
  exact rfl
noncomputable def D_X2_plannedMove_0 (xs : Nat → Int32) (xl d : Nat) (v1 : Int32) (v2 : Int32) (v3 : Int32) (M : dp_M) : Option dp_Res := dp_lim true xs xl (dp_den true xs xl d) dp_m_X2_plannedMove (0, [some (.ref 1), some (.int v1), some (.int v2), some (.int v3), none], [], M)
theorem D_X2_plannedMove_0_den (xs : Nat → Int32) (xl d : Nat) (a0 : Int32) (a1 : Int32) (a2 : Int32) (M : dp_M) : dp_den true xs xl (d + 1) 68 [.ref 1, .int a0, .int a1, .int a2] M = D_X2_plannedMove_0 xs xl d a0 a1 a2 M := rfl
set_option maxRecDepth 20000 in
theorem D_X2_plannedMove_0_eq (xs : Nat → Int32) (xl d : Nat) (v1 : Int32) (v2 : Int32) (v3 : Int32) (M : dp_M) : D_X2_plannedMove_0 xs xl d v1 v2 v3 M = if ((v1 * (16 : Int32)) + v2) < 0 ∨ dp_len M 27 ≤ Int32.toNatClampNeg ((v1 * (16 : Int32)) + v2) then none else (dp_w (dp_I M 27 (Int32.toNatClampNeg ((v1 * (16 : Int32)) + v2))) (fun y1 => if v3 = (0 : Int32) then (some (.inl (some (.int (y1 >>> ((6 : Int32) &&& 31)))), M)) else if v3 = (1 : Int32) then (some (.inl (some (.int ((y1 >>> ((3 : Int32) &&& 31)) &&& (7 : Int32)))), M)) else if v3 = (2 : Int32) then (some (.inl (some (.int (y1 &&& (7 : Int32)))), M)) else (if v1 < 0 ∨ dp_len M 26 ≤ Int32.toNatClampNeg v1 then none else (if (dp_I M 26 (Int32.toNatClampNeg v1)) ≤ v2 then (some (.inl (some (.int (0 : Int32))), M)) else (some (.inl (some (.int (1 : Int32))), M)))))) := by
  have hF := dp_den_grow (md := true) (xs := xs) (xl := xl) d
  unfold D_X2_plannedMove_0
  refine dp_s1 hF (i := .aload_n 0) rfl (fun _ => rfl) ?_
  refine dp_s1 hF (i := .getfield 69) rfl (fun _ => rfl) ?_
  refine dp_s1 hF (i := .iload_n 1) rfl (fun _ => rfl) ?_
  refine dp_s1 hF (i := .bipush 16) rfl (fun _ => rfl) ?_
  refine dp_s1 hF (i := .imul) rfl (fun _ => rfl) ?_
  refine dp_s1 hF (i := .iload_n 2) rfl (fun _ => rfl) ?_
  refine dp_s1 hF (i := .iadd) rfl (fun _ => rfl) ?_
  refine dp_s3 hF (i := .iaload) rfl (fun _ => rfl) ?_
  refine dp_s1w (dp_I M 27 (Int32.toNatClampNeg ((v1 * (16 : Int32)) + v2))) (fun (y1 : Int32) => (13, [some (.ref 1), some (.int v1), some (.int v2), some (.int v3), some (.int y1)], [], M)) hF (i := .istore 4) rfl (fun _ => rfl) (fun y1 => ?_)
  refine dp_s1 hF (i := .iload_n 3) rfl (fun _ => rfl) ?_
  refine (dp_s (E := fun k => if v3 = (0 : Int32) then k (40, [some (.ref 1), some (.int v1), some (.int v2), some (.int v3), some (.int y1)], [], M) else if v3 = (1 : Int32) then k (46, [some (.ref 1), some (.int v1), some (.int v2), some (.int v3), some (.int y1)], [], M) else if v3 = (2 : Int32) then k (54, [some (.ref 1), some (.int v1), some (.int v2), some (.int v3), some (.int y1)], [], M) else k (60, [some (.ref 1), some (.int v1), some (.int v2), some (.int v3), some (.int y1)], [], M)) hF (i := .tableswitch 46 0 2 #[26, 32, 40]) rfl (fun _ => rfl)).trans ?_
  refine dp_ifc ?_ ?_
  · refine dp_s1 hF (i := .iload 4) rfl (fun _ => rfl) ?_
    refine dp_s1 hF (i := .bipush 6) rfl (fun _ => rfl) ?_
    refine dp_s1 hF (i := .ishr) rfl (fun _ => rfl) ?_
    exact dp_s0 hF (i := .ireturn) rfl (fun _ => rfl)
  refine dp_ifc ?_ ?_
  · refine dp_s1 hF (i := .iload 4) rfl (fun _ => rfl) ?_
    refine dp_s1 hF (i := .iconst 3) rfl (fun _ => rfl) ?_
    refine dp_s1 hF (i := .ishr) rfl (fun _ => rfl) ?_
    refine dp_s1 hF (i := .bipush 7) rfl (fun _ => rfl) ?_
    refine dp_s1 hF (i := .iand) rfl (fun _ => rfl) ?_
    exact dp_s0 hF (i := .ireturn) rfl (fun _ => rfl)
  refine dp_ifc ?_ ?_
  · refine dp_s1 hF (i := .iload 4) rfl (fun _ => rfl) ?_
    refine dp_s1 hF (i := .bipush 7) rfl (fun _ => rfl) ?_
    refine dp_s1 hF (i := .iand) rfl (fun _ => rfl) ?_
    exact dp_s0 hF (i := .ireturn) rfl (fun _ => rfl)
  refine dp_s1 hF (i := .iload_n 2) rfl (fun _ => rfl) ?_
  refine dp_s1 hF (i := .aload_n 0) rfl (fun _ => rfl) ?_
  refine dp_s1 hF (i := .getfield 66) rfl (fun _ => rfl) ?_
  refine dp_s1 hF (i := .iload_n 1) rfl (fun _ => rfl) ?_
  refine dp_s3 hF (i := .iaload) rfl (fun _ => rfl) ?_
  refine dp_s2 hF (i := .if_icmp .ge 7) (a := (74, [some (.ref 1), some (.int v1), some (.int v2), some (.int v3), some (.int y1)], [], M)) (b := (70, [some (.ref 1), some (.int v1), some (.int v2), some (.int v3), some (.int y1)], [], M)) rfl (fun _ => rfl) ?_ ?_
  · refine dp_s1 hF (i := .iconst 0) rfl (fun _ => rfl) ?_
    exact dp_s0 hF (i := .ireturn) rfl (fun _ => rfl)
  refine dp_s1 hF (i := .iconst 1) rfl (fun _ => rfl) ?_
  refine dp_s1 hF (i := .goto 4) rfl (fun _ => rfl) ?_
  exact dp_s0 hF (i := .ireturn) rfl (fun _ => rfl)
noncomputable def D_X2_movesLeft_0 (xs : Nat → Int32) (xl d : Nat) (v1 : Int32) (M : dp_M) : Option dp_Res := dp_lim true xs xl (dp_den true xs xl d) dp_m_X2_movesLeft (0, [some (.ref 1), some (.int v1)], [], M)
theorem D_X2_movesLeft_0_den (xs : Nat → Int32) (xl d : Nat) (a0 : Int32) (M : dp_M) : dp_den true xs xl (d + 1) 69 [.ref 1, .int a0] M = D_X2_movesLeft_0 xs xl d a0 M := rfl
set_option maxRecDepth 20000 in
theorem D_X2_movesLeft_0_eq (xs : Nat → Int32) (xl d : Nat) (v1 : Int32) (M : dp_M) : D_X2_movesLeft_0 xs xl d v1 M = if v1 < 0 ∨ dp_len M 25 ≤ Int32.toNatClampNeg v1 then none else (if (dp_I M 25 (Int32.toNatClampNeg v1)) = (-1 : Int32) then (some (.inl (some (.int (-1 : Int32))), M)) else (if v1 < 0 ∨ dp_len M 25 ≤ Int32.toNatClampNeg v1 then none else (if v1 < 0 ∨ dp_len M 26 ≤ Int32.toNatClampNeg v1 then none else (some (.inl (some (.int ((dp_I M 25 (Int32.toNatClampNeg v1)) - (dp_I M 26 (Int32.toNatClampNeg v1))))), M))))) := by
  have hF := dp_den_grow (md := true) (xs := xs) (xl := xl) d
  unfold D_X2_movesLeft_0
  refine dp_s1 hF (i := .aload_n 0) rfl (fun _ => rfl) ?_
  refine dp_s1 hF (i := .getfield 63) rfl (fun _ => rfl) ?_
  refine dp_s1 hF (i := .iload_n 1) rfl (fun _ => rfl) ?_
  refine dp_s3 hF (i := .iaload) rfl (fun _ => rfl) ?_
  refine dp_s1 hF (i := .iconst (-1)) rfl (fun _ => rfl) ?_
  refine dp_s2 hF (i := .if_icmp .ne 7) (a := (10, [some (.ref 1), some (.int v1)], [], M)) (b := (14, [some (.ref 1), some (.int v1)], [], M)) rfl (fun _ => rfl) ?_ ?_
  · refine dp_s1 hF (i := .iconst (-1)) rfl (fun _ => rfl) ?_
    refine dp_s1 hF (i := .goto 16) rfl (fun _ => rfl) ?_
    exact dp_s0 hF (i := .ireturn) rfl (fun _ => rfl)
  refine dp_s1 hF (i := .aload_n 0) rfl (fun _ => rfl) ?_
  refine dp_s1 hF (i := .getfield 63) rfl (fun _ => rfl) ?_
  refine dp_s1 hF (i := .iload_n 1) rfl (fun _ => rfl) ?_
  refine dp_s3 hF (i := .iaload) rfl (fun _ => rfl) ?_
  refine dp_s1 hF (i := .aload_n 0) rfl (fun _ => rfl) ?_
  refine dp_s1 hF (i := .getfield 66) rfl (fun _ => rfl) ?_
  refine dp_s1 hF (i := .iload_n 1) rfl (fun _ => rfl) ?_
  refine dp_s3 hF (i := .iaload) rfl (fun _ => rfl) ?_
  refine dp_s1 hF (i := .isub) rfl (fun _ => rfl) ?_
  exact dp_s0 hF (i := .ireturn) rfl (fun _ => rfl)
noncomputable def D_X2_workNext_0 (xs : Nat → Int32) (xl d : Nat) (v1 : Int32) (M : dp_M) : Option dp_Res := dp_lim true xs xl (dp_den true xs xl d) dp_m_X2_workNext (0, [some (.ref 1), some (.int v1), none, none], [], M)
noncomputable def D_X2_workNext_46 (xs : Nat → Int32) (xl d : Nat) (v1 : Int32) (v2 : Int32) (v3 : Int32) (vs0 : Int32) (vs1 : Int32) (M : dp_M) : Option dp_Res := dp_lim true xs xl (dp_den true xs xl d) dp_m_X2_workNext (46, [some (.ref 1), some (.int v1), some (.int v2), some (.int v3)], [.int vs0, .int vs1, .ref 10], M)
theorem D_X2_workNext_0_den (xs : Nat → Int32) (xl d : Nat) (a0 : Int32) (M : dp_M) : dp_den true xs xl (d + 1) 70 [.ref 1, .int a0] M = D_X2_workNext_0 xs xl d a0 M := rfl
set_option maxRecDepth 20000 in
theorem D_X2_workNext_0_eq (xs : Nat → Int32) (xl d : Nat) (v1 : Int32) (M : dp_M) : D_X2_workNext_0 xs xl d v1 M = if v1 < 0 ∨ dp_len M 26 ≤ Int32.toNatClampNeg v1 then none else (dp_bi (dp_den true xs xl d 68 [.ref 1, .int v1, .int (dp_I M 26 (Int32.toNatClampNeg v1)), .int (0 : Int32)] M) (fun r2 M1 => if v1 < 0 ∨ dp_len M1 26 ≤ Int32.toNatClampNeg v1 then none else (dp_bi (dp_den true xs xl d 68 [.ref 1, .int v1, .int (dp_I M1 26 (Int32.toNatClampNeg v1)), .int (2 : Int32)] M1) (fun r4 M3 => if (3 : Int32) ≤ r4 then (D_X2_workNext_46 xs xl d v1 r2 r4 (-1 : Int32) r2 M3) else (dp_bi (dp_den true xs xl d 58 [.ref 1, .int v1, .int r4] M3) (fun r6 M5 => D_X2_workNext_46 xs xl d v1 r2 r4 r6 r2 M5)))))) := by
  have hF := dp_den_grow (md := true) (xs := xs) (xl := xl) d
  unfold D_X2_workNext_0
  refine dp_s1 hF (i := .aload_n 0) rfl (fun _ => rfl) ?_
  refine dp_s1 hF (i := .iload_n 1) rfl (fun _ => rfl) ?_
  refine dp_s1 hF (i := .aload_n 0) rfl (fun _ => rfl) ?_
  refine dp_s1 hF (i := .getfield 66) rfl (fun _ => rfl) ?_
  refine dp_s1 hF (i := .iload_n 1) rfl (fun _ => rfl) ?_
  refine dp_s3 hF (i := .iaload) rfl (fun _ => rfl) ?_
  refine dp_s1 hF (i := .iconst 0) rfl (fun _ => rfl) ?_
  refine dp_si (mj := dp_m_X2_plannedMove) (i := .invokevirtual 122) rfl rfl (Or.inl rfl) rfl (fun _ => rfl) (fun r2 M1 => ?_)
  refine dp_s1 hF (i := .istore_n 2) rfl (fun _ => rfl) ?_
  refine dp_s1 hF (i := .aload_n 0) rfl (fun _ => rfl) ?_
  refine dp_s1 hF (i := .iload_n 1) rfl (fun _ => rfl) ?_
  refine dp_s1 hF (i := .aload_n 0) rfl (fun _ => rfl) ?_
  refine dp_s1 hF (i := .getfield 66) rfl (fun _ => rfl) ?_
  refine dp_s1 hF (i := .iload_n 1) rfl (fun _ => rfl) ?_
  refine dp_s3 hF (i := .iaload) rfl (fun _ => rfl) ?_
  refine dp_s1 hF (i := .iconst 2) rfl (fun _ => rfl) ?_
  refine dp_si (mj := dp_m_X2_plannedMove) (i := .invokevirtual 122) rfl rfl (Or.inl rfl) rfl (fun _ => rfl) (fun r4 M3 => ?_)
  refine dp_s1 hF (i := .istore_n 3) rfl (fun _ => rfl) ?_
  refine dp_s1 hF (i := .aload_n 0) rfl (fun _ => rfl) ?_
  refine dp_s1 hF (i := .getfield 36) rfl (fun _ => rfl) ?_
  refine dp_s1 hF (i := .iload_n 2) rfl (fun _ => rfl) ?_
  refine dp_s1 hF (i := .iload_n 3) rfl (fun _ => rfl) ?_
  refine dp_s1 hF (i := .iconst 3) rfl (fun _ => rfl) ?_
  refine dp_s2 hF (i := .if_icmp .ge 12) (a := (45, [some (.ref 1), some (.int v1), some (.int r2), some (.int r4)], [.int r2, .ref 10], M3)) (b := (36, [some (.ref 1), some (.int v1), some (.int r2), some (.int r4)], [.int r2, .ref 10], M3)) rfl (fun _ => rfl) ?_ ?_
  · refine dp_s1 hF (i := .iconst (-1)) rfl (fun _ => rfl) ?_
    exact rfl
  refine dp_s1 hF (i := .aload_n 0) rfl (fun _ => rfl) ?_
  refine dp_s1 hF (i := .iload_n 1) rfl (fun _ => rfl) ?_
  refine dp_s1 hF (i := .iload_n 3) rfl (fun _ => rfl) ?_
  refine dp_si (mj := dp_m_X2_heightOf) (i := .invokevirtual 81) rfl rfl (Or.inl rfl) rfl (fun _ => rfl) (fun r6 M5 => ?_)
  refine dp_s1 hF (i := .goto 4) rfl (fun _ => rfl) ?_
  exact rfl
set_option maxRecDepth 20000 in
theorem D_X2_workNext_46_eq (xs : Nat → Int32) (xl d : Nat) (v1 : Int32) (v2 : Int32) (v3 : Int32) (vs0 : Int32) (vs1 : Int32) (M : dp_M) : D_X2_workNext_46 xs xl d v1 v2 v3 vs0 vs1 M = if vs1 < 0 ∨ 100 ≤ Int32.toNatClampNeg vs1 then none else dp_w (dp_setI M 10 (Int32.toNatClampNeg vs1) vs0) (fun M1 => if v2 < 0 ∨ 100 ≤ Int32.toNatClampNeg v2 then none else dp_w (dp_setI M1 9 (Int32.toNatClampNeg v2) v3) (fun M2 => if v1 < 0 ∨ dp_len M2 26 ≤ Int32.toNatClampNeg v1 then none else (if v1 < 0 ∨ dp_len M2 26 ≤ Int32.toNatClampNeg v1 then none else dp_w (dp_setI M2 26 (Int32.toNatClampNeg v1) ((dp_I M2 26 (Int32.toNatClampNeg v1)) + (1 : Int32))) (fun M3 => dp_w (dp_setI M3 1 3 ((dp_I M3 1 3) + (1 : Int32))) (fun M4 => some (.inl none, M4)))))) := by
  have hF := dp_den_grow (md := true) (xs := xs) (xl := xl) d
  unfold D_X2_workNext_46
  refine dp_s3w (dp_setI M 10 (Int32.toNatClampNeg vs1) vs0) (fun (M1 : dp_M) => (47, [some (.ref 1), some (.int v1), some (.int v2), some (.int v3)], [], M1)) hF (i := .iastore) rfl (fun _ => rfl) (fun M1 => ?_)
  refine dp_s1 hF (i := .aload_n 0) rfl (fun _ => rfl) ?_
  refine dp_s1 hF (i := .getfield 33) rfl (fun _ => rfl) ?_
  refine dp_s1 hF (i := .iload_n 2) rfl (fun _ => rfl) ?_
  refine dp_s1 hF (i := .iload_n 3) rfl (fun _ => rfl) ?_
  refine dp_s3w (dp_setI M1 9 (Int32.toNatClampNeg v2) v3) (fun (M2 : dp_M) => (54, [some (.ref 1), some (.int v1), some (.int v2), some (.int v3)], [], M2)) hF (i := .iastore) rfl (fun _ => rfl) (fun M2 => ?_)
  refine dp_s1 hF (i := .aload_n 0) rfl (fun _ => rfl) ?_
  refine dp_s1 hF (i := .getfield 66) rfl (fun _ => rfl) ?_
  refine dp_s1 hF (i := .iload_n 1) rfl (fun _ => rfl) ?_
  refine dp_s1 hF (i := .dup2) rfl (fun _ => rfl) ?_
  refine dp_s3 hF (i := .iaload) rfl (fun _ => rfl) ?_
  refine dp_s1 hF (i := .iconst 1) rfl (fun _ => rfl) ?_
  refine dp_s1 hF (i := .iadd) rfl (fun _ => rfl) ?_
  refine dp_s3w (dp_setI M2 26 (Int32.toNatClampNeg v1) ((dp_I M2 26 (Int32.toNatClampNeg v1)) + (1 : Int32))) (fun (M3 : dp_M) => (64, [some (.ref 1), some (.int v1), some (.int v2), some (.int v3)], [], M3)) hF (i := .iastore) rfl (fun _ => rfl) (fun M3 => ?_)
  refine dp_s1 hF (i := .aload_n 0) rfl (fun _ => rfl) ?_
  refine dp_s1 hF (i := .dup) rfl (fun _ => rfl) ?_
  refine dp_s1 hF (i := .getfield 126) rfl (fun _ => rfl) ?_
  refine dp_s1 hF (i := .iconst 1) rfl (fun _ => rfl) ?_
  refine dp_s1 hF (i := .iadd) rfl (fun _ => rfl) ?_
  refine dp_s1w (dp_setI M3 1 3 ((dp_I M3 1 3) + (1 : Int32))) (fun (M4 : dp_M) => (74, [some (.ref 1), some (.int v1), some (.int v2), some (.int v3)], [], M4)) hF (i := .putfield 126) rfl (fun _ => rfl) (fun M4 => ?_)
  exact dp_s0 hF (i := .return_) rfl (fun _ => rfl)
noncomputable def D_X2_boundOf_0 (xs : Nat → Int32) (xl d : Nat) (v1 : Int32) (M : dp_M) : Option dp_Res := dp_lim true xs xl (dp_den true xs xl d) dp_m_X2_boundOf (0, [some (.ref 1), some (.int v1), none, none], [], M)
noncomputable def D_X2_boundOf_4 (xs : Nat → Int32) (xl d : Nat) (v1 : Int32) (v2 : Int32) (v3 : Int32) (M : dp_M) : Option dp_Res := dp_lim true xs xl (dp_den true xs xl d) dp_m_X2_boundOf (4, [some (.ref 1), some (.int v1), some (.int v2), some (.int v3)], [], M)
theorem D_X2_boundOf_0_den (xs : Nat → Int32) (xl d : Nat) (a0 : Int32) (M : dp_M) : dp_den true xs xl (d + 1) 71 [.ref 1, .int a0] M = D_X2_boundOf_0 xs xl d a0 M := rfl
set_option maxRecDepth 20000 in
theorem D_X2_boundOf_0_eq (xs : Nat → Int32) (xl d : Nat) (v1 : Int32) (M : dp_M) : D_X2_boundOf_0 xs xl d v1 M = dp_w (0 : Int32) (fun y1 => dp_w (0 : Int32) (fun y2 => D_X2_boundOf_4 xs xl d v1 y1 y2 M)) := by
  have hF := dp_den_grow (md := true) (xs := xs) (xl := xl) d
  unfold D_X2_boundOf_0
  refine dp_s1 hF (i := .iconst 0) rfl (fun _ => rfl) ?_
  refine dp_s1w (0 : Int32) (fun (y1 : Int32) => (2, [some (.ref 1), some (.int v1), some (.int y1), none], [], M)) hF (i := .istore_n 2) rfl (fun _ => rfl) (fun y1 => ?_)
  refine dp_s1 hF (i := .iconst 0) rfl (fun _ => rfl) ?_
  refine dp_s1w (0 : Int32) (fun (y2 : Int32) => (4, [some (.ref 1), some (.int v1), some (.int y1), some (.int y2)], [], M)) hF (i := .istore_n 3) rfl (fun _ => rfl) (fun y2 => ?_)
  exact rfl
set_option maxRecDepth 20000 in
theorem D_X2_boundOf_4_eq (xs : Nat → Int32) (xl d : Nat) (v1 : Int32) (v2 : Int32) (v3 : Int32) (M : dp_M) : D_X2_boundOf_4 xs xl d v1 v2 v3 M = if (dp_I M 1 2) ≤ v3 then (some (.inl (some (.int v2)), M)) else (if v3 < 0 ∨ 100 ≤ Int32.toNatClampNeg v3 then none else (if (dp_I M 8 (Int32.toNatClampNeg v3)) = v1 then (if v3 < 0 ∨ 100 ≤ Int32.toNatClampNeg v3 then none else (if (dp_I M 9 (Int32.toNatClampNeg v3)) = (3 : Int32) then (dp_w (v3 + (1 : Int32)) (fun y1 => D_X2_boundOf_4 xs xl d v1 v2 y1 M)) else (if v3 < 0 ∨ 100 ≤ Int32.toNatClampNeg v3 then none else (if (dp_I M 2 (Int32.toNatClampNeg v3)) = 0 then (dp_w (v2 + (1 : Int32)) (fun y2 => dp_w (v3 + (1 : Int32)) (fun y3 => D_X2_boundOf_4 xs xl d v1 y2 y3 M))) else (dp_bi (dp_den true xs xl d 72 [.ref 1, .int v3] M) (fun r5 M4 => if r5 = 0 then (dp_w (v2 + (0 : Int32)) (fun y6 => dp_w (v3 + (1 : Int32)) (fun y7 => D_X2_boundOf_4 xs xl d v1 y6 y7 M4))) else (dp_w (v2 + (1 : Int32)) (fun y8 => dp_w (v3 + (1 : Int32)) (fun y9 => D_X2_boundOf_4 xs xl d v1 y8 y9 M4))))))))) else (dp_w (v3 + (1 : Int32)) (fun y10 => D_X2_boundOf_4 xs xl d v1 v2 y10 M)))) := by
  have hF := dp_den_grow (md := true) (xs := xs) (xl := xl) d
  unfold D_X2_boundOf_4
  refine dp_s1 hF (i := .iload_n 3) rfl (fun _ => rfl) ?_
  refine dp_s1 hF (i := .aload_n 0) rfl (fun _ => rfl) ?_
  refine dp_s1 hF (i := .getfield 78) rfl (fun _ => rfl) ?_
  refine dp_s2 hF (i := .if_icmp .ge 54) (a := (63, [some (.ref 1), some (.int v1), some (.int v2), some (.int v3)], [], M)) (b := (12, [some (.ref 1), some (.int v1), some (.int v2), some (.int v3)], [], M)) rfl (fun _ => rfl) ?_ ?_
  · refine dp_s1 hF (i := .iload_n 2) rfl (fun _ => rfl) ?_
    exact dp_s0 hF (i := .ireturn) rfl (fun _ => rfl)
  refine dp_s1 hF (i := .aload_n 0) rfl (fun _ => rfl) ?_
  refine dp_s1 hF (i := .getfield 30) rfl (fun _ => rfl) ?_
  refine dp_s1 hF (i := .iload_n 3) rfl (fun _ => rfl) ?_
  refine dp_s3 hF (i := .iaload) rfl (fun _ => rfl) ?_
  refine dp_s1 hF (i := .iload_n 1) rfl (fun _ => rfl) ?_
  refine dp_s2 hF (i := .if_icmp .ne 38) (a := (22, [some (.ref 1), some (.int v1), some (.int v2), some (.int v3)], [], M)) (b := (57, [some (.ref 1), some (.int v1), some (.int v2), some (.int v3)], [], M)) rfl (fun _ => rfl) ?_ ?_
  · refine dp_s1 hF (i := .aload_n 0) rfl (fun _ => rfl) ?_
    refine dp_s1 hF (i := .getfield 33) rfl (fun _ => rfl) ?_
    refine dp_s1 hF (i := .iload_n 3) rfl (fun _ => rfl) ?_
    refine dp_s3 hF (i := .iaload) rfl (fun _ => rfl) ?_
    refine dp_s1 hF (i := .iconst 3) rfl (fun _ => rfl) ?_
    refine dp_s2 hF (i := .if_icmp .eq 28) (a := (57, [some (.ref 1), some (.int v1), some (.int v2), some (.int v3)], [], M)) (b := (32, [some (.ref 1), some (.int v1), some (.int v2), some (.int v3)], [], M)) rfl (fun _ => rfl) ?_ ?_
    · refine dp_s1w (v3 + (1 : Int32)) (fun (y1 : Int32) => (60, [some (.ref 1), some (.int v1), some (.int v2), some (.int y1)], [], M)) hF (i := .iinc 3 1) rfl (fun _ => rfl) (fun y1 => ?_)
      refine dp_s1 hF (i := .goto (-56)) rfl (fun _ => rfl) ?_
      exact rfl
    refine dp_s1 hF (i := .iload_n 2) rfl (fun _ => rfl) ?_
    refine dp_s1 hF (i := .aload_n 0) rfl (fun _ => rfl) ?_
    refine dp_s1 hF (i := .getfield 11) rfl (fun _ => rfl) ?_
    refine dp_s1 hF (i := .iload_n 3) rfl (fun _ => rfl) ?_
    refine dp_s3 hF (i := .iaload) rfl (fun _ => rfl) ?_
    refine dp_s2 hF (i := .ifCond .eq 11) (a := (50, [some (.ref 1), some (.int v1), some (.int v2), some (.int v3)], [.int v2], M)) (b := (42, [some (.ref 1), some (.int v1), some (.int v2), some (.int v3)], [.int v2], M)) rfl (fun _ => rfl) ?_ ?_
    · refine dp_s1 hF (i := .iconst 1) rfl (fun _ => rfl) ?_
      refine dp_s1 hF (i := .goto 4) rfl (fun _ => rfl) ?_
      refine dp_s1 hF (i := .iadd) rfl (fun _ => rfl) ?_
      refine dp_s1w (v2 + (1 : Int32)) (fun (y2 : Int32) => (57, [some (.ref 1), some (.int v1), some (.int y2), some (.int v3)], [], M)) hF (i := .istore_n 2) rfl (fun _ => rfl) (fun y2 => ?_)
      refine dp_s1w (v3 + (1 : Int32)) (fun (y3 : Int32) => (60, [some (.ref 1), some (.int v1), some (.int y2), some (.int y3)], [], M)) hF (i := .iinc 3 1) rfl (fun _ => rfl) (fun y3 => ?_)
      refine dp_s1 hF (i := .goto (-56)) rfl (fun _ => rfl) ?_
      exact rfl
    refine dp_s1 hF (i := .aload_n 0) rfl (fun _ => rfl) ?_
    refine dp_s1 hF (i := .iload_n 3) rfl (fun _ => rfl) ?_
    refine dp_si (mj := dp_m_X2_liesAboveLeaving) (i := .invokevirtual 129) rfl rfl (Or.inr rfl) rfl (fun _ => rfl) (fun r5 M4 => ?_)
    refine dp_s2 hF (i := .ifCond .eq 7) (a := (54, [some (.ref 1), some (.int v1), some (.int v2), some (.int v3)], [.int v2], M4)) (b := (50, [some (.ref 1), some (.int v1), some (.int v2), some (.int v3)], [.int v2], M4)) rfl (fun _ => rfl) ?_ ?_
    · refine dp_s1 hF (i := .iconst 0) rfl (fun _ => rfl) ?_
      refine dp_s1 hF (i := .iadd) rfl (fun _ => rfl) ?_
      refine dp_s1w (v2 + (0 : Int32)) (fun (y6 : Int32) => (57, [some (.ref 1), some (.int v1), some (.int y6), some (.int v3)], [], M4)) hF (i := .istore_n 2) rfl (fun _ => rfl) (fun y6 => ?_)
      refine dp_s1w (v3 + (1 : Int32)) (fun (y7 : Int32) => (60, [some (.ref 1), some (.int v1), some (.int y6), some (.int y7)], [], M4)) hF (i := .iinc 3 1) rfl (fun _ => rfl) (fun y7 => ?_)
      refine dp_s1 hF (i := .goto (-56)) rfl (fun _ => rfl) ?_
      exact rfl
    refine dp_s1 hF (i := .iconst 1) rfl (fun _ => rfl) ?_
    refine dp_s1 hF (i := .goto 4) rfl (fun _ => rfl) ?_
    refine dp_s1 hF (i := .iadd) rfl (fun _ => rfl) ?_
    refine dp_s1w (v2 + (1 : Int32)) (fun (y8 : Int32) => (57, [some (.ref 1), some (.int v1), some (.int y8), some (.int v3)], [], M4)) hF (i := .istore_n 2) rfl (fun _ => rfl) (fun y8 => ?_)
    refine dp_s1w (v3 + (1 : Int32)) (fun (y9 : Int32) => (60, [some (.ref 1), some (.int v1), some (.int y8), some (.int y9)], [], M4)) hF (i := .iinc 3 1) rfl (fun _ => rfl) (fun y9 => ?_)
    refine dp_s1 hF (i := .goto (-56)) rfl (fun _ => rfl) ?_
    exact rfl
  refine dp_s1w (v3 + (1 : Int32)) (fun (y10 : Int32) => (60, [some (.ref 1), some (.int v1), some (.int v2), some (.int y10)], [], M)) hF (i := .iinc 3 1) rfl (fun _ => rfl) (fun y10 => ?_)
  refine dp_s1 hF (i := .goto (-56)) rfl (fun _ => rfl) ?_
  exact rfl
noncomputable def D_X2_liesAboveLeaving_0 (xs : Nat → Int32) (xl d : Nat) (v1 : Int32) (M : dp_M) : Option dp_Res := dp_lim true xs xl (dp_den true xs xl d) dp_m_X2_liesAboveLeaving (0, [some (.ref 1), some (.int v1), none], [], M)
noncomputable def D_X2_liesAboveLeaving_2 (xs : Nat → Int32) (xl d : Nat) (v1 : Int32) (v2 : Int32) (M : dp_M) : Option dp_Res := dp_lim true xs xl (dp_den true xs xl d) dp_m_X2_liesAboveLeaving (2, [some (.ref 1), some (.int v1), some (.int v2)], [], M)
theorem D_X2_liesAboveLeaving_0_den (xs : Nat → Int32) (xl d : Nat) (a0 : Int32) (M : dp_M) : dp_den true xs xl (d + 1) 72 [.ref 1, .int a0] M = D_X2_liesAboveLeaving_0 xs xl d a0 M := rfl
set_option maxRecDepth 20000 in
theorem D_X2_liesAboveLeaving_0_eq (xs : Nat → Int32) (xl d : Nat) (v1 : Int32) (M : dp_M) : D_X2_liesAboveLeaving_0 xs xl d v1 M = dp_w (0 : Int32) (fun y1 => D_X2_liesAboveLeaving_2 xs xl d v1 y1 M) := by
  have hF := dp_den_grow (md := true) (xs := xs) (xl := xl) d
  unfold D_X2_liesAboveLeaving_0
  refine dp_s1 hF (i := .iconst 0) rfl (fun _ => rfl) ?_
  refine dp_s1w (0 : Int32) (fun (y1 : Int32) => (2, [some (.ref 1), some (.int v1), some (.int y1)], [], M)) hF (i := .istore_n 2) rfl (fun _ => rfl) (fun y1 => ?_)
  exact rfl
set_option maxRecDepth 20000 in
theorem D_X2_liesAboveLeaving_2_eq (xs : Nat → Int32) (xl d : Nat) (v1 : Int32) (v2 : Int32) (M : dp_M) : D_X2_liesAboveLeaving_2 xs xl d v1 v2 M = if (dp_I M 1 2) ≤ v2 then (some (.inl (some (.int (0 : Int32))), M)) else (if v2 < 0 ∨ 100 ≤ Int32.toNatClampNeg v2 then none else (if v1 < 0 ∨ 100 ≤ Int32.toNatClampNeg v1 then none else (if (dp_I M 8 (Int32.toNatClampNeg v2)) = (dp_I M 8 (Int32.toNatClampNeg v1)) then (if v2 < 0 ∨ 100 ≤ Int32.toNatClampNeg v2 then none else (if v1 < 0 ∨ 100 ≤ Int32.toNatClampNeg v1 then none else (if (dp_I M 9 (Int32.toNatClampNeg v2)) = (dp_I M 9 (Int32.toNatClampNeg v1)) then (if v2 < 0 ∨ 100 ≤ Int32.toNatClampNeg v2 then none else (if v1 < 0 ∨ 100 ≤ Int32.toNatClampNeg v1 then none else (if (dp_I M 10 (Int32.toNatClampNeg v1)) ≤ (dp_I M 10 (Int32.toNatClampNeg v2)) then (dp_w (v2 + (1 : Int32)) (fun y1 => D_X2_liesAboveLeaving_2 xs xl d v1 y1 M)) else (if v2 < 0 ∨ 100 ≤ Int32.toNatClampNeg v2 then none else (if (dp_I M 2 (Int32.toNatClampNeg v2)) = 0 then (some (.inl (some (.int (1 : Int32))), M)) else (dp_w (v2 + (1 : Int32)) (fun y2 => D_X2_liesAboveLeaving_2 xs xl d v1 y2 M))))))) else (dp_w (v2 + (1 : Int32)) (fun y3 => D_X2_liesAboveLeaving_2 xs xl d v1 y3 M))))) else (dp_w (v2 + (1 : Int32)) (fun y4 => D_X2_liesAboveLeaving_2 xs xl d v1 y4 M))))) := by
  have hF := dp_den_grow (md := true) (xs := xs) (xl := xl) d
  unfold D_X2_liesAboveLeaving_2
  refine dp_s1 hF (i := .iload_n 2) rfl (fun _ => rfl) ?_
  refine dp_s1 hF (i := .aload_n 0) rfl (fun _ => rfl) ?_
  refine dp_s1 hF (i := .getfield 78) rfl (fun _ => rfl) ?_
  refine dp_s2 hF (i := .if_icmp .ge 65) (a := (72, [some (.ref 1), some (.int v1), some (.int v2)], [], M)) (b := (10, [some (.ref 1), some (.int v1), some (.int v2)], [], M)) rfl (fun _ => rfl) ?_ ?_
  · refine dp_s1 hF (i := .iconst 0) rfl (fun _ => rfl) ?_
    exact dp_s0 hF (i := .ireturn) rfl (fun _ => rfl)
  refine dp_s1 hF (i := .aload_n 0) rfl (fun _ => rfl) ?_
  refine dp_s1 hF (i := .getfield 30) rfl (fun _ => rfl) ?_
  refine dp_s1 hF (i := .iload_n 2) rfl (fun _ => rfl) ?_
  refine dp_s3 hF (i := .iaload) rfl (fun _ => rfl) ?_
  refine dp_s1 hF (i := .aload_n 0) rfl (fun _ => rfl) ?_
  refine dp_s1 hF (i := .getfield 30) rfl (fun _ => rfl) ?_
  refine dp_s1 hF (i := .iload_n 1) rfl (fun _ => rfl) ?_
  refine dp_s3 hF (i := .iaload) rfl (fun _ => rfl) ?_
  refine dp_s2 hF (i := .if_icmp .ne 44) (a := (25, [some (.ref 1), some (.int v1), some (.int v2)], [], M)) (b := (66, [some (.ref 1), some (.int v1), some (.int v2)], [], M)) rfl (fun _ => rfl) ?_ ?_
  · refine dp_s1 hF (i := .aload_n 0) rfl (fun _ => rfl) ?_
    refine dp_s1 hF (i := .getfield 33) rfl (fun _ => rfl) ?_
    refine dp_s1 hF (i := .iload_n 2) rfl (fun _ => rfl) ?_
    refine dp_s3 hF (i := .iaload) rfl (fun _ => rfl) ?_
    refine dp_s1 hF (i := .aload_n 0) rfl (fun _ => rfl) ?_
    refine dp_s1 hF (i := .getfield 33) rfl (fun _ => rfl) ?_
    refine dp_s1 hF (i := .iload_n 1) rfl (fun _ => rfl) ?_
    refine dp_s3 hF (i := .iaload) rfl (fun _ => rfl) ?_
    refine dp_s2 hF (i := .if_icmp .ne 29) (a := (40, [some (.ref 1), some (.int v1), some (.int v2)], [], M)) (b := (66, [some (.ref 1), some (.int v1), some (.int v2)], [], M)) rfl (fun _ => rfl) ?_ ?_
    · refine dp_s1 hF (i := .aload_n 0) rfl (fun _ => rfl) ?_
      refine dp_s1 hF (i := .getfield 36) rfl (fun _ => rfl) ?_
      refine dp_s1 hF (i := .iload_n 2) rfl (fun _ => rfl) ?_
      refine dp_s3 hF (i := .iaload) rfl (fun _ => rfl) ?_
      refine dp_s1 hF (i := .aload_n 0) rfl (fun _ => rfl) ?_
      refine dp_s1 hF (i := .getfield 36) rfl (fun _ => rfl) ?_
      refine dp_s1 hF (i := .iload_n 1) rfl (fun _ => rfl) ?_
      refine dp_s3 hF (i := .iaload) rfl (fun _ => rfl) ?_
      refine dp_s2 hF (i := .if_icmp .ge 14) (a := (66, [some (.ref 1), some (.int v1), some (.int v2)], [], M)) (b := (55, [some (.ref 1), some (.int v1), some (.int v2)], [], M)) rfl (fun _ => rfl) ?_ ?_
      · refine dp_s1w (v2 + (1 : Int32)) (fun (y1 : Int32) => (69, [some (.ref 1), some (.int v1), some (.int y1)], [], M)) hF (i := .iinc 2 1) rfl (fun _ => rfl) (fun y1 => ?_)
        refine dp_s1 hF (i := .goto (-67)) rfl (fun _ => rfl) ?_
        exact rfl
      refine dp_s1 hF (i := .aload_n 0) rfl (fun _ => rfl) ?_
      refine dp_s1 hF (i := .getfield 11) rfl (fun _ => rfl) ?_
      refine dp_s1 hF (i := .iload_n 2) rfl (fun _ => rfl) ?_
      refine dp_s3 hF (i := .iaload) rfl (fun _ => rfl) ?_
      refine dp_s2 hF (i := .ifCond .ne 5) (a := (64, [some (.ref 1), some (.int v1), some (.int v2)], [], M)) (b := (66, [some (.ref 1), some (.int v1), some (.int v2)], [], M)) rfl (fun _ => rfl) ?_ ?_
      · refine dp_s1 hF (i := .iconst 1) rfl (fun _ => rfl) ?_
        exact dp_s0 hF (i := .ireturn) rfl (fun _ => rfl)
      refine dp_s1w (v2 + (1 : Int32)) (fun (y2 : Int32) => (69, [some (.ref 1), some (.int v1), some (.int y2)], [], M)) hF (i := .iinc 2 1) rfl (fun _ => rfl) (fun y2 => ?_)
      refine dp_s1 hF (i := .goto (-67)) rfl (fun _ => rfl) ?_
      exact rfl
    refine dp_s1w (v2 + (1 : Int32)) (fun (y3 : Int32) => (69, [some (.ref 1), some (.int v1), some (.int y3)], [], M)) hF (i := .iinc 2 1) rfl (fun _ => rfl) (fun y3 => ?_)
    refine dp_s1 hF (i := .goto (-67)) rfl (fun _ => rfl) ?_
    exact rfl
  refine dp_s1w (v2 + (1 : Int32)) (fun (y4 : Int32) => (69, [some (.ref 1), some (.int v1), some (.int y4)], [], M)) hF (i := .iinc 2 1) rfl (fun _ => rfl) (fun y4 => ?_)
  refine dp_s1 hF (i := .goto (-67)) rfl (fun _ => rfl) ?_
  exact rfl
noncomputable def D_X2_hasNeeds_0 (xs : Nat → Int32) (xl d : Nat) (v1 : Int32) (M : dp_M) : Option dp_Res := dp_lim true xs xl (dp_den true xs xl d) dp_m_X2_hasNeeds (0, [some (.ref 1), some (.int v1), none], [], M)
noncomputable def D_X2_hasNeeds_2 (xs : Nat → Int32) (xl d : Nat) (v1 : Int32) (v2 : Int32) (M : dp_M) : Option dp_Res := dp_lim true xs xl (dp_den true xs xl d) dp_m_X2_hasNeeds (2, [some (.ref 1), some (.int v1), some (.int v2)], [], M)
theorem D_X2_hasNeeds_0_den (xs : Nat → Int32) (xl d : Nat) (a0 : Int32) (M : dp_M) : dp_den true xs xl (d + 1) 73 [.ref 1, .int a0] M = D_X2_hasNeeds_0 xs xl d a0 M := rfl
set_option maxRecDepth 20000 in
theorem D_X2_hasNeeds_0_eq (xs : Nat → Int32) (xl d : Nat) (v1 : Int32) (M : dp_M) : D_X2_hasNeeds_0 xs xl d v1 M = dp_w (0 : Int32) (fun y1 => D_X2_hasNeeds_2 xs xl d v1 y1 M) := by
  have hF := dp_den_grow (md := true) (xs := xs) (xl := xl) d
  unfold D_X2_hasNeeds_0
  refine dp_s1 hF (i := .iconst 0) rfl (fun _ => rfl) ?_
  refine dp_s1w (0 : Int32) (fun (y1 : Int32) => (2, [some (.ref 1), some (.int v1), some (.int y1)], [], M)) hF (i := .istore_n 2) rfl (fun _ => rfl) (fun y1 => ?_)
  exact rfl
set_option maxRecDepth 20000 in
theorem D_X2_hasNeeds_2_eq (xs : Nat → Int32) (xl d : Nat) (v1 : Int32) (v2 : Int32) (M : dp_M) : D_X2_hasNeeds_2 xs xl d v1 v2 M = if (dp_I M 1 2) ≤ v2 then (some (.inl (some (.int (0 : Int32))), M)) else (dp_bi (dp_den true xs xl d 60 [.ref 1, .int v1, .int v2] M) (fun r2 M1 => if r2 = 0 then (dp_bi (dp_den true xs xl d 60 [.ref 1, .int v2, .int v1] M1) (fun r4 M3 => if r4 = 0 then (dp_w (v2 + (1 : Int32)) (fun y5 => D_X2_hasNeeds_2 xs xl d v1 y5 M3)) else (some (.inl (some (.int (1 : Int32))), M3)))) else (some (.inl (some (.int (1 : Int32))), M1)))) := by
  have hF := dp_den_grow (md := true) (xs := xs) (xl := xl) d
  unfold D_X2_hasNeeds_2
  refine dp_s1 hF (i := .iload_n 2) rfl (fun _ => rfl) ?_
  refine dp_s1 hF (i := .aload_n 0) rfl (fun _ => rfl) ?_
  refine dp_s1 hF (i := .getfield 78) rfl (fun _ => rfl) ?_
  refine dp_s2 hF (i := .if_icmp .ge 29) (a := (36, [some (.ref 1), some (.int v1), some (.int v2)], [], M)) (b := (10, [some (.ref 1), some (.int v1), some (.int v2)], [], M)) rfl (fun _ => rfl) ?_ ?_
  · refine dp_s1 hF (i := .iconst 0) rfl (fun _ => rfl) ?_
    exact dp_s0 hF (i := .ireturn) rfl (fun _ => rfl)
  refine dp_s1 hF (i := .aload_n 0) rfl (fun _ => rfl) ?_
  refine dp_s1 hF (i := .iload_n 1) rfl (fun _ => rfl) ?_
  refine dp_s1 hF (i := .iload_n 2) rfl (fun _ => rfl) ?_
  refine dp_si (mj := dp_m_X2_isNeeded) (i := .invokevirtual 89) rfl rfl (Or.inr rfl) rfl (fun _ => rfl) (fun r2 M1 => ?_)
  refine dp_s2 hF (i := .ifCond .ne 12) (a := (19, [some (.ref 1), some (.int v1), some (.int v2)], [], M1)) (b := (28, [some (.ref 1), some (.int v1), some (.int v2)], [], M1)) rfl (fun _ => rfl) ?_ ?_
  · refine dp_s1 hF (i := .aload_n 0) rfl (fun _ => rfl) ?_
    refine dp_s1 hF (i := .iload_n 2) rfl (fun _ => rfl) ?_
    refine dp_s1 hF (i := .iload_n 1) rfl (fun _ => rfl) ?_
    refine dp_si (mj := dp_m_X2_isNeeded) (i := .invokevirtual 89) rfl rfl (Or.inr rfl) rfl (fun _ => rfl) (fun r4 M3 => ?_)
    refine dp_s2 hF (i := .ifCond .eq 5) (a := (30, [some (.ref 1), some (.int v1), some (.int v2)], [], M3)) (b := (28, [some (.ref 1), some (.int v1), some (.int v2)], [], M3)) rfl (fun _ => rfl) ?_ ?_
    · refine dp_s1w (v2 + (1 : Int32)) (fun (y5 : Int32) => (33, [some (.ref 1), some (.int v1), some (.int y5)], [], M3)) hF (i := .iinc 2 1) rfl (fun _ => rfl) (fun y5 => ?_)
      refine dp_s1 hF (i := .goto (-31)) rfl (fun _ => rfl) ?_
      exact rfl
    refine dp_s1 hF (i := .iconst 1) rfl (fun _ => rfl) ?_
    exact dp_s0 hF (i := .ireturn) rfl (fun _ => rfl)
  refine dp_s1 hF (i := .iconst 1) rfl (fun _ => rfl) ?_
  exact dp_s0 hF (i := .ireturn) rfl (fun _ => rfl)
noncomputable def D_X2_isInStack_0 (xs : Nat → Int32) (xl d : Nat) (v1 : Int32) (M : dp_M) : Option dp_Res := dp_lim true xs xl (dp_den true xs xl d) dp_m_X2_isInStack (0, [some (.ref 1), some (.int v1)], [], M)
theorem D_X2_isInStack_0_den (xs : Nat → Int32) (xl d : Nat) (a0 : Int32) (M : dp_M) : dp_den true xs xl (d + 1) 74 [.ref 1, .int a0] M = D_X2_isInStack_0 xs xl d a0 M := rfl
set_option maxRecDepth 20000 in
theorem D_X2_isInStack_0_eq (xs : Nat → Int32) (xl d : Nat) (v1 : Int32) (M : dp_M) : D_X2_isInStack_0 xs xl d v1 M = if v1 < 0 ∨ 100 ≤ Int32.toNatClampNeg v1 then none else (if (3 : Int32) ≤ (dp_I M 9 (Int32.toNatClampNeg v1)) then (some (.inl (some (.int (0 : Int32))), M)) else (some (.inl (some (.int (1 : Int32))), M))) := by
  have hF := dp_den_grow (md := true) (xs := xs) (xl := xl) d
  unfold D_X2_isInStack_0
  refine dp_s1 hF (i := .aload_n 0) rfl (fun _ => rfl) ?_
  refine dp_s1 hF (i := .getfield 33) rfl (fun _ => rfl) ?_
  refine dp_s1 hF (i := .iload_n 1) rfl (fun _ => rfl) ?_
  refine dp_s3 hF (i := .iaload) rfl (fun _ => rfl) ?_
  refine dp_s1 hF (i := .iconst 3) rfl (fun _ => rfl) ?_
  refine dp_s2 hF (i := .if_icmp .ge 7) (a := (14, [some (.ref 1), some (.int v1)], [], M)) (b := (10, [some (.ref 1), some (.int v1)], [], M)) rfl (fun _ => rfl) ?_ ?_
  · refine dp_s1 hF (i := .iconst 0) rfl (fun _ => rfl) ?_
    exact dp_s0 hF (i := .ireturn) rfl (fun _ => rfl)
  refine dp_s1 hF (i := .iconst 1) rfl (fun _ => rfl) ?_
  refine dp_s1 hF (i := .goto 4) rfl (fun _ => rfl) ?_
  exact dp_s0 hF (i := .ireturn) rfl (fun _ => rfl)
noncomputable def D_X2_exchange_0 (xs : Nat → Int32) (xl d : Nat) (v1 : Int32) (v2 : Int32) (M : dp_M) : Option dp_Res := dp_lim true xs xl (dp_den true xs xl d) dp_m_X2_exchange (0, [some (.ref 1), some (.int v1), some (.int v2), none], [], M)
noncomputable def D_X2_exchange_41 (xs : Nat → Int32) (xl d : Nat) (v1 : Int32) (v2 : Int32) (vs0 : Int32) (M : dp_M) : Option dp_Res := dp_lim true xs xl (dp_den true xs xl d) dp_m_X2_exchange (41, [some (.ref 1), some (.int v1), some (.int v2), none], [.int vs0], M)
theorem D_X2_exchange_0_den (xs : Nat → Int32) (xl d : Nat) (a0 : Int32) (a1 : Int32) (M : dp_M) : dp_den true xs xl (d + 1) 75 [.ref 1, .int a0, .int a1] M = D_X2_exchange_0 xs xl d a0 a1 M := rfl
set_option maxRecDepth 20000 in
theorem D_X2_exchange_0_eq (xs : Nat → Int32) (xl d : Nat) (v1 : Int32) (v2 : Int32) (M : dp_M) : D_X2_exchange_0 xs xl d v1 v2 M = if v1 = v2 then (D_X2_exchange_41 xs xl d v1 v2 (0 : Int32) M) else (if v1 < 0 ∨ 100 ≤ Int32.toNatClampNeg v1 then none else (if v2 < 0 ∨ 100 ≤ Int32.toNatClampNeg v2 then none else (if (dp_I M 2 (Int32.toNatClampNeg v1)) = (dp_I M 2 (Int32.toNatClampNeg v2)) then (dp_bi (dp_den true xs xl d 74 [.ref 1, .int v1] M) (fun r2 M1 => if r2 = 0 then (D_X2_exchange_41 xs xl d v1 v2 (0 : Int32) M1) else (dp_bi (dp_den true xs xl d 74 [.ref 1, .int v2] M1) (fun r4 M3 => if r4 = 0 then (D_X2_exchange_41 xs xl d v1 v2 (0 : Int32) M3) else (D_X2_exchange_41 xs xl d v1 v2 (1 : Int32) M3))))) else (D_X2_exchange_41 xs xl d v1 v2 (0 : Int32) M)))) := by
  have hF := dp_den_grow (md := true) (xs := xs) (xl := xl) d
  unfold D_X2_exchange_0
  refine dp_s1 hF (i := .iload_n 1) rfl (fun _ => rfl) ?_
  refine dp_s1 hF (i := .iload_n 2) rfl (fun _ => rfl) ?_
  refine dp_s2 hF (i := .if_icmp .eq 38) (a := (40, [some (.ref 1), some (.int v1), some (.int v2), none], [], M)) (b := (5, [some (.ref 1), some (.int v1), some (.int v2), none], [], M)) rfl (fun _ => rfl) ?_ ?_
  · refine dp_s1 hF (i := .iconst 0) rfl (fun _ => rfl) ?_
    exact rfl
  refine dp_s1 hF (i := .aload_n 0) rfl (fun _ => rfl) ?_
  refine dp_s1 hF (i := .getfield 11) rfl (fun _ => rfl) ?_
  refine dp_s1 hF (i := .iload_n 1) rfl (fun _ => rfl) ?_
  refine dp_s3 hF (i := .iaload) rfl (fun _ => rfl) ?_
  refine dp_s1 hF (i := .aload_n 0) rfl (fun _ => rfl) ?_
  refine dp_s1 hF (i := .getfield 11) rfl (fun _ => rfl) ?_
  refine dp_s1 hF (i := .iload_n 2) rfl (fun _ => rfl) ?_
  refine dp_s3 hF (i := .iaload) rfl (fun _ => rfl) ?_
  refine dp_s2 hF (i := .if_icmp .ne 23) (a := (20, [some (.ref 1), some (.int v1), some (.int v2), none], [], M)) (b := (40, [some (.ref 1), some (.int v1), some (.int v2), none], [], M)) rfl (fun _ => rfl) ?_ ?_
  · refine dp_s1 hF (i := .aload_n 0) rfl (fun _ => rfl) ?_
    refine dp_s1 hF (i := .iload_n 1) rfl (fun _ => rfl) ?_
    refine dp_si (mj := dp_m_X2_isInStack) (i := .invokevirtual 132) rfl rfl (Or.inr rfl) rfl (fun _ => rfl) (fun r2 M1 => ?_)
    refine dp_s2 hF (i := .ifCond .eq 15) (a := (40, [some (.ref 1), some (.int v1), some (.int v2), none], [], M1)) (b := (28, [some (.ref 1), some (.int v1), some (.int v2), none], [], M1)) rfl (fun _ => rfl) ?_ ?_
    · refine dp_s1 hF (i := .iconst 0) rfl (fun _ => rfl) ?_
      exact rfl
    refine dp_s1 hF (i := .aload_n 0) rfl (fun _ => rfl) ?_
    refine dp_s1 hF (i := .iload_n 2) rfl (fun _ => rfl) ?_
    refine dp_si (mj := dp_m_X2_isInStack) (i := .invokevirtual 132) rfl rfl (Or.inr rfl) rfl (fun _ => rfl) (fun r4 M3 => ?_)
    refine dp_s2 hF (i := .ifCond .eq 7) (a := (40, [some (.ref 1), some (.int v1), some (.int v2), none], [], M3)) (b := (36, [some (.ref 1), some (.int v1), some (.int v2), none], [], M3)) rfl (fun _ => rfl) ?_ ?_
    · refine dp_s1 hF (i := .iconst 0) rfl (fun _ => rfl) ?_
      exact rfl
    refine dp_s1 hF (i := .iconst 1) rfl (fun _ => rfl) ?_
    refine dp_s1 hF (i := .goto 4) rfl (fun _ => rfl) ?_
    exact rfl
  refine dp_s1 hF (i := .iconst 0) rfl (fun _ => rfl) ?_
  exact rfl
set_option maxRecDepth 20000 in
theorem D_X2_exchange_41_eq (xs : Nat → Int32) (xl d : Nat) (v1 : Int32) (v2 : Int32) (vs0 : Int32) (M : dp_M) : D_X2_exchange_41 xs xl d v1 v2 vs0 M = if vs0 = 0 then (some (.inl (some (.int (0 : Int32))), M)) else (dp_bi (dp_den true xs xl d 73 [.ref 1, .int v1] M) (fun r2 M1 => if r2 = 0 then (dp_bi (dp_den true xs xl d 73 [.ref 1, .int v2] M1) (fun r4 M3 => if r4 = 0 then (if v1 < 0 ∨ 100 ≤ Int32.toNatClampNeg v1 then none else (if (dp_I M3 8 (Int32.toNatClampNeg v1)) < 0 ∨ dp_len M3 25 ≤ Int32.toNatClampNeg (dp_I M3 8 (Int32.toNatClampNeg v1)) then none else dp_w (dp_setI M3 25 (Int32.toNatClampNeg (dp_I M3 8 (Int32.toNatClampNeg v1))) (-1 : Int32)) (fun M5 => if v2 < 0 ∨ 100 ≤ Int32.toNatClampNeg v2 then none else (if (dp_I M5 8 (Int32.toNatClampNeg v2)) < 0 ∨ dp_len M5 25 ≤ Int32.toNatClampNeg (dp_I M5 8 (Int32.toNatClampNeg v2)) then none else dp_w (dp_setI M5 25 (Int32.toNatClampNeg (dp_I M5 8 (Int32.toNatClampNeg v2))) (-1 : Int32)) (fun M6 => dp_bv (dp_den true xs xl d 76 [.ref 8, .int v1, .int v2] M6) (fun M7 => dp_bv (dp_den true xs xl d 76 [.ref 9, .int v1, .int v2] M7) (fun M8 => dp_bv (dp_den true xs xl d 76 [.ref 10, .int v1, .int v2] M8) (fun M9 => some (.inl (some (.int (1 : Int32))), M9))))))))) else (some (.inl (some (.int (0 : Int32))), M3)))) else (some (.inl (some (.int (0 : Int32))), M1)))) := by
  have hF := dp_den_grow (md := true) (xs := xs) (xl := xl) d
  unfold D_X2_exchange_41
  refine dp_s1 hF (i := .istore_n 3) rfl (fun _ => rfl) ?_
  refine dp_s1 hF (i := .iload_n 3) rfl (fun _ => rfl) ?_
  refine dp_s2 hF (i := .ifCond .eq 19) (a := (62, [some (.ref 1), some (.int v1), some (.int v2), some (.int vs0)], [], M)) (b := (46, [some (.ref 1), some (.int v1), some (.int v2), some (.int vs0)], [], M)) rfl (fun _ => rfl) ?_ ?_
  · refine dp_s1 hF (i := .iconst 0) rfl (fun _ => rfl) ?_
    exact dp_s0 hF (i := .ireturn) rfl (fun _ => rfl)
  refine dp_s1 hF (i := .aload_n 0) rfl (fun _ => rfl) ?_
  refine dp_s1 hF (i := .iload_n 1) rfl (fun _ => rfl) ?_
  refine dp_si (mj := dp_m_X2_hasNeeds) (i := .invokevirtual 135) rfl rfl (Or.inr rfl) rfl (fun _ => rfl) (fun r2 M1 => ?_)
  refine dp_s2 hF (i := .ifCond .ne 11) (a := (54, [some (.ref 1), some (.int v1), some (.int v2), some (.int vs0)], [], M1)) (b := (62, [some (.ref 1), some (.int v1), some (.int v2), some (.int vs0)], [], M1)) rfl (fun _ => rfl) ?_ ?_
  · refine dp_s1 hF (i := .aload_n 0) rfl (fun _ => rfl) ?_
    refine dp_s1 hF (i := .iload_n 2) rfl (fun _ => rfl) ?_
    refine dp_si (mj := dp_m_X2_hasNeeds) (i := .invokevirtual 135) rfl rfl (Or.inr rfl) rfl (fun _ => rfl) (fun r4 M3 => ?_)
    refine dp_s2 hF (i := .ifCond .eq 5) (a := (64, [some (.ref 1), some (.int v1), some (.int v2), some (.int vs0)], [], M3)) (b := (62, [some (.ref 1), some (.int v1), some (.int v2), some (.int vs0)], [], M3)) rfl (fun _ => rfl) ?_ ?_
    · refine dp_s1 hF (i := .aload_n 0) rfl (fun _ => rfl) ?_
      refine dp_s1 hF (i := .getfield 63) rfl (fun _ => rfl) ?_
      refine dp_s1 hF (i := .aload_n 0) rfl (fun _ => rfl) ?_
      refine dp_s1 hF (i := .getfield 30) rfl (fun _ => rfl) ?_
      refine dp_s1 hF (i := .iload_n 1) rfl (fun _ => rfl) ?_
      refine dp_s3 hF (i := .iaload) rfl (fun _ => rfl) ?_
      refine dp_s1 hF (i := .iconst (-1)) rfl (fun _ => rfl) ?_
      refine dp_s3w (dp_setI M3 25 (Int32.toNatClampNeg (dp_I M3 8 (Int32.toNatClampNeg v1))) (-1 : Int32)) (fun (M5 : dp_M) => (76, [some (.ref 1), some (.int v1), some (.int v2), some (.int vs0)], [], M5)) hF (i := .iastore) rfl (fun _ => rfl) (fun M5 => ?_)
      refine dp_s1 hF (i := .aload_n 0) rfl (fun _ => rfl) ?_
      refine dp_s1 hF (i := .getfield 63) rfl (fun _ => rfl) ?_
      refine dp_s1 hF (i := .aload_n 0) rfl (fun _ => rfl) ?_
      refine dp_s1 hF (i := .getfield 30) rfl (fun _ => rfl) ?_
      refine dp_s1 hF (i := .iload_n 2) rfl (fun _ => rfl) ?_
      refine dp_s3 hF (i := .iaload) rfl (fun _ => rfl) ?_
      refine dp_s1 hF (i := .iconst (-1)) rfl (fun _ => rfl) ?_
      refine dp_s3w (dp_setI M5 25 (Int32.toNatClampNeg (dp_I M5 8 (Int32.toNatClampNeg v2))) (-1 : Int32)) (fun (M6 : dp_M) => (88, [some (.ref 1), some (.int v1), some (.int v2), some (.int vs0)], [], M6)) hF (i := .iastore) rfl (fun _ => rfl) (fun M6 => ?_)
      refine dp_s1 hF (i := .aload_n 0) rfl (fun _ => rfl) ?_
      refine dp_s1 hF (i := .getfield 30) rfl (fun _ => rfl) ?_
      refine dp_s1 hF (i := .iload_n 1) rfl (fun _ => rfl) ?_
      refine dp_s1 hF (i := .iload_n 2) rfl (fun _ => rfl) ?_
      refine dp_sv (mj := dp_m_X2_change) (i := .invokestatic 138) rfl rfl rfl rfl (fun _ => rfl) (fun M7 => ?_)
      refine dp_s1 hF (i := .aload_n 0) rfl (fun _ => rfl) ?_
      refine dp_s1 hF (i := .getfield 33) rfl (fun _ => rfl) ?_
      refine dp_s1 hF (i := .iload_n 1) rfl (fun _ => rfl) ?_
      refine dp_s1 hF (i := .iload_n 2) rfl (fun _ => rfl) ?_
      refine dp_sv (mj := dp_m_X2_change) (i := .invokestatic 138) rfl rfl rfl rfl (fun _ => rfl) (fun M8 => ?_)
      refine dp_s1 hF (i := .aload_n 0) rfl (fun _ => rfl) ?_
      refine dp_s1 hF (i := .getfield 36) rfl (fun _ => rfl) ?_
      refine dp_s1 hF (i := .iload_n 1) rfl (fun _ => rfl) ?_
      refine dp_s1 hF (i := .iload_n 2) rfl (fun _ => rfl) ?_
      refine dp_sv (mj := dp_m_X2_change) (i := .invokestatic 138) rfl rfl rfl rfl (fun _ => rfl) (fun M9 => ?_)
      refine dp_s1 hF (i := .iconst 1) rfl (fun _ => rfl) ?_
      exact dp_s0 hF (i := .ireturn) rfl (fun _ => rfl)
    refine dp_s1 hF (i := .iconst 0) rfl (fun _ => rfl) ?_
    exact dp_s0 hF (i := .ireturn) rfl (fun _ => rfl)
  refine dp_s1 hF (i := .iconst 0) rfl (fun _ => rfl) ?_
  exact dp_s0 hF (i := .ireturn) rfl (fun _ => rfl)
noncomputable def D_X2_change_0 (xs : Nat → Int32) (xl d : Nat) (p0 : Nat) (v1 : Int32) (v2 : Int32) (M : dp_M) : Option dp_Res := dp_lim true xs xl (dp_den true xs xl d) dp_m_X2_change (0, [some (.ref p0), some (.int v1), some (.int v2), none], [], M)
theorem D_X2_change_0_den (xs : Nat → Int32) (xl d : Nat) (a0 : Nat) (a1 : Int32) (a2 : Int32) (M : dp_M) : dp_den true xs xl (d + 1) 76 [.ref a0, .int a1, .int a2] M = D_X2_change_0 xs xl d a0 a1 a2 M := rfl
set_option maxRecDepth 20000 in
theorem D_X2_change_0_eq (xs : Nat → Int32) (xl d : Nat) (p0 : Nat) (v1 : Int32) (v2 : Int32) (M : dp_M) : D_X2_change_0 xs xl d p0 v1 v2 M = if dp_t true M p0 = 1 then (if v1 < 0 ∨ dp_ln true M p0 ≤ Int32.toNatClampNeg v1 then none else (dp_w (dp_I M p0 (Int32.toNatClampNeg v1)) (fun y1 => if dp_t true M p0 = 1 then (if v2 < 0 ∨ dp_ln true M p0 ≤ Int32.toNatClampNeg v2 then none else (if dp_t true M p0 = 1 then (if v1 < 0 ∨ dp_ln true M p0 ≤ Int32.toNatClampNeg v1 then none else dp_w (dp_setI M p0 (Int32.toNatClampNeg v1) (dp_I M p0 (Int32.toNatClampNeg v2))) (fun M2 => if dp_t true M2 p0 = 1 then (if v2 < 0 ∨ dp_ln true M2 p0 ≤ Int32.toNatClampNeg v2 then none else dp_w (dp_setI M2 p0 (Int32.toNatClampNeg v2) y1) (fun M3 => some (.inl none, M3))) else none)) else none)) else none))) else none := by
  have hF := dp_den_grow (md := true) (xs := xs) (xl := xl) d
  unfold D_X2_change_0
  refine dp_s1 hF (i := .aload_n 0) rfl (fun _ => rfl) ?_
  refine dp_s1 hF (i := .iload_n 1) rfl (fun _ => rfl) ?_
  refine dp_s6 hF (i := .iaload) rfl (fun _ => rfl) ?_
  refine dp_s1w (dp_I M p0 (Int32.toNatClampNeg v1)) (fun (y1 : Int32) => (4, [some (.ref p0), some (.int v1), some (.int v2), some (.int y1)], [], M)) hF (i := .istore_n 3) rfl (fun _ => rfl) (fun y1 => ?_)
  refine dp_s1 hF (i := .aload_n 0) rfl (fun _ => rfl) ?_
  refine dp_s1 hF (i := .iload_n 1) rfl (fun _ => rfl) ?_
  refine dp_s1 hF (i := .aload_n 0) rfl (fun _ => rfl) ?_
  refine dp_s1 hF (i := .iload_n 2) rfl (fun _ => rfl) ?_
  refine dp_s6 hF (i := .iaload) rfl (fun _ => rfl) ?_
  refine dp_s6w (dp_setI M p0 (Int32.toNatClampNeg v1) (dp_I M p0 (Int32.toNatClampNeg v2))) (fun (M2 : dp_M) => (10, [some (.ref p0), some (.int v1), some (.int v2), some (.int y1)], [], M2)) hF (i := .iastore) rfl (fun _ => rfl) (fun M2 => ?_)
  refine dp_s1 hF (i := .aload_n 0) rfl (fun _ => rfl) ?_
  refine dp_s1 hF (i := .iload_n 2) rfl (fun _ => rfl) ?_
  refine dp_s1 hF (i := .iload_n 3) rfl (fun _ => rfl) ?_
  refine dp_s6w (dp_setI M2 p0 (Int32.toNatClampNeg v2) y1) (fun (M3 : dp_M) => (14, [some (.ref p0), some (.int v1), some (.int v2), some (.int y1)], [], M3)) hF (i := .iastore) rfl (fun _ => rfl) (fun M3 => ?_)
  exact dp_s0 hF (i := .return_) rfl (fun _ => rfl)
