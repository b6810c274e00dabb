noncomputable def D_J7_fill_d0a16_0 (xs : Nat → Int32) (xl d : Nat) (p0 : Nat) (v1 : Int64) (M : dp_M) : Option dp_Res := dp_lim true xs xl (dp_den true xs xl d) dp_m_J7_fill_d0a16 (0, [some (.ref p0), some (.long v1), none, none, none], [], M)
noncomputable def D_J7_fill_d0a16_6 (xs : Nat → Int32) (xl d : Nat) (p0 : Nat) (v1 : Int64) (v3 : Int32) (v4 : Int32) (M : dp_M) : Option dp_Res := dp_lim true xs xl (dp_den true xs xl d) dp_m_J7_fill_d0a16 (6, [some (.ref p0), some (.long v1), none, some (.int v3), some (.int v4)], [], M)
theorem D_J7_fill_d0a16_0_den (xs : Nat → Int32) (xl d : Nat) (a0 : Nat) (a1 : Int64) (M : dp_M) : dp_den true xs xl (d + 1) 592 [.ref a0, .long a1] M = D_J7_fill_d0a16_0 xs xl d a0 a1 M := rfl
set_option maxRecDepth 20000 in
theorem D_J7_fill_d0a16_0_eq (xs : Nat → Int32) (xl d : Nat) (p0 : Nat) (v1 : Int64) (M : dp_M) : D_J7_fill_d0a16_0 xs xl d p0 v1 M = dp_w (0 : Int32) (fun y1 => if dp_t true M p0 = 1 ∨ dp_t true M p0 = 2 ∨ dp_t true M p0 = 3 ∨ dp_t true M p0 = 4 then (dp_w (Int32.ofNat (dp_ln true M p0)) (fun y2 => D_J7_fill_d0a16_6 xs xl d p0 v1 y1 y2 M)) else none) := by
  have hF := dp_den_grow (md := true) (xs := xs) (xl := xl) d
  unfold D_J7_fill_d0a16_0
  refine dp_s1 hF (i := .iconst 0) rfl (fun _ => rfl) ?_
  refine dp_s1w (0 : Int32) (fun (y1 : Int32) => (2, [some (.ref p0), some (.long v1), none, some (.int y1), none], [], M)) hF (i := .istore_n 3) rfl (fun _ => rfl) (fun y1 => ?_)
  refine dp_s1 hF (i := .aload_n 0) rfl (fun _ => rfl) ?_
  refine dp_s4 hF (i := .arraylength) rfl (fun _ => rfl) ?_
  refine dp_s1w (Int32.ofNat (dp_ln true M p0)) (fun (y2 : Int32) => (6, [some (.ref p0), some (.long v1), none, some (.int y1), some (.int y2)], [], M)) hF (i := .istore 4) rfl (fun _ => rfl) (fun y2 => ?_)
  exact rfl
set_option maxRecDepth 20000 in
theorem D_J7_fill_d0a16_6_eq (xs : Nat → Int32) (xl d : Nat) (p0 : Nat) (v1 : Int64) (v3 : Int32) (v4 : Int32) (M : dp_M) : D_J7_fill_d0a16_6 xs xl d p0 v1 v3 v4 M = if v4 ≤ v3 then (some (.inl none, M)) else (if dp_t true M p0 = 2 then (if v3 < 0 ∨ dp_ln true M p0 ≤ Int32.toNatClampNeg v3 then none else dp_w (dp_setJ M p0 (Int32.toNatClampNeg v3) v1) (fun M1 => dp_w (v3 + (1 : Int32)) (fun y2 => D_J7_fill_d0a16_6 xs xl d p0 v1 y2 v4 M1))) else none) := by
  have hF := dp_den_grow (md := true) (xs := xs) (xl := xl) d
  unfold D_J7_fill_d0a16_6
  refine dp_s1 hF (i := .iload_n 3) rfl (fun _ => rfl) ?_
  refine dp_s1 hF (i := .iload 4) rfl (fun _ => rfl) ?_
  refine dp_s2 hF (i := .if_icmp .ge 13) (a := (22, [some (.ref p0), some (.long v1), none, some (.int v3), some (.int v4)], [], M)) (b := (12, [some (.ref p0), some (.long v1), none, some (.int v3), some (.int v4)], [], M)) rfl (fun _ => rfl) ?_ ?_
  · exact dp_s0 hF (i := .return_) rfl (fun _ => rfl)
  refine dp_s1 hF (i := .aload_n 0) rfl (fun _ => rfl) ?_
  refine dp_s1 hF (i := .iload_n 3) rfl (fun _ => rfl) ?_
  refine dp_s1 hF (i := .lload_n 1) rfl (fun _ => rfl) ?_
  refine dp_s6w (dp_setJ M p0 (Int32.toNatClampNeg v3) v1) (fun (M1 : dp_M) => (16, [some (.ref p0), some (.long v1), none, some (.int v3), some (.int v4)], [], M1)) hF (i := .lastore) rfl (fun _ => rfl) (fun M1 => ?_)
  refine dp_s1w (v3 + (1 : Int32)) (fun (y2 : Int32) => (19, [some (.ref p0), some (.long v1), none, some (.int y2), some (.int v4)], [], M1)) hF (i := .iinc 3 1) rfl (fun _ => rfl) (fun y2 => ?_)
  refine dp_s1 hF (i := .goto (-13)) rfl (fun _ => rfl) ?_
  exact rfl
noncomputable def D_J7_fill_53178_0 (xs : Nat → Int32) (xl d : Nat) (p0 : Nat) (v1 : Int32) (M : dp_M) : Option dp_Res := dp_lim true xs xl (dp_den true xs xl d) dp_m_J7_fill_53178 (0, [some (.ref p0), some (.int v1), none, none], [], M)
noncomputable def D_J7_fill_53178_5 (xs : Nat → Int32) (xl d : Nat) (p0 : Nat) (v1 : Int32) (v2 : Int32) (v3 : Int32) (M : dp_M) : Option dp_Res := dp_lim true xs xl (dp_den true xs xl d) dp_m_J7_fill_53178 (5, [some (.ref p0), some (.int v1), some (.int v2), some (.int v3)], [], M)
theorem D_J7_fill_53178_0_den (xs : Nat → Int32) (xl d : Nat) (a0 : Nat) (a1 : Int32) (M : dp_M) : dp_den true xs xl (d + 1) 593 [.ref a0, .int a1] M = D_J7_fill_53178_0 xs xl d a0 a1 M := rfl
set_option maxRecDepth 20000 in
theorem D_J7_fill_53178_0_eq (xs : Nat → Int32) (xl d : Nat) (p0 : Nat) (v1 : Int32) (M : dp_M) : D_J7_fill_53178_0 xs xl d p0 v1 M = dp_w (0 : Int32) (fun y1 => if dp_t true M p0 = 1 ∨ dp_t true M p0 = 2 ∨ dp_t true M p0 = 3 ∨ dp_t true M p0 = 4 then (dp_w (Int32.ofNat (dp_ln true M p0)) (fun y2 => D_J7_fill_53178_5 xs xl d p0 v1 y1 y2 M)) else none) := by
  have hF := dp_den_grow (md := true) (xs := xs) (xl := xl) d
  unfold D_J7_fill_53178_0
  refine dp_s1 hF (i := .iconst 0) rfl (fun _ => rfl) ?_
  refine dp_s1w (0 : Int32) (fun (y1 : Int32) => (2, [some (.ref p0), some (.int v1), some (.int y1), none], [], M)) hF (i := .istore_n 2) rfl (fun _ => rfl) (fun y1 => ?_)
  refine dp_s1 hF (i := .aload_n 0) rfl (fun _ => rfl) ?_
  refine dp_s4 hF (i := .arraylength) rfl (fun _ => rfl) ?_
  refine dp_s1w (Int32.ofNat (dp_ln true M p0)) (fun (y2 : Int32) => (5, [some (.ref p0), some (.int v1), some (.int y1), some (.int y2)], [], M)) hF (i := .istore_n 3) rfl (fun _ => rfl) (fun y2 => ?_)
  exact rfl
set_option maxRecDepth 20000 in
theorem D_J7_fill_53178_5_eq (xs : Nat → Int32) (xl d : Nat) (p0 : Nat) (v1 : Int32) (v2 : Int32) (v3 : Int32) (M : dp_M) : D_J7_fill_53178_5 xs xl d p0 v1 v2 v3 M = if v3 ≤ v2 then (some (.inl none, M)) else (if dp_t true M p0 = 1 then (if v2 < 0 ∨ dp_ln true M p0 ≤ Int32.toNatClampNeg v2 then none else dp_w (dp_setI M p0 (Int32.toNatClampNeg v2) v1) (fun M1 => dp_w (v2 + (1 : Int32)) (fun y2 => D_J7_fill_53178_5 xs xl d p0 v1 y2 v3 M1))) else none) := by
  have hF := dp_den_grow (md := true) (xs := xs) (xl := xl) d
  unfold D_J7_fill_53178_5
  refine dp_s1 hF (i := .iload_n 2) rfl (fun _ => rfl) ?_
  refine dp_s1 hF (i := .iload_n 3) rfl (fun _ => rfl) ?_
  refine dp_s2 hF (i := .if_icmp .ge 13) (a := (20, [some (.ref p0), some (.int v1), some (.int v2), some (.int v3)], [], M)) (b := (10, [some (.ref p0), some (.int v1), some (.int v2), some (.int v3)], [], M)) rfl (fun _ => rfl) ?_ ?_
  · exact dp_s0 hF (i := .return_) rfl (fun _ => rfl)
  refine dp_s1 hF (i := .aload_n 0) rfl (fun _ => rfl) ?_
  refine dp_s1 hF (i := .iload_n 2) rfl (fun _ => rfl) ?_
  refine dp_s1 hF (i := .iload_n 1) rfl (fun _ => rfl) ?_
  refine dp_s6w (dp_setI M p0 (Int32.toNatClampNeg v2) v1) (fun (M1 : dp_M) => (14, [some (.ref p0), some (.int v1), some (.int v2), some (.int v3)], [], M1)) hF (i := .iastore) rfl (fun _ => rfl) (fun M1 => ?_)
  refine dp_s1w (v2 + (1 : Int32)) (fun (y2 : Int32) => (17, [some (.ref p0), some (.int v1), some (.int y2), some (.int v3)], [], M1)) hF (i := .iinc 2 1) rfl (fun _ => rfl) (fun y2 => ?_)
  refine dp_s1 hF (i := .goto (-12)) rfl (fun _ => rfl) ?_
  exact rfl
