noncomputable def D_X12_numbers_0 (xs : Nat → Int32) (xl d : Nat) (v1 : Int32) (M : dp_M) : Option dp_Res := dp_lim true xs xl (dp_den true xs xl d) dp_m_X12_numbers (0, [some (.ref 114), some (.int v1), none, none, none, none, none], [], M)
noncomputable def D_X12_numbers_11 (xs : Nat → Int32) (xl d : Nat) (v1 : Int32) (v2 : Int32) (v3 : Int32) (M : dp_M) : Option dp_Res := dp_lim true xs xl (dp_den true xs xl d) dp_m_X12_numbers (11, [some (.ref 114), some (.int v1), some (.int v2), some (.int v3), none, none, none], [], M)
noncomputable def D_X12_numbers_249 (xs : Nat → Int32) (xl d : Nat) (v1 : Int32) (v2 : Int32) (v3 : Int32) (v4 : Int32) (M : dp_M) : Option dp_Res := dp_lim true xs xl (dp_den true xs xl d) dp_m_X12_numbers (249, [some (.ref 114), some (.int v1), some (.int v2), some (.int v3), some (.int v4), none, none], [], M)
noncomputable def D_X12_numbers_127 (xs : Nat → Int32) (xl d : Nat) (v1 : Int32) (v2 : Int32) (v3 : Int32) (v4 : Int32) (v5 : Int32) (v6 : Int32) (M : dp_M) : Option dp_Res := dp_lim true xs xl (dp_den true xs xl d) dp_m_X12_numbers (127, [some (.ref 114), some (.int v1), some (.int v2), some (.int v3), some (.int v4), some (.int v5), some (.int v6)], [], M)
noncomputable def D_X12_numbers_11_a (xs : Nat → Int32) (xl d : Nat) (v1 : Int32) (v2 : Int32) (v3 : Int32) (v4 : Int32) (v5 : Int32) (v6 : Int32) (M : dp_M) : Option dp_Res := dp_lim true xs xl (dp_den true xs xl d) dp_m_X12_numbers (11, [some (.ref 114), some (.int v1), some (.int v2), some (.int v3), some (.int v4), some (.int v5), some (.int v6)], [], M)
noncomputable def D_X12_numbers_249_a (xs : Nat → Int32) (xl d : Nat) (v1 : Int32) (v2 : Int32) (v3 : Int32) (v4 : Int32) (v5 : Int32) (v6 : Int32) (M : dp_M) : Option dp_Res := dp_lim true xs xl (dp_den true xs xl d) dp_m_X12_numbers (249, [some (.ref 114), some (.int v1), some (.int v2), some (.int v3), some (.int v4), some (.int v5), some (.int v6)], [], M)
theorem D_X12_numbers_0_den (xs : Nat → Int32) (xl d : Nat) (a0 : Int32) (M : dp_M) : dp_den true xs xl (d + 1) 486 [.ref 114, .int a0] M = D_X12_numbers_0 xs xl d a0 M := rfl
set_option maxRecDepth 20000 in
theorem D_X12_numbers_0_eq (xs : Nat → Int32) (xl d : Nat) (v1 : Int32) (M : dp_M) : D_X12_numbers_0 xs xl d v1 M = dp_w (0 : Int32) (fun y1 => dp_w (1 : Int32) (fun y2 => if (0 : Int32) < 0 ∨ 400 ≤ Int32.toNatClampNeg (0 : Int32) then none else dp_w (dp_setI M 186 (Int32.toNatClampNeg (0 : Int32)) v1) (fun M3 => D_X12_numbers_11 xs xl d v1 y1 y2 M3))) := by
  have hF := dp_den_grow (md := true) (xs := xs) (xl := xl) d
  unfold D_X12_numbers_0
  refine dp_s1 hF (i := .iconst 0) rfl (fun _ => rfl) ?_
  refine dp_s1w (0 : Int32) (fun (y1 : Int32) => (2, [some (.ref 114), some (.int v1), some (.int y1), none, none, none, none], [], M)) hF (i := .istore_n 2) rfl (fun _ => rfl) (fun y1 => ?_)
  refine dp_s1 hF (i := .iconst 1) rfl (fun _ => rfl) ?_
  refine dp_s1w (1 : Int32) (fun (y2 : Int32) => (4, [some (.ref 114), some (.int v1), some (.int y1), some (.int y2), none, none, none], [], M)) hF (i := .istore_n 3) rfl (fun _ => rfl) (fun y2 => ?_)
  refine dp_s1 hF (i := .aload_n 0) rfl (fun _ => rfl) ?_
  refine dp_s1 hF (i := .getfield 230) rfl (fun _ => rfl) ?_
  refine dp_s1 hF (i := .iconst 0) rfl (fun _ => rfl) ?_
  refine dp_s1 hF (i := .iload_n 1) rfl (fun _ => rfl) ?_
  refine dp_s3w (dp_setI M 186 (Int32.toNatClampNeg (0 : Int32)) v1) (fun (M3 : dp_M) => (11, [some (.ref 114), some (.int v1), some (.int y1), some (.int y2), none, none, none], [], M3)) hF (i := .iastore) rfl (fun _ => rfl) (fun M3 => ?_)
  exact rfl
set_option maxRecDepth 20000 in
theorem D_X12_numbers_11_eq (xs : Nat → Int32) (xl d : Nat) (v1 : Int32) (v2 : Int32) (v3 : Int32) (M : dp_M) : D_X12_numbers_11 xs xl d v1 v2 v3 M = if v3 ≤ 0 then (dp_w (60 : Int32) (fun y1 => D_X12_numbers_249 xs xl d v1 v2 v3 y1 M)) else (dp_w (v3 + (-1 : Int32)) (fun y2 => if y2 < 0 ∨ 400 ≤ Int32.toNatClampNeg y2 then none else (dp_w (dp_I M 186 (Int32.toNatClampNeg y2)) (fun y3 => dp_w ((60 : Int32) + v2) (fun y4 => if y3 < 0 ∨ 60 ≤ Int32.toNatClampNeg y3 then none else dp_w (dp_setI M 187 (Int32.toNatClampNeg y3) v2) (fun M5 => if y3 < 0 ∨ 120 ≤ Int32.toNatClampNeg y3 then none else (if y4 < 0 ∨ 120 ≤ Int32.toNatClampNeg y4 then none else dp_w (dp_setI M5 174 (Int32.toNatClampNeg y4) (dp_I M5 174 (Int32.toNatClampNeg y3))) (fun M6 => if y3 < 0 ∨ 120 ≤ Int32.toNatClampNeg y3 then none else (if y4 < 0 ∨ 120 ≤ Int32.toNatClampNeg y4 then none else dp_w (dp_setI M6 175 (Int32.toNatClampNeg y4) (dp_I M6 175 (Int32.toNatClampNeg y3))) (fun M7 => if y3 < 0 ∨ 120 ≤ Int32.toNatClampNeg y3 then none else (if y4 < 0 ∨ 120 ≤ Int32.toNatClampNeg y4 then none else dp_w (dp_setI M7 176 (Int32.toNatClampNeg y4) (dp_I M7 176 (Int32.toNatClampNeg y3))) (fun M8 => if y3 < 0 ∨ 120 ≤ Int32.toNatClampNeg y3 then none else (if y4 < 0 ∨ 120 ≤ Int32.toNatClampNeg y4 then none else dp_w (dp_setI M8 177 (Int32.toNatClampNeg y4) (dp_I M8 177 (Int32.toNatClampNeg y3))) (fun M9 => if y3 < 0 ∨ 120 ≤ Int32.toNatClampNeg y3 then none else (if y4 < 0 ∨ 120 ≤ Int32.toNatClampNeg y4 then none else dp_w (dp_setI M9 178 (Int32.toNatClampNeg y4) (dp_I M9 178 (Int32.toNatClampNeg y3))) (fun M10 => if y3 < 0 ∨ 120 ≤ Int32.toNatClampNeg y3 then none else (if y4 < 0 ∨ 120 ≤ Int32.toNatClampNeg y4 then none else dp_w (dp_setI M10 179 (Int32.toNatClampNeg y4) (dp_I M10 179 (Int32.toNatClampNeg y3))) (fun M11 => dp_w (0 : Int32) (fun y12 => D_X12_numbers_127 xs xl d v1 v2 y2 y3 y4 y12 M11))))))))))))))))))) := by
  have hF := dp_den_grow (md := true) (xs := xs) (xl := xl) d
  unfold D_X12_numbers_11
  refine dp_s1 hF (i := .iload_n 3) rfl (fun _ => rfl) ?_
  refine dp_s2 hF (i := .ifCond .le 233) (a := (245, [some (.ref 114), some (.int v1), some (.int v2), some (.int v3), none, none, none], [], M)) (b := (15, [some (.ref 114), some (.int v1), some (.int v2), some (.int v3), none, none, none], [], M)) rfl (fun _ => rfl) ?_ ?_
  · refine dp_s1 hF (i := .bipush 60) rfl (fun _ => rfl) ?_
    refine dp_s1w (60 : Int32) (fun (y1 : Int32) => (249, [some (.ref 114), some (.int v1), some (.int v2), some (.int v3), some (.int y1), none, none], [], M)) hF (i := .istore 4) rfl (fun _ => rfl) (fun y1 => ?_)
    exact rfl
  refine dp_s1w (v3 + (-1 : Int32)) (fun (y2 : Int32) => (18, [some (.ref 114), some (.int v1), some (.int v2), some (.int y2), none, none, none], [], M)) hF (i := .iinc 3 (-1)) rfl (fun _ => rfl) (fun y2 => ?_)
  refine dp_s1 hF (i := .aload_n 0) rfl (fun _ => rfl) ?_
  refine dp_s1 hF (i := .getfield 230) rfl (fun _ => rfl) ?_
  refine dp_s1 hF (i := .iload_n 3) rfl (fun _ => rfl) ?_
  refine dp_s3 hF (i := .iaload) rfl (fun _ => rfl) ?_
  refine dp_s1w (dp_I M 186 (Int32.toNatClampNeg y2)) (fun (y3 : Int32) => (26, [some (.ref 114), some (.int v1), some (.int v2), some (.int y2), some (.int y3), none, none], [], M)) hF (i := .istore 4) rfl (fun _ => rfl) (fun y3 => ?_)
  refine dp_s1 hF (i := .bipush 60) rfl (fun _ => rfl) ?_
  refine dp_s1 hF (i := .iload_n 2) rfl (fun _ => rfl) ?_
  refine dp_s1 hF (i := .iadd) rfl (fun _ => rfl) ?_
  refine dp_s1w ((60 : Int32) + v2) (fun (y4 : Int32) => (32, [some (.ref 114), some (.int v1), some (.int v2), some (.int y2), some (.int y3), some (.int y4), none], [], M)) hF (i := .istore 5) rfl (fun _ => rfl) (fun y4 => ?_)
  refine dp_s1 hF (i := .aload_n 0) rfl (fun _ => rfl) ?_
  refine dp_s1 hF (i := .getfield 233) rfl (fun _ => rfl) ?_
  refine dp_s1 hF (i := .iload 4) rfl (fun _ => rfl) ?_
  refine dp_s1 hF (i := .iload_n 2) rfl (fun _ => rfl) ?_
  refine dp_s3w (dp_setI M 187 (Int32.toNatClampNeg y3) v2) (fun (M5 : dp_M) => (40, [some (.ref 114), some (.int v1), some (.int v2), some (.int y2), some (.int y3), some (.int y4), none], [], M5)) hF (i := .iastore) rfl (fun _ => rfl) (fun M5 => ?_)
  refine dp_s1 hF (i := .aload_n 0) rfl (fun _ => rfl) ?_
  refine dp_s1 hF (i := .getfield 194) rfl (fun _ => rfl) ?_
  refine dp_s1 hF (i := .iload 5) rfl (fun _ => rfl) ?_
  refine dp_s1 hF (i := .aload_n 0) rfl (fun _ => rfl) ?_
  refine dp_s1 hF (i := .getfield 194) rfl (fun _ => rfl) ?_
  refine dp_s1 hF (i := .iload 4) rfl (fun _ => rfl) ?_
  refine dp_s3 hF (i := .iaload) rfl (fun _ => rfl) ?_
  refine dp_s3w (dp_setI M5 174 (Int32.toNatClampNeg y4) (dp_I M5 174 (Int32.toNatClampNeg y3))) (fun (M6 : dp_M) => (54, [some (.ref 114), some (.int v1), some (.int v2), some (.int y2), some (.int y3), some (.int y4), none], [], M6)) hF (i := .iastore) rfl (fun _ => rfl) (fun M6 => ?_)
  refine dp_s1 hF (i := .aload_n 0) rfl (fun _ => rfl) ?_
  refine dp_s1 hF (i := .getfield 197) rfl (fun _ => rfl) ?_
  refine dp_s1 hF (i := .iload 5) rfl (fun _ => rfl) ?_
  refine dp_s1 hF (i := .aload_n 0) rfl (fun _ => rfl) ?_
  refine dp_s1 hF (i := .getfield 197) rfl (fun _ => rfl) ?_
  refine dp_s1 hF (i := .iload 4) rfl (fun _ => rfl) ?_
  refine dp_s3 hF (i := .iaload) rfl (fun _ => rfl) ?_
  refine dp_s3w (dp_setI M6 175 (Int32.toNatClampNeg y4) (dp_I M6 175 (Int32.toNatClampNeg y3))) (fun (M7 : dp_M) => (68, [some (.ref 114), some (.int v1), some (.int v2), some (.int y2), some (.int y3), some (.int y4), none], [], M7)) hF (i := .iastore) rfl (fun _ => rfl) (fun M7 => ?_)
  refine dp_s1 hF (i := .aload_n 0) rfl (fun _ => rfl) ?_
  refine dp_s1 hF (i := .getfield 200) rfl (fun _ => rfl) ?_
  refine dp_s1 hF (i := .iload 5) rfl (fun _ => rfl) ?_
  refine dp_s1 hF (i := .aload_n 0) rfl (fun _ => rfl) ?_
  refine dp_s1 hF (i := .getfield 200) rfl (fun _ => rfl) ?_
  refine dp_s1 hF (i := .iload 4) rfl (fun _ => rfl) ?_
  refine dp_s3 hF (i := .iaload) rfl (fun _ => rfl) ?_
  refine dp_s3w (dp_setI M7 176 (Int32.toNatClampNeg y4) (dp_I M7 176 (Int32.toNatClampNeg y3))) (fun (M8 : dp_M) => (82, [some (.ref 114), some (.int v1), some (.int v2), some (.int y2), some (.int y3), some (.int y4), none], [], M8)) hF (i := .iastore) rfl (fun _ => rfl) (fun M8 => ?_)
  refine dp_s1 hF (i := .aload_n 0) rfl (fun _ => rfl) ?_
  refine dp_s1 hF (i := .getfield 203) rfl (fun _ => rfl) ?_
  refine dp_s1 hF (i := .iload 5) rfl (fun _ => rfl) ?_
  refine dp_s1 hF (i := .aload_n 0) rfl (fun _ => rfl) ?_
  refine dp_s1 hF (i := .getfield 203) rfl (fun _ => rfl) ?_
  refine dp_s1 hF (i := .iload 4) rfl (fun _ => rfl) ?_
  refine dp_s3 hF (i := .iaload) rfl (fun _ => rfl) ?_
  refine dp_s3w (dp_setI M8 177 (Int32.toNatClampNeg y4) (dp_I M8 177 (Int32.toNatClampNeg y3))) (fun (M9 : dp_M) => (96, [some (.ref 114), some (.int v1), some (.int v2), some (.int y2), some (.int y3), some (.int y4), none], [], M9)) hF (i := .iastore) rfl (fun _ => rfl) (fun M9 => ?_)
  refine dp_s1 hF (i := .aload_n 0) rfl (fun _ => rfl) ?_
  refine dp_s1 hF (i := .getfield 206) rfl (fun _ => rfl) ?_
  refine dp_s1 hF (i := .iload 5) rfl (fun _ => rfl) ?_
  refine dp_s1 hF (i := .aload_n 0) rfl (fun _ => rfl) ?_
  refine dp_s1 hF (i := .getfield 206) rfl (fun _ => rfl) ?_
  refine dp_s1 hF (i := .iload 4) rfl (fun _ => rfl) ?_
  refine dp_s3 hF (i := .iaload) rfl (fun _ => rfl) ?_
  refine dp_s3w (dp_setI M9 178 (Int32.toNatClampNeg y4) (dp_I M9 178 (Int32.toNatClampNeg y3))) (fun (M10 : dp_M) => (110, [some (.ref 114), some (.int v1), some (.int v2), some (.int y2), some (.int y3), some (.int y4), none], [], M10)) hF (i := .iastore) rfl (fun _ => rfl) (fun M10 => ?_)
  refine dp_s1 hF (i := .aload_n 0) rfl (fun _ => rfl) ?_
  refine dp_s1 hF (i := .getfield 209) rfl (fun _ => rfl) ?_
  refine dp_s1 hF (i := .iload 5) rfl (fun _ => rfl) ?_
  refine dp_s1 hF (i := .aload_n 0) rfl (fun _ => rfl) ?_
  refine dp_s1 hF (i := .getfield 209) rfl (fun _ => rfl) ?_
  refine dp_s1 hF (i := .iload 4) rfl (fun _ => rfl) ?_
  refine dp_s3 hF (i := .iaload) rfl (fun _ => rfl) ?_
  refine dp_s3w (dp_setI M10 179 (Int32.toNatClampNeg y4) (dp_I M10 179 (Int32.toNatClampNeg y3))) (fun (M11 : dp_M) => (124, [some (.ref 114), some (.int v1), some (.int v2), some (.int y2), some (.int y3), some (.int y4), none], [], M11)) hF (i := .iastore) rfl (fun _ => rfl) (fun M11 => ?_)
  refine dp_s1 hF (i := .iconst 0) rfl (fun _ => rfl) ?_
  refine dp_s1w (0 : Int32) (fun (y12 : Int32) => (127, [some (.ref 114), some (.int v1), some (.int v2), some (.int y2), some (.int y3), some (.int y4), some (.int y12)], [], M11)) hF (i := .istore 6) rfl (fun _ => rfl) (fun y12 => ?_)
  exact rfl
set_option maxRecDepth 20000 in
theorem D_X12_numbers_249_eq (xs : Nat → Int32) (xl d : Nat) (v1 : Int32) (v2 : Int32) (v3 : Int32) (v4 : Int32) (M : dp_M) : D_X12_numbers_249 xs xl d v1 v2 v3 v4 M = if ((60 : Int32) + v2) ≤ v4 then (dp_w (dp_setI M 114 92 v2) (fun M1 => some (.inl none, M1))) else (if v4 < 0 ∨ 120 ≤ Int32.toNatClampNeg v4 then none else (if (dp_I M 177 (Int32.toNatClampNeg v4)) = (-1 : Int32) then (dp_w (v4 + (1 : Int32)) (fun y2 => D_X12_numbers_249 xs xl d v1 v2 v3 y2 M)) else (if v4 < 0 ∨ 120 ≤ Int32.toNatClampNeg v4 then none else (if (dp_I M 177 (Int32.toNatClampNeg v4)) < 0 ∨ 60 ≤ Int32.toNatClampNeg (dp_I M 177 (Int32.toNatClampNeg v4)) then none else (if v4 < 0 ∨ 120 ≤ Int32.toNatClampNeg v4 then none else dp_w (dp_setI M 177 (Int32.toNatClampNeg v4) (dp_I M 187 (Int32.toNatClampNeg (dp_I M 177 (Int32.toNatClampNeg v4))))) (fun M3 => if v4 < 0 ∨ 120 ≤ Int32.toNatClampNeg v4 then none else (if (dp_I M3 178 (Int32.toNatClampNeg v4)) < 0 ∨ 60 ≤ Int32.toNatClampNeg (dp_I M3 178 (Int32.toNatClampNeg v4)) then none else (if v4 < 0 ∨ 120 ≤ Int32.toNatClampNeg v4 then none else dp_w (dp_setI M3 178 (Int32.toNatClampNeg v4) (dp_I M3 187 (Int32.toNatClampNeg (dp_I M3 178 (Int32.toNatClampNeg v4))))) (fun M4 => dp_w (v4 + (1 : Int32)) (fun y5 => D_X12_numbers_249 xs xl d v1 v2 v3 y5 M4)))))))))) := by
  have hF := dp_den_grow (md := true) (xs := xs) (xl := xl) d
  unfold D_X12_numbers_249
  refine dp_s1 hF (i := .iload 4) rfl (fun _ => rfl) ?_
  refine dp_s1 hF (i := .bipush 60) rfl (fun _ => rfl) ?_
  refine dp_s1 hF (i := .iload_n 2) rfl (fun _ => rfl) ?_
  refine dp_s1 hF (i := .iadd) rfl (fun _ => rfl) ?_
  refine dp_s2 hF (i := .if_icmp .ge 58) (a := (313, [some (.ref 114), some (.int v1), some (.int v2), some (.int v3), some (.int v4), none, none], [], M)) (b := (258, [some (.ref 114), some (.int v1), some (.int v2), some (.int v3), some (.int v4), none, none], [], M)) rfl (fun _ => rfl) ?_ ?_
  · refine dp_s1 hF (i := .aload_n 0) rfl (fun _ => rfl) ?_
    refine dp_s1 hF (i := .iload_n 2) rfl (fun _ => rfl) ?_
    refine dp_s1w (dp_setI M 114 92 v2) (fun (M1 : dp_M) => (318, [some (.ref 114), some (.int v1), some (.int v2), some (.int v3), some (.int v4), none, none], [], M1)) hF (i := .putfield 809) rfl (fun _ => rfl) (fun M1 => ?_)
    exact dp_s0 hF (i := .return_) rfl (fun _ => rfl)
  refine dp_s1 hF (i := .aload_n 0) rfl (fun _ => rfl) ?_
  refine dp_s1 hF (i := .getfield 203) rfl (fun _ => rfl) ?_
  refine dp_s1 hF (i := .iload 4) rfl (fun _ => rfl) ?_
  refine dp_s3 hF (i := .iaload) rfl (fun _ => rfl) ?_
  refine dp_s1 hF (i := .iconst (-1)) rfl (fun _ => rfl) ?_
  refine dp_s2 hF (i := .if_icmp .eq 41) (a := (307, [some (.ref 114), some (.int v1), some (.int v2), some (.int v3), some (.int v4), none, none], [], M)) (b := (269, [some (.ref 114), some (.int v1), some (.int v2), some (.int v3), some (.int v4), none, none], [], M)) rfl (fun _ => rfl) ?_ ?_
  · refine dp_s1w (v4 + (1 : Int32)) (fun (y2 : Int32) => (310, [some (.ref 114), some (.int v1), some (.int v2), some (.int v3), some (.int y2), none, none], [], M)) hF (i := .iinc 4 1) rfl (fun _ => rfl) (fun y2 => ?_)
    refine dp_s1 hF (i := .goto (-61)) rfl (fun _ => rfl) ?_
    exact rfl
  refine dp_s1 hF (i := .aload_n 0) rfl (fun _ => rfl) ?_
  refine dp_s1 hF (i := .getfield 203) rfl (fun _ => rfl) ?_
  refine dp_s1 hF (i := .iload 4) rfl (fun _ => rfl) ?_
  refine dp_s1 hF (i := .aload_n 0) rfl (fun _ => rfl) ?_
  refine dp_s1 hF (i := .getfield 233) rfl (fun _ => rfl) ?_
  refine dp_s1 hF (i := .aload_n 0) rfl (fun _ => rfl) ?_
  refine dp_s1 hF (i := .getfield 203) rfl (fun _ => rfl) ?_
  refine dp_s1 hF (i := .iload 4) rfl (fun _ => rfl) ?_
  refine dp_s3 hF (i := .iaload) rfl (fun _ => rfl) ?_
  refine dp_s3 hF (i := .iaload) rfl (fun _ => rfl) ?_
  refine dp_s3w (dp_setI M 177 (Int32.toNatClampNeg v4) (dp_I M 187 (Int32.toNatClampNeg (dp_I M 177 (Int32.toNatClampNeg v4))))) (fun (M3 : dp_M) => (288, [some (.ref 114), some (.int v1), some (.int v2), some (.int v3), some (.int v4), none, none], [], M3)) hF (i := .iastore) rfl (fun _ => rfl) (fun M3 => ?_)
  refine dp_s1 hF (i := .aload_n 0) rfl (fun _ => rfl) ?_
  refine dp_s1 hF (i := .getfield 206) rfl (fun _ => rfl) ?_
  refine dp_s1 hF (i := .iload 4) rfl (fun _ => rfl) ?_
  refine dp_s1 hF (i := .aload_n 0) rfl (fun _ => rfl) ?_
  refine dp_s1 hF (i := .getfield 233) rfl (fun _ => rfl) ?_
  refine dp_s1 hF (i := .aload_n 0) rfl (fun _ => rfl) ?_
  refine dp_s1 hF (i := .getfield 206) rfl (fun _ => rfl) ?_
  refine dp_s1 hF (i := .iload 4) rfl (fun _ => rfl) ?_
  refine dp_s3 hF (i := .iaload) rfl (fun _ => rfl) ?_
  refine dp_s3 hF (i := .iaload) rfl (fun _ => rfl) ?_
  refine dp_s3w (dp_setI M3 178 (Int32.toNatClampNeg v4) (dp_I M3 187 (Int32.toNatClampNeg (dp_I M3 178 (Int32.toNatClampNeg v4))))) (fun (M4 : dp_M) => (307, [some (.ref 114), some (.int v1), some (.int v2), some (.int v3), some (.int v4), none, none], [], M4)) hF (i := .iastore) rfl (fun _ => rfl) (fun M4 => ?_)
  refine dp_s1w (v4 + (1 : Int32)) (fun (y5 : Int32) => (310, [some (.ref 114), some (.int v1), some (.int v2), some (.int v3), some (.int y5), none, none], [], M4)) hF (i := .iinc 4 1) rfl (fun _ => rfl) (fun y5 => ?_)
  refine dp_s1 hF (i := .goto (-61)) rfl (fun _ => rfl) ?_
  exact rfl
set_option maxRecDepth 20000 in
theorem D_X12_numbers_127_eq (xs : Nat → Int32) (xl d : Nat) (v1 : Int32) (v2 : Int32) (v3 : Int32) (v4 : Int32) (v5 : Int32) (v6 : Int32) (M : dp_M) : D_X12_numbers_127 xs xl d v1 v2 v3 v4 v5 v6 M = if v4 < 0 ∨ 120 ≤ Int32.toNatClampNeg v4 then none else (if (dp_I M 179 (Int32.toNatClampNeg v4)) ≤ v6 then (dp_w (v2 + (1 : Int32)) (fun y1 => if v4 < 0 ∨ 120 ≤ Int32.toNatClampNeg v4 then none else (if (dp_I M 177 (Int32.toNatClampNeg v4)) = (-1 : Int32) then (D_X12_numbers_11_a xs xl d v1 y1 v3 v4 v5 v6 M) else (if v4 < 0 ∨ 120 ≤ Int32.toNatClampNeg v4 then none else (if v3 < 0 ∨ 400 ≤ Int32.toNatClampNeg v3 then none else dp_w (dp_setI M 186 (Int32.toNatClampNeg v3) (dp_I M 178 (Int32.toNatClampNeg v4))) (fun M2 => if v4 < 0 ∨ 120 ≤ Int32.toNatClampNeg v4 then none else (if (v3 + (1 : Int32)) < 0 ∨ 400 ≤ Int32.toNatClampNeg (v3 + (1 : Int32)) then none else dp_w (dp_setI M2 186 (Int32.toNatClampNeg (v3 + (1 : Int32))) (dp_I M2 177 (Int32.toNatClampNeg v4))) (fun M3 => dp_w (v3 + (2 : Int32)) (fun y4 => D_X12_numbers_11_a xs xl d v1 y1 y4 v4 v5 v6 M3))))))))) else (if (((6 : Int32) * v4) + v6) < 0 ∨ 720 ≤ Int32.toNatClampNeg (((6 : Int32) * v4) + v6) then none else (if (((6 : Int32) * v5) + v6) < 0 ∨ 720 ≤ Int32.toNatClampNeg (((6 : Int32) * v5) + v6) then none else dp_w (dp_setI M 180 (Int32.toNatClampNeg (((6 : Int32) * v5) + v6)) (dp_I M 180 (Int32.toNatClampNeg (((6 : Int32) * v4) + v6)))) (fun M5 => if (((6 : Int32) * v4) + v6) < 0 ∨ 720 ≤ Int32.toNatClampNeg (((6 : Int32) * v4) + v6) then none else (if (((6 : Int32) * v5) + v6) < 0 ∨ 720 ≤ Int32.toNatClampNeg (((6 : Int32) * v5) + v6) then none else dp_w (dp_setI M5 181 (Int32.toNatClampNeg (((6 : Int32) * v5) + v6)) (dp_I M5 181 (Int32.toNatClampNeg (((6 : Int32) * v4) + v6)))) (fun M6 => dp_w (v6 + (1 : Int32)) (fun y7 => D_X12_numbers_127 xs xl d v1 v2 v3 v4 v5 y7 M6))))))) := by
  have hF := dp_den_grow (md := true) (xs := xs) (xl := xl) d
  unfold D_X12_numbers_127
  refine dp_s1 hF (i := .iload 6) rfl (fun _ => rfl) ?_
  refine dp_s1 hF (i := .aload_n 0) rfl (fun _ => rfl) ?_
  refine dp_s1 hF (i := .getfield 209) rfl (fun _ => rfl) ?_
  refine dp_s1 hF (i := .iload 4) rfl (fun _ => rfl) ?_
  refine dp_s3 hF (i := .iaload) rfl (fun _ => rfl) ?_
  refine dp_s2 hF (i := .if_icmp .ge 61) (a := (197, [some (.ref 114), some (.int v1), some (.int v2), some (.int v3), some (.int v4), some (.int v5), some (.int v6)], [], M)) (b := (139, [some (.ref 114), some (.int v1), some (.int v2), some (.int v3), some (.int v4), some (.int v5), some (.int v6)], [], M)) rfl (fun _ => rfl) ?_ ?_
  · refine dp_s1w (v2 + (1 : Int32)) (fun (y1 : Int32) => (200, [some (.ref 114), some (.int v1), some (.int y1), some (.int v3), some (.int v4), some (.int v5), some (.int v6)], [], M)) hF (i := .iinc 2 1) rfl (fun _ => rfl) (fun y1 => ?_)
    refine dp_s1 hF (i := .aload_n 0) rfl (fun _ => rfl) ?_
    refine dp_s1 hF (i := .getfield 203) rfl (fun _ => rfl) ?_
    refine dp_s1 hF (i := .iload 4) rfl (fun _ => rfl) ?_
    refine dp_s3 hF (i := .iaload) rfl (fun _ => rfl) ?_
    refine dp_s1 hF (i := .iconst (-1)) rfl (fun _ => rfl) ?_
    refine dp_s2 hF (i := .if_icmp .eq 34) (a := (242, [some (.ref 114), some (.int v1), some (.int y1), some (.int v3), some (.int v4), some (.int v5), some (.int v6)], [], M)) (b := (211, [some (.ref 114), some (.int v1), some (.int y1), some (.int v3), some (.int v4), some (.int v5), some (.int v6)], [], M)) rfl (fun _ => rfl) ?_ ?_
    · refine dp_s1 hF (i := .goto (-231)) rfl (fun _ => rfl) ?_
      exact rfl
    refine dp_s1 hF (i := .aload_n 0) rfl (fun _ => rfl) ?_
    refine dp_s1 hF (i := .getfield 230) rfl (fun _ => rfl) ?_
    refine dp_s1 hF (i := .iload_n 3) rfl (fun _ => rfl) ?_
    refine dp_s1 hF (i := .aload_n 0) rfl (fun _ => rfl) ?_
    refine dp_s1 hF (i := .getfield 206) rfl (fun _ => rfl) ?_
    refine dp_s1 hF (i := .iload 4) rfl (fun _ => rfl) ?_
    refine dp_s3 hF (i := .iaload) rfl (fun _ => rfl) ?_
    refine dp_s3w (dp_setI M 186 (Int32.toNatClampNeg v3) (dp_I M 178 (Int32.toNatClampNeg v4))) (fun (M2 : dp_M) => (224, [some (.ref 114), some (.int v1), some (.int y1), some (.int v3), some (.int v4), some (.int v5), some (.int v6)], [], M2)) hF (i := .iastore) rfl (fun _ => rfl) (fun M2 => ?_)
    refine dp_s1 hF (i := .aload_n 0) rfl (fun _ => rfl) ?_
    refine dp_s1 hF (i := .getfield 230) rfl (fun _ => rfl) ?_
    refine dp_s1 hF (i := .iload_n 3) rfl (fun _ => rfl) ?_
    refine dp_s1 hF (i := .iconst 1) rfl (fun _ => rfl) ?_
    refine dp_s1 hF (i := .iadd) rfl (fun _ => rfl) ?_
    refine dp_s1 hF (i := .aload_n 0) rfl (fun _ => rfl) ?_
    refine dp_s1 hF (i := .getfield 203) rfl (fun _ => rfl) ?_
    refine dp_s1 hF (i := .iload 4) rfl (fun _ => rfl) ?_
    refine dp_s3 hF (i := .iaload) rfl (fun _ => rfl) ?_
    refine dp_s3w (dp_setI M2 186 (Int32.toNatClampNeg (v3 + (1 : Int32))) (dp_I M2 177 (Int32.toNatClampNeg v4))) (fun (M3 : dp_M) => (239, [some (.ref 114), some (.int v1), some (.int y1), some (.int v3), some (.int v4), some (.int v5), some (.int v6)], [], M3)) hF (i := .iastore) rfl (fun _ => rfl) (fun M3 => ?_)
    refine dp_s1w (v3 + (2 : Int32)) (fun (y4 : Int32) => (242, [some (.ref 114), some (.int v1), some (.int y1), some (.int y4), some (.int v4), some (.int v5), some (.int v6)], [], M3)) hF (i := .iinc 3 2) rfl (fun _ => rfl) (fun y4 => ?_)
    refine dp_s1 hF (i := .goto (-231)) rfl (fun _ => rfl) ?_
    exact rfl
  refine dp_s1 hF (i := .aload_n 0) rfl (fun _ => rfl) ?_
  refine dp_s1 hF (i := .getfield 212) rfl (fun _ => rfl) ?_
  refine dp_s1 hF (i := .bipush 6) rfl (fun _ => rfl) ?_
  refine dp_s1 hF (i := .iload 5) rfl (fun _ => rfl) ?_
  refine dp_s1 hF (i := .imul) rfl (fun _ => rfl) ?_
  refine dp_s1 hF (i := .iload 6) rfl (fun _ => rfl) ?_
  refine dp_s1 hF (i := .iadd) rfl (fun _ => rfl) ?_
  refine dp_s1 hF (i := .aload_n 0) rfl (fun _ => rfl) ?_
  refine dp_s1 hF (i := .getfield 212) rfl (fun _ => rfl) ?_
  refine dp_s1 hF (i := .bipush 6) rfl (fun _ => rfl) ?_
  refine dp_s1 hF (i := .iload 4) rfl (fun _ => rfl) ?_
  refine dp_s1 hF (i := .imul) rfl (fun _ => rfl) ?_
  refine dp_s1 hF (i := .iload 6) rfl (fun _ => rfl) ?_
  refine dp_s1 hF (i := .iadd) rfl (fun _ => rfl) ?_
  refine dp_s3 hF (i := .iaload) rfl (fun _ => rfl) ?_
  refine dp_s3w (dp_setI M 180 (Int32.toNatClampNeg (((6 : Int32) * v5) + v6)) (dp_I M 180 (Int32.toNatClampNeg (((6 : Int32) * v4) + v6)))) (fun (M5 : dp_M) => (165, [some (.ref 114), some (.int v1), some (.int v2), some (.int v3), some (.int v4), some (.int v5), some (.int v6)], [], M5)) hF (i := .iastore) rfl (fun _ => rfl) (fun M5 => ?_)
  refine dp_s1 hF (i := .aload_n 0) rfl (fun _ => rfl) ?_
  refine dp_s1 hF (i := .getfield 215) rfl (fun _ => rfl) ?_
  refine dp_s1 hF (i := .bipush 6) rfl (fun _ => rfl) ?_
  refine dp_s1 hF (i := .iload 5) rfl (fun _ => rfl) ?_
  refine dp_s1 hF (i := .imul) rfl (fun _ => rfl) ?_
  refine dp_s1 hF (i := .iload 6) rfl (fun _ => rfl) ?_
  refine dp_s1 hF (i := .iadd) rfl (fun _ => rfl) ?_
  refine dp_s1 hF (i := .aload_n 0) rfl (fun _ => rfl) ?_
  refine dp_s1 hF (i := .getfield 215) rfl (fun _ => rfl) ?_
  refine dp_s1 hF (i := .bipush 6) rfl (fun _ => rfl) ?_
  refine dp_s1 hF (i := .iload 4) rfl (fun _ => rfl) ?_
  refine dp_s1 hF (i := .imul) rfl (fun _ => rfl) ?_
  refine dp_s1 hF (i := .iload 6) rfl (fun _ => rfl) ?_
  refine dp_s1 hF (i := .iadd) rfl (fun _ => rfl) ?_
  refine dp_s3 hF (i := .iaload) rfl (fun _ => rfl) ?_
  refine dp_s3w (dp_setI M5 181 (Int32.toNatClampNeg (((6 : Int32) * v5) + v6)) (dp_I M5 181 (Int32.toNatClampNeg (((6 : Int32) * v4) + v6)))) (fun (M6 : dp_M) => (191, [some (.ref 114), some (.int v1), some (.int v2), some (.int v3), some (.int v4), some (.int v5), some (.int v6)], [], M6)) hF (i := .iastore) rfl (fun _ => rfl) (fun M6 => ?_)
  refine dp_s1w (v6 + (1 : Int32)) (fun (y7 : Int32) => (194, [some (.ref 114), some (.int v1), some (.int v2), some (.int v3), some (.int v4), some (.int v5), some (.int y7)], [], M6)) hF (i := .iinc 6 1) rfl (fun _ => rfl) (fun y7 => ?_)
  refine dp_s1 hF (i := .goto (-67)) rfl (fun _ => rfl) ?_
  exact rfl
set_option maxRecDepth 20000 in
theorem D_X12_numbers_11_a_eq (xs : Nat → Int32) (xl d : Nat) (v1 : Int32) (v2 : Int32) (v3 : Int32) (v4 : Int32) (v5 : Int32) (v6 : Int32) (M : dp_M) : D_X12_numbers_11_a xs xl d v1 v2 v3 v4 v5 v6 M = if v3 ≤ 0 then (dp_w (60 : Int32) (fun y1 => D_X12_numbers_249_a xs xl d v1 v2 v3 y1 v5 v6 M)) else (dp_w (v3 + (-1 : Int32)) (fun y2 => if y2 < 0 ∨ 400 ≤ Int32.toNatClampNeg y2 then none else (dp_w (dp_I M 186 (Int32.toNatClampNeg y2)) (fun y3 => dp_w ((60 : Int32) + v2) (fun y4 => if y3 < 0 ∨ 60 ≤ Int32.toNatClampNeg y3 then none else dp_w (dp_setI M 187 (Int32.toNatClampNeg y3) v2) (fun M5 => if y3 < 0 ∨ 120 ≤ Int32.toNatClampNeg y3 then none else (if y4 < 0 ∨ 120 ≤ Int32.toNatClampNeg y4 then none else dp_w (dp_setI M5 174 (Int32.toNatClampNeg y4) (dp_I M5 174 (Int32.toNatClampNeg y3))) (fun M6 => if y3 < 0 ∨ 120 ≤ Int32.toNatClampNeg y3 then none else (if y4 < 0 ∨ 120 ≤ Int32.toNatClampNeg y4 then none else dp_w (dp_setI M6 175 (Int32.toNatClampNeg y4) (dp_I M6 175 (Int32.toNatClampNeg y3))) (fun M7 => if y3 < 0 ∨ 120 ≤ Int32.toNatClampNeg y3 then none else (if y4 < 0 ∨ 120 ≤ Int32.toNatClampNeg y4 then none else dp_w (dp_setI M7 176 (Int32.toNatClampNeg y4) (dp_I M7 176 (Int32.toNatClampNeg y3))) (fun M8 => if y3 < 0 ∨ 120 ≤ Int32.toNatClampNeg y3 then none else (if y4 < 0 ∨ 120 ≤ Int32.toNatClampNeg y4 then none else dp_w (dp_setI M8 177 (Int32.toNatClampNeg y4) (dp_I M8 177 (Int32.toNatClampNeg y3))) (fun M9 => if y3 < 0 ∨ 120 ≤ Int32.toNatClampNeg y3 then none else (if y4 < 0 ∨ 120 ≤ Int32.toNatClampNeg y4 then none else dp_w (dp_setI M9 178 (Int32.toNatClampNeg y4) (dp_I M9 178 (Int32.toNatClampNeg y3))) (fun M10 => if y3 < 0 ∨ 120 ≤ Int32.toNatClampNeg y3 then none else (if y4 < 0 ∨ 120 ≤ Int32.toNatClampNeg y4 then none else dp_w (dp_setI M10 179 (Int32.toNatClampNeg y4) (dp_I M10 179 (Int32.toNatClampNeg y3))) (fun M11 => dp_w (0 : Int32) (fun y12 => D_X12_numbers_127 xs xl d v1 v2 y2 y3 y4 y12 M11))))))))))))))))))) := by
  have hF := dp_den_grow (md := true) (xs := xs) (xl := xl) d
  unfold D_X12_numbers_11_a
  refine dp_s1 hF (i := .iload_n 3) rfl (fun _ => rfl) ?_
  refine dp_s2 hF (i := .ifCond .le 233) (a := (245, [some (.ref 114), some (.int v1), some (.int v2), some (.int v3), some (.int v4), some (.int v5), some (.int v6)], [], M)) (b := (15, [some (.ref 114), some (.int v1), some (.int v2), some (.int v3), some (.int v4), some (.int v5), some (.int v6)], [], M)) rfl (fun _ => rfl) ?_ ?_
  · refine dp_s1 hF (i := .bipush 60) rfl (fun _ => rfl) ?_
    refine dp_s1w (60 : Int32) (fun (y1 : Int32) => (249, [some (.ref 114), some (.int v1), some (.int v2), some (.int v3), some (.int y1), some (.int v5), some (.int v6)], [], M)) hF (i := .istore 4) rfl (fun _ => rfl) (fun y1 => ?_)
    exact rfl
  refine dp_s1w (v3 + (-1 : Int32)) (fun (y2 : Int32) => (18, [some (.ref 114), some (.int v1), some (.int v2), some (.int y2), some (.int v4), some (.int v5), some (.int v6)], [], M)) hF (i := .iinc 3 (-1)) rfl (fun _ => rfl) (fun y2 => ?_)
  refine dp_s1 hF (i := .aload_n 0) rfl (fun _ => rfl) ?_
  refine dp_s1 hF (i := .getfield 230) rfl (fun _ => rfl) ?_
  refine dp_s1 hF (i := .iload_n 3) rfl (fun _ => rfl) ?_
  refine dp_s3 hF (i := .iaload) rfl (fun _ => rfl) ?_
  refine dp_s1w (dp_I M 186 (Int32.toNatClampNeg y2)) (fun (y3 : Int32) => (26, [some (.ref 114), some (.int v1), some (.int v2), some (.int y2), some (.int y3), some (.int v5), some (.int v6)], [], M)) hF (i := .istore 4) rfl (fun _ => rfl) (fun y3 => ?_)
  refine dp_s1 hF (i := .bipush 60) rfl (fun _ => rfl) ?_
  refine dp_s1 hF (i := .iload_n 2) rfl (fun _ => rfl) ?_
  refine dp_s1 hF (i := .iadd) rfl (fun _ => rfl) ?_
  refine dp_s1w ((60 : Int32) + v2) (fun (y4 : Int32) => (32, [some (.ref 114), some (.int v1), some (.int v2), some (.int y2), some (.int y3), some (.int y4), some (.int v6)], [], M)) hF (i := .istore 5) rfl (fun _ => rfl) (fun y4 => ?_)
  refine dp_s1 hF (i := .aload_n 0) rfl (fun _ => rfl) ?_
  refine dp_s1 hF (i := .getfield 233) rfl (fun _ => rfl) ?_
  refine dp_s1 hF (i := .iload 4) rfl (fun _ => rfl) ?_
  refine dp_s1 hF (i := .iload_n 2) rfl (fun _ => rfl) ?_
  refine dp_s3w (dp_setI M 187 (Int32.toNatClampNeg y3) v2) (fun (M5 : dp_M) => (40, [some (.ref 114), some (.int v1), some (.int v2), some (.int y2), some (.int y3), some (.int y4), some (.int v6)], [], M5)) hF (i := .iastore) rfl (fun _ => rfl) (fun M5 => ?_)
  refine dp_s1 hF (i := .aload_n 0) rfl (fun _ => rfl) ?_
  refine dp_s1 hF (i := .getfield 194) rfl (fun _ => rfl) ?_
  refine dp_s1 hF (i := .iload 5) rfl (fun _ => rfl) ?_
  refine dp_s1 hF (i := .aload_n 0) rfl (fun _ => rfl) ?_
  refine dp_s1 hF (i := .getfield 194) rfl (fun _ => rfl) ?_
  refine dp_s1 hF (i := .iload 4) rfl (fun _ => rfl) ?_
  refine dp_s3 hF (i := .iaload) rfl (fun _ => rfl) ?_
  refine dp_s3w (dp_setI M5 174 (Int32.toNatClampNeg y4) (dp_I M5 174 (Int32.toNatClampNeg y3))) (fun (M6 : dp_M) => (54, [some (.ref 114), some (.int v1), some (.int v2), some (.int y2), some (.int y3), some (.int y4), some (.int v6)], [], M6)) hF (i := .iastore) rfl (fun _ => rfl) (fun M6 => ?_)
  refine dp_s1 hF (i := .aload_n 0) rfl (fun _ => rfl) ?_
  refine dp_s1 hF (i := .getfield 197) rfl (fun _ => rfl) ?_
  refine dp_s1 hF (i := .iload 5) rfl (fun _ => rfl) ?_
  refine dp_s1 hF (i := .aload_n 0) rfl (fun _ => rfl) ?_
  refine dp_s1 hF (i := .getfield 197) rfl (fun _ => rfl) ?_
  refine dp_s1 hF (i := .iload 4) rfl (fun _ => rfl) ?_
  refine dp_s3 hF (i := .iaload) rfl (fun _ => rfl) ?_
  refine dp_s3w (dp_setI M6 175 (Int32.toNatClampNeg y4) (dp_I M6 175 (Int32.toNatClampNeg y3))) (fun (M7 : dp_M) => (68, [some (.ref 114), some (.int v1), some (.int v2), some (.int y2), some (.int y3), some (.int y4), some (.int v6)], [], M7)) hF (i := .iastore) rfl (fun _ => rfl) (fun M7 => ?_)
  refine dp_s1 hF (i := .aload_n 0) rfl (fun _ => rfl) ?_
  refine dp_s1 hF (i := .getfield 200) rfl (fun _ => rfl) ?_
  refine dp_s1 hF (i := .iload 5) rfl (fun _ => rfl) ?_
  refine dp_s1 hF (i := .aload_n 0) rfl (fun _ => rfl) ?_
  refine dp_s1 hF (i := .getfield 200) rfl (fun _ => rfl) ?_
  refine dp_s1 hF (i := .iload 4) rfl (fun _ => rfl) ?_
  refine dp_s3 hF (i := .iaload) rfl (fun _ => rfl) ?_
  refine dp_s3w (dp_setI M7 176 (Int32.toNatClampNeg y4) (dp_I M7 176 (Int32.toNatClampNeg y3))) (fun (M8 : dp_M) => (82, [some (.ref 114), some (.int v1), some (.int v2), some (.int y2), some (.int y3), some (.int y4), some (.int v6)], [], M8)) hF (i := .iastore) rfl (fun _ => rfl) (fun M8 => ?_)
  refine dp_s1 hF (i := .aload_n 0) rfl (fun _ => rfl) ?_
  refine dp_s1 hF (i := .getfield 203) rfl (fun _ => rfl) ?_
  refine dp_s1 hF (i := .iload 5) rfl (fun _ => rfl) ?_
  refine dp_s1 hF (i := .aload_n 0) rfl (fun _ => rfl) ?_
  refine dp_s1 hF (i := .getfield 203) rfl (fun _ => rfl) ?_
  refine dp_s1 hF (i := .iload 4) rfl (fun _ => rfl) ?_
  refine dp_s3 hF (i := .iaload) rfl (fun _ => rfl) ?_
  refine dp_s3w (dp_setI M8 177 (Int32.toNatClampNeg y4) (dp_I M8 177 (Int32.toNatClampNeg y3))) (fun (M9 : dp_M) => (96, [some (.ref 114), some (.int v1), some (.int v2), some (.int y2), some (.int y3), some (.int y4), some (.int v6)], [], M9)) hF (i := .iastore) rfl (fun _ => rfl) (fun M9 => ?_)
  refine dp_s1 hF (i := .aload_n 0) rfl (fun _ => rfl) ?_
  refine dp_s1 hF (i := .getfield 206) rfl (fun _ => rfl) ?_
  refine dp_s1 hF (i := .iload 5) rfl (fun _ => rfl) ?_
  refine dp_s1 hF (i := .aload_n 0) rfl (fun _ => rfl) ?_
  refine dp_s1 hF (i := .getfield 206) rfl (fun _ => rfl) ?_
  refine dp_s1 hF (i := .iload 4) rfl (fun _ => rfl) ?_
  refine dp_s3 hF (i := .iaload) rfl (fun _ => rfl) ?_
  refine dp_s3w (dp_setI M9 178 (Int32.toNatClampNeg y4) (dp_I M9 178 (Int32.toNatClampNeg y3))) (fun (M10 : dp_M) => (110, [some (.ref 114), some (.int v1), some (.int v2), some (.int y2), some (.int y3), some (.int y4), some (.int v6)], [], M10)) hF (i := .iastore) rfl (fun _ => rfl) (fun M10 => ?_)
  refine dp_s1 hF (i := .aload_n 0) rfl (fun _ => rfl) ?_
  refine dp_s1 hF (i := .getfield 209) rfl (fun _ => rfl) ?_
  refine dp_s1 hF (i := .iload 5) rfl (fun _ => rfl) ?_
  refine dp_s1 hF (i := .aload_n 0) rfl (fun _ => rfl) ?_
  refine dp_s1 hF (i := .getfield 209) rfl (fun _ => rfl) ?_
  refine dp_s1 hF (i := .iload 4) rfl (fun _ => rfl) ?_
  refine dp_s3 hF (i := .iaload) rfl (fun _ => rfl) ?_
  refine dp_s3w (dp_setI M10 179 (Int32.toNatClampNeg y4) (dp_I M10 179 (Int32.toNatClampNeg y3))) (fun (M11 : dp_M) => (124, [some (.ref 114), some (.int v1), some (.int v2), some (.int y2), some (.int y3), some (.int y4), some (.int v6)], [], M11)) hF (i := .iastore) rfl (fun _ => rfl) (fun M11 => ?_)
  refine dp_s1 hF (i := .iconst 0) rfl (fun _ => rfl) ?_
  refine dp_s1w (0 : Int32) (fun (y12 : Int32) => (127, [some (.ref 114), some (.int v1), some (.int v2), some (.int y2), some (.int y3), some (.int y4), some (.int y12)], [], M11)) hF (i := .istore 6) rfl (fun _ => rfl) (fun y12 => ?_)
  exact rfl
set_option maxRecDepth 20000 in
theorem D_X12_numbers_249_a_eq (xs : Nat → Int32) (xl d : Nat) (v1 : Int32) (v2 : Int32) (v3 : Int32) (v4 : Int32) (v5 : Int32) (v6 : Int32) (M : dp_M) : D_X12_numbers_249_a xs xl d v1 v2 v3 v4 v5 v6 M = if ((60 : Int32) + v2) ≤ v4 then (dp_w (dp_setI M 114 92 v2) (fun M1 => some (.inl none, M1))) else (if v4 < 0 ∨ 120 ≤ Int32.toNatClampNeg v4 then none else (if (dp_I M 177 (Int32.toNatClampNeg v4)) = (-1 : Int32) then (dp_w (v4 + (1 : Int32)) (fun y2 => D_X12_numbers_249_a xs xl d v1 v2 v3 y2 v5 v6 M)) else (if v4 < 0 ∨ 120 ≤ Int32.toNatClampNeg v4 then none else (if (dp_I M 177 (Int32.toNatClampNeg v4)) < 0 ∨ 60 ≤ Int32.toNatClampNeg (dp_I M 177 (Int32.toNatClampNeg v4)) then none else (if v4 < 0 ∨ 120 ≤ Int32.toNatClampNeg v4 then none else dp_w (dp_setI M 177 (Int32.toNatClampNeg v4) (dp_I M 187 (Int32.toNatClampNeg (dp_I M 177 (Int32.toNatClampNeg v4))))) (fun M3 => if v4 < 0 ∨ 120 ≤ Int32.toNatClampNeg v4 then none else (if (dp_I M3 178 (Int32.toNatClampNeg v4)) < 0 ∨ 60 ≤ Int32.toNatClampNeg (dp_I M3 178 (Int32.toNatClampNeg v4)) then none else (if v4 < 0 ∨ 120 ≤ Int32.toNatClampNeg v4 then none else dp_w (dp_setI M3 178 (Int32.toNatClampNeg v4) (dp_I M3 187 (Int32.toNatClampNeg (dp_I M3 178 (Int32.toNatClampNeg v4))))) (fun M4 => dp_w (v4 + (1 : Int32)) (fun y5 => D_X12_numbers_249_a xs xl d v1 v2 v3 y5 v5 v6 M4)))))))))) := by
  have hF := dp_den_grow (md := true) (xs := xs) (xl := xl) d
  unfold D_X12_numbers_249_a
  refine dp_s1 hF (i := .iload 4) rfl (fun _ => rfl) ?_
  refine dp_s1 hF (i := .bipush 60) rfl (fun _ => rfl) ?_
  refine dp_s1 hF (i := .iload_n 2) rfl (fun _ => rfl) ?_
  refine dp_s1 hF (i := .iadd) rfl (fun _ => rfl) ?_
  refine dp_s2 hF (i := .if_icmp .ge 58) (a := (313, [some (.ref 114), some (.int v1), some (.int v2), some (.int v3), some (.int v4), some (.int v5), some (.int v6)], [], M)) (b := (258, [some (.ref 114), some (.int v1), some (.int v2), some (.int v3), some (.int v4), some (.int v5), some (.int v6)], [], M)) rfl (fun _ => rfl) ?_ ?_
  · refine dp_s1 hF (i := .aload_n 0) rfl (fun _ => rfl) ?_
    refine dp_s1 hF (i := .iload_n 2) rfl (fun _ => rfl) ?_
    refine dp_s1w (dp_setI M 114 92 v2) (fun (M1 : dp_M) => (318, [some (.ref 114), some (.int v1), some (.int v2), some (.int v3), some (.int v4), some (.int v5), some (.int v6)], [], M1)) hF (i := .putfield 809) rfl (fun _ => rfl) (fun M1 => ?_)
    exact dp_s0 hF (i := .return_) rfl (fun _ => rfl)
  refine dp_s1 hF (i := .aload_n 0) rfl (fun _ => rfl) ?_
  refine dp_s1 hF (i := .getfield 203) rfl (fun _ => rfl) ?_
  refine dp_s1 hF (i := .iload 4) rfl (fun _ => rfl) ?_
  refine dp_s3 hF (i := .iaload) rfl (fun _ => rfl) ?_
  refine dp_s1 hF (i := .iconst (-1)) rfl (fun _ => rfl) ?_
  refine dp_s2 hF (i := .if_icmp .eq 41) (a := (307, [some (.ref 114), some (.int v1), some (.int v2), some (.int v3), some (.int v4), some (.int v5), some (.int v6)], [], M)) (b := (269, [some (.ref 114), some (.int v1), some (.int v2), some (.int v3), some (.int v4), some (.int v5), some (.int v6)], [], M)) rfl (fun _ => rfl) ?_ ?_
  · refine dp_s1w (v4 + (1 : Int32)) (fun (y2 : Int32) => (310, [some (.ref 114), some (.int v1), some (.int v2), some (.int v3), some (.int y2), some (.int v5), some (.int v6)], [], M)) hF (i := .iinc 4 1) rfl (fun _ => rfl) (fun y2 => ?_)
    refine dp_s1 hF (i := .goto (-61)) rfl (fun _ => rfl) ?_
    exact rfl
  refine dp_s1 hF (i := .aload_n 0) rfl (fun _ => rfl) ?_
  refine dp_s1 hF (i := .getfield 203) rfl (fun _ => rfl) ?_
  refine dp_s1 hF (i := .iload 4) rfl (fun _ => rfl) ?_
  refine dp_s1 hF (i := .aload_n 0) rfl (fun _ => rfl) ?_
  refine dp_s1 hF (i := .getfield 233) rfl (fun _ => rfl) ?_
  refine dp_s1 hF (i := .aload_n 0) rfl (fun _ => rfl) ?_
  refine dp_s1 hF (i := .getfield 203) rfl (fun _ => rfl) ?_
  refine dp_s1 hF (i := .iload 4) rfl (fun _ => rfl) ?_
  refine dp_s3 hF (i := .iaload) rfl (fun _ => rfl) ?_
  refine dp_s3 hF (i := .iaload) rfl (fun _ => rfl) ?_
  refine dp_s3w (dp_setI M 177 (Int32.toNatClampNeg v4) (dp_I M 187 (Int32.toNatClampNeg (dp_I M 177 (Int32.toNatClampNeg v4))))) (fun (M3 : dp_M) => (288, [some (.ref 114), some (.int v1), some (.int v2), some (.int v3), some (.int v4), some (.int v5), some (.int v6)], [], M3)) hF (i := .iastore) rfl (fun _ => rfl) (fun M3 => ?_)
  refine dp_s1 hF (i := .aload_n 0) rfl (fun _ => rfl) ?_
  refine dp_s1 hF (i := .getfield 206) rfl (fun _ => rfl) ?_
  refine dp_s1 hF (i := .iload 4) rfl (fun _ => rfl) ?_
  refine dp_s1 hF (i := .aload_n 0) rfl (fun _ => rfl) ?_
  refine dp_s1 hF (i := .getfield 233) rfl (fun _ => rfl) ?_
  refine dp_s1 hF (i := .aload_n 0) rfl (fun _ => rfl) ?_
  refine dp_s1 hF (i := .getfield 206) rfl (fun _ => rfl) ?_
  refine dp_s1 hF (i := .iload 4) rfl (fun _ => rfl) ?_
  refine dp_s3 hF (i := .iaload) rfl (fun _ => rfl) ?_
  refine dp_s3 hF (i := .iaload) rfl (fun _ => rfl) ?_
  refine dp_s3w (dp_setI M3 178 (Int32.toNatClampNeg v4) (dp_I M3 187 (Int32.toNatClampNeg (dp_I M3 178 (Int32.toNatClampNeg v4))))) (fun (M4 : dp_M) => (307, [some (.ref 114), some (.int v1), some (.int v2), some (.int v3), some (.int v4), some (.int v5), some (.int v6)], [], M4)) hF (i := .iastore) rfl (fun _ => rfl) (fun M4 => ?_)
  refine dp_s1w (v4 + (1 : Int32)) (fun (y5 : Int32) => (310, [some (.ref 114), some (.int v1), some (.int v2), some (.int v3), some (.int y5), some (.int v5), some (.int v6)], [], M4)) hF (i := .iinc 4 1) rfl (fun _ => rfl) (fun y5 => ?_)
  refine dp_s1 hF (i := .goto (-61)) rfl (fun _ => rfl) ?_
  exact rfl
noncomputable def D_X12_readsText_0 (xs : Nat → Int32) (xl d : Nat)  (M : dp_M) : Option dp_Res := dp_lim true xs xl (dp_den true xs xl d) dp_m_X12_readsText (0, [some (.ref 114), none, none, none], [], M)
noncomputable def D_X12_readsText_40 (xs : Nat → Int32) (xl d : Nat) (v1 : Int32) (v2 : Int32) (M : dp_M) : Option dp_Res := dp_lim true xs xl (dp_den true xs xl d) dp_m_X12_readsText (40, [some (.ref 114), some (.int v1), some (.int v2), none], [], M)
noncomputable def D_X12_readsText_117 (xs : Nat → Int32) (xl d : Nat) (v1 : Int32) (v2 : Int32) (M : dp_M) : Option dp_Res := dp_lim true xs xl (dp_den true xs xl d) dp_m_X12_readsText (117, [some (.ref 114), some (.int v1), some (.int v2), none], [], M)
noncomputable def D_X12_readsText_96 (xs : Nat → Int32) (xl d : Nat) (v1 : Int32) (v2 : Int32) (vs0 : Int32) (M : dp_M) : Option dp_Res := dp_lim true xs xl (dp_den true xs xl d) dp_m_X12_readsText (96, [some (.ref 114), some (.int v1), some (.int v2), none], [.int vs0], M)
noncomputable def D_X12_readsText_40_a (xs : Nat → Int32) (xl d : Nat) (v1 : Int32) (v2 : Int32) (v3 : Int32) (M : dp_M) : Option dp_Res := dp_lim true xs xl (dp_den true xs xl d) dp_m_X12_readsText (40, [some (.ref 114), some (.int v1), some (.int v2), some (.int v3)], [], M)
noncomputable def D_X12_readsText_117_a (xs : Nat → Int32) (xl d : Nat) (v1 : Int32) (v2 : Int32) (v3 : Int32) (M : dp_M) : Option dp_Res := dp_lim true xs xl (dp_den true xs xl d) dp_m_X12_readsText (117, [some (.ref 114), some (.int v1), some (.int v2), some (.int v3)], [], M)
noncomputable def D_X12_readsText_96_a (xs : Nat → Int32) (xl d : Nat) (v1 : Int32) (v2 : Int32) (v3 : Int32) (vs0 : Int32) (M : dp_M) : Option dp_Res := dp_lim true xs xl (dp_den true xs xl d) dp_m_X12_readsText (96, [some (.ref 114), some (.int v1), some (.int v2), some (.int v3)], [.int vs0], M)
theorem D_X12_readsText_0_den (xs : Nat → Int32) (xl d : Nat)  (M : dp_M) : dp_den true xs xl (d + 1) 487 [.ref 114] M = D_X12_readsText_0 xs xl d  M := rfl
set_option maxRecDepth 20000 in
theorem D_X12_readsText_0_eq (xs : Nat → Int32) (xl d : Nat)  (M : dp_M) : D_X12_readsText_0 xs xl d  M = dp_w (dp_setI M 114 80 (0 : Int32)) (fun M1 => dp_w (dp_setI M1 114 81 (-1 : Int32)) (fun M2 => dp_w (dp_setI M2 114 90 (0 : Int32)) (fun M3 => dp_w (dp_setI M3 114 91 (0 : Int32)) (fun M4 => dp_w (dp_setI M4 114 92 (0 : Int32)) (fun M5 => dp_w (dp_setI M5 114 97 (0 : Int32)) (fun M6 => dp_bv (dp_den true xs xl d 480 [.ref 114, .int (0 : Int32), .int (0 : Int32)] M6) (fun M7 => dp_w (1 : Int32) (fun y8 => dp_w (1 : Int32) (fun y9 => D_X12_readsText_40 xs xl d y8 y9 M7))))))))) := by
  have hF := dp_den_grow (md := true) (xs := xs) (xl := xl) d
  unfold D_X12_readsText_0
  refine dp_s1 hF (i := .aload_n 0) rfl (fun _ => rfl) ?_
  refine dp_s1 hF (i := .iconst 0) rfl (fun _ => rfl) ?_
  refine dp_s1w (dp_setI M 114 80 (0 : Int32)) (fun (M1 : dp_M) => (5, [some (.ref 114), none, none, none], [], M1)) hF (i := .putfield 726) rfl (fun _ => rfl) (fun M1 => ?_)
  refine dp_s1 hF (i := .aload_n 0) rfl (fun _ => rfl) ?_
  refine dp_s1 hF (i := .iconst (-1)) rfl (fun _ => rfl) ?_
  refine dp_s1w (dp_setI M1 114 81 (-1 : Int32)) (fun (M2 : dp_M) => (10, [some (.ref 114), none, none, none], [], M2)) hF (i := .putfield 732) rfl (fun _ => rfl) (fun M2 => ?_)
  refine dp_s1 hF (i := .aload_n 0) rfl (fun _ => rfl) ?_
  refine dp_s1 hF (i := .iconst 0) rfl (fun _ => rfl) ?_
  refine dp_s1w (dp_setI M2 114 90 (0 : Int32)) (fun (M3 : dp_M) => (15, [some (.ref 114), none, none, none], [], M3)) hF (i := .putfield 754) rfl (fun _ => rfl) (fun M3 => ?_)
  refine dp_s1 hF (i := .aload_n 0) rfl (fun _ => rfl) ?_
  refine dp_s1 hF (i := .iconst 0) rfl (fun _ => rfl) ?_
  refine dp_s1w (dp_setI M3 114 91 (0 : Int32)) (fun (M4 : dp_M) => (20, [some (.ref 114), none, none, none], [], M4)) hF (i := .putfield 751) rfl (fun _ => rfl) (fun M4 => ?_)
  refine dp_s1 hF (i := .aload_n 0) rfl (fun _ => rfl) ?_
  refine dp_s1 hF (i := .iconst 0) rfl (fun _ => rfl) ?_
  refine dp_s1w (dp_setI M4 114 92 (0 : Int32)) (fun (M5 : dp_M) => (25, [some (.ref 114), none, none, none], [], M5)) hF (i := .putfield 809) rfl (fun _ => rfl) (fun M5 => ?_)
  refine dp_s1 hF (i := .aload_n 0) rfl (fun _ => rfl) ?_
  refine dp_s1 hF (i := .iconst 0) rfl (fun _ => rfl) ?_
  refine dp_s1w (dp_setI M5 114 97 (0 : Int32)) (fun (M6 : dp_M) => (30, [some (.ref 114), none, none, none], [], M6)) hF (i := .putfield 773) rfl (fun _ => rfl) (fun M6 => ?_)
  refine dp_s1 hF (i := .aload_n 0) rfl (fun _ => rfl) ?_
  refine dp_s1 hF (i := .iconst 0) rfl (fun _ => rfl) ?_
  refine dp_s1 hF (i := .iconst 0) rfl (fun _ => rfl) ?_
  refine dp_sv (mj := dp_m_X12_opens) (i := .invokevirtual 797) rfl rfl rfl rfl (fun _ => rfl) (fun M7 => ?_)
  refine dp_s1 hF (i := .iconst 1) rfl (fun _ => rfl) ?_
  refine dp_s1w (1 : Int32) (fun (y8 : Int32) => (38, [some (.ref 114), some (.int y8), none, none], [], M7)) hF (i := .istore_n 1) rfl (fun _ => rfl) (fun y8 => ?_)
  refine dp_s1 hF (i := .iconst 1) rfl (fun _ => rfl) ?_
  refine dp_s1w (1 : Int32) (fun (y9 : Int32) => (40, [some (.ref 114), some (.int y8), some (.int y9), none], [], M7)) hF (i := .istore_n 2) rfl (fun _ => rfl) (fun y9 => ?_)
  exact rfl
set_option maxRecDepth 20000 in
theorem D_X12_readsText_40_eq (xs : Nat → Int32) (xl d : Nat) (v1 : Int32) (v2 : Int32) (M : dp_M) : D_X12_readsText_40 xs xl d v1 v2 M = if 0 ≤ (dp_I M 114 81) then (D_X12_readsText_117 xs xl d v1 v2 M) else (if v2 = 0 then (D_X12_readsText_117 xs xl d v1 v2 M) else (if v1 = 0 then (dp_bi (dp_den true xs xl d 466 [.ref 114] M) (fun r2 M1 => if r2 = (-1 : Int32) then (if (dp_I M1 114 97) ≤ (1 : Int32) then (D_X12_readsText_96 xs xl d v1 v2 (0 : Int32) M1) else (D_X12_readsText_96 xs xl d v1 v2 (1 : Int32) M1)) else (D_X12_readsText_96 xs xl d v1 v2 (1 : Int32) M1))) else (dp_bi (dp_den true xs xl d 483 [.ref 114] M) (fun r4 M3 => if r4 = (-1 : Int32) then (D_X12_readsText_40_a xs xl d v1 v2 r4 M3) else (dp_bv (dp_den true xs xl d 484 [.ref 114, .int r4] M3) (fun M5 => dp_w (0 : Int32) (fun y6 => D_X12_readsText_40_a xs xl d y6 v2 r4 M5))))))) := by
  have hF := dp_den_grow (md := true) (xs := xs) (xl := xl) d
  unfold D_X12_readsText_40
  refine dp_s1 hF (i := .aload_n 0) rfl (fun _ => rfl) ?_
  refine dp_s1 hF (i := .getfield 732) rfl (fun _ => rfl) ?_
  refine dp_s2 hF (i := .ifCond .ge 73) (a := (117, [some (.ref 114), some (.int v1), some (.int v2), none], [], M)) (b := (47, [some (.ref 114), some (.int v1), some (.int v2), none], [], M)) rfl (fun _ => rfl) ?_ ?_
  · exact rfl
  refine dp_s1 hF (i := .iload_n 2) rfl (fun _ => rfl) ?_
  refine dp_s2 hF (i := .ifCond .eq 69) (a := (117, [some (.ref 114), some (.int v1), some (.int v2), none], [], M)) (b := (51, [some (.ref 114), some (.int v1), some (.int v2), none], [], M)) rfl (fun _ => rfl) ?_ ?_
  · exact rfl
  refine dp_s1 hF (i := .iload_n 1) rfl (fun _ => rfl) ?_
  refine dp_s2 hF (i := .ifCond .eq 23) (a := (75, [some (.ref 114), some (.int v1), some (.int v2), none], [], M)) (b := (55, [some (.ref 114), some (.int v1), some (.int v2), none], [], M)) rfl (fun _ => rfl) ?_ ?_
  · refine dp_s1 hF (i := .aload_n 0) rfl (fun _ => rfl) ?_
    refine dp_si (mj := dp_m_X12_nextSign) (i := .invokevirtual 735) rfl rfl (Or.inl rfl) rfl (fun _ => rfl) (fun r2 M1 => ?_)
    refine dp_s1 hF (i := .iconst (-1)) rfl (fun _ => rfl) ?_
    refine dp_s2 hF (i := .if_icmp .ne 11) (a := (83, [some (.ref 114), some (.int v1), some (.int v2), none], [], M1)) (b := (91, [some (.ref 114), some (.int v1), some (.int v2), none], [], M1)) rfl (fun _ => rfl) ?_ ?_
    · refine dp_s1 hF (i := .aload_n 0) rfl (fun _ => rfl) ?_
      refine dp_s1 hF (i := .getfield 773) rfl (fun _ => rfl) ?_
      refine dp_s1 hF (i := .iconst 1) rfl (fun _ => rfl) ?_
      refine dp_s2 hF (i := .if_icmp .le 7) (a := (95, [some (.ref 114), some (.int v1), some (.int v2), none], [], M1)) (b := (91, [some (.ref 114), some (.int v1), some (.int v2), none], [], M1)) rfl (fun _ => rfl) ?_ ?_
      · refine dp_s1 hF (i := .iconst 0) rfl (fun _ => rfl) ?_
        exact rfl
      refine dp_s1 hF (i := .iconst 1) rfl (fun _ => rfl) ?_
      refine dp_s1 hF (i := .goto 4) rfl (fun _ => rfl) ?_
      exact rfl
    refine dp_s1 hF (i := .iconst 1) rfl (fun _ => rfl) ?_
    refine dp_s1 hF (i := .goto 4) rfl (fun _ => rfl) ?_
    exact rfl
  refine dp_s1 hF (i := .aload_n 0) rfl (fun _ => rfl) ?_
  refine dp_si (mj := dp_m_X12_takesPart) (i := .invokevirtual 812) rfl rfl (Or.inl rfl) rfl (fun _ => rfl) (fun r4 M3 => ?_)
  refine dp_s1 hF (i := .istore_n 3) rfl (fun _ => rfl) ?_
  refine dp_s1 hF (i := .iload_n 3) rfl (fun _ => rfl) ?_
  refine dp_s1 hF (i := .iconst (-1)) rfl (fun _ => rfl) ?_
  refine dp_s2 hF (i := .if_icmp .eq 10) (a := (72, [some (.ref 114), some (.int v1), some (.int v2), some (.int r4)], [], M3)) (b := (65, [some (.ref 114), some (.int v1), some (.int v2), some (.int r4)], [], M3)) rfl (fun _ => rfl) ?_ ?_
  · refine dp_s1 hF (i := .goto (-32)) rfl (fun _ => rfl) ?_
    exact rfl
  refine dp_s1 hF (i := .aload_n 0) rfl (fun _ => rfl) ?_
  refine dp_s1 hF (i := .iload_n 3) rfl (fun _ => rfl) ?_
  refine dp_sv (mj := dp_m_X12_joins) (i := .invokevirtual 806) rfl rfl rfl rfl (fun _ => rfl) (fun M5 => ?_)
  refine dp_s1 hF (i := .iconst 0) rfl (fun _ => rfl) ?_
  refine dp_s1w (0 : Int32) (fun (y6 : Int32) => (72, [some (.ref 114), some (.int y6), some (.int v2), some (.int r4)], [], M5)) hF (i := .istore_n 1) rfl (fun _ => rfl) (fun y6 => ?_)
  refine dp_s1 hF (i := .goto (-32)) rfl (fun _ => rfl) ?_
  exact rfl
set_option maxRecDepth 20000 in
theorem D_X12_readsText_117_eq (xs : Nat → Int32) (xl d : Nat) (v1 : Int32) (v2 : Int32) (M : dp_M) : D_X12_readsText_117 xs xl d v1 v2 M = if (dp_I M 114 81) < 0 then (if (0 : Int32) < 0 ∨ 14 ≤ Int32.toNatClampNeg (0 : Int32) then none else (dp_bv (dp_den true xs xl d 486 [.ref 114, .int (dp_I M 184 (Int32.toNatClampNeg (0 : Int32)))] M) (fun M1 => some (.inl (some (.int (dp_I M1 114 92))), M1)))) else (some (.inl (some (.int ((-1 : Int32) - (dp_I M 114 81)))), M)) := by
  have hF := dp_den_grow (md := true) (xs := xs) (xl := xl) d
  unfold D_X12_readsText_117
  refine dp_s1 hF (i := .aload_n 0) rfl (fun _ => rfl) ?_
  refine dp_s1 hF (i := .getfield 732) rfl (fun _ => rfl) ?_
  refine dp_s2 hF (i := .ifCond .lt 10) (a := (131, [some (.ref 114), some (.int v1), some (.int v2), none], [], M)) (b := (124, [some (.ref 114), some (.int v1), some (.int v2), none], [], M)) rfl (fun _ => rfl) ?_ ?_
  · refine dp_s1 hF (i := .aload_n 0) rfl (fun _ => rfl) ?_
    refine dp_s1 hF (i := .aload_n 0) rfl (fun _ => rfl) ?_
    refine dp_s1 hF (i := .getfield 224) rfl (fun _ => rfl) ?_
    refine dp_s1 hF (i := .iconst 0) rfl (fun _ => rfl) ?_
    refine dp_s3 hF (i := .iaload) rfl (fun _ => rfl) ?_
    refine dp_sv (mj := dp_m_X12_numbers) (i := .invokevirtual 819) rfl rfl rfl rfl (fun _ => rfl) (fun M1 => ?_)
    refine dp_s1 hF (i := .aload_n 0) rfl (fun _ => rfl) ?_
    refine dp_s1 hF (i := .getfield 809) rfl (fun _ => rfl) ?_
    exact dp_s0 hF (i := .ireturn) rfl (fun _ => rfl)
  refine dp_s1 hF (i := .iconst (-1)) rfl (fun _ => rfl) ?_
  refine dp_s1 hF (i := .aload_n 0) rfl (fun _ => rfl) ?_
  refine dp_s1 hF (i := .getfield 732) rfl (fun _ => rfl) ?_
  refine dp_s1 hF (i := .isub) rfl (fun _ => rfl) ?_
  exact dp_s0 hF (i := .ireturn) rfl (fun _ => rfl)
set_option maxRecDepth 20000 in
theorem D_X12_readsText_96_eq (xs : Nat → Int32) (xl d : Nat) (v1 : Int32) (v2 : Int32) (vs0 : Int32) (M : dp_M) : D_X12_readsText_96 xs xl d v1 v2 vs0 M = if vs0 = 0 then (dp_w (0 : Int32) (fun y1 => D_X12_readsText_40 xs xl d y1 vs0 M)) else (dp_bi (dp_den true xs xl d 485 [.ref 114] M) (fun r3 M2 => if r3 = 0 then (dp_w (0 : Int32) (fun y4 => D_X12_readsText_40 xs xl d y4 vs0 M2)) else (dp_w (1 : Int32) (fun y5 => D_X12_readsText_40 xs xl d y5 vs0 M2)))) := by
  have hF := dp_den_grow (md := true) (xs := xs) (xl := xl) d
  unfold D_X12_readsText_96
  refine dp_s1 hF (i := .istore_n 2) rfl (fun _ => rfl) ?_
  refine dp_s1 hF (i := .iload_n 2) rfl (fun _ => rfl) ?_
  refine dp_s2 hF (i := .ifCond .eq 14) (a := (112, [some (.ref 114), some (.int v1), some (.int vs0), none], [], M)) (b := (101, [some (.ref 114), some (.int v1), some (.int vs0), none], [], M)) rfl (fun _ => rfl) ?_ ?_
  · refine dp_s1 hF (i := .iconst 0) rfl (fun _ => rfl) ?_
    refine dp_s1w (0 : Int32) (fun (y1 : Int32) => (114, [some (.ref 114), some (.int y1), some (.int vs0), none], [], M)) hF (i := .istore_n 1) rfl (fun _ => rfl) (fun y1 => ?_)
    refine dp_s1 hF (i := .goto (-74)) rfl (fun _ => rfl) ?_
    exact rfl
  refine dp_s1 hF (i := .aload_n 0) rfl (fun _ => rfl) ?_
  refine dp_si (mj := dp_m_X12_takesBehind) (i := .invokevirtual 815) rfl rfl (Or.inr rfl) rfl (fun _ => rfl) (fun r3 M2 => ?_)
  refine dp_s2 hF (i := .ifCond .eq 7) (a := (112, [some (.ref 114), some (.int v1), some (.int vs0), none], [], M2)) (b := (108, [some (.ref 114), some (.int v1), some (.int vs0), none], [], M2)) rfl (fun _ => rfl) ?_ ?_
  · refine dp_s1 hF (i := .iconst 0) rfl (fun _ => rfl) ?_
    refine dp_s1w (0 : Int32) (fun (y4 : Int32) => (114, [some (.ref 114), some (.int y4), some (.int vs0), none], [], M2)) hF (i := .istore_n 1) rfl (fun _ => rfl) (fun y4 => ?_)
    refine dp_s1 hF (i := .goto (-74)) rfl (fun _ => rfl) ?_
    exact rfl
  refine dp_s1 hF (i := .iconst 1) rfl (fun _ => rfl) ?_
  refine dp_s1 hF (i := .goto 4) rfl (fun _ => rfl) ?_
  refine dp_s1w (1 : Int32) (fun (y5 : Int32) => (114, [some (.ref 114), some (.int y5), some (.int vs0), none], [], M2)) hF (i := .istore_n 1) rfl (fun _ => rfl) (fun y5 => ?_)
  refine dp_s1 hF (i := .goto (-74)) rfl (fun _ => rfl) ?_
  exact rfl
set_option maxRecDepth 20000 in
theorem D_X12_readsText_40_a_eq (xs : Nat → Int32) (xl d : Nat) (v1 : Int32) (v2 : Int32) (v3 : Int32) (M : dp_M) : D_X12_readsText_40_a xs xl d v1 v2 v3 M = if 0 ≤ (dp_I M 114 81) then (D_X12_readsText_117_a xs xl d v1 v2 v3 M) else (if v2 = 0 then (D_X12_readsText_117_a xs xl d v1 v2 v3 M) else (if v1 = 0 then (dp_bi (dp_den true xs xl d 466 [.ref 114] M) (fun r2 M1 => if r2 = (-1 : Int32) then (if (dp_I M1 114 97) ≤ (1 : Int32) then (D_X12_readsText_96_a xs xl d v1 v2 v3 (0 : Int32) M1) else (D_X12_readsText_96_a xs xl d v1 v2 v3 (1 : Int32) M1)) else (D_X12_readsText_96_a xs xl d v1 v2 v3 (1 : Int32) M1))) else (dp_bi (dp_den true xs xl d 483 [.ref 114] M) (fun r4 M3 => if r4 = (-1 : Int32) then (D_X12_readsText_40_a xs xl d v1 v2 r4 M3) else (dp_bv (dp_den true xs xl d 484 [.ref 114, .int r4] M3) (fun M5 => dp_w (0 : Int32) (fun y6 => D_X12_readsText_40_a xs xl d y6 v2 r4 M5))))))) := by
  have hF := dp_den_grow (md := true) (xs := xs) (xl := xl) d
  unfold D_X12_readsText_40_a
  refine dp_s1 hF (i := .aload_n 0) rfl (fun _ => rfl) ?_
  refine dp_s1 hF (i := .getfield 732) rfl (fun _ => rfl) ?_
  refine dp_s2 hF (i := .ifCond .ge 73) (a := (117, [some (.ref 114), some (.int v1), some (.int v2), some (.int v3)], [], M)) (b := (47, [some (.ref 114), some (.int v1), some (.int v2), some (.int v3)], [], M)) rfl (fun _ => rfl) ?_ ?_
  · exact rfl
  refine dp_s1 hF (i := .iload_n 2) rfl (fun _ => rfl) ?_
  refine dp_s2 hF (i := .ifCond .eq 69) (a := (117, [some (.ref 114), some (.int v1), some (.int v2), some (.int v3)], [], M)) (b := (51, [some (.ref 114), some (.int v1), some (.int v2), some (.int v3)], [], M)) rfl (fun _ => rfl) ?_ ?_
  · exact rfl
  refine dp_s1 hF (i := .iload_n 1) rfl (fun _ => rfl) ?_
  refine dp_s2 hF (i := .ifCond .eq 23) (a := (75, [some (.ref 114), some (.int v1), some (.int v2), some (.int v3)], [], M)) (b := (55, [some (.ref 114), some (.int v1), some (.int v2), some (.int v3)], [], M)) rfl (fun _ => rfl) ?_ ?_
  · refine dp_s1 hF (i := .aload_n 0) rfl (fun _ => rfl) ?_
    refine dp_si (mj := dp_m_X12_nextSign) (i := .invokevirtual 735) rfl rfl (Or.inl rfl) rfl (fun _ => rfl) (fun r2 M1 => ?_)
    refine dp_s1 hF (i := .iconst (-1)) rfl (fun _ => rfl) ?_
    refine dp_s2 hF (i := .if_icmp .ne 11) (a := (83, [some (.ref 114), some (.int v1), some (.int v2), some (.int v3)], [], M1)) (b := (91, [some (.ref 114), some (.int v1), some (.int v2), some (.int v3)], [], M1)) rfl (fun _ => rfl) ?_ ?_
    · refine dp_s1 hF (i := .aload_n 0) rfl (fun _ => rfl) ?_
      refine dp_s1 hF (i := .getfield 773) rfl (fun _ => rfl) ?_
      refine dp_s1 hF (i := .iconst 1) rfl (fun _ => rfl) ?_
      refine dp_s2 hF (i := .if_icmp .le 7) (a := (95, [some (.ref 114), some (.int v1), some (.int v2), some (.int v3)], [], M1)) (b := (91, [some (.ref 114), some (.int v1), some (.int v2), some (.int v3)], [], M1)) rfl (fun _ => rfl) ?_ ?_
      · refine dp_s1 hF (i := .iconst 0) rfl (fun _ => rfl) ?_
        exact rfl
      refine dp_s1 hF (i := .iconst 1) rfl (fun _ => rfl) ?_
      refine dp_s1 hF (i := .goto 4) rfl (fun _ => rfl) ?_
      exact rfl
    refine dp_s1 hF (i := .iconst 1) rfl (fun _ => rfl) ?_
    refine dp_s1 hF (i := .goto 4) rfl (fun _ => rfl) ?_
    exact rfl
  refine dp_s1 hF (i := .aload_n 0) rfl (fun _ => rfl) ?_
  refine dp_si (mj := dp_m_X12_takesPart) (i := .invokevirtual 812) rfl rfl (Or.inl rfl) rfl (fun _ => rfl) (fun r4 M3 => ?_)
  refine dp_s1 hF (i := .istore_n 3) rfl (fun _ => rfl) ?_
  refine dp_s1 hF (i := .iload_n 3) rfl (fun _ => rfl) ?_
  refine dp_s1 hF (i := .iconst (-1)) rfl (fun _ => rfl) ?_
  refine dp_s2 hF (i := .if_icmp .eq 10) (a := (72, [some (.ref 114), some (.int v1), some (.int v2), some (.int r4)], [], M3)) (b := (65, [some (.ref 114), some (.int v1), some (.int v2), some (.int r4)], [], M3)) rfl (fun _ => rfl) ?_ ?_
  · refine dp_s1 hF (i := .goto (-32)) rfl (fun _ => rfl) ?_
    exact rfl
  refine dp_s1 hF (i := .aload_n 0) rfl (fun _ => rfl) ?_
  refine dp_s1 hF (i := .iload_n 3) rfl (fun _ => rfl) ?_
  refine dp_sv (mj := dp_m_X12_joins) (i := .invokevirtual 806) rfl rfl rfl rfl (fun _ => rfl) (fun M5 => ?_)
  refine dp_s1 hF (i := .iconst 0) rfl (fun _ => rfl) ?_
  refine dp_s1w (0 : Int32) (fun (y6 : Int32) => (72, [some (.ref 114), some (.int y6), some (.int v2), some (.int r4)], [], M5)) hF (i := .istore_n 1) rfl (fun _ => rfl) (fun y6 => ?_)
  refine dp_s1 hF (i := .goto (-32)) rfl (fun _ => rfl) ?_
  exact rfl
set_option maxRecDepth 20000 in
theorem D_X12_readsText_117_a_eq (xs : Nat → Int32) (xl d : Nat) (v1 : Int32) (v2 : Int32) (v3 : Int32) (M : dp_M) : D_X12_readsText_117_a xs xl d v1 v2 v3 M = if (dp_I M 114 81) < 0 then (if (0 : Int32) < 0 ∨ 14 ≤ Int32.toNatClampNeg (0 : Int32) then none else (dp_bv (dp_den true xs xl d 486 [.ref 114, .int (dp_I M 184 (Int32.toNatClampNeg (0 : Int32)))] M) (fun M1 => some (.inl (some (.int (dp_I M1 114 92))), M1)))) else (some (.inl (some (.int ((-1 : Int32) - (dp_I M 114 81)))), M)) := by
  have hF := dp_den_grow (md := true) (xs := xs) (xl := xl) d
  unfold D_X12_readsText_117_a
  refine dp_s1 hF (i := .aload_n 0) rfl (fun _ => rfl) ?_
  refine dp_s1 hF (i := .getfield 732) rfl (fun _ => rfl) ?_
  refine dp_s2 hF (i := .ifCond .lt 10) (a := (131, [some (.ref 114), some (.int v1), some (.int v2), some (.int v3)], [], M)) (b := (124, [some (.ref 114), some (.int v1), some (.int v2), some (.int v3)], [], M)) rfl (fun _ => rfl) ?_ ?_
  · refine dp_s1 hF (i := .aload_n 0) rfl (fun _ => rfl) ?_
    refine dp_s1 hF (i := .aload_n 0) rfl (fun _ => rfl) ?_
    refine dp_s1 hF (i := .getfield 224) rfl (fun _ => rfl) ?_
    refine dp_s1 hF (i := .iconst 0) rfl (fun _ => rfl) ?_
    refine dp_s3 hF (i := .iaload) rfl (fun _ => rfl) ?_
    refine dp_sv (mj := dp_m_X12_numbers) (i := .invokevirtual 819) rfl rfl rfl rfl (fun _ => rfl) (fun M1 => ?_)
    refine dp_s1 hF (i := .aload_n 0) rfl (fun _ => rfl) ?_
    refine dp_s1 hF (i := .getfield 809) rfl (fun _ => rfl) ?_
    exact dp_s0 hF (i := .ireturn) rfl (fun _ => rfl)
  refine dp_s1 hF (i := .iconst (-1)) rfl (fun _ => rfl) ?_
  refine dp_s1 hF (i := .aload_n 0) rfl (fun _ => rfl) ?_
  refine dp_s1 hF (i := .getfield 732) rfl (fun _ => rfl) ?_
  refine dp_s1 hF (i := .isub) rfl (fun _ => rfl) ?_
  exact dp_s0 hF (i := .ireturn) rfl (fun _ => rfl)
set_option maxRecDepth 20000 in
theorem D_X12_readsText_96_a_eq (xs : Nat → Int32) (xl d : Nat) (v1 : Int32) (v2 : Int32) (v3 : Int32) (vs0 : Int32) (M : dp_M) : D_X12_readsText_96_a xs xl d v1 v2 v3 vs0 M = if vs0 = 0 then (dp_w (0 : Int32) (fun y1 => D_X12_readsText_40_a xs xl d y1 vs0 v3 M)) else (dp_bi (dp_den true xs xl d 485 [.ref 114] M) (fun r3 M2 => if r3 = 0 then (dp_w (0 : Int32) (fun y4 => D_X12_readsText_40_a xs xl d y4 vs0 v3 M2)) else (dp_w (1 : Int32) (fun y5 => D_X12_readsText_40_a xs xl d y5 vs0 v3 M2)))) := by
  have hF := dp_den_grow (md := true) (xs := xs) (xl := xl) d
  unfold D_X12_readsText_96_a
  refine dp_s1 hF (i := .istore_n 2) rfl (fun _ => rfl) ?_
  refine dp_s1 hF (i := .iload_n 2) rfl (fun _ => rfl) ?_
  refine dp_s2 hF (i := .ifCond .eq 14) (a := (112, [some (.ref 114), some (.int v1), some (.int vs0), some (.int v3)], [], M)) (b := (101, [some (.ref 114), some (.int v1), some (.int vs0), some (.int v3)], [], M)) rfl (fun _ => rfl) ?_ ?_
  · refine dp_s1 hF (i := .iconst 0) rfl (fun _ => rfl) ?_
    refine dp_s1w (0 : Int32) (fun (y1 : Int32) => (114, [some (.ref 114), some (.int y1), some (.int vs0), some (.int v3)], [], M)) hF (i := .istore_n 1) rfl (fun _ => rfl) (fun y1 => ?_)
    refine dp_s1 hF (i := .goto (-74)) rfl (fun _ => rfl) ?_
    exact rfl
  refine dp_s1 hF (i := .aload_n 0) rfl (fun _ => rfl) ?_
  refine dp_si (mj := dp_m_X12_takesBehind) (i := .invokevirtual 815) rfl rfl (Or.inr rfl) rfl (fun _ => rfl) (fun r3 M2 => ?_)
  refine dp_s2 hF (i := .ifCond .eq 7) (a := (112, [some (.ref 114), some (.int v1), some (.int vs0), some (.int v3)], [], M2)) (b := (108, [some (.ref 114), some (.int v1), some (.int vs0), some (.int v3)], [], M2)) rfl (fun _ => rfl) ?_ ?_
  · refine dp_s1 hF (i := .iconst 0) rfl (fun _ => rfl) ?_
    refine dp_s1w (0 : Int32) (fun (y4 : Int32) => (114, [some (.ref 114), some (.int y4), some (.int vs0), some (.int v3)], [], M2)) hF (i := .istore_n 1) rfl (fun _ => rfl) (fun y4 => ?_)
    refine dp_s1 hF (i := .goto (-74)) rfl (fun _ => rfl) ?_
    exact rfl
  refine dp_s1 hF (i := .iconst 1) rfl (fun _ => rfl) ?_
  refine dp_s1 hF (i := .goto 4) rfl (fun _ => rfl) ?_
  refine dp_s1w (1 : Int32) (fun (y5 : Int32) => (114, [some (.ref 114), some (.int y5), some (.int vs0), some (.int v3)], [], M2)) hF (i := .istore_n 1) rfl (fun _ => rfl) (fun y5 => ?_)
  refine dp_s1 hF (i := .goto (-74)) rfl (fun _ => rfl) ?_
  exact rfl
noncomputable def D_X12_rate_0 (xs : Nat → Int32) (xl d : Nat) (v1 : Int32) (M : dp_M) : Option dp_Res := dp_lim true xs xl (dp_den true xs xl d) dp_m_X12_rate (0, [some (.ref 114), some (.int v1), none, none], [], M)
noncomputable def D_X12_rate_10 (xs : Nat → Int32) (xl d : Nat) (v1 : Int32) (v2 : Int32) (M : dp_M) : Option dp_Res := dp_lim true xs xl (dp_den true xs xl d) dp_m_X12_rate (10, [some (.ref 114), some (.int v1), some (.int v2), none], [], M)
noncomputable def D_X12_rate_81 (xs : Nat → Int32) (xl d : Nat) (v1 : Int32) (v2 : Int32) (v3 : Int32) (M : dp_M) : Option dp_Res := dp_lim true xs xl (dp_den true xs xl d) dp_m_X12_rate (81, [some (.ref 114), some (.int v1), some (.int v2), some (.int v3)], [], M)
theorem D_X12_rate_0_den (xs : Nat → Int32) (xl d : Nat) (a0 : Int32) (M : dp_M) : dp_den true xs xl (d + 1) 488 [.ref 114, .int a0] M = D_X12_rate_0 xs xl d a0 M := rfl
set_option maxRecDepth 20000 in
theorem D_X12_rate_0_eq (xs : Nat → Int32) (xl d : Nat) (v1 : Int32) (M : dp_M) : D_X12_rate_0 xs xl d v1 M = dp_w (dp_setI M 114 79 (dp_I M 114 75)) (fun M1 => dp_w (0 : Int32) (fun y2 => D_X12_rate_10 xs xl d v1 y2 M1)) := by
  have hF := dp_den_grow (md := true) (xs := xs) (xl := xl) d
  unfold D_X12_rate_0
  refine dp_s1 hF (i := .aload_n 0) rfl (fun _ => rfl) ?_
  refine dp_s1 hF (i := .aload_n 0) rfl (fun _ => rfl) ?_
  refine dp_s1 hF (i := .getfield 717) rfl (fun _ => rfl) ?_
  refine dp_s1w (dp_setI M 114 79 (dp_I M 114 75)) (fun (M1 : dp_M) => (8, [some (.ref 114), some (.int v1), none, none], [], M1)) hF (i := .putfield 729) rfl (fun _ => rfl) (fun M1 => ?_)
  refine dp_s1 hF (i := .iconst 0) rfl (fun _ => rfl) ?_
  refine dp_s1w (0 : Int32) (fun (y2 : Int32) => (10, [some (.ref 114), some (.int v1), some (.int y2), none], [], M1)) hF (i := .istore_n 2) rfl (fun _ => rfl) (fun y2 => ?_)
  exact rfl
set_option maxRecDepth 20000 in
theorem D_X12_rate_10_eq (xs : Nat → Int32) (xl d : Nat) (v1 : Int32) (v2 : Int32) (M : dp_M) : D_X12_rate_10 xs xl d v1 v2 M = if (dp_I M 114 75) ≤ v2 then (dp_w (dp_setI M 114 75 (0 : Int32)) (fun M1 => dp_bi (dp_den true xs xl d 451 [.ref 114, .int v1] M1) (fun r3 M2 => if r3 = 0 then (dp_bi (dp_den true xs xl d 366 [.ref 114, .int (1 : Int32)] M2) (fun r5 M4 => some (.inl (some (.int r5)), M4))) else (dp_w (dp_setI M2 114 0 (0 : Int32)) (fun M6 => dp_bi (dp_den true xs xl d 487 [.ref 114] M6) (fun r8 M7 => if r8 ≤ 0 then (some (.inl (some (.int r8)), M7)) else (if v1 < 0 ∨ 301 ≤ Int32.toNatClampNeg v1 then none else dp_w (dp_setI M7 172 (Int32.toNatClampNeg v1) (dp_I M7 114 79)) (fun M9 => dp_w (0 : Int32) (fun y10 => D_X12_rate_81 xs xl d v1 r8 y10 M9))))))))) else (if v2 < 0 ∨ 400 ≤ Int32.toNatClampNeg v2 then none else (if v2 < 0 ∨ 400 ≤ Int32.toNatClampNeg v2 then none else dp_w (dp_setI M 173 (Int32.toNatClampNeg v2) (dp_I M 170 (Int32.toNatClampNeg v2))) (fun M11 => dp_w (v2 + (1 : Int32)) (fun y12 => D_X12_rate_10 xs xl d v1 y12 M11)))) := by
  have hF := dp_den_grow (md := true) (xs := xs) (xl := xl) d
  unfold D_X12_rate_10
  refine dp_s1 hF (i := .iload_n 2) rfl (fun _ => rfl) ?_
  refine dp_s1 hF (i := .aload_n 0) rfl (fun _ => rfl) ?_
  refine dp_s1 hF (i := .getfield 717) rfl (fun _ => rfl) ?_
  refine dp_s2 hF (i := .if_icmp .ge 21) (a := (36, [some (.ref 114), some (.int v1), some (.int v2), none], [], M)) (b := (18, [some (.ref 114), some (.int v1), some (.int v2), none], [], M)) rfl (fun _ => rfl) ?_ ?_
  · refine dp_s1 hF (i := .aload_n 0) rfl (fun _ => rfl) ?_
    refine dp_s1 hF (i := .iconst 0) rfl (fun _ => rfl) ?_
    refine dp_s1w (dp_setI M 114 75 (0 : Int32)) (fun (M1 : dp_M) => (41, [some (.ref 114), some (.int v1), some (.int v2), none], [], M1)) hF (i := .putfield 717) rfl (fun _ => rfl) (fun M1 => ?_)
    refine dp_s1 hF (i := .aload_n 0) rfl (fun _ => rfl) ?_
    refine dp_s1 hF (i := .iload_n 1) rfl (fun _ => rfl) ?_
    refine dp_si (mj := dp_m_X12_isMeasure) (i := .invokevirtual 681) rfl rfl (Or.inr rfl) rfl (fun _ => rfl) (fun r3 M2 => ?_)
    refine dp_s2 hF (i := .ifCond .ne 9) (a := (49, [some (.ref 114), some (.int v1), some (.int v2), none], [], M2)) (b := (55, [some (.ref 114), some (.int v1), some (.int v2), none], [], M2)) rfl (fun _ => rfl) ?_ ?_
    · refine dp_s1 hF (i := .aload_n 0) rfl (fun _ => rfl) ?_
      refine dp_s1 hF (i := .iconst 1) rfl (fun _ => rfl) ?_
      refine dp_si (mj := dp_m_X12_refuse) (i := .invokevirtual 460) rfl rfl (Or.inl rfl) rfl (fun _ => rfl) (fun r5 M4 => ?_)
      exact dp_s0 hF (i := .ireturn) rfl (fun _ => rfl)
    refine dp_s1 hF (i := .aload_n 0) rfl (fun _ => rfl) ?_
    refine dp_s1 hF (i := .iconst 0) rfl (fun _ => rfl) ?_
    refine dp_s1w (dp_setI M2 114 0 (0 : Int32)) (fun (M6 : dp_M) => (60, [some (.ref 114), some (.int v1), some (.int v2), none], [], M6)) hF (i := .putfield 1) rfl (fun _ => rfl) (fun M6 => ?_)
    refine dp_s1 hF (i := .aload_n 0) rfl (fun _ => rfl) ?_
    refine dp_si (mj := dp_m_X12_readsText) (i := .invokevirtual 822) rfl rfl (Or.inl rfl) rfl (fun _ => rfl) (fun r8 M7 => ?_)
    refine dp_s1 hF (i := .istore_n 2) rfl (fun _ => rfl) ?_
    refine dp_s1 hF (i := .iload_n 2) rfl (fun _ => rfl) ?_
    refine dp_s2 hF (i := .ifCond .le 47) (a := (113, [some (.ref 114), some (.int v1), some (.int r8), none], [], M7)) (b := (69, [some (.ref 114), some (.int v1), some (.int r8), none], [], M7)) rfl (fun _ => rfl) ?_ ?_
    · refine dp_s1 hF (i := .iload_n 2) rfl (fun _ => rfl) ?_
      exact dp_s0 hF (i := .ireturn) rfl (fun _ => rfl)
    refine dp_s1 hF (i := .aload_n 0) rfl (fun _ => rfl) ?_
    refine dp_s1 hF (i := .getfield 188) rfl (fun _ => rfl) ?_
    refine dp_s1 hF (i := .iload_n 1) rfl (fun _ => rfl) ?_
    refine dp_s1 hF (i := .aload_n 0) rfl (fun _ => rfl) ?_
    refine dp_s1 hF (i := .getfield 729) rfl (fun _ => rfl) ?_
    refine dp_s3w (dp_setI M7 172 (Int32.toNatClampNeg v1) (dp_I M7 114 79)) (fun (M9 : dp_M) => (79, [some (.ref 114), some (.int v1), some (.int r8), none], [], M9)) hF (i := .iastore) rfl (fun _ => rfl) (fun M9 => ?_)
    refine dp_s1 hF (i := .iconst 0) rfl (fun _ => rfl) ?_
    refine dp_s1w (0 : Int32) (fun (y10 : Int32) => (81, [some (.ref 114), some (.int v1), some (.int r8), some (.int y10)], [], M9)) hF (i := .istore_n 3) rfl (fun _ => rfl) (fun y10 => ?_)
    exact rfl
  refine dp_s1 hF (i := .aload_n 0) rfl (fun _ => rfl) ?_
  refine dp_s1 hF (i := .getfield 191) rfl (fun _ => rfl) ?_
  refine dp_s1 hF (i := .iload_n 2) rfl (fun _ => rfl) ?_
  refine dp_s1 hF (i := .aload_n 0) rfl (fun _ => rfl) ?_
  refine dp_s1 hF (i := .getfield 181) rfl (fun _ => rfl) ?_
  refine dp_s1 hF (i := .iload_n 2) rfl (fun _ => rfl) ?_
  refine dp_s3 hF (i := .iaload) rfl (fun _ => rfl) ?_
  refine dp_s3w (dp_setI M 173 (Int32.toNatClampNeg v2) (dp_I M 170 (Int32.toNatClampNeg v2))) (fun (M11 : dp_M) => (30, [some (.ref 114), some (.int v1), some (.int v2), none], [], M11)) hF (i := .iastore) rfl (fun _ => rfl) (fun M11 => ?_)
  refine dp_s1w (v2 + (1 : Int32)) (fun (y12 : Int32) => (33, [some (.ref 114), some (.int v1), some (.int y12), none], [], M11)) hF (i := .iinc 2 1) rfl (fun _ => rfl) (fun y12 => ?_)
  refine dp_s1 hF (i := .goto (-23)) rfl (fun _ => rfl) ?_
  exact rfl
set_option maxRecDepth 20000 in
theorem D_X12_rate_81_eq (xs : Nat → Int32) (xl d : Nat) (v1 : Int32) (v2 : Int32) (v3 : Int32) (M : dp_M) : D_X12_rate_81 xs xl d v1 v2 v3 M = if (dp_I M 114 79) ≤ v3 then (some (.inl (some (.int v2)), M)) else (if v3 < 0 ∨ 400 ≤ Int32.toNatClampNeg v3 then none else (if (((400 : Int32) * v1) + v3) < 0 ∨ 120400 ≤ Int32.toNatClampNeg (((400 : Int32) * v1) + v3) then none else dp_w (dp_setI M 171 (Int32.toNatClampNeg (((400 : Int32) * v1) + v3)) (dp_I M 173 (Int32.toNatClampNeg v3))) (fun M1 => dp_w (v3 + (1 : Int32)) (fun y2 => D_X12_rate_81 xs xl d v1 v2 y2 M1)))) := by
  have hF := dp_den_grow (md := true) (xs := xs) (xl := xl) d
  unfold D_X12_rate_81
  refine dp_s1 hF (i := .iload_n 3) rfl (fun _ => rfl) ?_
  refine dp_s1 hF (i := .aload_n 0) rfl (fun _ => rfl) ?_
  refine dp_s1 hF (i := .getfield 729) rfl (fun _ => rfl) ?_
  refine dp_s2 hF (i := .if_icmp .ge 27) (a := (113, [some (.ref 114), some (.int v1), some (.int v2), some (.int v3)], [], M)) (b := (89, [some (.ref 114), some (.int v1), some (.int v2), some (.int v3)], [], M)) rfl (fun _ => rfl) ?_ ?_
  · refine dp_s1 hF (i := .iload_n 2) rfl (fun _ => rfl) ?_
    exact dp_s0 hF (i := .ireturn) rfl (fun _ => rfl)
  refine dp_s1 hF (i := .aload_n 0) rfl (fun _ => rfl) ?_
  refine dp_s1 hF (i := .getfield 185) rfl (fun _ => rfl) ?_
  refine dp_s1 hF (i := .sipush 400) rfl (fun _ => rfl) ?_
  refine dp_s1 hF (i := .iload_n 1) rfl (fun _ => rfl) ?_
  refine dp_s1 hF (i := .imul) rfl (fun _ => rfl) ?_
  refine dp_s1 hF (i := .iload_n 3) rfl (fun _ => rfl) ?_
  refine dp_s1 hF (i := .iadd) rfl (fun _ => rfl) ?_
  refine dp_s1 hF (i := .aload_n 0) rfl (fun _ => rfl) ?_
  refine dp_s1 hF (i := .getfield 191) rfl (fun _ => rfl) ?_
  refine dp_s1 hF (i := .iload_n 3) rfl (fun _ => rfl) ?_
  refine dp_s3 hF (i := .iaload) rfl (fun _ => rfl) ?_
  refine dp_s3w (dp_setI M 171 (Int32.toNatClampNeg (((400 : Int32) * v1) + v3)) (dp_I M 173 (Int32.toNatClampNeg v3))) (fun (M1 : dp_M) => (107, [some (.ref 114), some (.int v1), some (.int v2), some (.int v3)], [], M1)) hF (i := .iastore) rfl (fun _ => rfl) (fun M1 => ?_)
  refine dp_s1w (v3 + (1 : Int32)) (fun (y2 : Int32) => (110, [some (.ref 114), some (.int v1), some (.int v2), some (.int y2)], [], M1)) hF (i := .iinc 3 1) rfl (fun _ => rfl) (fun y2 => ?_)
  refine dp_s1 hF (i := .goto (-29)) rfl (fun _ => rfl) ?_
  exact rfl
noncomputable def D_X12_readsRate_0 (xs : Nat → Int32) (xl d : Nat) (v1 : Int32) (M : dp_M) : Option dp_Res := dp_lim true xs xl (dp_den true xs xl d) dp_m_X12_readsRate (0, [some (.ref 114), some (.int v1), none], [], M)
noncomputable def D_X12_readsRate_12 (xs : Nat → Int32) (xl d : Nat) (v1 : Int32) (v2 : Int32) (M : dp_M) : Option dp_Res := dp_lim true xs xl (dp_den true xs xl d) dp_m_X12_readsRate (12, [some (.ref 114), some (.int v1), some (.int v2)], [], M)
theorem D_X12_readsRate_0_den (xs : Nat → Int32) (xl d : Nat) (a0 : Int32) (M : dp_M) : dp_den true xs xl (d + 1) 489 [.ref 114, .int a0] M = D_X12_readsRate_0 xs xl d a0 M := rfl
set_option maxRecDepth 20000 in
theorem D_X12_readsRate_0_eq (xs : Nat → Int32) (xl d : Nat) (v1 : Int32) (M : dp_M) : D_X12_readsRate_0 xs xl d v1 M = if v1 < 0 ∨ 301 ≤ Int32.toNatClampNeg v1 then none else (dp_w (dp_setI M 114 79 (dp_I M 172 (Int32.toNatClampNeg v1))) (fun M1 => dp_w (0 : Int32) (fun y2 => D_X12_readsRate_12 xs xl d v1 y2 M1))) := by
  have hF := dp_den_grow (md := true) (xs := xs) (xl := xl) d
  unfold D_X12_readsRate_0
  refine dp_s1 hF (i := .aload_n 0) rfl (fun _ => rfl) ?_
  refine dp_s1 hF (i := .aload_n 0) rfl (fun _ => rfl) ?_
  refine dp_s1 hF (i := .getfield 188) rfl (fun _ => rfl) ?_
  refine dp_s1 hF (i := .iload_n 1) rfl (fun _ => rfl) ?_
  refine dp_s3 hF (i := .iaload) rfl (fun _ => rfl) ?_
  refine dp_s1w (dp_setI M 114 79 (dp_I M 172 (Int32.toNatClampNeg v1))) (fun (M1 : dp_M) => (10, [some (.ref 114), some (.int v1), none], [], M1)) hF (i := .putfield 729) rfl (fun _ => rfl) (fun M1 => ?_)
  refine dp_s1 hF (i := .iconst 0) rfl (fun _ => rfl) ?_
  refine dp_s1w (0 : Int32) (fun (y2 : Int32) => (12, [some (.ref 114), some (.int v1), some (.int y2)], [], M1)) hF (i := .istore_n 2) rfl (fun _ => rfl) (fun y2 => ?_)
  exact rfl
set_option maxRecDepth 20000 in
theorem D_X12_readsRate_12_eq (xs : Nat → Int32) (xl d : Nat) (v1 : Int32) (v2 : Int32) (M : dp_M) : D_X12_readsRate_12 xs xl d v1 v2 M = if (dp_I M 114 79) ≤ v2 then (if (dp_I M 114 79) = 0 then (dp_w (dp_setI M 114 92 (0 : Int32)) (fun M1 => some (.inl none, M1))) else (dp_bi (dp_den true xs xl d 487 [.ref 114] M) (fun r3 M2 => dp_w (dp_setI M2 114 92 r3) (fun M4 => some (.inl none, M4))))) else (if (((400 : Int32) * v1) + v2) < 0 ∨ 120400 ≤ Int32.toNatClampNeg (((400 : Int32) * v1) + v2) then none else (if v2 < 0 ∨ 400 ≤ Int32.toNatClampNeg v2 then none else dp_w (dp_setI M 173 (Int32.toNatClampNeg v2) (dp_I M 171 (Int32.toNatClampNeg (((400 : Int32) * v1) + v2)))) (fun M5 => dp_w (v2 + (1 : Int32)) (fun y6 => D_X12_readsRate_12 xs xl d v1 y6 M5)))) := by
  have hF := dp_den_grow (md := true) (xs := xs) (xl := xl) d
  unfold D_X12_readsRate_12
  refine dp_s1 hF (i := .iload_n 2) rfl (fun _ => rfl) ?_
  refine dp_s1 hF (i := .aload_n 0) rfl (fun _ => rfl) ?_
  refine dp_s1 hF (i := .getfield 729) rfl (fun _ => rfl) ?_
  refine dp_s2 hF (i := .if_icmp .ge 27) (a := (44, [some (.ref 114), some (.int v1), some (.int v2)], [], M)) (b := (20, [some (.ref 114), some (.int v1), some (.int v2)], [], M)) rfl (fun _ => rfl) ?_ ?_
  · refine dp_s1 hF (i := .aload_n 0) rfl (fun _ => rfl) ?_
    refine dp_s1 hF (i := .aload_n 0) rfl (fun _ => rfl) ?_
    refine dp_s1 hF (i := .getfield 729) rfl (fun _ => rfl) ?_
    refine dp_s2 hF (i := .ifCond .ne 7) (a := (52, [some (.ref 114), some (.int v1), some (.int v2)], [.ref 114], M)) (b := (56, [some (.ref 114), some (.int v1), some (.int v2)], [.ref 114], M)) rfl (fun _ => rfl) ?_ ?_
    · refine dp_s1 hF (i := .iconst 0) rfl (fun _ => rfl) ?_
      refine dp_s1 hF (i := .goto 7) rfl (fun _ => rfl) ?_
      refine dp_s1w (dp_setI M 114 92 (0 : Int32)) (fun (M1 : dp_M) => (63, [some (.ref 114), some (.int v1), some (.int v2)], [], M1)) hF (i := .putfield 809) rfl (fun _ => rfl) (fun M1 => ?_)
      exact dp_s0 hF (i := .return_) rfl (fun _ => rfl)
    refine dp_s1 hF (i := .aload_n 0) rfl (fun _ => rfl) ?_
    refine dp_si (mj := dp_m_X12_readsText) (i := .invokevirtual 822) rfl rfl (Or.inl rfl) rfl (fun _ => rfl) (fun r3 M2 => ?_)
    refine dp_s1w (dp_setI M2 114 92 r3) (fun (M4 : dp_M) => (63, [some (.ref 114), some (.int v1), some (.int v2)], [], M4)) hF (i := .putfield 809) rfl (fun _ => rfl) (fun M4 => ?_)
    exact dp_s0 hF (i := .return_) rfl (fun _ => rfl)
  refine dp_s1 hF (i := .aload_n 0) rfl (fun _ => rfl) ?_
  refine dp_s1 hF (i := .getfield 191) rfl (fun _ => rfl) ?_
  refine dp_s1 hF (i := .iload_n 2) rfl (fun _ => rfl) ?_
  refine dp_s1 hF (i := .aload_n 0) rfl (fun _ => rfl) ?_
  refine dp_s1 hF (i := .getfield 185) rfl (fun _ => rfl) ?_
  refine dp_s1 hF (i := .sipush 400) rfl (fun _ => rfl) ?_
  refine dp_s1 hF (i := .iload_n 1) rfl (fun _ => rfl) ?_
  refine dp_s1 hF (i := .imul) rfl (fun _ => rfl) ?_
  refine dp_s1 hF (i := .iload_n 2) rfl (fun _ => rfl) ?_
  refine dp_s1 hF (i := .iadd) rfl (fun _ => rfl) ?_
  refine dp_s3 hF (i := .iaload) rfl (fun _ => rfl) ?_
  refine dp_s3w (dp_setI M 173 (Int32.toNatClampNeg v2) (dp_I M 171 (Int32.toNatClampNeg (((400 : Int32) * v1) + v2)))) (fun (M5 : dp_M) => (38, [some (.ref 114), some (.int v1), some (.int v2)], [], M5)) hF (i := .iastore) rfl (fun _ => rfl) (fun M5 => ?_)
  refine dp_s1w (v2 + (1 : Int32)) (fun (y6 : Int32) => (41, [some (.ref 114), some (.int v1), some (.int y6)], [], M5)) hF (i := .iinc 2 1) rfl (fun _ => rfl) (fun y6 => ?_)
  refine dp_s1 hF (i := .goto (-29)) rfl (fun _ => rfl) ?_
  exact rfl
noncomputable def D_X12_node_0 (xs : Nat → Int32) (xl d : Nat) (v1 : Int32) (v2 : Int32) (v3 : Int32) (M : dp_M) : Option dp_Res := dp_lim true xs xl (dp_den true xs xl d) dp_m_X12_node (0, [some (.ref 114), some (.int v1), some (.int v2), some (.int v3), none, none], [], M)
noncomputable def D_X12_node_62 (xs : Nat → Int32) (xl d : Nat) (v1 : Int32) (v2 : Int32) (v3 : Int32) (v4 : Int32) (M : dp_M) : Option dp_Res := dp_lim true xs xl (dp_den true xs xl d) dp_m_X12_node (62, [some (.ref 114), some (.int v1), some (.int v2), some (.int v3), some (.int v4), none], [], M)
noncomputable def D_X12_node_25 (xs : Nat → Int32) (xl d : Nat) (v1 : Int32) (v2 : Int32) (v3 : Int32) (vs0 : Int32) (M : dp_M) : Option dp_Res := dp_lim true xs xl (dp_den true xs xl d) dp_m_X12_node (25, [some (.ref 114), some (.int v1), some (.int v2), some (.int v3), none, none], [.int vs0, .ref 172], M)
theorem D_X12_node_0_den (xs : Nat → Int32) (xl d : Nat) (a0 : Int32) (a1 : Int32) (a2 : Int32) (M : dp_M) : dp_den true xs xl (d + 1) 490 [.ref 114, .int a0, .int a1, .int a2] M = D_X12_node_0 xs xl d a0 a1 a2 M := rfl
set_option maxRecDepth 20000 in
theorem D_X12_node_0_eq (xs : Nat → Int32) (xl d : Nat) (v1 : Int32) (v2 : Int32) (v3 : Int32) (M : dp_M) : D_X12_node_0 xs xl d v1 v2 v3 M = dp_bi (dp_den true xs xl d 451 [.ref 114, .int v1] M) (fun r2 M1 => if r2 = 0 then (dp_w (0 : Int32) (fun y3 => if y3 = 0 then (D_X12_node_62 xs xl d v1 v2 v3 y3 M1) else (dp_bv (dp_den true xs xl d 489 [.ref 114, .int v1] M1) (fun M4 => D_X12_node_62 xs xl d v1 v2 v3 y3 M4)))) else (dp_bi (dp_den true xs xl d 451 [.ref 114, .int v1] M1) (fun r6 M5 => if r6 = 0 then (D_X12_node_25 xs xl d v1 v2 v3 (0 : Int32) M5) else (D_X12_node_25 xs xl d v1 v2 v3 v1 M5)))) := by
  have hF := dp_den_grow (md := true) (xs := xs) (xl := xl) d
  unfold D_X12_node_0
  refine dp_s1 hF (i := .aload_n 0) rfl (fun _ => rfl) ?_
  refine dp_s1 hF (i := .iload_n 1) rfl (fun _ => rfl) ?_
  refine dp_si (mj := dp_m_X12_isMeasure) (i := .invokevirtual 681) rfl rfl (Or.inr rfl) rfl (fun _ => rfl) (fun r2 M1 => ?_)
  refine dp_s2 hF (i := .ifCond .eq 44) (a := (49, [some (.ref 114), some (.int v1), some (.int v2), some (.int v3), none, none], [], M1)) (b := (8, [some (.ref 114), some (.int v1), some (.int v2), some (.int v3), none, none], [], M1)) rfl (fun _ => rfl) ?_ ?_
  · refine dp_s1 hF (i := .iconst 0) rfl (fun _ => rfl) ?_
    refine dp_s1w (0 : Int32) (fun (y3 : Int32) => (52, [some (.ref 114), some (.int v1), some (.int v2), some (.int v3), some (.int y3), none], [], M1)) hF (i := .istore 4) rfl (fun _ => rfl) (fun y3 => ?_)
    refine dp_s1 hF (i := .iload 4) rfl (fun _ => rfl) ?_
    refine dp_s2 hF (i := .ifCond .eq 8) (a := (62, [some (.ref 114), some (.int v1), some (.int v2), some (.int v3), some (.int y3), none], [], M1)) (b := (57, [some (.ref 114), some (.int v1), some (.int v2), some (.int v3), some (.int y3), none], [], M1)) rfl (fun _ => rfl) ?_ ?_
    · exact rfl
    refine dp_s1 hF (i := .aload_n 0) rfl (fun _ => rfl) ?_
    refine dp_s1 hF (i := .iload_n 1) rfl (fun _ => rfl) ?_
    refine dp_sv (mj := dp_m_X12_readsRate) (i := .invokevirtual 825) rfl rfl rfl rfl (fun _ => rfl) (fun M4 => ?_)
    exact rfl
  refine dp_s1 hF (i := .aload_n 0) rfl (fun _ => rfl) ?_
  refine dp_s1 hF (i := .getfield 188) rfl (fun _ => rfl) ?_
  refine dp_s1 hF (i := .aload_n 0) rfl (fun _ => rfl) ?_
  refine dp_s1 hF (i := .iload_n 1) rfl (fun _ => rfl) ?_
  refine dp_si (mj := dp_m_X12_isMeasure) (i := .invokevirtual 681) rfl rfl (Or.inr rfl) rfl (fun _ => rfl) (fun r6 M5 => ?_)
  refine dp_s2 hF (i := .ifCond .eq 7) (a := (24, [some (.ref 114), some (.int v1), some (.int v2), some (.int v3), none, none], [.ref 172], M5)) (b := (20, [some (.ref 114), some (.int v1), some (.int v2), some (.int v3), none, none], [.ref 172], M5)) rfl (fun _ => rfl) ?_ ?_
  · refine dp_s1 hF (i := .iconst 0) rfl (fun _ => rfl) ?_
    exact rfl
  refine dp_s1 hF (i := .iload_n 1) rfl (fun _ => rfl) ?_
  refine dp_s1 hF (i := .goto 4) rfl (fun _ => rfl) ?_
  exact rfl
set_option maxRecDepth 20000 in
theorem D_X12_node_62_eq (xs : Nat → Int32) (xl d : Nat) (v1 : Int32) (v2 : Int32) (v3 : Int32) (v4 : Int32) (M : dp_M) : D_X12_node_62 xs xl d v1 v2 v3 v4 M = if v4 = 0 then (dp_bi (dp_den true xs xl d 366 [.ref 114, .int (1 : Int32)] M) (fun r2 M1 => some (.inl (some (.int r2)), M1))) else (if v2 < (dp_I M 114 92) then (dp_w (dp_setI M 114 0 (0 : Int32)) (fun M3 => dp_w ((60 : Int32) + v2) (fun y4 => if v3 = (0 : Int32) then (if y4 < 0 ∨ 120 ≤ Int32.toNatClampNeg y4 then none else (some (.inl (some (.int (dp_I M3 174 (Int32.toNatClampNeg y4)))), M3))) else if v3 = (1 : Int32) then (if y4 < 0 ∨ 120 ≤ Int32.toNatClampNeg y4 then none else (some (.inl (some (.int (dp_I M3 175 (Int32.toNatClampNeg y4)))), M3))) else if v3 = (2 : Int32) then (if y4 < 0 ∨ 120 ≤ Int32.toNatClampNeg y4 then none else (some (.inl (some (.int (dp_I M3 176 (Int32.toNatClampNeg y4)))), M3))) else if v3 = (3 : Int32) then (if y4 < 0 ∨ 120 ≤ Int32.toNatClampNeg y4 then none else (some (.inl (some (.int (dp_I M3 177 (Int32.toNatClampNeg y4)))), M3))) else if v3 = (4 : Int32) then (if y4 < 0 ∨ 120 ≤ Int32.toNatClampNeg y4 then none else (some (.inl (some (.int (dp_I M3 178 (Int32.toNatClampNeg y4)))), M3))) else (if y4 < 0 ∨ 120 ≤ Int32.toNatClampNeg y4 then none else (some (.inl (some (.int (dp_I M3 179 (Int32.toNatClampNeg y4)))), M3)))))) else (dp_bi (dp_den true xs xl d 366 [.ref 114, .int (1 : Int32)] M) (fun r6 M5 => some (.inl (some (.int r6)), M5)))) := by
  have hF := dp_den_grow (md := true) (xs := xs) (xl := xl) d
  unfold D_X12_node_62
  refine dp_s1 hF (i := .iload 4) rfl (fun _ => rfl) ?_
  refine dp_s2 hF (i := .ifCond .eq 11) (a := (75, [some (.ref 114), some (.int v1), some (.int v2), some (.int v3), some (.int v4), none], [], M)) (b := (67, [some (.ref 114), some (.int v1), some (.int v2), some (.int v3), some (.int v4), none], [], M)) rfl (fun _ => rfl) ?_ ?_
  · refine dp_s1 hF (i := .aload_n 0) rfl (fun _ => rfl) ?_
    refine dp_s1 hF (i := .iconst 1) rfl (fun _ => rfl) ?_
    refine dp_si (mj := dp_m_X12_refuse) (i := .invokevirtual 460) rfl rfl (Or.inl rfl) rfl (fun _ => rfl) (fun r2 M1 => ?_)
    exact dp_s0 hF (i := .ireturn) rfl (fun _ => rfl)
  refine dp_s1 hF (i := .iload_n 2) rfl (fun _ => rfl) ?_
  refine dp_s1 hF (i := .aload_n 0) rfl (fun _ => rfl) ?_
  refine dp_s1 hF (i := .getfield 809) rfl (fun _ => rfl) ?_
  refine dp_s2 hF (i := .if_icmp .lt 9) (a := (81, [some (.ref 114), some (.int v1), some (.int v2), some (.int v3), some (.int v4), none], [], M)) (b := (75, [some (.ref 114), some (.int v1), some (.int v2), some (.int v3), some (.int v4), none], [], M)) rfl (fun _ => rfl) ?_ ?_
  · refine dp_s1 hF (i := .aload_n 0) rfl (fun _ => rfl) ?_
    refine dp_s1 hF (i := .iconst 0) rfl (fun _ => rfl) ?_
    refine dp_s1w (dp_setI M 114 0 (0 : Int32)) (fun (M3 : dp_M) => (86, [some (.ref 114), some (.int v1), some (.int v2), some (.int v3), some (.int v4), none], [], M3)) hF (i := .putfield 1) rfl (fun _ => rfl) (fun M3 => ?_)
    refine dp_s1 hF (i := .bipush 60) rfl (fun _ => rfl) ?_
    refine dp_s1 hF (i := .iload_n 2) rfl (fun _ => rfl) ?_
    refine dp_s1 hF (i := .iadd) rfl (fun _ => rfl) ?_
    refine dp_s1w ((60 : Int32) + v2) (fun (y4 : Int32) => (92, [some (.ref 114), some (.int v1), some (.int v2), some (.int v3), some (.int v4), some (.int y4)], [], M3)) hF (i := .istore 5) rfl (fun _ => rfl) (fun y4 => ?_)
    refine dp_s1 hF (i := .iload_n 3) rfl (fun _ => rfl) ?_
    refine (dp_s (E := fun k => if v3 = (0 : Int32) then k (128, [some (.ref 114), some (.int v1), some (.int v2), some (.int v3), some (.int v4), some (.int y4)], [], M3) else if v3 = (1 : Int32) then k (136, [some (.ref 114), some (.int v1), some (.int v2), some (.int v3), some (.int v4), some (.int y4)], [], M3) else if v3 = (2 : Int32) then k (144, [some (.ref 114), some (.int v1), some (.int v2), some (.int v3), some (.int v4), some (.int y4)], [], M3) else if v3 = (3 : Int32) then k (152, [some (.ref 114), some (.int v1), some (.int v2), some (.int v3), some (.int v4), some (.int y4)], [], M3) else if v3 = (4 : Int32) then k (160, [some (.ref 114), some (.int v1), some (.int v2), some (.int v3), some (.int v4), some (.int y4)], [], M3) else k (168, [some (.ref 114), some (.int v1), some (.int v2), some (.int v3), some (.int v4), some (.int y4)], [], M3)) hF (i := .tableswitch 75 0 4 #[35, 43, 51, 59, 67]) rfl (fun _ => rfl)).trans ?_
    refine dp_ifc ?_ ?_
    · refine dp_s1 hF (i := .aload_n 0) rfl (fun _ => rfl) ?_
      refine dp_s1 hF (i := .getfield 194) rfl (fun _ => rfl) ?_
      refine dp_s1 hF (i := .iload 5) rfl (fun _ => rfl) ?_
      refine dp_s3 hF (i := .iaload) rfl (fun _ => rfl) ?_
      exact dp_s0 hF (i := .ireturn) rfl (fun _ => rfl)
    refine dp_ifc ?_ ?_
    · refine dp_s1 hF (i := .aload_n 0) rfl (fun _ => rfl) ?_
      refine dp_s1 hF (i := .getfield 197) rfl (fun _ => rfl) ?_
      refine dp_s1 hF (i := .iload 5) rfl (fun _ => rfl) ?_
      refine dp_s3 hF (i := .iaload) rfl (fun _ => rfl) ?_
      exact dp_s0 hF (i := .ireturn) rfl (fun _ => rfl)
    refine dp_ifc ?_ ?_
    · refine dp_s1 hF (i := .aload_n 0) rfl (fun _ => rfl) ?_
      refine dp_s1 hF (i := .getfield 200) rfl (fun _ => rfl) ?_
      refine dp_s1 hF (i := .iload 5) rfl (fun _ => rfl) ?_
      refine dp_s3 hF (i := .iaload) rfl (fun _ => rfl) ?_
      exact dp_s0 hF (i := .ireturn) rfl (fun _ => rfl)
    refine dp_ifc ?_ ?_
    · refine dp_s1 hF (i := .aload_n 0) rfl (fun _ => rfl) ?_
      refine dp_s1 hF (i := .getfield 203) rfl (fun _ => rfl) ?_
      refine dp_s1 hF (i := .iload 5) rfl (fun _ => rfl) ?_
      refine dp_s3 hF (i := .iaload) rfl (fun _ => rfl) ?_
      exact dp_s0 hF (i := .ireturn) rfl (fun _ => rfl)
    refine dp_ifc ?_ ?_
    · refine dp_s1 hF (i := .aload_n 0) rfl (fun _ => rfl) ?_
      refine dp_s1 hF (i := .getfield 206) rfl (fun _ => rfl) ?_
      refine dp_s1 hF (i := .iload 5) rfl (fun _ => rfl) ?_
      refine dp_s3 hF (i := .iaload) rfl (fun _ => rfl) ?_
      exact dp_s0 hF (i := .ireturn) rfl (fun _ => rfl)
    refine dp_s1 hF (i := .aload_n 0) rfl (fun _ => rfl) ?_
    refine dp_s1 hF (i := .getfield 209) rfl (fun _ => rfl) ?_
    refine dp_s1 hF (i := .iload 5) rfl (fun _ => rfl) ?_
    refine dp_s3 hF (i := .iaload) rfl (fun _ => rfl) ?_
    exact dp_s0 hF (i := .ireturn) rfl (fun _ => rfl)
  refine dp_s1 hF (i := .aload_n 0) rfl (fun _ => rfl) ?_
  refine dp_s1 hF (i := .iconst 1) rfl (fun _ => rfl) ?_
  refine dp_si (mj := dp_m_X12_refuse) (i := .invokevirtual 460) rfl rfl (Or.inl rfl) rfl (fun _ => rfl) (fun r6 M5 => ?_)
  exact dp_s0 hF (i := .ireturn) rfl (fun _ => rfl)
set_option maxRecDepth 20000 in
theorem D_X12_node_25_eq (xs : Nat → Int32) (xl d : Nat) (v1 : Int32) (v2 : Int32) (v3 : Int32) (vs0 : Int32) (M : dp_M) : D_X12_node_25 xs xl d v1 v2 v3 vs0 M = if vs0 < 0 ∨ 301 ≤ Int32.toNatClampNeg vs0 then none else (if (dp_I M 172 (Int32.toNatClampNeg vs0)) ≤ 0 then (dp_w (0 : Int32) (fun y1 => if y1 = 0 then (D_X12_node_62 xs xl d v1 v2 v3 y1 M) else (dp_bv (dp_den true xs xl d 489 [.ref 114, .int v1] M) (fun M2 => D_X12_node_62 xs xl d v1 v2 v3 y1 M2)))) else (dp_bi (dp_den true xs xl d 367 [.long (Int32.toInt64 v3), .long (0 : Int64), .long (5 : Int64)] M) (fun r4 M3 => if r4 = 0 then (dp_w (0 : Int32) (fun y5 => if y5 = 0 then (D_X12_node_62 xs xl d v1 v2 v3 y5 M3) else (dp_bv (dp_den true xs xl d 489 [.ref 114, .int v1] M3) (fun M6 => D_X12_node_62 xs xl d v1 v2 v3 y5 M6)))) else (if v2 < 0 then (dp_w (0 : Int32) (fun y7 => if y7 = 0 then (D_X12_node_62 xs xl d v1 v2 v3 y7 M3) else (dp_bv (dp_den true xs xl d 489 [.ref 114, .int v1] M3) (fun M8 => D_X12_node_62 xs xl d v1 v2 v3 y7 M8)))) else (dp_w (1 : Int32) (fun y9 => if y9 = 0 then (D_X12_node_62 xs xl d v1 v2 v3 y9 M3) else (dp_bv (dp_den true xs xl d 489 [.ref 114, .int v1] M3) (fun M10 => D_X12_node_62 xs xl d v1 v2 v3 y9 M10)))))))) := by
  have hF := dp_den_grow (md := true) (xs := xs) (xl := xl) d
  unfold D_X12_node_25
  refine dp_s3 hF (i := .iaload) rfl (fun _ => rfl) ?_
  refine dp_s2 hF (i := .ifCond .le 23) (a := (49, [some (.ref 114), some (.int v1), some (.int v2), some (.int v3), none, none], [], M)) (b := (29, [some (.ref 114), some (.int v1), some (.int v2), some (.int v3), none, none], [], M)) rfl (fun _ => rfl) ?_ ?_
  · refine dp_s1 hF (i := .iconst 0) rfl (fun _ => rfl) ?_
    refine dp_s1w (0 : Int32) (fun (y1 : Int32) => (52, [some (.ref 114), some (.int v1), some (.int v2), some (.int v3), some (.int y1), none], [], M)) hF (i := .istore 4) rfl (fun _ => rfl) (fun y1 => ?_)
    refine dp_s1 hF (i := .iload 4) rfl (fun _ => rfl) ?_
    refine dp_s2 hF (i := .ifCond .eq 8) (a := (62, [some (.ref 114), some (.int v1), some (.int v2), some (.int v3), some (.int y1), none], [], M)) (b := (57, [some (.ref 114), some (.int v1), some (.int v2), some (.int v3), some (.int y1), none], [], M)) rfl (fun _ => rfl) ?_ ?_
    · exact rfl
    refine dp_s1 hF (i := .aload_n 0) rfl (fun _ => rfl) ?_
    refine dp_s1 hF (i := .iload_n 1) rfl (fun _ => rfl) ?_
    refine dp_sv (mj := dp_m_X12_readsRate) (i := .invokevirtual 825) rfl rfl rfl rfl (fun _ => rfl) (fun M2 => ?_)
    exact rfl
  refine dp_s1 hF (i := .iload_n 3) rfl (fun _ => rfl) ?_
  refine dp_s1 hF (i := .i2l) rfl (fun _ => rfl) ?_
  refine dp_s1 hF (i := .lconst 0) rfl (fun _ => rfl) ?_
  refine dp_s1 hF (i := .ldc2_w 450) rfl (fun _ => rfl) ?_
  refine dp_si (mj := dp_m_X12_in) (i := .invokestatic 446) rfl rfl (Or.inr rfl) rfl (fun _ => rfl) (fun r4 M3 => ?_)
  refine dp_s2 hF (i := .ifCond .eq 11) (a := (49, [some (.ref 114), some (.int v1), some (.int v2), some (.int v3), none, none], [], M3)) (b := (41, [some (.ref 114), some (.int v1), some (.int v2), some (.int v3), none, none], [], M3)) rfl (fun _ => rfl) ?_ ?_
  · refine dp_s1 hF (i := .iconst 0) rfl (fun _ => rfl) ?_
    refine dp_s1w (0 : Int32) (fun (y5 : Int32) => (52, [some (.ref 114), some (.int v1), some (.int v2), some (.int v3), some (.int y5), none], [], M3)) hF (i := .istore 4) rfl (fun _ => rfl) (fun y5 => ?_)
    refine dp_s1 hF (i := .iload 4) rfl (fun _ => rfl) ?_
    refine dp_s2 hF (i := .ifCond .eq 8) (a := (62, [some (.ref 114), some (.int v1), some (.int v2), some (.int v3), some (.int y5), none], [], M3)) (b := (57, [some (.ref 114), some (.int v1), some (.int v2), some (.int v3), some (.int y5), none], [], M3)) rfl (fun _ => rfl) ?_ ?_
    · exact rfl
    refine dp_s1 hF (i := .aload_n 0) rfl (fun _ => rfl) ?_
    refine dp_s1 hF (i := .iload_n 1) rfl (fun _ => rfl) ?_
    refine dp_sv (mj := dp_m_X12_readsRate) (i := .invokevirtual 825) rfl rfl rfl rfl (fun _ => rfl) (fun M6 => ?_)
    exact rfl
  refine dp_s1 hF (i := .iload_n 2) rfl (fun _ => rfl) ?_
  refine dp_s2 hF (i := .ifCond .lt 7) (a := (49, [some (.ref 114), some (.int v1), some (.int v2), some (.int v3), none, none], [], M3)) (b := (45, [some (.ref 114), some (.int v1), some (.int v2), some (.int v3), none, none], [], M3)) rfl (fun _ => rfl) ?_ ?_
  · refine dp_s1 hF (i := .iconst 0) rfl (fun _ => rfl) ?_
    refine dp_s1w (0 : Int32) (fun (y7 : Int32) => (52, [some (.ref 114), some (.int v1), some (.int v2), some (.int v3), some (.int y7), none], [], M3)) hF (i := .istore 4) rfl (fun _ => rfl) (fun y7 => ?_)
    refine dp_s1 hF (i := .iload 4) rfl (fun _ => rfl) ?_
    refine dp_s2 hF (i := .ifCond .eq 8) (a := (62, [some (.ref 114), some (.int v1), some (.int v2), some (.int v3), some (.int y7), none], [], M3)) (b := (57, [some (.ref 114), some (.int v1), some (.int v2), some (.int v3), some (.int y7), none], [], M3)) rfl (fun _ => rfl) ?_ ?_
    · exact rfl
    refine dp_s1 hF (i := .aload_n 0) rfl (fun _ => rfl) ?_
    refine dp_s1 hF (i := .iload_n 1) rfl (fun _ => rfl) ?_
    refine dp_sv (mj := dp_m_X12_readsRate) (i := .invokevirtual 825) rfl rfl rfl rfl (fun _ => rfl) (fun M8 => ?_)
    exact rfl
  refine dp_s1 hF (i := .iconst 1) rfl (fun _ => rfl) ?_
  refine dp_s1 hF (i := .goto 4) rfl (fun _ => rfl) ?_
  refine dp_s1w (1 : Int32) (fun (y9 : Int32) => (52, [some (.ref 114), some (.int v1), some (.int v2), some (.int v3), some (.int y9), none], [], M3)) hF (i := .istore 4) rfl (fun _ => rfl) (fun y9 => ?_)
  refine dp_s1 hF (i := .iload 4) rfl (fun _ => rfl) ?_
  refine dp_s2 hF (i := .ifCond .eq 8) (a := (62, [some (.ref 114), some (.int v1), some (.int v2), some (.int v3), some (.int y9), none], [], M3)) (b := (57, [some (.ref 114), some (.int v1), some (.int v2), some (.int v3), some (.int y9), none], [], M3)) rfl (fun _ => rfl) ?_ ?_
  · exact rfl
  refine dp_s1 hF (i := .aload_n 0) rfl (fun _ => rfl) ?_
  refine dp_s1 hF (i := .iload_n 1) rfl (fun _ => rfl) ?_
  refine dp_sv (mj := dp_m_X12_readsRate) (i := .invokevirtual 825) rfl rfl rfl rfl (fun _ => rfl) (fun M10 => ?_)
  exact rfl
noncomputable def D_X12_stepOf_0 (xs : Nat → Int32) (xl d : Nat) (v1 : Int32) (M : dp_M) : Option dp_Res := dp_lim true xs xl (dp_den true xs xl d) dp_m_X12_stepOf (0, [some (.ref 114), some (.int v1), none, none, none, none, none], [], M)
noncomputable def D_X12_stepOf_36 (xs : Nat → Int32) (xl d : Nat) (v1 : Int32) (v2 : Int64) (v4 : Int64) (v6 : Int32) (M : dp_M) : Option dp_Res := dp_lim true xs xl (dp_den true xs xl d) dp_m_X12_stepOf (36, [some (.ref 114), some (.int v1), some (.long v2), none, some (.long v4), none, some (.int v6)], [], M)
theorem D_X12_stepOf_0_den (xs : Nat → Int32) (xl d : Nat) (a0 : Int32) (M : dp_M) : dp_den true xs xl (d + 1) 491 [.ref 114, .int a0] M = D_X12_stepOf_0 xs xl d a0 M := rfl
set_option maxRecDepth 20000 in
theorem D_X12_stepOf_0_eq (xs : Nat → Int32) (xl d : Nat) (v1 : Int32) (M : dp_M) : D_X12_stepOf_0 xs xl d v1 M = if (lg_cmp (dp_J M 114 100) (0 : Int64)) = 0 then (dp_w (0 : Int64) (fun y1 => dp_w (0 : Int64) (fun y2 => dp_w (0 : Int32) (fun y3 => D_X12_stepOf_36 xs xl d v1 y1 y2 y3 M)))) else (if v1 < 0 ∨ 120 ≤ Int32.toNatClampNeg v1 then none else (if (dp_J M 114 100) = 0 then none else (dp_w (((Int32.toInt64 (dp_I M 175 (Int32.toNatClampNeg v1))) * (100 : Int64)) / (dp_J M 114 100)) (fun y4 => dp_w (0 : Int64) (fun y5 => dp_w (0 : Int32) (fun y6 => D_X12_stepOf_36 xs xl d v1 y4 y5 y6 M)))))) := by
  have hF := dp_den_grow (md := true) (xs := xs) (xl := xl) d
  unfold D_X12_stepOf_0
  refine dp_s1 hF (i := .aload_n 0) rfl (fun _ => rfl) ?_
  refine dp_s1 hF (i := .getfield 828) rfl (fun _ => rfl) ?_
  refine dp_s1 hF (i := .lconst 0) rfl (fun _ => rfl) ?_
  refine dp_s1 hF (i := .lcmp) rfl (fun _ => rfl) ?_
  refine dp_s2 hF (i := .ifCond .ne 7) (a := (9, [some (.ref 114), some (.int v1), none, none, none, none, none], [], M)) (b := (13, [some (.ref 114), some (.int v1), none, none, none, none, none], [], M)) rfl (fun _ => rfl) ?_ ?_
  · refine dp_s1 hF (i := .lconst 0) rfl (fun _ => rfl) ?_
    refine dp_s1 hF (i := .goto 19) rfl (fun _ => rfl) ?_
    refine dp_s1w (0 : Int64) (fun (y1 : Int64) => (30, [some (.ref 114), some (.int v1), some (.long y1), none, none, none, none], [], M)) hF (i := .lstore_n 2) rfl (fun _ => rfl) (fun y1 => ?_)
    refine dp_s1 hF (i := .lconst 0) rfl (fun _ => rfl) ?_
    refine dp_s1w (0 : Int64) (fun (y2 : Int64) => (33, [some (.ref 114), some (.int v1), some (.long y1), none, some (.long y2), none, none], [], M)) hF (i := .lstore 4) rfl (fun _ => rfl) (fun y2 => ?_)
    refine dp_s1 hF (i := .iconst 0) rfl (fun _ => rfl) ?_
    refine dp_s1w (0 : Int32) (fun (y3 : Int32) => (36, [some (.ref 114), some (.int v1), some (.long y1), none, some (.long y2), none, some (.int y3)], [], M)) hF (i := .istore 6) rfl (fun _ => rfl) (fun y3 => ?_)
    exact rfl
  refine dp_s1 hF (i := .aload_n 0) rfl (fun _ => rfl) ?_
  refine dp_s1 hF (i := .getfield 197) rfl (fun _ => rfl) ?_
  refine dp_s1 hF (i := .iload_n 1) rfl (fun _ => rfl) ?_
  refine dp_s3 hF (i := .iaload) rfl (fun _ => rfl) ?_
  refine dp_s1 hF (i := .i2l) rfl (fun _ => rfl) ?_
  refine dp_s1 hF (i := .ldc2_w 832) rfl (fun _ => rfl) ?_
  refine dp_s1 hF (i := .lmul) rfl (fun _ => rfl) ?_
  refine dp_s1 hF (i := .aload_n 0) rfl (fun _ => rfl) ?_
  refine dp_s1 hF (i := .getfield 828) rfl (fun _ => rfl) ?_
  refine dp_s3 hF (i := .ldiv) rfl (fun _ => rfl) ?_
  refine dp_s1w (((Int32.toInt64 (dp_I M 175 (Int32.toNatClampNeg v1))) * (100 : Int64)) / (dp_J M 114 100)) (fun (y4 : Int64) => (30, [some (.ref 114), some (.int v1), some (.long y4), none, none, none, none], [], M)) hF (i := .lstore_n 2) rfl (fun _ => rfl) (fun y4 => ?_)
  refine dp_s1 hF (i := .lconst 0) rfl (fun _ => rfl) ?_
  refine dp_s1w (0 : Int64) (fun (y5 : Int64) => (33, [some (.ref 114), some (.int v1), some (.long y4), none, some (.long y5), none, none], [], M)) hF (i := .lstore 4) rfl (fun _ => rfl) (fun y5 => ?_)
  refine dp_s1 hF (i := .iconst 0) rfl (fun _ => rfl) ?_
  refine dp_s1w (0 : Int32) (fun (y6 : Int32) => (36, [some (.ref 114), some (.int v1), some (.long y4), none, some (.long y5), none, some (.int y6)], [], M)) hF (i := .istore 6) rfl (fun _ => rfl) (fun y6 => ?_)
  exact rfl
set_option maxRecDepth 20000 in
theorem D_X12_stepOf_36_eq (xs : Nat → Int32) (xl d : Nat) (v1 : Int32) (v2 : Int64) (v4 : Int64) (v6 : Int32) (M : dp_M) : D_X12_stepOf_36 xs xl d v1 v2 v4 v6 M = if v1 < 0 ∨ 120 ≤ Int32.toNatClampNeg v1 then none else (if (dp_I M 179 (Int32.toNatClampNeg v1)) ≤ v6 then (some (.inl (some (.long (v4 * (1000000 : Int64)))), M)) else (if (lg_cmp (dp_J M 114 100) (0 : Int64)) = 0 then (if (((6 : Int32) * v1) + v6) < 0 ∨ 720 ≤ Int32.toNatClampNeg (((6 : Int32) * v1) + v6) then none else (dp_w (Int32.toInt64 (dp_I M 181 (Int32.toNatClampNeg (((6 : Int32) * v1) + v6)))) (fun y1 => dp_w (v6 + (1 : Int32)) (fun y2 => D_X12_stepOf_36 xs xl d v1 v2 y1 y2 M)))) else (if (((6 : Int32) * v1) + v6) < 0 ∨ 720 ≤ Int32.toNatClampNeg (((6 : Int32) * v1) + v6) then none else (if 0 < (lg_cmp (Int32.toInt64 (dp_I M 180 (Int32.toNatClampNeg (((6 : Int32) * v1) + v6)))) v2) then (dp_w (v6 + (1 : Int32)) (fun y3 => D_X12_stepOf_36 xs xl d v1 v2 v4 y3 M)) else (if (((6 : Int32) * v1) + v6) < 0 ∨ 720 ≤ Int32.toNatClampNeg (((6 : Int32) * v1) + v6) then none else (dp_w (Int32.toInt64 (dp_I M 181 (Int32.toNatClampNeg (((6 : Int32) * v1) + v6)))) (fun y4 => dp_w (v6 + (1 : Int32)) (fun y5 => D_X12_stepOf_36 xs xl d v1 v2 y4 y5 M)))))))) := by
  have hF := dp_den_grow (md := true) (xs := xs) (xl := xl) d
  unfold D_X12_stepOf_36
  refine dp_s1 hF (i := .iload 6) rfl (fun _ => rfl) ?_
  refine dp_s1 hF (i := .aload_n 0) rfl (fun _ => rfl) ?_
  refine dp_s1 hF (i := .getfield 209) rfl (fun _ => rfl) ?_
  refine dp_s1 hF (i := .iload_n 1) rfl (fun _ => rfl) ?_
  refine dp_s3 hF (i := .iaload) rfl (fun _ => rfl) ?_
  refine dp_s2 hF (i := .if_icmp .ge 56) (a := (100, [some (.ref 114), some (.int v1), some (.long v2), none, some (.long v4), none, some (.int v6)], [], M)) (b := (47, [some (.ref 114), some (.int v1), some (.long v2), none, some (.long v4), none, some (.int v6)], [], M)) rfl (fun _ => rfl) ?_ ?_
  · refine dp_s1 hF (i := .lload 4) rfl (fun _ => rfl) ?_
    refine dp_s1 hF (i := .ldc2_w 834) rfl (fun _ => rfl) ?_
    refine dp_s1 hF (i := .lmul) rfl (fun _ => rfl) ?_
    exact dp_s0 hF (i := .lreturn) rfl (fun _ => rfl)
  refine dp_s1 hF (i := .aload_n 0) rfl (fun _ => rfl) ?_
  refine dp_s1 hF (i := .getfield 828) rfl (fun _ => rfl) ?_
  refine dp_s1 hF (i := .lconst 0) rfl (fun _ => rfl) ?_
  refine dp_s1 hF (i := .lcmp) rfl (fun _ => rfl) ?_
  refine dp_s2 hF (i := .ifCond .eq 21) (a := (74, [some (.ref 114), some (.int v1), some (.long v2), none, some (.long v4), none, some (.int v6)], [], M)) (b := (56, [some (.ref 114), some (.int v1), some (.long v2), none, some (.long v4), none, some (.int v6)], [], M)) rfl (fun _ => rfl) ?_ ?_
  · refine dp_s1 hF (i := .aload_n 0) rfl (fun _ => rfl) ?_
    refine dp_s1 hF (i := .getfield 215) rfl (fun _ => rfl) ?_
    refine dp_s1 hF (i := .bipush 6) rfl (fun _ => rfl) ?_
    refine dp_s1 hF (i := .iload_n 1) rfl (fun _ => rfl) ?_
    refine dp_s1 hF (i := .imul) rfl (fun _ => rfl) ?_
    refine dp_s1 hF (i := .iload 6) rfl (fun _ => rfl) ?_
    refine dp_s1 hF (i := .iadd) rfl (fun _ => rfl) ?_
    refine dp_s3 hF (i := .iaload) rfl (fun _ => rfl) ?_
    refine dp_s1 hF (i := .i2l) rfl (fun _ => rfl) ?_
    refine dp_s1 hF (i := .goto 5) rfl (fun _ => rfl) ?_
    refine dp_s1w (Int32.toInt64 (dp_I M 181 (Int32.toNatClampNeg (((6 : Int32) * v1) + v6)))) (fun (y1 : Int64) => (94, [some (.ref 114), some (.int v1), some (.long v2), none, some (.long y1), none, some (.int v6)], [], M)) hF (i := .lstore 4) rfl (fun _ => rfl) (fun y1 => ?_)
    refine dp_s1w (v6 + (1 : Int32)) (fun (y2 : Int32) => (97, [some (.ref 114), some (.int v1), some (.long v2), none, some (.long y1), none, some (.int y2)], [], M)) hF (i := .iinc 6 1) rfl (fun _ => rfl) (fun y2 => ?_)
    refine dp_s1 hF (i := .goto (-61)) rfl (fun _ => rfl) ?_
    exact rfl
  refine dp_s1 hF (i := .aload_n 0) rfl (fun _ => rfl) ?_
  refine dp_s1 hF (i := .getfield 212) rfl (fun _ => rfl) ?_
  refine dp_s1 hF (i := .bipush 6) rfl (fun _ => rfl) ?_
  refine dp_s1 hF (i := .iload_n 1) rfl (fun _ => rfl) ?_
  refine dp_s1 hF (i := .imul) rfl (fun _ => rfl) ?_
  refine dp_s1 hF (i := .iload 6) rfl (fun _ => rfl) ?_
  refine dp_s1 hF (i := .iadd) rfl (fun _ => rfl) ?_
  refine dp_s3 hF (i := .iaload) rfl (fun _ => rfl) ?_
  refine dp_s1 hF (i := .i2l) rfl (fun _ => rfl) ?_
  refine dp_s1 hF (i := .lload_n 2) rfl (fun _ => rfl) ?_
  refine dp_s1 hF (i := .lcmp) rfl (fun _ => rfl) ?_
  refine dp_s2 hF (i := .ifCond .gt 19) (a := (90, [some (.ref 114), some (.int v1), some (.long v2), none, some (.long v4), none, some (.int v6)], [], M)) (b := (74, [some (.ref 114), some (.int v1), some (.long v2), none, some (.long v4), none, some (.int v6)], [], M)) rfl (fun _ => rfl) ?_ ?_
  · refine dp_s1 hF (i := .lload 4) rfl (fun _ => rfl) ?_
    refine dp_s1 hF (i := .lstore 4) rfl (fun _ => rfl) ?_
    refine dp_s1w (v6 + (1 : Int32)) (fun (y3 : Int32) => (97, [some (.ref 114), some (.int v1), some (.long v2), none, some (.long v4), none, some (.int y3)], [], M)) hF (i := .iinc 6 1) rfl (fun _ => rfl) (fun y3 => ?_)
    refine dp_s1 hF (i := .goto (-61)) rfl (fun _ => rfl) ?_
    exact rfl
  refine dp_s1 hF (i := .aload_n 0) rfl (fun _ => rfl) ?_
  refine dp_s1 hF (i := .getfield 215) rfl (fun _ => rfl) ?_
  refine dp_s1 hF (i := .bipush 6) rfl (fun _ => rfl) ?_
  refine dp_s1 hF (i := .iload_n 1) rfl (fun _ => rfl) ?_
  refine dp_s1 hF (i := .imul) rfl (fun _ => rfl) ?_
  refine dp_s1 hF (i := .iload 6) rfl (fun _ => rfl) ?_
  refine dp_s1 hF (i := .iadd) rfl (fun _ => rfl) ?_
  refine dp_s3 hF (i := .iaload) rfl (fun _ => rfl) ?_
  refine dp_s1 hF (i := .i2l) rfl (fun _ => rfl) ?_
  refine dp_s1 hF (i := .goto 5) rfl (fun _ => rfl) ?_
  refine dp_s1w (Int32.toInt64 (dp_I M 181 (Int32.toNatClampNeg (((6 : Int32) * v1) + v6)))) (fun (y4 : Int64) => (94, [some (.ref 114), some (.int v1), some (.long v2), none, some (.long y4), none, some (.int v6)], [], M)) hF (i := .lstore 4) rfl (fun _ => rfl) (fun y4 => ?_)
  refine dp_s1w (v6 + (1 : Int32)) (fun (y5 : Int32) => (97, [some (.ref 114), some (.int v1), some (.long v2), none, some (.long y4), none, some (.int y5)], [], M)) hF (i := .iinc 6 1) rfl (fun _ => rfl) (fun y5 => ?_)
  refine dp_s1 hF (i := .goto (-61)) rfl (fun _ => rfl) ?_
  exact rfl
noncomputable def D_X12_reckons_0 (xs : Nat → Int32) (xl d : Nat)  (M : dp_M) : Option dp_Res := dp_lim true xs xl (dp_den true xs xl d) dp_m_X12_reckons (0, [some (.ref 114), none, none, none, none, none, none, none], [], M)
noncomputable def D_X12_reckons_7 (xs : Nat → Int32) (xl d : Nat) (v1 : Int32) (M : dp_M) : Option dp_Res := dp_lim true xs xl (dp_den true xs xl d) dp_m_X12_reckons (7, [some (.ref 114), some (.int v1), none, none, none, none, none, none], [], M)
noncomputable def D_X12_reckons_59 (xs : Nat → Int32) (xl d : Nat) (v1 : Int32) (v2 : Int32) (v3 : Int32) (M : dp_M) : Option dp_Res := dp_lim true xs xl (dp_den true xs xl d) dp_m_X12_reckons (59, [some (.ref 114), some (.int v1), some (.int v2), some (.int v3), none, none, none, none], [], M)
noncomputable def D_X12_reckons_98 (xs : Nat → Int32) (xl d : Nat) (v1 : Int32) (v2 : Int32) (v3 : Int32) (vs0 : Int64) (M : dp_M) : Option dp_Res := dp_lim true xs xl (dp_den true xs xl d) dp_m_X12_reckons (98, [some (.ref 114), some (.int v1), some (.int v2), some (.int v3), none, none, none, none], [.long vs0], M)
noncomputable def D_X12_reckons_139 (xs : Nat → Int32) (xl d : Nat) (v1 : Int32) (v2 : Int32) (v3 : Int32) (v4 : Int64) (vs0 : Int64) (M : dp_M) : Option dp_Res := dp_lim true xs xl (dp_den true xs xl d) dp_m_X12_reckons (139, [some (.ref 114), some (.int v1), some (.int v2), some (.int v3), some (.long v4), none, none, none], [.long vs0], M)
noncomputable def D_X12_reckons_308 (xs : Nat → Int32) (xl d : Nat) (v1 : Int32) (v2 : Int32) (v3 : Int32) (v4 : Int64) (v6 : Int64) (vs0 : Int32) (vs1 : Int32) (M : dp_M) : Option dp_Res := dp_lim true xs xl (dp_den true xs xl d) dp_m_X12_reckons (308, [some (.ref 114), some (.int v1), some (.int v2), some (.int v3), some (.long v4), none, some (.long v6), none], [.int vs0, .int vs1, .ref 189], M)
noncomputable def D_X12_reckons_7_a (xs : Nat → Int32) (xl d : Nat) (v1 : Int32) (v2 : Int32) (v3 : Int32) (v4 : Int64) (v6 : Int64) (M : dp_M) : Option dp_Res := dp_lim true xs xl (dp_den true xs xl d) dp_m_X12_reckons (7, [some (.ref 114), some (.int v1), some (.int v2), some (.int v3), some (.long v4), none, some (.long v6), none], [], M)
noncomputable def D_X12_reckons_59_a (xs : Nat → Int32) (xl d : Nat) (v1 : Int32) (v2 : Int32) (v3 : Int32) (v4 : Int64) (v6 : Int64) (M : dp_M) : Option dp_Res := dp_lim true xs xl (dp_den true xs xl d) dp_m_X12_reckons (59, [some (.ref 114), some (.int v1), some (.int v2), some (.int v3), some (.long v4), none, some (.long v6), none], [], M)
noncomputable def D_X12_reckons_98_a (xs : Nat → Int32) (xl d : Nat) (v1 : Int32) (v2 : Int32) (v3 : Int32) (v4 : Int64) (v6 : Int64) (vs0 : Int64) (M : dp_M) : Option dp_Res := dp_lim true xs xl (dp_den true xs xl d) dp_m_X12_reckons (98, [some (.ref 114), some (.int v1), some (.int v2), some (.int v3), some (.long v4), none, some (.long v6), none], [.long vs0], M)
noncomputable def D_X12_reckons_139_a (xs : Nat → Int32) (xl d : Nat) (v1 : Int32) (v2 : Int32) (v3 : Int32) (v4 : Int64) (v6 : Int64) (vs0 : Int64) (M : dp_M) : Option dp_Res := dp_lim true xs xl (dp_den true xs xl d) dp_m_X12_reckons (139, [some (.ref 114), some (.int v1), some (.int v2), some (.int v3), some (.long v4), none, some (.long v6), none], [.long vs0], M)
theorem D_X12_reckons_0_den (xs : Nat → Int32) (xl d : Nat)  (M : dp_M) : dp_den true xs xl (d + 1) 492 [.ref 114] M = D_X12_reckons_0 xs xl d  M := rfl
set_option maxRecDepth 20000 in
theorem D_X12_reckons_0_eq (xs : Nat → Int32) (xl d : Nat)  (M : dp_M) : D_X12_reckons_0 xs xl d  M = dp_w ((dp_I M 114 92) - (1 : Int32)) (fun y1 => D_X12_reckons_7 xs xl d y1 M) := by
  have hF := dp_den_grow (md := true) (xs := xs) (xl := xl) d
  unfold D_X12_reckons_0
  refine dp_s1 hF (i := .aload_n 0) rfl (fun _ => rfl) ?_
  refine dp_s1 hF (i := .getfield 809) rfl (fun _ => rfl) ?_
  refine dp_s1 hF (i := .iconst 1) rfl (fun _ => rfl) ?_
  refine dp_s1 hF (i := .isub) rfl (fun _ => rfl) ?_
  refine dp_s1w ((dp_I M 114 92) - (1 : Int32)) (fun (y1 : Int32) => (7, [some (.ref 114), some (.int y1), none, none, none, none, none, none], [], M)) hF (i := .istore_n 1) rfl (fun _ => rfl) (fun y1 => ?_)
  exact rfl
set_option maxRecDepth 20000 in
theorem D_X12_reckons_7_eq (xs : Nat → Int32) (xl d : Nat) (v1 : Int32) (M : dp_M) : D_X12_reckons_7 xs xl d v1 M = if v1 < 0 then (if (0 : Int32) < 0 ∨ 60 ≤ Int32.toNatClampNeg (0 : Int32) then none else (if 0 ≤ (lg_cmp (dp_J M 189 (Int32.toNatClampNeg (0 : Int32))) (0 : Int64)) then (if (0 : Int32) < 0 ∨ 60 ≤ Int32.toNatClampNeg (0 : Int32) then none else (some (.inl (some (.long (dp_J M 189 (Int32.toNatClampNeg (0 : Int32))))), M))) else (some (.inl (some (.long (0 : Int64))), M)))) else (dp_w ((60 : Int32) + v1) (fun y1 => if y1 < 0 ∨ 120 ≤ Int32.toNatClampNeg y1 then none else (dp_w (dp_I M 174 (Int32.toNatClampNeg y1)) (fun y2 => if y2 = (2 : Int32) then (if y2 = (2 : Int32) then (if y1 < 0 ∨ 120 ≤ Int32.toNatClampNeg y1 then none else (if (dp_I M 176 (Int32.toNatClampNeg y1)) < 0 ∨ 8 ≤ Int32.toNatClampNeg (dp_I M 176 (Int32.toNatClampNeg y1)) then none else (if (lg_cmp (dp_J M 188 (Int32.toNatClampNeg (dp_I M 176 (Int32.toNatClampNeg y1)))) (-1 : Int64)) = 0 then (some (.inl (some (.long (-1 : Int64))), M)) else (D_X12_reckons_59 xs xl d v1 y1 y2 M)))) else (if (0 : Int32) < 0 ∨ 8 ≤ Int32.toNatClampNeg (0 : Int32) then none else (if (lg_cmp (dp_J M 188 (Int32.toNatClampNeg (0 : Int32))) (-1 : Int64)) = 0 then (some (.inl (some (.long (-1 : Int64))), M)) else (D_X12_reckons_59 xs xl d v1 y1 y2 M)))) else (D_X12_reckons_59 xs xl d v1 y1 y2 M))))) := by
  have hF := dp_den_grow (md := true) (xs := xs) (xl := xl) d
  unfold D_X12_reckons_7
  refine dp_s1 hF (i := .iload_n 1) rfl (fun _ => rfl) ?_
  refine dp_s2 hF (i := .ifCond .lt 330) (a := (338, [some (.ref 114), some (.int v1), none, none, none, none, none, none], [], M)) (b := (11, [some (.ref 114), some (.int v1), none, none, none, none, none, none], [], M)) rfl (fun _ => rfl) ?_ ?_
  · refine dp_s1 hF (i := .aload_n 0) rfl (fun _ => rfl) ?_
    refine dp_s1 hF (i := .getfield 239) rfl (fun _ => rfl) ?_
    refine dp_s1 hF (i := .iconst 0) rfl (fun _ => rfl) ?_
    refine dp_s3 hF (i := .laload) rfl (fun _ => rfl) ?_
    refine dp_s1 hF (i := .lconst 0) rfl (fun _ => rfl) ?_
    refine dp_s1 hF (i := .lcmp) rfl (fun _ => rfl) ?_
    refine dp_s2 hF (i := .ifCond .ge 7) (a := (353, [some (.ref 114), some (.int v1), none, none, none, none, none, none], [], M)) (b := (349, [some (.ref 114), some (.int v1), none, none, none, none, none, none], [], M)) rfl (fun _ => rfl) ?_ ?_
    · refine dp_s1 hF (i := .aload_n 0) rfl (fun _ => rfl) ?_
      refine dp_s1 hF (i := .getfield 239) rfl (fun _ => rfl) ?_
      refine dp_s1 hF (i := .iconst 0) rfl (fun _ => rfl) ?_
      refine dp_s3 hF (i := .laload) rfl (fun _ => rfl) ?_
      exact dp_s0 hF (i := .lreturn) rfl (fun _ => rfl)
    refine dp_s1 hF (i := .lconst 0) rfl (fun _ => rfl) ?_
    refine dp_s1 hF (i := .goto 9) rfl (fun _ => rfl) ?_
    exact dp_s0 hF (i := .lreturn) rfl (fun _ => rfl)
  refine dp_s1 hF (i := .bipush 60) rfl (fun _ => rfl) ?_
  refine dp_s1 hF (i := .iload_n 1) rfl (fun _ => rfl) ?_
  refine dp_s1 hF (i := .iadd) rfl (fun _ => rfl) ?_
  refine dp_s1w ((60 : Int32) + v1) (fun (y1 : Int32) => (16, [some (.ref 114), some (.int v1), some (.int y1), none, none, none, none, none], [], M)) hF (i := .istore_n 2) rfl (fun _ => rfl) (fun y1 => ?_)
  refine dp_s1 hF (i := .aload_n 0) rfl (fun _ => rfl) ?_
  refine dp_s1 hF (i := .getfield 194) rfl (fun _ => rfl) ?_
  refine dp_s1 hF (i := .iload_n 2) rfl (fun _ => rfl) ?_
  refine dp_s3 hF (i := .iaload) rfl (fun _ => rfl) ?_
  refine dp_s1w (dp_I M 174 (Int32.toNatClampNeg y1)) (fun (y2 : Int32) => (23, [some (.ref 114), some (.int v1), some (.int y1), some (.int y2), none, none, none, none], [], M)) hF (i := .istore_n 3) rfl (fun _ => rfl) (fun y2 => ?_)
  refine dp_s1 hF (i := .iload_n 3) rfl (fun _ => rfl) ?_
  refine dp_s1 hF (i := .iconst 2) rfl (fun _ => rfl) ?_
  refine dp_s2 hF (i := .if_icmp .ne 34) (a := (28, [some (.ref 114), some (.int v1), some (.int y1), some (.int y2), none, none, none, none], [], M)) (b := (59, [some (.ref 114), some (.int v1), some (.int y1), some (.int y2), none, none, none, none], [], M)) rfl (fun _ => rfl) ?_ ?_
  · refine dp_s1 hF (i := .aload_n 0) rfl (fun _ => rfl) ?_
    refine dp_s1 hF (i := .getfield 236) rfl (fun _ => rfl) ?_
    refine dp_s1 hF (i := .iload_n 3) rfl (fun _ => rfl) ?_
    refine dp_s1 hF (i := .iconst 2) rfl (fun _ => rfl) ?_
    refine dp_s2 hF (i := .if_icmp .ne 12) (a := (37, [some (.ref 114), some (.int v1), some (.int y1), some (.int y2), none, none, none, none], [.ref 188], M)) (b := (46, [some (.ref 114), some (.int v1), some (.int y1), some (.int y2), none, none, none, none], [.ref 188], M)) rfl (fun _ => rfl) ?_ ?_
    · refine dp_s1 hF (i := .aload_n 0) rfl (fun _ => rfl) ?_
      refine dp_s1 hF (i := .getfield 200) rfl (fun _ => rfl) ?_
      refine dp_s1 hF (i := .iload_n 2) rfl (fun _ => rfl) ?_
      refine dp_s3 hF (i := .iaload) rfl (fun _ => rfl) ?_
      refine dp_s1 hF (i := .goto 4) rfl (fun _ => rfl) ?_
      refine dp_s3 hF (i := .laload) rfl (fun _ => rfl) ?_
      refine dp_s1 hF (i := .ldc2_w 435) rfl (fun _ => rfl) ?_
      refine dp_s1 hF (i := .lcmp) rfl (fun _ => rfl) ?_
      refine dp_s2 hF (i := .ifCond .ne 7) (a := (55, [some (.ref 114), some (.int v1), some (.int y1), some (.int y2), none, none, none, none], [], M)) (b := (59, [some (.ref 114), some (.int v1), some (.int y1), some (.int y2), none, none, none, none], [], M)) rfl (fun _ => rfl) ?_ ?_
      · refine dp_s1 hF (i := .ldc2_w 435) rfl (fun _ => rfl) ?_
        exact dp_s0 hF (i := .lreturn) rfl (fun _ => rfl)
      exact rfl
    refine dp_s1 hF (i := .iconst 0) rfl (fun _ => rfl) ?_
    refine dp_s3 hF (i := .laload) rfl (fun _ => rfl) ?_
    refine dp_s1 hF (i := .ldc2_w 435) rfl (fun _ => rfl) ?_
    refine dp_s1 hF (i := .lcmp) rfl (fun _ => rfl) ?_
    refine dp_s2 hF (i := .ifCond .ne 7) (a := (55, [some (.ref 114), some (.int v1), some (.int y1), some (.int y2), none, none, none, none], [], M)) (b := (59, [some (.ref 114), some (.int v1), some (.int y1), some (.int y2), none, none, none, none], [], M)) rfl (fun _ => rfl) ?_ ?_
    · refine dp_s1 hF (i := .ldc2_w 435) rfl (fun _ => rfl) ?_
      exact dp_s0 hF (i := .lreturn) rfl (fun _ => rfl)
    exact rfl
  exact rfl
set_option maxRecDepth 20000 in
theorem D_X12_reckons_59_eq (xs : Nat → Int32) (xl d : Nat) (v1 : Int32) (v2 : Int32) (v3 : Int32) (M : dp_M) : D_X12_reckons_59 xs xl d v1 v2 v3 M = if v2 < 0 ∨ 120 ≤ Int32.toNatClampNeg v2 then none else (if (dp_I M 177 (Int32.toNatClampNeg v2)) = (-1 : Int32) then (D_X12_reckons_98 xs xl d v1 v2 v3 (0 : Int64) M) else (if v2 < 0 ∨ 120 ≤ Int32.toNatClampNeg v2 then none else (if (dp_I M 177 (Int32.toNatClampNeg v2)) = (-1 : Int32) then (if (0 : Int32) < 0 ∨ 60 ≤ Int32.toNatClampNeg (0 : Int32) then none else (D_X12_reckons_98 xs xl d v1 v2 v3 (dp_J M 189 (Int32.toNatClampNeg (0 : Int32))) M)) else (if v2 < 0 ∨ 120 ≤ Int32.toNatClampNeg v2 then none else (if (dp_I M 177 (Int32.toNatClampNeg v2)) < 0 ∨ 60 ≤ Int32.toNatClampNeg (dp_I M 177 (Int32.toNatClampNeg v2)) then none else (D_X12_reckons_98 xs xl d v1 v2 v3 (dp_J M 189 (Int32.toNatClampNeg (dp_I M 177 (Int32.toNatClampNeg v2)))) M)))))) := by
  have hF := dp_den_grow (md := true) (xs := xs) (xl := xl) d
  unfold D_X12_reckons_59
  refine dp_s1 hF (i := .aload_n 0) rfl (fun _ => rfl) ?_
  refine dp_s1 hF (i := .getfield 203) rfl (fun _ => rfl) ?_
  refine dp_s1 hF (i := .iload_n 2) rfl (fun _ => rfl) ?_
  refine dp_s3 hF (i := .iaload) rfl (fun _ => rfl) ?_
  refine dp_s1 hF (i := .iconst (-1)) rfl (fun _ => rfl) ?_
  refine dp_s2 hF (i := .if_icmp .ne 7) (a := (69, [some (.ref 114), some (.int v1), some (.int v2), some (.int v3), none, none, none, none], [], M)) (b := (73, [some (.ref 114), some (.int v1), some (.int v2), some (.int v3), none, none, none, none], [], M)) rfl (fun _ => rfl) ?_ ?_
  · refine dp_s1 hF (i := .lconst 0) rfl (fun _ => rfl) ?_
    refine dp_s1 hF (i := .goto 28) rfl (fun _ => rfl) ?_
    exact rfl
  refine dp_s1 hF (i := .aload_n 0) rfl (fun _ => rfl) ?_
  refine dp_s1 hF (i := .getfield 239) rfl (fun _ => rfl) ?_
  refine dp_s1 hF (i := .aload_n 0) rfl (fun _ => rfl) ?_
  refine dp_s1 hF (i := .getfield 203) rfl (fun _ => rfl) ?_
  refine dp_s1 hF (i := .iload_n 2) rfl (fun _ => rfl) ?_
  refine dp_s3 hF (i := .iaload) rfl (fun _ => rfl) ?_
  refine dp_s1 hF (i := .iconst (-1)) rfl (fun _ => rfl) ?_
  refine dp_s2 hF (i := .if_icmp .ne 7) (a := (87, [some (.ref 114), some (.int v1), some (.int v2), some (.int v3), none, none, none, none], [.ref 189], M)) (b := (91, [some (.ref 114), some (.int v1), some (.int v2), some (.int v3), none, none, none, none], [.ref 189], M)) rfl (fun _ => rfl) ?_ ?_
  · refine dp_s1 hF (i := .iconst 0) rfl (fun _ => rfl) ?_
    refine dp_s1 hF (i := .goto 9) rfl (fun _ => rfl) ?_
    refine dp_s3 hF (i := .laload) rfl (fun _ => rfl) ?_
    exact rfl
  refine dp_s1 hF (i := .aload_n 0) rfl (fun _ => rfl) ?_
  refine dp_s1 hF (i := .getfield 203) rfl (fun _ => rfl) ?_
  refine dp_s1 hF (i := .iload_n 2) rfl (fun _ => rfl) ?_
  refine dp_s3 hF (i := .iaload) rfl (fun _ => rfl) ?_
  refine dp_s3 hF (i := .laload) rfl (fun _ => rfl) ?_
  exact rfl
set_option maxRecDepth 20000 in
theorem D_X12_reckons_98_eq (xs : Nat → Int32) (xl d : Nat) (v1 : Int32) (v2 : Int32) (v3 : Int32) (vs0 : Int64) (M : dp_M) : D_X12_reckons_98 xs xl d v1 v2 v3 vs0 M = if v2 < 0 ∨ 120 ≤ Int32.toNatClampNeg v2 then none else (if (dp_I M 177 (Int32.toNatClampNeg v2)) = (-1 : Int32) then (D_X12_reckons_139 xs xl d v1 v2 v3 vs0 (0 : Int64) M) else (if v2 < 0 ∨ 120 ≤ Int32.toNatClampNeg v2 then none else (if (dp_I M 177 (Int32.toNatClampNeg v2)) = (-1 : Int32) then (if (0 : Int32) < 0 ∨ 60 ≤ Int32.toNatClampNeg (0 : Int32) then none else (D_X12_reckons_139 xs xl d v1 v2 v3 vs0 (dp_J M 189 (Int32.toNatClampNeg (0 : Int32))) M)) else (if v2 < 0 ∨ 120 ≤ Int32.toNatClampNeg v2 then none else (if (dp_I M 178 (Int32.toNatClampNeg v2)) < 0 ∨ 60 ≤ Int32.toNatClampNeg (dp_I M 178 (Int32.toNatClampNeg v2)) then none else (D_X12_reckons_139 xs xl d v1 v2 v3 vs0 (dp_J M 189 (Int32.toNatClampNeg (dp_I M 178 (Int32.toNatClampNeg v2)))) M)))))) := by
  have hF := dp_den_grow (md := true) (xs := xs) (xl := xl) d
  unfold D_X12_reckons_98
  refine dp_s1 hF (i := .lstore 4) rfl (fun _ => rfl) ?_
  refine dp_s1 hF (i := .aload_n 0) rfl (fun _ => rfl) ?_
  refine dp_s1 hF (i := .getfield 203) rfl (fun _ => rfl) ?_
  refine dp_s1 hF (i := .iload_n 2) rfl (fun _ => rfl) ?_
  refine dp_s3 hF (i := .iaload) rfl (fun _ => rfl) ?_
  refine dp_s1 hF (i := .iconst (-1)) rfl (fun _ => rfl) ?_
  refine dp_s2 hF (i := .if_icmp .ne 7) (a := (110, [some (.ref 114), some (.int v1), some (.int v2), some (.int v3), some (.long vs0), none, none, none], [], M)) (b := (114, [some (.ref 114), some (.int v1), some (.int v2), some (.int v3), some (.long vs0), none, none, none], [], M)) rfl (fun _ => rfl) ?_ ?_
  · refine dp_s1 hF (i := .lconst 0) rfl (fun _ => rfl) ?_
    refine dp_s1 hF (i := .goto 28) rfl (fun _ => rfl) ?_
    exact rfl
  refine dp_s1 hF (i := .aload_n 0) rfl (fun _ => rfl) ?_
  refine dp_s1 hF (i := .getfield 239) rfl (fun _ => rfl) ?_
  refine dp_s1 hF (i := .aload_n 0) rfl (fun _ => rfl) ?_
  refine dp_s1 hF (i := .getfield 203) rfl (fun _ => rfl) ?_
  refine dp_s1 hF (i := .iload_n 2) rfl (fun _ => rfl) ?_
  refine dp_s3 hF (i := .iaload) rfl (fun _ => rfl) ?_
  refine dp_s1 hF (i := .iconst (-1)) rfl (fun _ => rfl) ?_
  refine dp_s2 hF (i := .if_icmp .ne 7) (a := (128, [some (.ref 114), some (.int v1), some (.int v2), some (.int v3), some (.long vs0), none, none, none], [.ref 189], M)) (b := (132, [some (.ref 114), some (.int v1), some (.int v2), some (.int v3), some (.long vs0), none, none, none], [.ref 189], M)) rfl (fun _ => rfl) ?_ ?_
  · refine dp_s1 hF (i := .iconst 0) rfl (fun _ => rfl) ?_
    refine dp_s1 hF (i := .goto 9) rfl (fun _ => rfl) ?_
    refine dp_s3 hF (i := .laload) rfl (fun _ => rfl) ?_
    exact rfl
  refine dp_s1 hF (i := .aload_n 0) rfl (fun _ => rfl) ?_
  refine dp_s1 hF (i := .getfield 206) rfl (fun _ => rfl) ?_
  refine dp_s1 hF (i := .iload_n 2) rfl (fun _ => rfl) ?_
  refine dp_s3 hF (i := .iaload) rfl (fun _ => rfl) ?_
  refine dp_s3 hF (i := .laload) rfl (fun _ => rfl) ?_
  exact rfl
set_option maxRecDepth 20000 in
theorem D_X12_reckons_139_eq (xs : Nat → Int32) (xl d : Nat) (v1 : Int32) (v2 : Int32) (v3 : Int32) (v4 : Int64) (vs0 : Int64) (M : dp_M) : D_X12_reckons_139 xs xl d v1 v2 v3 v4 vs0 M = if v3 = (0 : Int32) then (if v1 < 0 ∨ 60 ≤ Int32.toNatClampNeg v1 then none else dp_w (dp_setJ M 189 (Int32.toNatClampNeg v1) (0 : Int64)) (fun M1 => dp_w (v1 + (-1 : Int32)) (fun y2 => D_X12_reckons_7_a xs xl d y2 v2 v3 v4 vs0 M1))) else if v3 = (1 : Int32) then (if v2 < 0 ∨ 120 ≤ Int32.toNatClampNeg v2 then none else (if v1 < 0 ∨ 60 ≤ Int32.toNatClampNeg v1 then none else dp_w (dp_setJ M 189 (Int32.toNatClampNeg v1) (((dp_J M 114 100) * (Int32.toInt64 (dp_I M 175 (Int32.toNatClampNeg v2)))) * (10 : Int64))) (fun M3 => dp_w (v1 + (-1 : Int32)) (fun y4 => D_X12_reckons_7_a xs xl d y4 v2 v3 v4 vs0 M3)))) else if v3 = (2 : Int32) then (if v2 < 0 ∨ 120 ≤ Int32.toNatClampNeg v2 then none else (if v2 < 0 ∨ 120 ≤ Int32.toNatClampNeg v2 then none else (if (dp_I M 176 (Int32.toNatClampNeg v2)) < 0 ∨ 8 ≤ Int32.toNatClampNeg (dp_I M 176 (Int32.toNatClampNeg v2)) then none else (if v1 < 0 ∨ 60 ≤ Int32.toNatClampNeg v1 then none else dp_w (dp_setJ M 189 (Int32.toNatClampNeg v1) ((Int32.toInt64 (dp_I M 175 (Int32.toNatClampNeg v2))) * (dp_J M 188 (Int32.toNatClampNeg (dp_I M 176 (Int32.toNatClampNeg v2)))))) (fun M5 => dp_w (v1 + (-1 : Int32)) (fun y6 => D_X12_reckons_7_a xs xl d y6 v2 v3 v4 vs0 M5)))))) else if v3 = (3 : Int32) then (if v1 < 0 ∨ 60 ≤ Int32.toNatClampNeg v1 then none else dp_w (dp_setJ M 189 (Int32.toNatClampNeg v1) (v4 + vs0)) (fun M7 => dp_w (v1 + (-1 : Int32)) (fun y8 => D_X12_reckons_7_a xs xl d y8 v2 v3 v4 vs0 M7))) else if v3 = (4 : Int32) then (if v1 < 0 ∨ 60 ≤ Int32.toNatClampNeg v1 then none else dp_w (dp_setJ M 189 (Int32.toNatClampNeg v1) (v4 - vs0)) (fun M9 => dp_w (v1 + (-1 : Int32)) (fun y10 => D_X12_reckons_7_a xs xl d y10 v2 v3 v4 vs0 M9))) else if v3 = (5 : Int32) then (if v3 = (5 : Int32) then (D_X12_reckons_308 xs xl d v1 v2 v3 v4 vs0 (1 : Int32) v1 M) else (D_X12_reckons_308 xs xl d v1 v2 v3 v4 vs0 (0 : Int32) v1 M)) else if v3 = (6 : Int32) then (if v3 = (5 : Int32) then (D_X12_reckons_308 xs xl d v1 v2 v3 v4 vs0 (1 : Int32) v1 M) else (D_X12_reckons_308 xs xl d v1 v2 v3 v4 vs0 (0 : Int32) v1 M)) else if v3 = (7 : Int32) then (dp_bl (dp_den true xs xl d 491 [.ref 114, .int v2] M) (fun r12 M11 => if v1 < 0 ∨ 60 ≤ Int32.toNatClampNeg v1 then none else dp_w (dp_setJ M11 189 (Int32.toNatClampNeg v1) r12) (fun M13 => dp_w (v1 + (-1 : Int32)) (fun y14 => D_X12_reckons_7_a xs xl d y14 v2 v3 v4 vs0 M13)))) else (if v3 = (5 : Int32) then (D_X12_reckons_308 xs xl d v1 v2 v3 v4 vs0 (1 : Int32) v1 M) else (D_X12_reckons_308 xs xl d v1 v2 v3 v4 vs0 (0 : Int32) v1 M)) := by
  have hF := dp_den_grow (md := true) (xs := xs) (xl := xl) d
  unfold D_X12_reckons_139
  refine dp_s1 hF (i := .lstore 6) rfl (fun _ => rfl) ?_
  refine dp_s1 hF (i := .iload_n 3) rfl (fun _ => rfl) ?_
  refine (dp_s (E := fun k => if v3 = (0 : Int32) then k (188, [some (.ref 114), some (.int v1), some (.int v2), some (.int v3), some (.long v4), none, some (.long vs0), none], [], M) else if v3 = (1 : Int32) then k (198, [some (.ref 114), some (.int v1), some (.int v2), some (.int v3), some (.long v4), none, some (.long vs0), none], [], M) else if v3 = (2 : Int32) then k (223, [some (.ref 114), some (.int v1), some (.int v2), some (.int v3), some (.long v4), none, some (.long vs0), none], [], M) else if v3 = (3 : Int32) then k (265, [some (.ref 114), some (.int v1), some (.int v2), some (.int v3), some (.long v4), none, some (.long vs0), none], [], M) else if v3 = (4 : Int32) then k (279, [some (.ref 114), some (.int v1), some (.int v2), some (.int v3), some (.long v4), none, some (.long vs0), none], [], M) else if v3 = (5 : Int32) then k (293, [some (.ref 114), some (.int v1), some (.int v2), some (.int v3), some (.long v4), none, some (.long vs0), none], [], M) else if v3 = (6 : Int32) then k (293, [some (.ref 114), some (.int v1), some (.int v2), some (.int v3), some (.long v4), none, some (.long vs0), none], [], M) else if v3 = (7 : Int32) then k (251, [some (.ref 114), some (.int v1), some (.int v2), some (.int v3), some (.long v4), none, some (.long vs0), none], [], M) else k (293, [some (.ref 114), some (.int v1), some (.int v2), some (.int v3), some (.long v4), none, some (.long vs0), none], [], M)) hF (i := .tableswitch 151 0 7 #[46, 56, 81, 123, 137, 151, 151, 109]) rfl (fun _ => rfl)).trans ?_
  refine dp_ifc ?_ ?_
  · refine dp_s1 hF (i := .aload_n 0) rfl (fun _ => rfl) ?_
    refine dp_s1 hF (i := .getfield 239) rfl (fun _ => rfl) ?_
    refine dp_s1 hF (i := .iload_n 1) rfl (fun _ => rfl) ?_
    refine dp_s1 hF (i := .lconst 0) rfl (fun _ => rfl) ?_
    refine dp_s3w (dp_setJ M 189 (Int32.toNatClampNeg v1) (0 : Int64)) (fun (M1 : dp_M) => (195, [some (.ref 114), some (.int v1), some (.int v2), some (.int v3), some (.long v4), none, some (.long vs0), none], [], M1)) hF (i := .lastore) rfl (fun _ => rfl) (fun M1 => ?_)
    refine dp_s1 hF (i := .goto 137) rfl (fun _ => rfl) ?_
    refine dp_s1w (v1 + (-1 : Int32)) (fun (y2 : Int32) => (335, [some (.ref 114), some (.int y2), some (.int v2), some (.int v3), some (.long v4), none, some (.long vs0), none], [], M1)) hF (i := .iinc 1 (-1)) rfl (fun _ => rfl) (fun y2 => ?_)
    refine dp_s1 hF (i := .goto (-328)) rfl (fun _ => rfl) ?_
    exact rfl
  refine dp_ifc ?_ ?_
  · refine dp_s1 hF (i := .aload_n 0) rfl (fun _ => rfl) ?_
    refine dp_s1 hF (i := .getfield 239) rfl (fun _ => rfl) ?_
    refine dp_s1 hF (i := .iload_n 1) rfl (fun _ => rfl) ?_
    refine dp_s1 hF (i := .aload_n 0) rfl (fun _ => rfl) ?_
    refine dp_s1 hF (i := .getfield 828) rfl (fun _ => rfl) ?_
    refine dp_s1 hF (i := .aload_n 0) rfl (fun _ => rfl) ?_
    refine dp_s1 hF (i := .getfield 197) rfl (fun _ => rfl) ?_
    refine dp_s1 hF (i := .iload_n 2) rfl (fun _ => rfl) ?_
    refine dp_s3 hF (i := .iaload) rfl (fun _ => rfl) ?_
    refine dp_s1 hF (i := .i2l) rfl (fun _ => rfl) ?_
    refine dp_s1 hF (i := .lmul) rfl (fun _ => rfl) ?_
    refine dp_s1 hF (i := .ldc2_w 647) rfl (fun _ => rfl) ?_
    refine dp_s1 hF (i := .lmul) rfl (fun _ => rfl) ?_
    refine dp_s3w (dp_setJ M 189 (Int32.toNatClampNeg v1) (((dp_J M 114 100) * (Int32.toInt64 (dp_I M 175 (Int32.toNatClampNeg v2)))) * (10 : Int64))) (fun (M3 : dp_M) => (220, [some (.ref 114), some (.int v1), some (.int v2), some (.int v3), some (.long v4), none, some (.long vs0), none], [], M3)) hF (i := .lastore) rfl (fun _ => rfl) (fun M3 => ?_)
    refine dp_s1 hF (i := .goto 112) rfl (fun _ => rfl) ?_
    refine dp_s1w (v1 + (-1 : Int32)) (fun (y4 : Int32) => (335, [some (.ref 114), some (.int y4), some (.int v2), some (.int v3), some (.long v4), none, some (.long vs0), none], [], M3)) hF (i := .iinc 1 (-1)) rfl (fun _ => rfl) (fun y4 => ?_)
    refine dp_s1 hF (i := .goto (-328)) rfl (fun _ => rfl) ?_
    exact rfl
  refine dp_ifc ?_ ?_
  · refine dp_s1 hF (i := .aload_n 0) rfl (fun _ => rfl) ?_
    refine dp_s1 hF (i := .getfield 239) rfl (fun _ => rfl) ?_
    refine dp_s1 hF (i := .iload_n 1) rfl (fun _ => rfl) ?_
    refine dp_s1 hF (i := .aload_n 0) rfl (fun _ => rfl) ?_
    refine dp_s1 hF (i := .getfield 197) rfl (fun _ => rfl) ?_
    refine dp_s1 hF (i := .iload_n 2) rfl (fun _ => rfl) ?_
    refine dp_s3 hF (i := .iaload) rfl (fun _ => rfl) ?_
    refine dp_s1 hF (i := .i2l) rfl (fun _ => rfl) ?_
    refine dp_s1 hF (i := .aload_n 0) rfl (fun _ => rfl) ?_
    refine dp_s1 hF (i := .getfield 236) rfl (fun _ => rfl) ?_
    refine dp_s1 hF (i := .aload_n 0) rfl (fun _ => rfl) ?_
    refine dp_s1 hF (i := .getfield 200) rfl (fun _ => rfl) ?_
    refine dp_s1 hF (i := .iload_n 2) rfl (fun _ => rfl) ?_
    refine dp_s3 hF (i := .iaload) rfl (fun _ => rfl) ?_
    refine dp_s3 hF (i := .laload) rfl (fun _ => rfl) ?_
    refine dp_s1 hF (i := .lmul) rfl (fun _ => rfl) ?_
    refine dp_s3w (dp_setJ M 189 (Int32.toNatClampNeg v1) ((Int32.toInt64 (dp_I M 175 (Int32.toNatClampNeg v2))) * (dp_J M 188 (Int32.toNatClampNeg (dp_I M 176 (Int32.toNatClampNeg v2)))))) (fun (M5 : dp_M) => (248, [some (.ref 114), some (.int v1), some (.int v2), some (.int v3), some (.long v4), none, some (.long vs0), none], [], M5)) hF (i := .lastore) rfl (fun _ => rfl) (fun M5 => ?_)
    refine dp_s1 hF (i := .goto 84) rfl (fun _ => rfl) ?_
    refine dp_s1w (v1 + (-1 : Int32)) (fun (y6 : Int32) => (335, [some (.ref 114), some (.int y6), some (.int v2), some (.int v3), some (.long v4), none, some (.long vs0), none], [], M5)) hF (i := .iinc 1 (-1)) rfl (fun _ => rfl) (fun y6 => ?_)
    refine dp_s1 hF (i := .goto (-328)) rfl (fun _ => rfl) ?_
    exact rfl
  refine dp_ifc ?_ ?_
  · refine dp_s1 hF (i := .aload_n 0) rfl (fun _ => rfl) ?_
    refine dp_s1 hF (i := .getfield 239) rfl (fun _ => rfl) ?_
    refine dp_s1 hF (i := .iload_n 1) rfl (fun _ => rfl) ?_
    refine dp_s1 hF (i := .lload 4) rfl (fun _ => rfl) ?_
    refine dp_s1 hF (i := .lload 6) rfl (fun _ => rfl) ?_
    refine dp_s1 hF (i := .ladd) rfl (fun _ => rfl) ?_
    refine dp_s3w (dp_setJ M 189 (Int32.toNatClampNeg v1) (v4 + vs0)) (fun (M7 : dp_M) => (276, [some (.ref 114), some (.int v1), some (.int v2), some (.int v3), some (.long v4), none, some (.long vs0), none], [], M7)) hF (i := .lastore) rfl (fun _ => rfl) (fun M7 => ?_)
    refine dp_s1 hF (i := .goto 56) rfl (fun _ => rfl) ?_
    refine dp_s1w (v1 + (-1 : Int32)) (fun (y8 : Int32) => (335, [some (.ref 114), some (.int y8), some (.int v2), some (.int v3), some (.long v4), none, some (.long vs0), none], [], M7)) hF (i := .iinc 1 (-1)) rfl (fun _ => rfl) (fun y8 => ?_)
    refine dp_s1 hF (i := .goto (-328)) rfl (fun _ => rfl) ?_
    exact rfl
  refine dp_ifc ?_ ?_
  · refine dp_s1 hF (i := .aload_n 0) rfl (fun _ => rfl) ?_
    refine dp_s1 hF (i := .getfield 239) rfl (fun _ => rfl) ?_
    refine dp_s1 hF (i := .iload_n 1) rfl (fun _ => rfl) ?_
    refine dp_s1 hF (i := .lload 4) rfl (fun _ => rfl) ?_
    refine dp_s1 hF (i := .lload 6) rfl (fun _ => rfl) ?_
    refine dp_s1 hF (i := .lsub) rfl (fun _ => rfl) ?_
    refine dp_s3w (dp_setJ M 189 (Int32.toNatClampNeg v1) (v4 - vs0)) (fun (M9 : dp_M) => (290, [some (.ref 114), some (.int v1), some (.int v2), some (.int v3), some (.long v4), none, some (.long vs0), none], [], M9)) hF (i := .lastore) rfl (fun _ => rfl) (fun M9 => ?_)
    refine dp_s1 hF (i := .goto 42) rfl (fun _ => rfl) ?_
    refine dp_s1w (v1 + (-1 : Int32)) (fun (y10 : Int32) => (335, [some (.ref 114), some (.int y10), some (.int v2), some (.int v3), some (.long v4), none, some (.long vs0), none], [], M9)) hF (i := .iinc 1 (-1)) rfl (fun _ => rfl) (fun y10 => ?_)
    refine dp_s1 hF (i := .goto (-328)) rfl (fun _ => rfl) ?_
    exact rfl
  refine dp_ifc ?_ ?_
  · refine dp_s1 hF (i := .aload_n 0) rfl (fun _ => rfl) ?_
    refine dp_s1 hF (i := .getfield 239) rfl (fun _ => rfl) ?_
    refine dp_s1 hF (i := .iload_n 1) rfl (fun _ => rfl) ?_
    refine dp_s1 hF (i := .iload_n 3) rfl (fun _ => rfl) ?_
    refine dp_s1 hF (i := .iconst 5) rfl (fun _ => rfl) ?_
    refine dp_s2 hF (i := .if_icmp .ne 7) (a := (303, [some (.ref 114), some (.int v1), some (.int v2), some (.int v3), some (.long v4), none, some (.long vs0), none], [.int v1, .ref 189], M)) (b := (307, [some (.ref 114), some (.int v1), some (.int v2), some (.int v3), some (.long v4), none, some (.long vs0), none], [.int v1, .ref 189], M)) rfl (fun _ => rfl) ?_ ?_
    · refine dp_s1 hF (i := .iconst 1) rfl (fun _ => rfl) ?_
      refine dp_s1 hF (i := .goto 4) rfl (fun _ => rfl) ?_
      exact rfl
    refine dp_s1 hF (i := .iconst 0) rfl (fun _ => rfl) ?_
    exact rfl
  refine dp_ifc ?_ ?_
  · refine dp_s1 hF (i := .aload_n 0) rfl (fun _ => rfl) ?_
    refine dp_s1 hF (i := .getfield 239) rfl (fun _ => rfl) ?_
    refine dp_s1 hF (i := .iload_n 1) rfl (fun _ => rfl) ?_
    refine dp_s1 hF (i := .iload_n 3) rfl (fun _ => rfl) ?_
    refine dp_s1 hF (i := .iconst 5) rfl (fun _ => rfl) ?_
    refine dp_s2 hF (i := .if_icmp .ne 7) (a := (303, [some (.ref 114), some (.int v1), some (.int v2), some (.int v3), some (.long v4), none, some (.long vs0), none], [.int v1, .ref 189], M)) (b := (307, [some (.ref 114), some (.int v1), some (.int v2), some (.int v3), some (.long v4), none, some (.long vs0), none], [.int v1, .ref 189], M)) rfl (fun _ => rfl) ?_ ?_
    · refine dp_s1 hF (i := .iconst 1) rfl (fun _ => rfl) ?_
      refine dp_s1 hF (i := .goto 4) rfl (fun _ => rfl) ?_
      exact rfl
    refine dp_s1 hF (i := .iconst 0) rfl (fun _ => rfl) ?_
    exact rfl
  refine dp_ifc ?_ ?_
  · refine dp_s1 hF (i := .aload_n 0) rfl (fun _ => rfl) ?_
    refine dp_s1 hF (i := .getfield 239) rfl (fun _ => rfl) ?_
    refine dp_s1 hF (i := .iload_n 1) rfl (fun _ => rfl) ?_
    refine dp_s1 hF (i := .aload_n 0) rfl (fun _ => rfl) ?_
    refine dp_s1 hF (i := .iload_n 2) rfl (fun _ => rfl) ?_
    refine dp_sl9 (mj := dp_m_X12_stepOf) (i := .invokevirtual 836) rfl rfl rfl rfl (fun _ => rfl) (fun r12 M11 => ?_)
    refine dp_s3w (dp_setJ M11 189 (Int32.toNatClampNeg v1) r12) (fun (M13 : dp_M) => (262, [some (.ref 114), some (.int v1), some (.int v2), some (.int v3), some (.long v4), none, some (.long vs0), none], [], M13)) hF (i := .lastore) rfl (fun _ => rfl) (fun M13 => ?_)
    refine dp_s1 hF (i := .goto 70) rfl (fun _ => rfl) ?_
    refine dp_s1w (v1 + (-1 : Int32)) (fun (y14 : Int32) => (335, [some (.ref 114), some (.int y14), some (.int v2), some (.int v3), some (.long v4), none, some (.long vs0), none], [], M13)) hF (i := .iinc 1 (-1)) rfl (fun _ => rfl) (fun y14 => ?_)
    refine dp_s1 hF (i := .goto (-328)) rfl (fun _ => rfl) ?_
    exact rfl
  refine dp_s1 hF (i := .aload_n 0) rfl (fun _ => rfl) ?_
  refine dp_s1 hF (i := .getfield 239) rfl (fun _ => rfl) ?_
  refine dp_s1 hF (i := .iload_n 1) rfl (fun _ => rfl) ?_
  refine dp_s1 hF (i := .iload_n 3) rfl (fun _ => rfl) ?_
  refine dp_s1 hF (i := .iconst 5) rfl (fun _ => rfl) ?_
  refine dp_s2 hF (i := .if_icmp .ne 7) (a := (303, [some (.ref 114), some (.int v1), some (.int v2), some (.int v3), some (.long v4), none, some (.long vs0), none], [.int v1, .ref 189], M)) (b := (307, [some (.ref 114), some (.int v1), some (.int v2), some (.int v3), some (.long v4), none, some (.long vs0), none], [.int v1, .ref 189], M)) rfl (fun _ => rfl) ?_ ?_
  · refine dp_s1 hF (i := .iconst 1) rfl (fun _ => rfl) ?_
    refine dp_s1 hF (i := .goto 4) rfl (fun _ => rfl) ?_
    exact rfl
  refine dp_s1 hF (i := .iconst 0) rfl (fun _ => rfl) ?_
  exact rfl
set_option maxRecDepth 20000 in
theorem D_X12_reckons_308_eq (xs : Nat → Int32) (xl d : Nat) (v1 : Int32) (v2 : Int32) (v3 : Int32) (v4 : Int64) (v6 : Int64) (vs0 : Int32) (vs1 : Int32) (M : dp_M) : D_X12_reckons_308 xs xl d v1 v2 v3 v4 v6 vs0 vs1 M = if 0 ≤ (lg_cmp v4 v6) then (if vs0 = (0 : Int32) then (if vs1 < 0 ∨ 60 ≤ Int32.toNatClampNeg vs1 then none else dp_w (dp_setJ M 189 (Int32.toNatClampNeg vs1) v4) (fun M1 => dp_w (v1 + (-1 : Int32)) (fun y2 => D_X12_reckons_7_a xs xl d y2 v2 v3 v4 v6 M1))) else (if vs1 < 0 ∨ 60 ≤ Int32.toNatClampNeg vs1 then none else dp_w (dp_setJ M 189 (Int32.toNatClampNeg vs1) v6) (fun M3 => dp_w (v1 + (-1 : Int32)) (fun y4 => D_X12_reckons_7_a xs xl d y4 v2 v3 v4 v6 M3)))) else (if vs0 = (1 : Int32) then (if vs1 < 0 ∨ 60 ≤ Int32.toNatClampNeg vs1 then none else dp_w (dp_setJ M 189 (Int32.toNatClampNeg vs1) v4) (fun M5 => dp_w (v1 + (-1 : Int32)) (fun y6 => D_X12_reckons_7_a xs xl d y6 v2 v3 v4 v6 M5))) else (if vs1 < 0 ∨ 60 ≤ Int32.toNatClampNeg vs1 then none else dp_w (dp_setJ M 189 (Int32.toNatClampNeg vs1) v6) (fun M7 => dp_w (v1 + (-1 : Int32)) (fun y8 => D_X12_reckons_7_a xs xl d y8 v2 v3 v4 v6 M7)))) := by
  have hF := dp_den_grow (md := true) (xs := xs) (xl := xl) d
  unfold D_X12_reckons_308
  refine dp_s1 hF (i := .lload 4) rfl (fun _ => rfl) ?_
  refine dp_s1 hF (i := .lload 6) rfl (fun _ => rfl) ?_
  refine dp_s1 hF (i := .lcmp) rfl (fun _ => rfl) ?_
  refine dp_s2 hF (i := .ifCond .ge 7) (a := (320, [some (.ref 114), some (.int v1), some (.int v2), some (.int v3), some (.long v4), none, some (.long v6), none], [.int vs0, .int vs1, .ref 189], M)) (b := (316, [some (.ref 114), some (.int v1), some (.int v2), some (.int v3), some (.long v4), none, some (.long v6), none], [.int vs0, .int vs1, .ref 189], M)) rfl (fun _ => rfl) ?_ ?_
  · refine dp_s1 hF (i := .iconst 0) rfl (fun _ => rfl) ?_
    refine dp_s2 hF (i := .if_icmp .ne 8) (a := (324, [some (.ref 114), some (.int v1), some (.int v2), some (.int v3), some (.long v4), none, some (.long v6), none], [.int vs1, .ref 189], M)) (b := (329, [some (.ref 114), some (.int v1), some (.int v2), some (.int v3), some (.long v4), none, some (.long v6), none], [.int vs1, .ref 189], M)) rfl (fun _ => rfl) ?_ ?_
    · refine dp_s1 hF (i := .lload 4) rfl (fun _ => rfl) ?_
      refine dp_s1 hF (i := .goto 5) rfl (fun _ => rfl) ?_
      refine dp_s3w (dp_setJ M 189 (Int32.toNatClampNeg vs1) v4) (fun (M1 : dp_M) => (332, [some (.ref 114), some (.int v1), some (.int v2), some (.int v3), some (.long v4), none, some (.long v6), none], [], M1)) hF (i := .lastore) rfl (fun _ => rfl) (fun M1 => ?_)
      refine dp_s1w (v1 + (-1 : Int32)) (fun (y2 : Int32) => (335, [some (.ref 114), some (.int y2), some (.int v2), some (.int v3), some (.long v4), none, some (.long v6), none], [], M1)) hF (i := .iinc 1 (-1)) rfl (fun _ => rfl) (fun y2 => ?_)
      refine dp_s1 hF (i := .goto (-328)) rfl (fun _ => rfl) ?_
      exact rfl
    refine dp_s1 hF (i := .lload 6) rfl (fun _ => rfl) ?_
    refine dp_s3w (dp_setJ M 189 (Int32.toNatClampNeg vs1) v6) (fun (M3 : dp_M) => (332, [some (.ref 114), some (.int v1), some (.int v2), some (.int v3), some (.long v4), none, some (.long v6), none], [], M3)) hF (i := .lastore) rfl (fun _ => rfl) (fun M3 => ?_)
    refine dp_s1w (v1 + (-1 : Int32)) (fun (y4 : Int32) => (335, [some (.ref 114), some (.int y4), some (.int v2), some (.int v3), some (.long v4), none, some (.long v6), none], [], M3)) hF (i := .iinc 1 (-1)) rfl (fun _ => rfl) (fun y4 => ?_)
    refine dp_s1 hF (i := .goto (-328)) rfl (fun _ => rfl) ?_
    exact rfl
  refine dp_s1 hF (i := .iconst 1) rfl (fun _ => rfl) ?_
  refine dp_s1 hF (i := .goto 4) rfl (fun _ => rfl) ?_
  refine dp_s2 hF (i := .if_icmp .ne 8) (a := (324, [some (.ref 114), some (.int v1), some (.int v2), some (.int v3), some (.long v4), none, some (.long v6), none], [.int vs1, .ref 189], M)) (b := (329, [some (.ref 114), some (.int v1), some (.int v2), some (.int v3), some (.long v4), none, some (.long v6), none], [.int vs1, .ref 189], M)) rfl (fun _ => rfl) ?_ ?_
  · refine dp_s1 hF (i := .lload 4) rfl (fun _ => rfl) ?_
    refine dp_s1 hF (i := .goto 5) rfl (fun _ => rfl) ?_
    refine dp_s3w (dp_setJ M 189 (Int32.toNatClampNeg vs1) v4) (fun (M5 : dp_M) => (332, [some (.ref 114), some (.int v1), some (.int v2), some (.int v3), some (.long v4), none, some (.long v6), none], [], M5)) hF (i := .lastore) rfl (fun _ => rfl) (fun M5 => ?_)
    refine dp_s1w (v1 + (-1 : Int32)) (fun (y6 : Int32) => (335, [some (.ref 114), some (.int y6), some (.int v2), some (.int v3), some (.long v4), none, some (.long v6), none], [], M5)) hF (i := .iinc 1 (-1)) rfl (fun _ => rfl) (fun y6 => ?_)
    refine dp_s1 hF (i := .goto (-328)) rfl (fun _ => rfl) ?_
    exact rfl
  refine dp_s1 hF (i := .lload 6) rfl (fun _ => rfl) ?_
  refine dp_s3w (dp_setJ M 189 (Int32.toNatClampNeg vs1) v6) (fun (M7 : dp_M) => (332, [some (.ref 114), some (.int v1), some (.int v2), some (.int v3), some (.long v4), none, some (.long v6), none], [], M7)) hF (i := .lastore) rfl (fun _ => rfl) (fun M7 => ?_)
  refine dp_s1w (v1 + (-1 : Int32)) (fun (y8 : Int32) => (335, [some (.ref 114), some (.int y8), some (.int v2), some (.int v3), some (.long v4), none, some (.long v6), none], [], M7)) hF (i := .iinc 1 (-1)) rfl (fun _ => rfl) (fun y8 => ?_)
  refine dp_s1 hF (i := .goto (-328)) rfl (fun _ => rfl) ?_
  exact rfl
set_option maxRecDepth 20000 in
theorem D_X12_reckons_7_a_eq (xs : Nat → Int32) (xl d : Nat) (v1 : Int32) (v2 : Int32) (v3 : Int32) (v4 : Int64) (v6 : Int64) (M : dp_M) : D_X12_reckons_7_a xs xl d v1 v2 v3 v4 v6 M = if v1 < 0 then (if (0 : Int32) < 0 ∨ 60 ≤ Int32.toNatClampNeg (0 : Int32) then none else (if 0 ≤ (lg_cmp (dp_J M 189 (Int32.toNatClampNeg (0 : Int32))) (0 : Int64)) then (if (0 : Int32) < 0 ∨ 60 ≤ Int32.toNatClampNeg (0 : Int32) then none else (some (.inl (some (.long (dp_J M 189 (Int32.toNatClampNeg (0 : Int32))))), M))) else (some (.inl (some (.long (0 : Int64))), M)))) else (dp_w ((60 : Int32) + v1) (fun y1 => if y1 < 0 ∨ 120 ≤ Int32.toNatClampNeg y1 then none else (dp_w (dp_I M 174 (Int32.toNatClampNeg y1)) (fun y2 => if y2 = (2 : Int32) then (if y2 = (2 : Int32) then (if y1 < 0 ∨ 120 ≤ Int32.toNatClampNeg y1 then none else (if (dp_I M 176 (Int32.toNatClampNeg y1)) < 0 ∨ 8 ≤ Int32.toNatClampNeg (dp_I M 176 (Int32.toNatClampNeg y1)) then none else (if (lg_cmp (dp_J M 188 (Int32.toNatClampNeg (dp_I M 176 (Int32.toNatClampNeg y1)))) (-1 : Int64)) = 0 then (some (.inl (some (.long (-1 : Int64))), M)) else (D_X12_reckons_59_a xs xl d v1 y1 y2 v4 v6 M)))) else (if (0 : Int32) < 0 ∨ 8 ≤ Int32.toNatClampNeg (0 : Int32) then none else (if (lg_cmp (dp_J M 188 (Int32.toNatClampNeg (0 : Int32))) (-1 : Int64)) = 0 then (some (.inl (some (.long (-1 : Int64))), M)) else (D_X12_reckons_59_a xs xl d v1 y1 y2 v4 v6 M)))) else (D_X12_reckons_59_a xs xl d v1 y1 y2 v4 v6 M))))) := by
  have hF := dp_den_grow (md := true) (xs := xs) (xl := xl) d
  unfold D_X12_reckons_7_a
  refine dp_s1 hF (i := .iload_n 1) rfl (fun _ => rfl) ?_
  refine dp_s2 hF (i := .ifCond .lt 330) (a := (338, [some (.ref 114), some (.int v1), some (.int v2), some (.int v3), some (.long v4), none, some (.long v6), none], [], M)) (b := (11, [some (.ref 114), some (.int v1), some (.int v2), some (.int v3), some (.long v4), none, some (.long v6), none], [], M)) rfl (fun _ => rfl) ?_ ?_
  · refine dp_s1 hF (i := .aload_n 0) rfl (fun _ => rfl) ?_
    refine dp_s1 hF (i := .getfield 239) rfl (fun _ => rfl) ?_
    refine dp_s1 hF (i := .iconst 0) rfl (fun _ => rfl) ?_
    refine dp_s3 hF (i := .laload) rfl (fun _ => rfl) ?_
    refine dp_s1 hF (i := .lconst 0) rfl (fun _ => rfl) ?_
    refine dp_s1 hF (i := .lcmp) rfl (fun _ => rfl) ?_
    refine dp_s2 hF (i := .ifCond .ge 7) (a := (353, [some (.ref 114), some (.int v1), some (.int v2), some (.int v3), some (.long v4), none, some (.long v6), none], [], M)) (b := (349, [some (.ref 114), some (.int v1), some (.int v2), some (.int v3), some (.long v4), none, some (.long v6), none], [], M)) rfl (fun _ => rfl) ?_ ?_
    · refine dp_s1 hF (i := .aload_n 0) rfl (fun _ => rfl) ?_
      refine dp_s1 hF (i := .getfield 239) rfl (fun _ => rfl) ?_
      refine dp_s1 hF (i := .iconst 0) rfl (fun _ => rfl) ?_
      refine dp_s3 hF (i := .laload) rfl (fun _ => rfl) ?_
      exact dp_s0 hF (i := .lreturn) rfl (fun _ => rfl)
    refine dp_s1 hF (i := .lconst 0) rfl (fun _ => rfl) ?_
    refine dp_s1 hF (i := .goto 9) rfl (fun _ => rfl) ?_
    exact dp_s0 hF (i := .lreturn) rfl (fun _ => rfl)
  refine dp_s1 hF (i := .bipush 60) rfl (fun _ => rfl) ?_
  refine dp_s1 hF (i := .iload_n 1) rfl (fun _ => rfl) ?_
  refine dp_s1 hF (i := .iadd) rfl (fun _ => rfl) ?_
  refine dp_s1w ((60 : Int32) + v1) (fun (y1 : Int32) => (16, [some (.ref 114), some (.int v1), some (.int y1), some (.int v3), some (.long v4), none, some (.long v6), none], [], M)) hF (i := .istore_n 2) rfl (fun _ => rfl) (fun y1 => ?_)
  refine dp_s1 hF (i := .aload_n 0) rfl (fun _ => rfl) ?_
  refine dp_s1 hF (i := .getfield 194) rfl (fun _ => rfl) ?_
  refine dp_s1 hF (i := .iload_n 2) rfl (fun _ => rfl) ?_
  refine dp_s3 hF (i := .iaload) rfl (fun _ => rfl) ?_
  refine dp_s1w (dp_I M 174 (Int32.toNatClampNeg y1)) (fun (y2 : Int32) => (23, [some (.ref 114), some (.int v1), some (.int y1), some (.int y2), some (.long v4), none, some (.long v6), none], [], M)) hF (i := .istore_n 3) rfl (fun _ => rfl) (fun y2 => ?_)
  refine dp_s1 hF (i := .iload_n 3) rfl (fun _ => rfl) ?_
  refine dp_s1 hF (i := .iconst 2) rfl (fun _ => rfl) ?_
  refine dp_s2 hF (i := .if_icmp .ne 34) (a := (28, [some (.ref 114), some (.int v1), some (.int y1), some (.int y2), some (.long v4), none, some (.long v6), none], [], M)) (b := (59, [some (.ref 114), some (.int v1), some (.int y1), some (.int y2), some (.long v4), none, some (.long v6), none], [], M)) rfl (fun _ => rfl) ?_ ?_
  · refine dp_s1 hF (i := .aload_n 0) rfl (fun _ => rfl) ?_
    refine dp_s1 hF (i := .getfield 236) rfl (fun _ => rfl) ?_
    refine dp_s1 hF (i := .iload_n 3) rfl (fun _ => rfl) ?_
    refine dp_s1 hF (i := .iconst 2) rfl (fun _ => rfl) ?_
    refine dp_s2 hF (i := .if_icmp .ne 12) (a := (37, [some (.ref 114), some (.int v1), some (.int y1), some (.int y2), some (.long v4), none, some (.long v6), none], [.ref 188], M)) (b := (46, [some (.ref 114), some (.int v1), some (.int y1), some (.int y2), some (.long v4), none, some (.long v6), none], [.ref 188], M)) rfl (fun _ => rfl) ?_ ?_
    · refine dp_s1 hF (i := .aload_n 0) rfl (fun _ => rfl) ?_
      refine dp_s1 hF (i := .getfield 200) rfl (fun _ => rfl) ?_
      refine dp_s1 hF (i := .iload_n 2) rfl (fun _ => rfl) ?_
      refine dp_s3 hF (i := .iaload) rfl (fun _ => rfl) ?_
      refine dp_s1 hF (i := .goto 4) rfl (fun _ => rfl) ?_
      refine dp_s3 hF (i := .laload) rfl (fun _ => rfl) ?_
      refine dp_s1 hF (i := .ldc2_w 435) rfl (fun _ => rfl) ?_
      refine dp_s1 hF (i := .lcmp) rfl (fun _ => rfl) ?_
      refine dp_s2 hF (i := .ifCond .ne 7) (a := (55, [some (.ref 114), some (.int v1), some (.int y1), some (.int y2), some (.long v4), none, some (.long v6), none], [], M)) (b := (59, [some (.ref 114), some (.int v1), some (.int y1), some (.int y2), some (.long v4), none, some (.long v6), none], [], M)) rfl (fun _ => rfl) ?_ ?_
      · refine dp_s1 hF (i := .ldc2_w 435) rfl (fun _ => rfl) ?_
        exact dp_s0 hF (i := .lreturn) rfl (fun _ => rfl)
      exact rfl
    refine dp_s1 hF (i := .iconst 0) rfl (fun _ => rfl) ?_
    refine dp_s3 hF (i := .laload) rfl (fun _ => rfl) ?_
    refine dp_s1 hF (i := .ldc2_w 435) rfl (fun _ => rfl) ?_
    refine dp_s1 hF (i := .lcmp) rfl (fun _ => rfl) ?_
    refine dp_s2 hF (i := .ifCond .ne 7) (a := (55, [some (.ref 114), some (.int v1), some (.int y1), some (.int y2), some (.long v4), none, some (.long v6), none], [], M)) (b := (59, [some (.ref 114), some (.int v1), some (.int y1), some (.int y2), some (.long v4), none, some (.long v6), none], [], M)) rfl (fun _ => rfl) ?_ ?_
    · refine dp_s1 hF (i := .ldc2_w 435) rfl (fun _ => rfl) ?_
      exact dp_s0 hF (i := .lreturn) rfl (fun _ => rfl)
    exact rfl
  exact rfl
set_option maxRecDepth 20000 in
theorem D_X12_reckons_59_a_eq (xs : Nat → Int32) (xl d : Nat) (v1 : Int32) (v2 : Int32) (v3 : Int32) (v4 : Int64) (v6 : Int64) (M : dp_M) : D_X12_reckons_59_a xs xl d v1 v2 v3 v4 v6 M = if v2 < 0 ∨ 120 ≤ Int32.toNatClampNeg v2 then none else (if (dp_I M 177 (Int32.toNatClampNeg v2)) = (-1 : Int32) then (D_X12_reckons_98_a xs xl d v1 v2 v3 v4 v6 (0 : Int64) M) else (if v2 < 0 ∨ 120 ≤ Int32.toNatClampNeg v2 then none else (if (dp_I M 177 (Int32.toNatClampNeg v2)) = (-1 : Int32) then (if (0 : Int32) < 0 ∨ 60 ≤ Int32.toNatClampNeg (0 : Int32) then none else (D_X12_reckons_98_a xs xl d v1 v2 v3 v4 v6 (dp_J M 189 (Int32.toNatClampNeg (0 : Int32))) M)) else (if v2 < 0 ∨ 120 ≤ Int32.toNatClampNeg v2 then none else (if (dp_I M 177 (Int32.toNatClampNeg v2)) < 0 ∨ 60 ≤ Int32.toNatClampNeg (dp_I M 177 (Int32.toNatClampNeg v2)) then none else (D_X12_reckons_98_a xs xl d v1 v2 v3 v4 v6 (dp_J M 189 (Int32.toNatClampNeg (dp_I M 177 (Int32.toNatClampNeg v2)))) M)))))) := by
  have hF := dp_den_grow (md := true) (xs := xs) (xl := xl) d
  unfold D_X12_reckons_59_a
  refine dp_s1 hF (i := .aload_n 0) rfl (fun _ => rfl) ?_
  refine dp_s1 hF (i := .getfield 203) rfl (fun _ => rfl) ?_
  refine dp_s1 hF (i := .iload_n 2) rfl (fun _ => rfl) ?_
  refine dp_s3 hF (i := .iaload) rfl (fun _ => rfl) ?_
  refine dp_s1 hF (i := .iconst (-1)) rfl (fun _ => rfl) ?_
  refine dp_s2 hF (i := .if_icmp .ne 7) (a := (69, [some (.ref 114), some (.int v1), some (.int v2), some (.int v3), some (.long v4), none, some (.long v6), none], [], M)) (b := (73, [some (.ref 114), some (.int v1), some (.int v2), some (.int v3), some (.long v4), none, some (.long v6), none], [], M)) rfl (fun _ => rfl) ?_ ?_
  · refine dp_s1 hF (i := .lconst 0) rfl (fun _ => rfl) ?_
    refine dp_s1 hF (i := .goto 28) rfl (fun _ => rfl) ?_
    exact rfl
  refine dp_s1 hF (i := .aload_n 0) rfl (fun _ => rfl) ?_
  refine dp_s1 hF (i := .getfield 239) rfl (fun _ => rfl) ?_
  refine dp_s1 hF (i := .aload_n 0) rfl (fun _ => rfl) ?_
  refine dp_s1 hF (i := .getfield 203) rfl (fun _ => rfl) ?_
  refine dp_s1 hF (i := .iload_n 2) rfl (fun _ => rfl) ?_
  refine dp_s3 hF (i := .iaload) rfl (fun _ => rfl) ?_
  refine dp_s1 hF (i := .iconst (-1)) rfl (fun _ => rfl) ?_
  refine dp_s2 hF (i := .if_icmp .ne 7) (a := (87, [some (.ref 114), some (.int v1), some (.int v2), some (.int v3), some (.long v4), none, some (.long v6), none], [.ref 189], M)) (b := (91, [some (.ref 114), some (.int v1), some (.int v2), some (.int v3), some (.long v4), none, some (.long v6), none], [.ref 189], M)) rfl (fun _ => rfl) ?_ ?_
  · refine dp_s1 hF (i := .iconst 0) rfl (fun _ => rfl) ?_
    refine dp_s1 hF (i := .goto 9) rfl (fun _ => rfl) ?_
    refine dp_s3 hF (i := .laload) rfl (fun _ => rfl) ?_
    exact rfl
  refine dp_s1 hF (i := .aload_n 0) rfl (fun _ => rfl) ?_
  refine dp_s1 hF (i := .getfield 203) rfl (fun _ => rfl) ?_
  refine dp_s1 hF (i := .iload_n 2) rfl (fun _ => rfl) ?_
  refine dp_s3 hF (i := .iaload) rfl (fun _ => rfl) ?_
  refine dp_s3 hF (i := .laload) rfl (fun _ => rfl) ?_
  exact rfl
set_option maxRecDepth 20000 in
theorem D_X12_reckons_98_a_eq (xs : Nat → Int32) (xl d : Nat) (v1 : Int32) (v2 : Int32) (v3 : Int32) (v4 : Int64) (v6 : Int64) (vs0 : Int64) (M : dp_M) : D_X12_reckons_98_a xs xl d v1 v2 v3 v4 v6 vs0 M = if v2 < 0 ∨ 120 ≤ Int32.toNatClampNeg v2 then none else (if (dp_I M 177 (Int32.toNatClampNeg v2)) = (-1 : Int32) then (D_X12_reckons_139_a xs xl d v1 v2 v3 vs0 v6 (0 : Int64) M) else (if v2 < 0 ∨ 120 ≤ Int32.toNatClampNeg v2 then none else (if (dp_I M 177 (Int32.toNatClampNeg v2)) = (-1 : Int32) then (if (0 : Int32) < 0 ∨ 60 ≤ Int32.toNatClampNeg (0 : Int32) then none else (D_X12_reckons_139_a xs xl d v1 v2 v3 vs0 v6 (dp_J M 189 (Int32.toNatClampNeg (0 : Int32))) M)) else (if v2 < 0 ∨ 120 ≤ Int32.toNatClampNeg v2 then none else (if (dp_I M 178 (Int32.toNatClampNeg v2)) < 0 ∨ 60 ≤ Int32.toNatClampNeg (dp_I M 178 (Int32.toNatClampNeg v2)) then none else (D_X12_reckons_139_a xs xl d v1 v2 v3 vs0 v6 (dp_J M 189 (Int32.toNatClampNeg (dp_I M 178 (Int32.toNatClampNeg v2)))) M)))))) := by
  have hF := dp_den_grow (md := true) (xs := xs) (xl := xl) d
  unfold D_X12_reckons_98_a
  refine dp_s1 hF (i := .lstore 4) rfl (fun _ => rfl) ?_
  refine dp_s1 hF (i := .aload_n 0) rfl (fun _ => rfl) ?_
  refine dp_s1 hF (i := .getfield 203) rfl (fun _ => rfl) ?_
  refine dp_s1 hF (i := .iload_n 2) rfl (fun _ => rfl) ?_
  refine dp_s3 hF (i := .iaload) rfl (fun _ => rfl) ?_
  refine dp_s1 hF (i := .iconst (-1)) rfl (fun _ => rfl) ?_
  refine dp_s2 hF (i := .if_icmp .ne 7) (a := (110, [some (.ref 114), some (.int v1), some (.int v2), some (.int v3), some (.long vs0), none, some (.long v6), none], [], M)) (b := (114, [some (.ref 114), some (.int v1), some (.int v2), some (.int v3), some (.long vs0), none, some (.long v6), none], [], M)) rfl (fun _ => rfl) ?_ ?_
  · refine dp_s1 hF (i := .lconst 0) rfl (fun _ => rfl) ?_
    refine dp_s1 hF (i := .goto 28) rfl (fun _ => rfl) ?_
    exact rfl
  refine dp_s1 hF (i := .aload_n 0) rfl (fun _ => rfl) ?_
  refine dp_s1 hF (i := .getfield 239) rfl (fun _ => rfl) ?_
  refine dp_s1 hF (i := .aload_n 0) rfl (fun _ => rfl) ?_
  refine dp_s1 hF (i := .getfield 203) rfl (fun _ => rfl) ?_
  refine dp_s1 hF (i := .iload_n 2) rfl (fun _ => rfl) ?_
  refine dp_s3 hF (i := .iaload) rfl (fun _ => rfl) ?_
  refine dp_s1 hF (i := .iconst (-1)) rfl (fun _ => rfl) ?_
  refine dp_s2 hF (i := .if_icmp .ne 7) (a := (128, [some (.ref 114), some (.int v1), some (.int v2), some (.int v3), some (.long vs0), none, some (.long v6), none], [.ref 189], M)) (b := (132, [some (.ref 114), some (.int v1), some (.int v2), some (.int v3), some (.long vs0), none, some (.long v6), none], [.ref 189], M)) rfl (fun _ => rfl) ?_ ?_
  · refine dp_s1 hF (i := .iconst 0) rfl (fun _ => rfl) ?_
    refine dp_s1 hF (i := .goto 9) rfl (fun _ => rfl) ?_
    refine dp_s3 hF (i := .laload) rfl (fun _ => rfl) ?_
    exact rfl
  refine dp_s1 hF (i := .aload_n 0) rfl (fun _ => rfl) ?_
  refine dp_s1 hF (i := .getfield 206) rfl (fun _ => rfl) ?_
  refine dp_s1 hF (i := .iload_n 2) rfl (fun _ => rfl) ?_
  refine dp_s3 hF (i := .iaload) rfl (fun _ => rfl) ?_
  refine dp_s3 hF (i := .laload) rfl (fun _ => rfl) ?_
  exact rfl
set_option maxRecDepth 20000 in
theorem D_X12_reckons_139_a_eq (xs : Nat → Int32) (xl d : Nat) (v1 : Int32) (v2 : Int32) (v3 : Int32) (v4 : Int64) (v6 : Int64) (vs0 : Int64) (M : dp_M) : D_X12_reckons_139_a xs xl d v1 v2 v3 v4 v6 vs0 M = if v3 = (0 : Int32) then (if v1 < 0 ∨ 60 ≤ Int32.toNatClampNeg v1 then none else dp_w (dp_setJ M 189 (Int32.toNatClampNeg v1) (0 : Int64)) (fun M1 => dp_w (v1 + (-1 : Int32)) (fun y2 => D_X12_reckons_7_a xs xl d y2 v2 v3 v4 vs0 M1))) else if v3 = (1 : Int32) then (if v2 < 0 ∨ 120 ≤ Int32.toNatClampNeg v2 then none else (if v1 < 0 ∨ 60 ≤ Int32.toNatClampNeg v1 then none else dp_w (dp_setJ M 189 (Int32.toNatClampNeg v1) (((dp_J M 114 100) * (Int32.toInt64 (dp_I M 175 (Int32.toNatClampNeg v2)))) * (10 : Int64))) (fun M3 => dp_w (v1 + (-1 : Int32)) (fun y4 => D_X12_reckons_7_a xs xl d y4 v2 v3 v4 vs0 M3)))) else if v3 = (2 : Int32) then (if v2 < 0 ∨ 120 ≤ Int32.toNatClampNeg v2 then none else (if v2 < 0 ∨ 120 ≤ Int32.toNatClampNeg v2 then none else (if (dp_I M 176 (Int32.toNatClampNeg v2)) < 0 ∨ 8 ≤ Int32.toNatClampNeg (dp_I M 176 (Int32.toNatClampNeg v2)) then none else (if v1 < 0 ∨ 60 ≤ Int32.toNatClampNeg v1 then none else dp_w (dp_setJ M 189 (Int32.toNatClampNeg v1) ((Int32.toInt64 (dp_I M 175 (Int32.toNatClampNeg v2))) * (dp_J M 188 (Int32.toNatClampNeg (dp_I M 176 (Int32.toNatClampNeg v2)))))) (fun M5 => dp_w (v1 + (-1 : Int32)) (fun y6 => D_X12_reckons_7_a xs xl d y6 v2 v3 v4 vs0 M5)))))) else if v3 = (3 : Int32) then (if v1 < 0 ∨ 60 ≤ Int32.toNatClampNeg v1 then none else dp_w (dp_setJ M 189 (Int32.toNatClampNeg v1) (v4 + vs0)) (fun M7 => dp_w (v1 + (-1 : Int32)) (fun y8 => D_X12_reckons_7_a xs xl d y8 v2 v3 v4 vs0 M7))) else if v3 = (4 : Int32) then (if v1 < 0 ∨ 60 ≤ Int32.toNatClampNeg v1 then none else dp_w (dp_setJ M 189 (Int32.toNatClampNeg v1) (v4 - vs0)) (fun M9 => dp_w (v1 + (-1 : Int32)) (fun y10 => D_X12_reckons_7_a xs xl d y10 v2 v3 v4 vs0 M9))) else if v3 = (5 : Int32) then (if v3 = (5 : Int32) then (D_X12_reckons_308 xs xl d v1 v2 v3 v4 vs0 (1 : Int32) v1 M) else (D_X12_reckons_308 xs xl d v1 v2 v3 v4 vs0 (0 : Int32) v1 M)) else if v3 = (6 : Int32) then (if v3 = (5 : Int32) then (D_X12_reckons_308 xs xl d v1 v2 v3 v4 vs0 (1 : Int32) v1 M) else (D_X12_reckons_308 xs xl d v1 v2 v3 v4 vs0 (0 : Int32) v1 M)) else if v3 = (7 : Int32) then (dp_bl (dp_den true xs xl d 491 [.ref 114, .int v2] M) (fun r12 M11 => if v1 < 0 ∨ 60 ≤ Int32.toNatClampNeg v1 then none else dp_w (dp_setJ M11 189 (Int32.toNatClampNeg v1) r12) (fun M13 => dp_w (v1 + (-1 : Int32)) (fun y14 => D_X12_reckons_7_a xs xl d y14 v2 v3 v4 vs0 M13)))) else (if v3 = (5 : Int32) then (D_X12_reckons_308 xs xl d v1 v2 v3 v4 vs0 (1 : Int32) v1 M) else (D_X12_reckons_308 xs xl d v1 v2 v3 v4 vs0 (0 : Int32) v1 M)) := by
  have hF := dp_den_grow (md := true) (xs := xs) (xl := xl) d
  unfold D_X12_reckons_139_a
  refine dp_s1 hF (i := .lstore 6) rfl (fun _ => rfl) ?_
  refine dp_s1 hF (i := .iload_n 3) rfl (fun _ => rfl) ?_
  refine (dp_s (E := fun k => if v3 = (0 : Int32) then k (188, [some (.ref 114), some (.int v1), some (.int v2), some (.int v3), some (.long v4), none, some (.long vs0), none], [], M) else if v3 = (1 : Int32) then k (198, [some (.ref 114), some (.int v1), some (.int v2), some (.int v3), some (.long v4), none, some (.long vs0), none], [], M) else if v3 = (2 : Int32) then k (223, [some (.ref 114), some (.int v1), some (.int v2), some (.int v3), some (.long v4), none, some (.long vs0), none], [], M) else if v3 = (3 : Int32) then k (265, [some (.ref 114), some (.int v1), some (.int v2), some (.int v3), some (.long v4), none, some (.long vs0), none], [], M) else if v3 = (4 : Int32) then k (279, [some (.ref 114), some (.int v1), some (.int v2), some (.int v3), some (.long v4), none, some (.long vs0), none], [], M) else if v3 = (5 : Int32) then k (293, [some (.ref 114), some (.int v1), some (.int v2), some (.int v3), some (.long v4), none, some (.long vs0), none], [], M) else if v3 = (6 : Int32) then k (293, [some (.ref 114), some (.int v1), some (.int v2), some (.int v3), some (.long v4), none, some (.long vs0), none], [], M) else if v3 = (7 : Int32) then k (251, [some (.ref 114), some (.int v1), some (.int v2), some (.int v3), some (.long v4), none, some (.long vs0), none], [], M) else k (293, [some (.ref 114), some (.int v1), some (.int v2), some (.int v3), some (.long v4), none, some (.long vs0), none], [], M)) hF (i := .tableswitch 151 0 7 #[46, 56, 81, 123, 137, 151, 151, 109]) rfl (fun _ => rfl)).trans ?_
  refine dp_ifc ?_ ?_
  · refine dp_s1 hF (i := .aload_n 0) rfl (fun _ => rfl) ?_
    refine dp_s1 hF (i := .getfield 239) rfl (fun _ => rfl) ?_
    refine dp_s1 hF (i := .iload_n 1) rfl (fun _ => rfl) ?_
    refine dp_s1 hF (i := .lconst 0) rfl (fun _ => rfl) ?_
    refine dp_s3w (dp_setJ M 189 (Int32.toNatClampNeg v1) (0 : Int64)) (fun (M1 : dp_M) => (195, [some (.ref 114), some (.int v1), some (.int v2), some (.int v3), some (.long v4), none, some (.long vs0), none], [], M1)) hF (i := .lastore) rfl (fun _ => rfl) (fun M1 => ?_)
    refine dp_s1 hF (i := .goto 137) rfl (fun _ => rfl) ?_
    refine dp_s1w (v1 + (-1 : Int32)) (fun (y2 : Int32) => (335, [some (.ref 114), some (.int y2), some (.int v2), some (.int v3), some (.long v4), none, some (.long vs0), none], [], M1)) hF (i := .iinc 1 (-1)) rfl (fun _ => rfl) (fun y2 => ?_)
    refine dp_s1 hF (i := .goto (-328)) rfl (fun _ => rfl) ?_
    exact rfl
  refine dp_ifc ?_ ?_
  · refine dp_s1 hF (i := .aload_n 0) rfl (fun _ => rfl) ?_
    refine dp_s1 hF (i := .getfield 239) rfl (fun _ => rfl) ?_
    refine dp_s1 hF (i := .iload_n 1) rfl (fun _ => rfl) ?_
    refine dp_s1 hF (i := .aload_n 0) rfl (fun _ => rfl) ?_
    refine dp_s1 hF (i := .getfield 828) rfl (fun _ => rfl) ?_
    refine dp_s1 hF (i := .aload_n 0) rfl (fun _ => rfl) ?_
    refine dp_s1 hF (i := .getfield 197) rfl (fun _ => rfl) ?_
    refine dp_s1 hF (i := .iload_n 2) rfl (fun _ => rfl) ?_
    refine dp_s3 hF (i := .iaload) rfl (fun _ => rfl) ?_
    refine dp_s1 hF (i := .i2l) rfl (fun _ => rfl) ?_
    refine dp_s1 hF (i := .lmul) rfl (fun _ => rfl) ?_
    refine dp_s1 hF (i := .ldc2_w 647) rfl (fun _ => rfl) ?_
    refine dp_s1 hF (i := .lmul) rfl (fun _ => rfl) ?_
    refine dp_s3w (dp_setJ M 189 (Int32.toNatClampNeg v1) (((dp_J M 114 100) * (Int32.toInt64 (dp_I M 175 (Int32.toNatClampNeg v2)))) * (10 : Int64))) (fun (M3 : dp_M) => (220, [some (.ref 114), some (.int v1), some (.int v2), some (.int v3), some (.long v4), none, some (.long vs0), none], [], M3)) hF (i := .lastore) rfl (fun _ => rfl) (fun M3 => ?_)
    refine dp_s1 hF (i := .goto 112) rfl (fun _ => rfl) ?_
    refine dp_s1w (v1 + (-1 : Int32)) (fun (y4 : Int32) => (335, [some (.ref 114), some (.int y4), some (.int v2), some (.int v3), some (.long v4), none, some (.long vs0), none], [], M3)) hF (i := .iinc 1 (-1)) rfl (fun _ => rfl) (fun y4 => ?_)
    refine dp_s1 hF (i := .goto (-328)) rfl (fun _ => rfl) ?_
    exact rfl
  refine dp_ifc ?_ ?_
  · refine dp_s1 hF (i := .aload_n 0) rfl (fun _ => rfl) ?_
    refine dp_s1 hF (i := .getfield 239) rfl (fun _ => rfl) ?_
    refine dp_s1 hF (i := .iload_n 1) rfl (fun _ => rfl) ?_
    refine dp_s1 hF (i := .aload_n 0) rfl (fun _ => rfl) ?_
    refine dp_s1 hF (i := .getfield 197) rfl (fun _ => rfl) ?_
    refine dp_s1 hF (i := .iload_n 2) rfl (fun _ => rfl) ?_
    refine dp_s3 hF (i := .iaload) rfl (fun _ => rfl) ?_
    refine dp_s1 hF (i := .i2l) rfl (fun _ => rfl) ?_
    refine dp_s1 hF (i := .aload_n 0) rfl (fun _ => rfl) ?_
    refine dp_s1 hF (i := .getfield 236) rfl (fun _ => rfl) ?_
    refine dp_s1 hF (i := .aload_n 0) rfl (fun _ => rfl) ?_
    refine dp_s1 hF (i := .getfield 200) rfl (fun _ => rfl) ?_
    refine dp_s1 hF (i := .iload_n 2) rfl (fun _ => rfl) ?_
    refine dp_s3 hF (i := .iaload) rfl (fun _ => rfl) ?_
    refine dp_s3 hF (i := .laload) rfl (fun _ => rfl) ?_
    refine dp_s1 hF (i := .lmul) rfl (fun _ => rfl) ?_
    refine dp_s3w (dp_setJ M 189 (Int32.toNatClampNeg v1) ((Int32.toInt64 (dp_I M 175 (Int32.toNatClampNeg v2))) * (dp_J M 188 (Int32.toNatClampNeg (dp_I M 176 (Int32.toNatClampNeg v2)))))) (fun (M5 : dp_M) => (248, [some (.ref 114), some (.int v1), some (.int v2), some (.int v3), some (.long v4), none, some (.long vs0), none], [], M5)) hF (i := .lastore) rfl (fun _ => rfl) (fun M5 => ?_)
    refine dp_s1 hF (i := .goto 84) rfl (fun _ => rfl) ?_
    refine dp_s1w (v1 + (-1 : Int32)) (fun (y6 : Int32) => (335, [some (.ref 114), some (.int y6), some (.int v2), some (.int v3), some (.long v4), none, some (.long vs0), none], [], M5)) hF (i := .iinc 1 (-1)) rfl (fun _ => rfl) (fun y6 => ?_)
    refine dp_s1 hF (i := .goto (-328)) rfl (fun _ => rfl) ?_
    exact rfl
  refine dp_ifc ?_ ?_
  · refine dp_s1 hF (i := .aload_n 0) rfl (fun _ => rfl) ?_
    refine dp_s1 hF (i := .getfield 239) rfl (fun _ => rfl) ?_
    refine dp_s1 hF (i := .iload_n 1) rfl (fun _ => rfl) ?_
    refine dp_s1 hF (i := .lload 4) rfl (fun _ => rfl) ?_
    refine dp_s1 hF (i := .lload 6) rfl (fun _ => rfl) ?_
    refine dp_s1 hF (i := .ladd) rfl (fun _ => rfl) ?_
    refine dp_s3w (dp_setJ M 189 (Int32.toNatClampNeg v1) (v4 + vs0)) (fun (M7 : dp_M) => (276, [some (.ref 114), some (.int v1), some (.int v2), some (.int v3), some (.long v4), none, some (.long vs0), none], [], M7)) hF (i := .lastore) rfl (fun _ => rfl) (fun M7 => ?_)
    refine dp_s1 hF (i := .goto 56) rfl (fun _ => rfl) ?_
    refine dp_s1w (v1 + (-1 : Int32)) (fun (y8 : Int32) => (335, [some (.ref 114), some (.int y8), some (.int v2), some (.int v3), some (.long v4), none, some (.long vs0), none], [], M7)) hF (i := .iinc 1 (-1)) rfl (fun _ => rfl) (fun y8 => ?_)
    refine dp_s1 hF (i := .goto (-328)) rfl (fun _ => rfl) ?_
    exact rfl
  refine dp_ifc ?_ ?_
  · refine dp_s1 hF (i := .aload_n 0) rfl (fun _ => rfl) ?_
    refine dp_s1 hF (i := .getfield 239) rfl (fun _ => rfl) ?_
    refine dp_s1 hF (i := .iload_n 1) rfl (fun _ => rfl) ?_
    refine dp_s1 hF (i := .lload 4) rfl (fun _ => rfl) ?_
    refine dp_s1 hF (i := .lload 6) rfl (fun _ => rfl) ?_
    refine dp_s1 hF (i := .lsub) rfl (fun _ => rfl) ?_
    refine dp_s3w (dp_setJ M 189 (Int32.toNatClampNeg v1) (v4 - vs0)) (fun (M9 : dp_M) => (290, [some (.ref 114), some (.int v1), some (.int v2), some (.int v3), some (.long v4), none, some (.long vs0), none], [], M9)) hF (i := .lastore) rfl (fun _ => rfl) (fun M9 => ?_)
    refine dp_s1 hF (i := .goto 42) rfl (fun _ => rfl) ?_
    refine dp_s1w (v1 + (-1 : Int32)) (fun (y10 : Int32) => (335, [some (.ref 114), some (.int y10), some (.int v2), some (.int v3), some (.long v4), none, some (.long vs0), none], [], M9)) hF (i := .iinc 1 (-1)) rfl (fun _ => rfl) (fun y10 => ?_)
    refine dp_s1 hF (i := .goto (-328)) rfl (fun _ => rfl) ?_
    exact rfl
  refine dp_ifc ?_ ?_
  · refine dp_s1 hF (i := .aload_n 0) rfl (fun _ => rfl) ?_
    refine dp_s1 hF (i := .getfield 239) rfl (fun _ => rfl) ?_
    refine dp_s1 hF (i := .iload_n 1) rfl (fun _ => rfl) ?_
    refine dp_s1 hF (i := .iload_n 3) rfl (fun _ => rfl) ?_
    refine dp_s1 hF (i := .iconst 5) rfl (fun _ => rfl) ?_
    refine dp_s2 hF (i := .if_icmp .ne 7) (a := (303, [some (.ref 114), some (.int v1), some (.int v2), some (.int v3), some (.long v4), none, some (.long vs0), none], [.int v1, .ref 189], M)) (b := (307, [some (.ref 114), some (.int v1), some (.int v2), some (.int v3), some (.long v4), none, some (.long vs0), none], [.int v1, .ref 189], M)) rfl (fun _ => rfl) ?_ ?_
    · refine dp_s1 hF (i := .iconst 1) rfl (fun _ => rfl) ?_
      refine dp_s1 hF (i := .goto 4) rfl (fun _ => rfl) ?_
      exact rfl
    refine dp_s1 hF (i := .iconst 0) rfl (fun _ => rfl) ?_
    exact rfl
  refine dp_ifc ?_ ?_
  · refine dp_s1 hF (i := .aload_n 0) rfl (fun _ => rfl) ?_
    refine dp_s1 hF (i := .getfield 239) rfl (fun _ => rfl) ?_
    refine dp_s1 hF (i := .iload_n 1) rfl (fun _ => rfl) ?_
    refine dp_s1 hF (i := .iload_n 3) rfl (fun _ => rfl) ?_
    refine dp_s1 hF (i := .iconst 5) rfl (fun _ => rfl) ?_
    refine dp_s2 hF (i := .if_icmp .ne 7) (a := (303, [some (.ref 114), some (.int v1), some (.int v2), some (.int v3), some (.long v4), none, some (.long vs0), none], [.int v1, .ref 189], M)) (b := (307, [some (.ref 114), some (.int v1), some (.int v2), some (.int v3), some (.long v4), none, some (.long vs0), none], [.int v1, .ref 189], M)) rfl (fun _ => rfl) ?_ ?_
    · refine dp_s1 hF (i := .iconst 1) rfl (fun _ => rfl) ?_
      refine dp_s1 hF (i := .goto 4) rfl (fun _ => rfl) ?_
      exact rfl
    refine dp_s1 hF (i := .iconst 0) rfl (fun _ => rfl) ?_
    exact rfl
  refine dp_ifc ?_ ?_
  · refine dp_s1 hF (i := .aload_n 0) rfl (fun _ => rfl) ?_
    refine dp_s1 hF (i := .getfield 239) rfl (fun _ => rfl) ?_
    refine dp_s1 hF (i := .iload_n 1) rfl (fun _ => rfl) ?_
    refine dp_s1 hF (i := .aload_n 0) rfl (fun _ => rfl) ?_
    refine dp_s1 hF (i := .iload_n 2) rfl (fun _ => rfl) ?_
    refine dp_sl9 (mj := dp_m_X12_stepOf) (i := .invokevirtual 836) rfl rfl rfl rfl (fun _ => rfl) (fun r12 M11 => ?_)
    refine dp_s3w (dp_setJ M11 189 (Int32.toNatClampNeg v1) r12) (fun (M13 : dp_M) => (262, [some (.ref 114), some (.int v1), some (.int v2), some (.int v3), some (.long v4), none, some (.long vs0), none], [], M13)) hF (i := .lastore) rfl (fun _ => rfl) (fun M13 => ?_)
    refine dp_s1 hF (i := .goto 70) rfl (fun _ => rfl) ?_
    refine dp_s1w (v1 + (-1 : Int32)) (fun (y14 : Int32) => (335, [some (.ref 114), some (.int y14), some (.int v2), some (.int v3), some (.long v4), none, some (.long vs0), none], [], M13)) hF (i := .iinc 1 (-1)) rfl (fun _ => rfl) (fun y14 => ?_)
    refine dp_s1 hF (i := .goto (-328)) rfl (fun _ => rfl) ?_
    exact rfl
  refine dp_s1 hF (i := .aload_n 0) rfl (fun _ => rfl) ?_
  refine dp_s1 hF (i := .getfield 239) rfl (fun _ => rfl) ?_
  refine dp_s1 hF (i := .iload_n 1) rfl (fun _ => rfl) ?_
  refine dp_s1 hF (i := .iload_n 3) rfl (fun _ => rfl) ?_
  refine dp_s1 hF (i := .iconst 5) rfl (fun _ => rfl) ?_
  refine dp_s2 hF (i := .if_icmp .ne 7) (a := (303, [some (.ref 114), some (.int v1), some (.int v2), some (.int v3), some (.long v4), none, some (.long vs0), none], [.int v1, .ref 189], M)) (b := (307, [some (.ref 114), some (.int v1), some (.int v2), some (.int v3), some (.long v4), none, some (.long vs0), none], [.int v1, .ref 189], M)) rfl (fun _ => rfl) ?_ ?_
  · refine dp_s1 hF (i := .iconst 1) rfl (fun _ => rfl) ?_
    refine dp_s1 hF (i := .goto 4) rfl (fun _ => rfl) ?_
    exact rfl
  refine dp_s1 hF (i := .iconst 0) rfl (fun _ => rfl) ?_
  exact rfl
noncomputable def D_X12_isAmount_0 (xs : Nat → Int32) (xl d : Nat) (v0 : Int64) (M : dp_M) : Option dp_Res := dp_lim true xs xl (dp_den true xs xl d) dp_m_X12_isAmount (0, [some (.long v0), none], [], M)
theorem D_X12_isAmount_0_den (xs : Nat → Int32) (xl d : Nat) (a0 : Int64) (M : dp_M) : dp_den true xs xl (d + 1) 493 [.long a0] M = D_X12_isAmount_0 xs xl d a0 M := rfl
set_option maxRecDepth 20000 in
theorem D_X12_isAmount_0_eq (xs : Nat → Int32) (xl d : Nat) (v0 : Int64) (M : dp_M) : D_X12_isAmount_0 xs xl d v0 M = dp_bi (dp_den true xs xl d 367 [.long v0, .long (0 : Int64), .long (100000000 : Int64)] M) (fun r2 M1 => if r2 = 0 ∨ r2 = 1 then some (.inl (some (.int r2)), M1) else none) := by
  have hF := dp_den_grow (md := true) (xs := xs) (xl := xl) d
  unfold D_X12_isAmount_0
  refine dp_s1 hF (i := .lload_n 0) rfl (fun _ => rfl) ?_
  refine dp_s1 hF (i := .lconst 0) rfl (fun _ => rfl) ?_
  refine dp_s1 hF (i := .ldc2_w 839) rfl (fun _ => rfl) ?_
  refine dp_si (mj := dp_m_X12_in) (i := .invokestatic 446) rfl rfl (Or.inr rfl) rfl (fun _ => rfl) (fun r2 M1 => ?_)
  exact dp_s0 hF (i := .ireturn) rfl (fun _ => rfl)
noncomputable def D_X12_worth_0 (xs : Nat → Int32) (xl d : Nat) (v1 : Int32) (v2 : Int64) (v4 : Int32) (v5 : Int64) (M : dp_M) : Option dp_Res := dp_lim true xs xl (dp_den true xs xl d) dp_m_X12_worth (0, [some (.ref 114), some (.int v1), some (.long v2), none, some (.int v4), some (.long v5), none, none, none], [], M)
noncomputable def D_X12_worth_25 (xs : Nat → Int32) (xl d : Nat) (v1 : Int32) (v2 : Int64) (v4 : Int32) (v5 : Int64) (vs0 : Int32) (M : dp_M) : Option dp_Res := dp_lim true xs xl (dp_den true xs xl d) dp_m_X12_worth (25, [some (.ref 114), some (.int v1), some (.long v2), none, some (.int v4), some (.long v5), none, none, none], [.int vs0, .ref 172], M)
noncomputable def D_X12_worth_81 (xs : Nat → Int32) (xl d : Nat) (v1 : Int32) (v2 : Int64) (v4 : Int32) (v5 : Int64) (v7 : Int32) (M : dp_M) : Option dp_Res := dp_lim true xs xl (dp_den true xs xl d) dp_m_X12_worth (81, [some (.ref 114), some (.int v1), some (.long v2), none, some (.int v4), some (.long v5), none, some (.int v7), none], [], M)
theorem D_X12_worth_0_den (xs : Nat → Int32) (xl d : Nat) (a0 : Int32) (a1 : Int64) (a2 : Int32) (a3 : Int64) (M : dp_M) : dp_den true xs xl (d + 1) 494 [.ref 114, .int a0, .long a1, .int a2, .long a3] M = D_X12_worth_0 xs xl d a0 a1 a2 a3 M := rfl
set_option maxRecDepth 20000 in
theorem D_X12_worth_0_eq (xs : Nat → Int32) (xl d : Nat) (v1 : Int32) (v2 : Int64) (v4 : Int32) (v5 : Int64) (M : dp_M) : D_X12_worth_0 xs xl d v1 v2 v4 v5 M = dp_bi (dp_den true xs xl d 451 [.ref 114, .int v1] M) (fun r2 M1 => if r2 = 0 then (dp_bi (dp_den true xs xl d 366 [.ref 114, .int (1 : Int32)] M1) (fun r4 M3 => some (.inl (some (.long (Int32.toInt64 r4))), M3))) else (dp_bi (dp_den true xs xl d 451 [.ref 114, .int v1] M1) (fun r6 M5 => if r6 = 0 then (D_X12_worth_25 xs xl d v1 v2 v4 v5 (0 : Int32) M5) else (D_X12_worth_25 xs xl d v1 v2 v4 v5 v1 M5)))) := by
  have hF := dp_den_grow (md := true) (xs := xs) (xl := xl) d
  unfold D_X12_worth_0
  refine dp_s1 hF (i := .aload_n 0) rfl (fun _ => rfl) ?_
  refine dp_s1 hF (i := .iload_n 1) rfl (fun _ => rfl) ?_
  refine dp_si (mj := dp_m_X12_isMeasure) (i := .invokevirtual 681) rfl rfl (Or.inr rfl) rfl (fun _ => rfl) (fun r2 M1 => ?_)
  refine dp_s2 hF (i := .ifCond .eq 56) (a := (61, [some (.ref 114), some (.int v1), some (.long v2), none, some (.int v4), some (.long v5), none, none, none], [], M1)) (b := (8, [some (.ref 114), some (.int v1), some (.long v2), none, some (.int v4), some (.long v5), none, none, none], [], M1)) rfl (fun _ => rfl) ?_ ?_
  · refine dp_s1 hF (i := .aload_n 0) rfl (fun _ => rfl) ?_
    refine dp_s1 hF (i := .iconst 1) rfl (fun _ => rfl) ?_
    refine dp_si (mj := dp_m_X12_refuse) (i := .invokevirtual 460) rfl rfl (Or.inl rfl) rfl (fun _ => rfl) (fun r4 M3 => ?_)
    refine dp_s1 hF (i := .i2l) rfl (fun _ => rfl) ?_
    exact dp_s0 hF (i := .lreturn) rfl (fun _ => rfl)
  refine dp_s1 hF (i := .aload_n 0) rfl (fun _ => rfl) ?_
  refine dp_s1 hF (i := .getfield 188) rfl (fun _ => rfl) ?_
  refine dp_s1 hF (i := .aload_n 0) rfl (fun _ => rfl) ?_
  refine dp_s1 hF (i := .iload_n 1) rfl (fun _ => rfl) ?_
  refine dp_si (mj := dp_m_X12_isMeasure) (i := .invokevirtual 681) rfl rfl (Or.inr rfl) rfl (fun _ => rfl) (fun r6 M5 => ?_)
  refine dp_s2 hF (i := .ifCond .eq 7) (a := (24, [some (.ref 114), some (.int v1), some (.long v2), none, some (.int v4), some (.long v5), none, none, none], [.ref 172], M5)) (b := (20, [some (.ref 114), some (.int v1), some (.long v2), none, some (.int v4), some (.long v5), none, none, none], [.ref 172], M5)) rfl (fun _ => rfl) ?_ ?_
  · refine dp_s1 hF (i := .iconst 0) rfl (fun _ => rfl) ?_
    exact rfl
  refine dp_s1 hF (i := .iload_n 1) rfl (fun _ => rfl) ?_
  refine dp_s1 hF (i := .goto 4) rfl (fun _ => rfl) ?_
  exact rfl
set_option maxRecDepth 20000 in
theorem D_X12_worth_25_eq (xs : Nat → Int32) (xl d : Nat) (v1 : Int32) (v2 : Int64) (v4 : Int32) (v5 : Int64) (vs0 : Int32) (M : dp_M) : D_X12_worth_25 xs xl d v1 v2 v4 v5 vs0 M = if vs0 < 0 ∨ 301 ≤ Int32.toNatClampNeg vs0 then none else (if (dp_I M 172 (Int32.toNatClampNeg vs0)) = 0 then (dp_bi (dp_den true xs xl d 366 [.ref 114, .int (1 : Int32)] M) (fun r2 M1 => some (.inl (some (.long (Int32.toInt64 r2))), M1))) else (dp_bi (dp_den true xs xl d 367 [.long v2, .long (0 : Int64), .long (100000000 : Int64)] M) (fun r4 M3 => if r4 = 0 then (dp_bi (dp_den true xs xl d 366 [.ref 114, .int (1 : Int32)] M3) (fun r6 M5 => some (.inl (some (.long (Int32.toInt64 r6))), M5))) else (dp_bi (dp_den true xs xl d 367 [.long (Int32.toInt64 v4), .long (0 : Int64), .long (7 : Int64)] M3) (fun r8 M7 => if r8 = 0 then (dp_bi (dp_den true xs xl d 366 [.ref 114, .int (1 : Int32)] M7) (fun r10 M9 => some (.inl (some (.long (Int32.toInt64 r10))), M9))) else (dp_bi (dp_den true xs xl d 493 [.long v5] M7) (fun r12 M11 => if r12 = 0 then (dp_bi (dp_den true xs xl d 366 [.ref 114, .int (1 : Int32)] M11) (fun r14 M13 => some (.inl (some (.long (Int32.toInt64 r14))), M13))) else (dp_bv (dp_den true xs xl d 489 [.ref 114, .int v1] M11) (fun M15 => dp_w (dp_setJ M15 114 100 v2) (fun M16 => dp_w (0 : Int32) (fun y17 => D_X12_worth_81 xs xl d v1 v2 v4 v5 y17 M16))))))))))) := by
  have hF := dp_den_grow (md := true) (xs := xs) (xl := xl) d
  unfold D_X12_worth_25
  refine dp_s3 hF (i := .iaload) rfl (fun _ => rfl) ?_
  refine dp_s2 hF (i := .ifCond .eq 35) (a := (61, [some (.ref 114), some (.int v1), some (.long v2), none, some (.int v4), some (.long v5), none, none, none], [], M)) (b := (29, [some (.ref 114), some (.int v1), some (.long v2), none, some (.int v4), some (.long v5), none, none, none], [], M)) rfl (fun _ => rfl) ?_ ?_
  · refine dp_s1 hF (i := .aload_n 0) rfl (fun _ => rfl) ?_
    refine dp_s1 hF (i := .iconst 1) rfl (fun _ => rfl) ?_
    refine dp_si (mj := dp_m_X12_refuse) (i := .invokevirtual 460) rfl rfl (Or.inl rfl) rfl (fun _ => rfl) (fun r2 M1 => ?_)
    refine dp_s1 hF (i := .i2l) rfl (fun _ => rfl) ?_
    exact dp_s0 hF (i := .lreturn) rfl (fun _ => rfl)
  refine dp_s1 hF (i := .lload_n 2) rfl (fun _ => rfl) ?_
  refine dp_s1 hF (i := .lconst 0) rfl (fun _ => rfl) ?_
  refine dp_s1 hF (i := .ldc2_w 839) rfl (fun _ => rfl) ?_
  refine dp_si (mj := dp_m_X12_in) (i := .invokestatic 446) rfl rfl (Or.inr rfl) rfl (fun _ => rfl) (fun r4 M3 => ?_)
  refine dp_s2 hF (i := .ifCond .eq 24) (a := (61, [some (.ref 114), some (.int v1), some (.long v2), none, some (.int v4), some (.long v5), none, none, none], [], M3)) (b := (40, [some (.ref 114), some (.int v1), some (.long v2), none, some (.int v4), some (.long v5), none, none, none], [], M3)) rfl (fun _ => rfl) ?_ ?_
  · refine dp_s1 hF (i := .aload_n 0) rfl (fun _ => rfl) ?_
    refine dp_s1 hF (i := .iconst 1) rfl (fun _ => rfl) ?_
    refine dp_si (mj := dp_m_X12_refuse) (i := .invokevirtual 460) rfl rfl (Or.inl rfl) rfl (fun _ => rfl) (fun r6 M5 => ?_)
    refine dp_s1 hF (i := .i2l) rfl (fun _ => rfl) ?_
    exact dp_s0 hF (i := .lreturn) rfl (fun _ => rfl)
  refine dp_s1 hF (i := .iload 4) rfl (fun _ => rfl) ?_
  refine dp_s1 hF (i := .i2l) rfl (fun _ => rfl) ?_
  refine dp_s1 hF (i := .lconst 0) rfl (fun _ => rfl) ?_
  refine dp_s1 hF (i := .ldc2_w 477) rfl (fun _ => rfl) ?_
  refine dp_si (mj := dp_m_X12_in) (i := .invokestatic 446) rfl rfl (Or.inr rfl) rfl (fun _ => rfl) (fun r8 M7 => ?_)
  refine dp_s2 hF (i := .ifCond .eq 11) (a := (61, [some (.ref 114), some (.int v1), some (.long v2), none, some (.int v4), some (.long v5), none, none, none], [], M7)) (b := (53, [some (.ref 114), some (.int v1), some (.long v2), none, some (.int v4), some (.long v5), none, none, none], [], M7)) rfl (fun _ => rfl) ?_ ?_
  · refine dp_s1 hF (i := .aload_n 0) rfl (fun _ => rfl) ?_
    refine dp_s1 hF (i := .iconst 1) rfl (fun _ => rfl) ?_
    refine dp_si (mj := dp_m_X12_refuse) (i := .invokevirtual 460) rfl rfl (Or.inl rfl) rfl (fun _ => rfl) (fun r10 M9 => ?_)
    refine dp_s1 hF (i := .i2l) rfl (fun _ => rfl) ?_
    exact dp_s0 hF (i := .lreturn) rfl (fun _ => rfl)
  refine dp_s1 hF (i := .lload 5) rfl (fun _ => rfl) ?_
  refine dp_si (mj := dp_m_X12_isAmount) (i := .invokestatic 841) rfl rfl (Or.inr rfl) rfl (fun _ => rfl) (fun r12 M11 => ?_)
  refine dp_s2 hF (i := .ifCond .ne 10) (a := (61, [some (.ref 114), some (.int v1), some (.long v2), none, some (.int v4), some (.long v5), none, none, none], [], M11)) (b := (68, [some (.ref 114), some (.int v1), some (.long v2), none, some (.int v4), some (.long v5), none, none, none], [], M11)) rfl (fun _ => rfl) ?_ ?_
  · refine dp_s1 hF (i := .aload_n 0) rfl (fun _ => rfl) ?_
    refine dp_s1 hF (i := .iconst 1) rfl (fun _ => rfl) ?_
    refine dp_si (mj := dp_m_X12_refuse) (i := .invokevirtual 460) rfl rfl (Or.inl rfl) rfl (fun _ => rfl) (fun r14 M13 => ?_)
    refine dp_s1 hF (i := .i2l) rfl (fun _ => rfl) ?_
    exact dp_s0 hF (i := .lreturn) rfl (fun _ => rfl)
  refine dp_s1 hF (i := .aload_n 0) rfl (fun _ => rfl) ?_
  refine dp_s1 hF (i := .iload_n 1) rfl (fun _ => rfl) ?_
  refine dp_sv (mj := dp_m_X12_readsRate) (i := .invokevirtual 825) rfl rfl rfl rfl (fun _ => rfl) (fun M15 => ?_)
  refine dp_s1 hF (i := .aload_n 0) rfl (fun _ => rfl) ?_
  refine dp_s1 hF (i := .lload_n 2) rfl (fun _ => rfl) ?_
  refine dp_s1w (dp_setJ M15 114 100 v2) (fun (M16 : dp_M) => (78, [some (.ref 114), some (.int v1), some (.long v2), none, some (.int v4), some (.long v5), none, none, none], [], M16)) hF (i := .putfield 828) rfl (fun _ => rfl) (fun M16 => ?_)
  refine dp_s1 hF (i := .iconst 0) rfl (fun _ => rfl) ?_
  refine dp_s1w (0 : Int32) (fun (y17 : Int32) => (81, [some (.ref 114), some (.int v1), some (.long v2), none, some (.int v4), some (.long v5), none, some (.int y17), none], [], M16)) hF (i := .istore 7) rfl (fun _ => rfl) (fun y17 => ?_)
  exact rfl
set_option maxRecDepth 20000 in
theorem D_X12_worth_81_eq (xs : Nat → Int32) (xl d : Nat) (v1 : Int32) (v2 : Int64) (v4 : Int32) (v5 : Int64) (v7 : Int32) (M : dp_M) : D_X12_worth_81 xs xl d v1 v2 v4 v5 v7 M = if (8 : Int32) ≤ v7 then (dp_bl (dp_den true xs xl d 492 [.ref 114] M) (fun r2 M1 => if 0 ≤ (lg_cmp r2 (0 : Int64)) then (dp_w (dp_setI M1 114 0 (0 : Int32)) (fun M3 => if 0 ≤ (lg_cmp r2 (0 : Int64)) then (some (.inl (some (.long r2)), M3)) else (some (.inl (some (.long (0 : Int64))), M3)))) else (dp_w (dp_setI M1 114 0 (2 : Int32)) (fun M4 => if 0 ≤ (lg_cmp r2 (0 : Int64)) then (some (.inl (some (.long r2)), M4)) else (some (.inl (some (.long (0 : Int64))), M4)))))) else (if v7 = v4 then (if v7 < 0 ∨ 8 ≤ Int32.toNatClampNeg v7 then none else dp_w (dp_setJ M 188 (Int32.toNatClampNeg v7) v5) (fun M5 => dp_w (v7 + (1 : Int32)) (fun y6 => D_X12_worth_81 xs xl d v1 v2 v4 v5 y6 M5))) else (if v7 < 0 ∨ 8 ≤ Int32.toNatClampNeg v7 then none else dp_w (dp_setJ M 188 (Int32.toNatClampNeg v7) (-1 : Int64)) (fun M7 => dp_w (v7 + (1 : Int32)) (fun y8 => D_X12_worth_81 xs xl d v1 v2 v4 v5 y8 M7)))) := by
  have hF := dp_den_grow (md := true) (xs := xs) (xl := xl) d
  unfold D_X12_worth_81
  refine dp_s1 hF (i := .iload 7) rfl (fun _ => rfl) ?_
  refine dp_s1 hF (i := .bipush 8) rfl (fun _ => rfl) ?_
  refine dp_s2 hF (i := .if_icmp .ge 31) (a := (116, [some (.ref 114), some (.int v1), some (.long v2), none, some (.int v4), some (.long v5), none, some (.int v7), none], [], M)) (b := (88, [some (.ref 114), some (.int v1), some (.long v2), none, some (.int v4), some (.long v5), none, some (.int v7), none], [], M)) rfl (fun _ => rfl) ?_ ?_
  · refine dp_s1 hF (i := .aload_n 0) rfl (fun _ => rfl) ?_
    refine dp_sl9 (mj := dp_m_X12_reckons) (i := .invokevirtual 844) rfl rfl rfl rfl (fun _ => rfl) (fun r2 M1 => ?_)
    refine dp_s1 hF (i := .lstore 7) rfl (fun _ => rfl) ?_
    refine dp_s1 hF (i := .aload_n 0) rfl (fun _ => rfl) ?_
    refine dp_s1 hF (i := .lload 7) rfl (fun _ => rfl) ?_
    refine dp_s1 hF (i := .lconst 0) rfl (fun _ => rfl) ?_
    refine dp_s1 hF (i := .lcmp) rfl (fun _ => rfl) ?_
    refine dp_s2 hF (i := .ifCond .ge 7) (a := (134, [some (.ref 114), some (.int v1), some (.long v2), none, some (.int v4), some (.long v5), none, some (.long r2), none], [.ref 114], M1)) (b := (130, [some (.ref 114), some (.int v1), some (.long v2), none, some (.int v4), some (.long v5), none, some (.long r2), none], [.ref 114], M1)) rfl (fun _ => rfl) ?_ ?_
    · refine dp_s1 hF (i := .iconst 0) rfl (fun _ => rfl) ?_
      refine dp_s1w (dp_setI M1 114 0 (0 : Int32)) (fun (M3 : dp_M) => (138, [some (.ref 114), some (.int v1), some (.long v2), none, some (.int v4), some (.long v5), none, some (.long r2), none], [], M3)) hF (i := .putfield 1) rfl (fun _ => rfl) (fun M3 => ?_)
      refine dp_s1 hF (i := .lload 7) rfl (fun _ => rfl) ?_
      refine dp_s1 hF (i := .lconst 0) rfl (fun _ => rfl) ?_
      refine dp_s1 hF (i := .lcmp) rfl (fun _ => rfl) ?_
      refine dp_s2 hF (i := .ifCond .ge 7) (a := (149, [some (.ref 114), some (.int v1), some (.long v2), none, some (.int v4), some (.long v5), none, some (.long r2), none], [], M3)) (b := (145, [some (.ref 114), some (.int v1), some (.long v2), none, some (.int v4), some (.long v5), none, some (.long r2), none], [], M3)) rfl (fun _ => rfl) ?_ ?_
      · refine dp_s1 hF (i := .lload 7) rfl (fun _ => rfl) ?_
        exact dp_s0 hF (i := .lreturn) rfl (fun _ => rfl)
      refine dp_s1 hF (i := .lconst 0) rfl (fun _ => rfl) ?_
      refine dp_s1 hF (i := .goto 5) rfl (fun _ => rfl) ?_
      exact dp_s0 hF (i := .lreturn) rfl (fun _ => rfl)
    refine dp_s1 hF (i := .iconst 2) rfl (fun _ => rfl) ?_
    refine dp_s1 hF (i := .goto 4) rfl (fun _ => rfl) ?_
    refine dp_s1w (dp_setI M1 114 0 (2 : Int32)) (fun (M4 : dp_M) => (138, [some (.ref 114), some (.int v1), some (.long v2), none, some (.int v4), some (.long v5), none, some (.long r2), none], [], M4)) hF (i := .putfield 1) rfl (fun _ => rfl) (fun M4 => ?_)
    refine dp_s1 hF (i := .lload 7) rfl (fun _ => rfl) ?_
    refine dp_s1 hF (i := .lconst 0) rfl (fun _ => rfl) ?_
    refine dp_s1 hF (i := .lcmp) rfl (fun _ => rfl) ?_
    refine dp_s2 hF (i := .ifCond .ge 7) (a := (149, [some (.ref 114), some (.int v1), some (.long v2), none, some (.int v4), some (.long v5), none, some (.long r2), none], [], M4)) (b := (145, [some (.ref 114), some (.int v1), some (.long v2), none, some (.int v4), some (.long v5), none, some (.long r2), none], [], M4)) rfl (fun _ => rfl) ?_ ?_
    · refine dp_s1 hF (i := .lload 7) rfl (fun _ => rfl) ?_
      exact dp_s0 hF (i := .lreturn) rfl (fun _ => rfl)
    refine dp_s1 hF (i := .lconst 0) rfl (fun _ => rfl) ?_
    refine dp_s1 hF (i := .goto 5) rfl (fun _ => rfl) ?_
    exact dp_s0 hF (i := .lreturn) rfl (fun _ => rfl)
  refine dp_s1 hF (i := .aload_n 0) rfl (fun _ => rfl) ?_
  refine dp_s1 hF (i := .getfield 236) rfl (fun _ => rfl) ?_
  refine dp_s1 hF (i := .iload 7) rfl (fun _ => rfl) ?_
  refine dp_s1 hF (i := .iload 7) rfl (fun _ => rfl) ?_
  refine dp_s1 hF (i := .iload 4) rfl (fun _ => rfl) ?_
  refine dp_s2 hF (i := .if_icmp .ne 8) (a := (101, [some (.ref 114), some (.int v1), some (.long v2), none, some (.int v4), some (.long v5), none, some (.int v7), none], [.int v7, .ref 188], M)) (b := (106, [some (.ref 114), some (.int v1), some (.long v2), none, some (.int v4), some (.long v5), none, some (.int v7), none], [.int v7, .ref 188], M)) rfl (fun _ => rfl) ?_ ?_
  · refine dp_s1 hF (i := .lload 5) rfl (fun _ => rfl) ?_
    refine dp_s1 hF (i := .goto 6) rfl (fun _ => rfl) ?_
    refine dp_s3w (dp_setJ M 188 (Int32.toNatClampNeg v7) v5) (fun (M5 : dp_M) => (110, [some (.ref 114), some (.int v1), some (.long v2), none, some (.int v4), some (.long v5), none, some (.int v7), none], [], M5)) hF (i := .lastore) rfl (fun _ => rfl) (fun M5 => ?_)
    refine dp_s1w (v7 + (1 : Int32)) (fun (y6 : Int32) => (113, [some (.ref 114), some (.int v1), some (.long v2), none, some (.int v4), some (.long v5), none, some (.int y6), none], [], M5)) hF (i := .iinc 7 1) rfl (fun _ => rfl) (fun y6 => ?_)
    refine dp_s1 hF (i := .goto (-32)) rfl (fun _ => rfl) ?_
    exact rfl
  refine dp_s1 hF (i := .ldc2_w 435) rfl (fun _ => rfl) ?_
  refine dp_s3w (dp_setJ M 188 (Int32.toNatClampNeg v7) (-1 : Int64)) (fun (M7 : dp_M) => (110, [some (.ref 114), some (.int v1), some (.long v2), none, some (.int v4), some (.long v5), none, some (.int v7), none], [], M7)) hF (i := .lastore) rfl (fun _ => rfl) (fun M7 => ?_)
  refine dp_s1w (v7 + (1 : Int32)) (fun (y8 : Int32) => (113, [some (.ref 114), some (.int v1), some (.long v2), none, some (.int v4), some (.long v5), none, some (.int y8), none], [], M7)) hF (i := .iinc 7 1) rfl (fun _ => rfl) (fun y8 => ?_)
  refine dp_s1 hF (i := .goto (-32)) rfl (fun _ => rfl) ?_
  exact rfl
noncomputable def D_X12_puts_0 (xs : Nat → Int32) (xl d : Nat) (v1 : Int32) (M : dp_M) : Option dp_Res := dp_lim true xs xl (dp_den true xs xl d) dp_m_X12_puts (0, [some (.ref 114), some (.int v1)], [], M)
theorem D_X12_puts_0_den (xs : Nat → Int32) (xl d : Nat) (a0 : Int32) (M : dp_M) : dp_den true xs xl (d + 1) 495 [.ref 114, .int a0] M = D_X12_puts_0 xs xl d a0 M := rfl
set_option maxRecDepth 20000 in
theorem D_X12_puts_0_eq (xs : Nat → Int32) (xl d : Nat) (v1 : Int32) (M : dp_M) : D_X12_puts_0 xs xl d v1 M = if (dp_I M 114 104) < 0 ∨ 4000 ≤ Int32.toNatClampNeg (dp_I M 114 104) then none else dp_w (dp_setI M 190 (Int32.toNatClampNeg (dp_I M 114 104)) v1) (fun M1 => dp_w (dp_setI M1 114 104 ((dp_I M1 114 104) + (1 : Int32))) (fun M2 => some (.inl none, M2))) := by
  have hF := dp_den_grow (md := true) (xs := xs) (xl := xl) d
  unfold D_X12_puts_0
  refine dp_s1 hF (i := .aload_n 0) rfl (fun _ => rfl) ?_
  refine dp_s1 hF (i := .getfield 242) rfl (fun _ => rfl) ?_
  refine dp_s1 hF (i := .aload_n 0) rfl (fun _ => rfl) ?_
  refine dp_s1 hF (i := .getfield 848) rfl (fun _ => rfl) ?_
  refine dp_s1 hF (i := .iload_n 1) rfl (fun _ => rfl) ?_
  refine dp_s3w (dp_setI M 190 (Int32.toNatClampNeg (dp_I M 114 104)) v1) (fun (M1 : dp_M) => (10, [some (.ref 114), some (.int v1)], [], M1)) hF (i := .iastore) rfl (fun _ => rfl) (fun M1 => ?_)
  refine dp_s1 hF (i := .aload_n 0) rfl (fun _ => rfl) ?_
  refine dp_s1 hF (i := .dup) rfl (fun _ => rfl) ?_
  refine dp_s1 hF (i := .getfield 848) rfl (fun _ => rfl) ?_
  refine dp_s1 hF (i := .iconst 1) rfl (fun _ => rfl) ?_
  refine dp_s1 hF (i := .iadd) rfl (fun _ => rfl) ?_
  refine dp_s1w (dp_setI M1 114 104 ((dp_I M1 114 104) + (1 : Int32))) (fun (M2 : dp_M) => (20, [some (.ref 114), some (.int v1)], [], M2)) hF (i := .putfield 848) rfl (fun _ => rfl) (fun M2 => ?_)
  exact dp_s0 hF (i := .return_) rfl (fun _ => rfl)
noncomputable def D_X12_putsWhole_0 (xs : Nat → Int32) (xl d : Nat) (v1 : Int32) (M : dp_M) : Option dp_Res := dp_lim true xs xl (dp_den true xs xl d) dp_m_X12_putsWhole (0, [some (.ref 114), some (.int v1), none, none], [], M)
noncomputable def D_X12_putsWhole_2 (xs : Nat → Int32) (xl d : Nat) (v1 : Int32) (v2 : Int32) (M : dp_M) : Option dp_Res := dp_lim true xs xl (dp_den true xs xl d) dp_m_X12_putsWhole (2, [some (.ref 114), some (.int v1), some (.int v2), none], [], M)
noncomputable def D_X12_putsWhole_20 (xs : Nat → Int32) (xl d : Nat) (v1 : Int32) (v2 : Int32) (v3 : Int32) (M : dp_M) : Option dp_Res := dp_lim true xs xl (dp_den true xs xl d) dp_m_X12_putsWhole (20, [some (.ref 114), some (.int v1), some (.int v2), some (.int v3)], [], M)
theorem D_X12_putsWhole_0_den (xs : Nat → Int32) (xl d : Nat) (a0 : Int32) (M : dp_M) : dp_den true xs xl (d + 1) 496 [.ref 114, .int a0] M = D_X12_putsWhole_0 xs xl d a0 M := rfl
set_option maxRecDepth 20000 in
theorem D_X12_putsWhole_0_eq (xs : Nat → Int32) (xl d : Nat) (v1 : Int32) (M : dp_M) : D_X12_putsWhole_0 xs xl d v1 M = dp_w (1 : Int32) (fun y1 => D_X12_putsWhole_2 xs xl d v1 y1 M) := by
  have hF := dp_den_grow (md := true) (xs := xs) (xl := xl) d
  unfold D_X12_putsWhole_0
  refine dp_s1 hF (i := .iconst 1) rfl (fun _ => rfl) ?_
  refine dp_s1w (1 : Int32) (fun (y1 : Int32) => (2, [some (.ref 114), some (.int v1), some (.int y1), none], [], M)) hF (i := .istore_n 2) rfl (fun _ => rfl) (fun y1 => ?_)
  exact rfl
set_option maxRecDepth 20000 in
theorem D_X12_putsWhole_2_eq (xs : Nat → Int32) (xl d : Nat) (v1 : Int32) (v2 : Int32) (M : dp_M) : D_X12_putsWhole_2 xs xl d v1 v2 M = if v2 = 0 then none else (if (v1 / v2) ≤ (9 : Int32) then (D_X12_putsWhole_20 xs xl d v1 v2 v2 M) else (dp_w (v2 * (10 : Int32)) (fun y1 => D_X12_putsWhole_2 xs xl d v1 y1 M))) := by
  have hF := dp_den_grow (md := true) (xs := xs) (xl := xl) d
  unfold D_X12_putsWhole_2
  refine dp_s1 hF (i := .iload_n 1) rfl (fun _ => rfl) ?_
  refine dp_s1 hF (i := .iload_n 2) rfl (fun _ => rfl) ?_
  refine dp_s3 hF (i := .idiv) rfl (fun _ => rfl) ?_
  refine dp_s1 hF (i := .bipush 9) rfl (fun _ => rfl) ?_
  refine dp_s2 hF (i := .if_icmp .le 11) (a := (18, [some (.ref 114), some (.int v1), some (.int v2), none], [], M)) (b := (10, [some (.ref 114), some (.int v1), some (.int v2), none], [], M)) rfl (fun _ => rfl) ?_ ?_
  · refine dp_s1 hF (i := .iload_n 2) rfl (fun _ => rfl) ?_
    refine dp_s1 hF (i := .istore_n 3) rfl (fun _ => rfl) ?_
    exact rfl
  refine dp_s1 hF (i := .iload_n 2) rfl (fun _ => rfl) ?_
  refine dp_s1 hF (i := .bipush 10) rfl (fun _ => rfl) ?_
  refine dp_s1 hF (i := .imul) rfl (fun _ => rfl) ?_
  refine dp_s1w (v2 * (10 : Int32)) (fun (y1 : Int32) => (15, [some (.ref 114), some (.int v1), some (.int y1), none], [], M)) hF (i := .istore_n 2) rfl (fun _ => rfl) (fun y1 => ?_)
  refine dp_s1 hF (i := .goto (-13)) rfl (fun _ => rfl) ?_
  exact rfl
set_option maxRecDepth 20000 in
theorem D_X12_putsWhole_20_eq (xs : Nat → Int32) (xl d : Nat) (v1 : Int32) (v2 : Int32) (v3 : Int32) (M : dp_M) : D_X12_putsWhole_20 xs xl d v1 v2 v3 M = if v3 ≤ 0 then (some (.inl none, M)) else (if v3 = 0 then none else (dp_bv (dp_den true xs xl d 495 [.ref 114, .int ((48 : Int32) + ((v1 / v3) - (v1 / v3) / (10 : Int32) * (10 : Int32)))] M) (fun M1 => dp_w (v3 / (10 : Int32)) (fun y2 => D_X12_putsWhole_20 xs xl d v1 v2 y2 M1)))) := by
  have hF := dp_den_grow (md := true) (xs := xs) (xl := xl) d
  unfold D_X12_putsWhole_20
  refine dp_s1 hF (i := .iload_n 3) rfl (fun _ => rfl) ?_
  refine dp_s2 hF (i := .ifCond .le 24) (a := (45, [some (.ref 114), some (.int v1), some (.int v2), some (.int v3)], [], M)) (b := (24, [some (.ref 114), some (.int v1), some (.int v2), some (.int v3)], [], M)) rfl (fun _ => rfl) ?_ ?_
  · exact dp_s0 hF (i := .return_) rfl (fun _ => rfl)
  refine dp_s1 hF (i := .aload_n 0) rfl (fun _ => rfl) ?_
  refine dp_s1 hF (i := .bipush 48) rfl (fun _ => rfl) ?_
  refine dp_s1 hF (i := .iload_n 1) rfl (fun _ => rfl) ?_
  refine dp_s1 hF (i := .iload_n 3) rfl (fun _ => rfl) ?_
  refine dp_s3 hF (i := .idiv) rfl (fun _ => rfl) ?_
  refine dp_s1 hF (i := .bipush 10) rfl (fun _ => rfl) ?_
  refine dp_s1 hF (i := .irem) rfl (fun _ => rfl) ?_
  refine dp_s1 hF (i := .iadd) rfl (fun _ => rfl) ?_
  refine dp_sv (mj := dp_m_X12_puts) (i := .invokevirtual 851) rfl rfl rfl rfl (fun _ => rfl) (fun M1 => ?_)
  refine dp_s1 hF (i := .iload_n 3) rfl (fun _ => rfl) ?_
  refine dp_s1 hF (i := .bipush 10) rfl (fun _ => rfl) ?_
  refine dp_s1 hF (i := .idiv) rfl (fun _ => rfl) ?_
  refine dp_s1w (v3 / (10 : Int32)) (fun (y2 : Int32) => (42, [some (.ref 114), some (.int v1), some (.int v2), some (.int y2)], [], M1)) hF (i := .istore_n 3) rfl (fun _ => rfl) (fun y2 => ?_)
  refine dp_s1 hF (i := .goto (-22)) rfl (fun _ => rfl) ?_
  exact rfl
noncomputable def D_X12_putsNumber_0 (xs : Nat → Int32) (xl d : Nat) (v1 : Int32) (M : dp_M) : Option dp_Res := dp_lim true xs xl (dp_den true xs xl d) dp_m_X12_putsNumber (0, [some (.ref 114), some (.int v1), none, none], [], M)
noncomputable def D_X12_putsNumber_28 (xs : Nat → Int32) (xl d : Nat) (v1 : Int32) (v2 : Int32) (v3 : Int32) (M : dp_M) : Option dp_Res := dp_lim true xs xl (dp_den true xs xl d) dp_m_X12_putsNumber (28, [some (.ref 114), some (.int v1), some (.int v2), some (.int v3)], [], M)
theorem D_X12_putsNumber_0_den (xs : Nat → Int32) (xl d : Nat) (a0 : Int32) (M : dp_M) : dp_den true xs xl (d + 1) 497 [.ref 114, .int a0] M = D_X12_putsNumber_0 xs xl d a0 M := rfl
set_option maxRecDepth 20000 in
theorem D_X12_putsNumber_0_eq (xs : Nat → Int32) (xl d : Nat) (v1 : Int32) (M : dp_M) : D_X12_putsNumber_0 xs xl d v1 M = dp_bv (dp_den true xs xl d 496 [.ref 114, .int (v1 / (1000 : Int32))] M) (fun M1 => dp_w (v1 - v1 / (1000 : Int32) * (1000 : Int32)) (fun y2 => if y2 ≤ 0 then (dp_w (100 : Int32) (fun y3 => D_X12_putsNumber_28 xs xl d v1 y2 y3 M1)) else (dp_bv (dp_den true xs xl d 495 [.ref 114, .int (46 : Int32)] M1) (fun M4 => dp_w (100 : Int32) (fun y5 => D_X12_putsNumber_28 xs xl d v1 y2 y5 M4))))) := by
  have hF := dp_den_grow (md := true) (xs := xs) (xl := xl) d
  unfold D_X12_putsNumber_0
  refine dp_s1 hF (i := .aload_n 0) rfl (fun _ => rfl) ?_
  refine dp_s1 hF (i := .iload_n 1) rfl (fun _ => rfl) ?_
  refine dp_s1 hF (i := .sipush 1000) rfl (fun _ => rfl) ?_
  refine dp_s1 hF (i := .idiv) rfl (fun _ => rfl) ?_
  refine dp_sv (mj := dp_m_X12_putsWhole) (i := .invokevirtual 854) rfl rfl rfl rfl (fun _ => rfl) (fun M1 => ?_)
  refine dp_s1 hF (i := .iload_n 1) rfl (fun _ => rfl) ?_
  refine dp_s1 hF (i := .sipush 1000) rfl (fun _ => rfl) ?_
  refine dp_s1 hF (i := .irem) rfl (fun _ => rfl) ?_
  refine dp_s1w (v1 - v1 / (1000 : Int32) * (1000 : Int32)) (fun (y2 : Int32) => (15, [some (.ref 114), some (.int v1), some (.int y2), none], [], M1)) hF (i := .istore_n 2) rfl (fun _ => rfl) (fun y2 => ?_)
  refine dp_s1 hF (i := .iload_n 2) rfl (fun _ => rfl) ?_
  refine dp_s2 hF (i := .ifCond .le 9) (a := (25, [some (.ref 114), some (.int v1), some (.int y2), none], [], M1)) (b := (19, [some (.ref 114), some (.int v1), some (.int y2), none], [], M1)) rfl (fun _ => rfl) ?_ ?_
  · refine dp_s1 hF (i := .bipush 100) rfl (fun _ => rfl) ?_
    refine dp_s1w (100 : Int32) (fun (y3 : Int32) => (28, [some (.ref 114), some (.int v1), some (.int y2), some (.int y3)], [], M1)) hF (i := .istore_n 3) rfl (fun _ => rfl) (fun y3 => ?_)
    exact rfl
  refine dp_s1 hF (i := .aload_n 0) rfl (fun _ => rfl) ?_
  refine dp_s1 hF (i := .bipush 46) rfl (fun _ => rfl) ?_
  refine dp_sv (mj := dp_m_X12_puts) (i := .invokevirtual 851) rfl rfl rfl rfl (fun _ => rfl) (fun M4 => ?_)
  refine dp_s1 hF (i := .bipush 100) rfl (fun _ => rfl) ?_
  refine dp_s1w (100 : Int32) (fun (y5 : Int32) => (28, [some (.ref 114), some (.int v1), some (.int y2), some (.int y5)], [], M4)) hF (i := .istore_n 3) rfl (fun _ => rfl) (fun y5 => ?_)
  exact rfl
set_option maxRecDepth 20000 in
theorem D_X12_putsNumber_28_eq (xs : Nat → Int32) (xl d : Nat) (v1 : Int32) (v2 : Int32) (v3 : Int32) (M : dp_M) : D_X12_putsNumber_28 xs xl d v1 v2 v3 M = if v3 ≤ 0 then (some (.inl none, M)) else (if v2 ≤ 0 then (some (.inl none, M)) else (if v3 = 0 then none else (dp_bv (dp_den true xs xl d 495 [.ref 114, .int ((48 : Int32) + (v2 / v3))] M) (fun M1 => if v3 = 0 then none else (dp_w (v2 - v2 / v3 * v3) (fun y2 => dp_w (v3 / (10 : Int32)) (fun y3 => D_X12_putsNumber_28 xs xl d v1 y2 y3 M1))))))) := by
  have hF := dp_den_grow (md := true) (xs := xs) (xl := xl) d
  unfold D_X12_putsNumber_28
  refine dp_s1 hF (i := .iload_n 3) rfl (fun _ => rfl) ?_
  refine dp_s2 hF (i := .ifCond .le 29) (a := (58, [some (.ref 114), some (.int v1), some (.int v2), some (.int v3)], [], M)) (b := (32, [some (.ref 114), some (.int v1), some (.int v2), some (.int v3)], [], M)) rfl (fun _ => rfl) ?_ ?_
  · exact dp_s0 hF (i := .return_) rfl (fun _ => rfl)
  refine dp_s1 hF (i := .iload_n 2) rfl (fun _ => rfl) ?_
  refine dp_s2 hF (i := .ifCond .le 25) (a := (58, [some (.ref 114), some (.int v1), some (.int v2), some (.int v3)], [], M)) (b := (36, [some (.ref 114), some (.int v1), some (.int v2), some (.int v3)], [], M)) rfl (fun _ => rfl) ?_ ?_
  · exact dp_s0 hF (i := .return_) rfl (fun _ => rfl)
  refine dp_s1 hF (i := .aload_n 0) rfl (fun _ => rfl) ?_
  refine dp_s1 hF (i := .bipush 48) rfl (fun _ => rfl) ?_
  refine dp_s1 hF (i := .iload_n 2) rfl (fun _ => rfl) ?_
  refine dp_s1 hF (i := .iload_n 3) rfl (fun _ => rfl) ?_
  refine dp_s3 hF (i := .idiv) rfl (fun _ => rfl) ?_
  refine dp_s1 hF (i := .iadd) rfl (fun _ => rfl) ?_
  refine dp_sv (mj := dp_m_X12_puts) (i := .invokevirtual 851) rfl rfl rfl rfl (fun _ => rfl) (fun M1 => ?_)
  refine dp_s1 hF (i := .iload_n 2) rfl (fun _ => rfl) ?_
  refine dp_s1 hF (i := .iload_n 3) rfl (fun _ => rfl) ?_
  refine dp_s3 hF (i := .irem) rfl (fun _ => rfl) ?_
  refine dp_s1w (v2 - v2 / v3 * v3) (fun (y2 : Int32) => (50, [some (.ref 114), some (.int v1), some (.int y2), some (.int v3)], [], M1)) hF (i := .istore_n 2) rfl (fun _ => rfl) (fun y2 => ?_)
  refine dp_s1 hF (i := .iload_n 3) rfl (fun _ => rfl) ?_
  refine dp_s1 hF (i := .bipush 10) rfl (fun _ => rfl) ?_
  refine dp_s1 hF (i := .idiv) rfl (fun _ => rfl) ?_
  refine dp_s1w (v3 / (10 : Int32)) (fun (y3 : Int32) => (55, [some (.ref 114), some (.int v1), some (.int y2), some (.int y3)], [], M1)) hF (i := .istore_n 3) rfl (fun _ => rfl) (fun y3 => ?_)
  refine dp_s1 hF (i := .goto (-27)) rfl (fun _ => rfl) ?_
  exact rfl
noncomputable def D_X12_putsWord_0 (xs : Nat → Int32) (xl d : Nat) (v1 : Int64) (M : dp_M) : Option dp_Res := dp_lim true xs xl (dp_den true xs xl d) dp_m_X12_putsWord (0, [some (.ref 114), some (.long v1), none, none], [], M)
noncomputable def D_X12_putsWord_3 (xs : Nat → Int32) (xl d : Nat) (v1 : Int64) (v3 : Int32) (M : dp_M) : Option dp_Res := dp_lim true xs xl (dp_den true xs xl d) dp_m_X12_putsWord (3, [some (.ref 114), some (.long v1), none, some (.int v3)], [], M)
theorem D_X12_putsWord_0_den (xs : Nat → Int32) (xl d : Nat) (a0 : Int64) (M : dp_M) : dp_den true xs xl (d + 1) 498 [.ref 114, .long a0] M = D_X12_putsWord_0 xs xl d a0 M := rfl
set_option maxRecDepth 20000 in
theorem D_X12_putsWord_0_eq (xs : Nat → Int32) (xl d : Nat) (v1 : Int64) (M : dp_M) : D_X12_putsWord_0 xs xl d v1 M = dp_w (56 : Int32) (fun y1 => D_X12_putsWord_3 xs xl d v1 y1 M) := by
  have hF := dp_den_grow (md := true) (xs := xs) (xl := xl) d
  unfold D_X12_putsWord_0
  refine dp_s1 hF (i := .bipush 56) rfl (fun _ => rfl) ?_
  refine dp_s1w (56 : Int32) (fun (y1 : Int32) => (3, [some (.ref 114), some (.long v1), none, some (.int y1)], [], M)) hF (i := .istore_n 3) rfl (fun _ => rfl) (fun y1 => ?_)
  exact rfl
set_option maxRecDepth 20000 in
theorem D_X12_putsWord_3_eq (xs : Nat → Int32) (xl d : Nat) (v1 : Int64) (v3 : Int32) (M : dp_M) : D_X12_putsWord_3 xs xl d v1 v3 M = if v3 < 0 then (some (.inl none, M)) else (if (lg_cmp (((Int64.toUInt64 v1 >>> ((Int32.toInt64 v3).toUInt64 &&& Int64.toUInt64 63)).toInt64) &&& (255 : Int64)) (0 : Int64)) = 0 then (dp_w (v3 + (-8 : Int32)) (fun y1 => D_X12_putsWord_3 xs xl d v1 y1 M)) else (dp_bv (dp_den true xs xl d 495 [.ref 114, .int (Int64.toInt32 (((Int64.toUInt64 v1 >>> ((Int32.toInt64 v3).toUInt64 &&& Int64.toUInt64 63)).toInt64) &&& (255 : Int64)))] M) (fun M2 => dp_w (v3 + (-8 : Int32)) (fun y3 => D_X12_putsWord_3 xs xl d v1 y3 M2)))) := by
  have hF := dp_den_grow (md := true) (xs := xs) (xl := xl) d
  unfold D_X12_putsWord_3
  refine dp_s1 hF (i := .iload_n 3) rfl (fun _ => rfl) ?_
  refine dp_s2 hF (i := .ifCond .lt 33) (a := (37, [some (.ref 114), some (.long v1), none, some (.int v3)], [], M)) (b := (7, [some (.ref 114), some (.long v1), none, some (.int v3)], [], M)) rfl (fun _ => rfl) ?_ ?_
  · exact dp_s0 hF (i := .return_) rfl (fun _ => rfl)
  refine dp_s1 hF (i := .lload_n 1) rfl (fun _ => rfl) ?_
  refine dp_s1 hF (i := .iload_n 3) rfl (fun _ => rfl) ?_
  refine dp_s1 hF (i := .lushr) rfl (fun _ => rfl) ?_
  refine dp_s1 hF (i := .ldc2_w 720) rfl (fun _ => rfl) ?_
  refine dp_s1 hF (i := .land) rfl (fun _ => rfl) ?_
  refine dp_s1 hF (i := .lconst 0) rfl (fun _ => rfl) ?_
  refine dp_s1 hF (i := .lcmp) rfl (fun _ => rfl) ?_
  refine dp_s2 hF (i := .ifCond .eq 15) (a := (31, [some (.ref 114), some (.long v1), none, some (.int v3)], [], M)) (b := (19, [some (.ref 114), some (.long v1), none, some (.int v3)], [], M)) rfl (fun _ => rfl) ?_ ?_
  · refine dp_s1w (v3 + (-8 : Int32)) (fun (y1 : Int32) => (34, [some (.ref 114), some (.long v1), none, some (.int y1)], [], M)) hF (i := .iinc 3 (-8)) rfl (fun _ => rfl) (fun y1 => ?_)
    refine dp_s1 hF (i := .goto (-31)) rfl (fun _ => rfl) ?_
    exact rfl
  refine dp_s1 hF (i := .aload_n 0) rfl (fun _ => rfl) ?_
  refine dp_s1 hF (i := .lload_n 1) rfl (fun _ => rfl) ?_
  refine dp_s1 hF (i := .iload_n 3) rfl (fun _ => rfl) ?_
  refine dp_s1 hF (i := .lushr) rfl (fun _ => rfl) ?_
  refine dp_s1 hF (i := .ldc2_w 720) rfl (fun _ => rfl) ?_
  refine dp_s1 hF (i := .land) rfl (fun _ => rfl) ?_
  refine dp_s1 hF (i := .l2i) rfl (fun _ => rfl) ?_
  refine dp_sv (mj := dp_m_X12_puts) (i := .invokevirtual 851) rfl rfl rfl rfl (fun _ => rfl) (fun M2 => ?_)
  refine dp_s1w (v3 + (-8 : Int32)) (fun (y3 : Int32) => (34, [some (.ref 114), some (.long v1), none, some (.int y3)], [], M2)) hF (i := .iinc 3 (-8)) rfl (fun _ => rfl) (fun y3 => ?_)
  refine dp_s1 hF (i := .goto (-31)) rfl (fun _ => rfl) ?_
  exact rfl
noncomputable def D_X12_putsLeaf_0 (xs : Nat → Int32) (xl d : Nat) (v1 : Int32) (M : dp_M) : Option dp_Res := dp_lim true xs xl (dp_den true xs xl d) dp_m_X12_putsLeaf (0, [some (.ref 114), some (.int v1), none], [], M)
noncomputable def D_X12_putsLeaf_112 (xs : Nat → Int32) (xl d : Nat) (v1 : Int32) (v2 : Int32) (M : dp_M) : Option dp_Res := dp_lim true xs xl (dp_den true xs xl d) dp_m_X12_putsLeaf (112, [some (.ref 114), some (.int v1), some (.int v2)], [], M)
noncomputable def D_X12_putsLeaf_136 (xs : Nat → Int32) (xl d : Nat) (v1 : Int32) (v2 : Int32) (vs0 : Int64) (M : dp_M) : Option dp_Res := dp_lim true xs xl (dp_den true xs xl d) dp_m_X12_putsLeaf (136, [some (.ref 114), some (.int v1), some (.int v2)], [.long vs0, .ref 114], M)
theorem D_X12_putsLeaf_0_den (xs : Nat → Int32) (xl d : Nat) (a0 : Int32) (M : dp_M) : dp_den true xs xl (d + 1) 499 [.ref 114, .int a0] M = D_X12_putsLeaf_0 xs xl d a0 M := rfl
set_option maxRecDepth 20000 in
theorem D_X12_putsLeaf_0_eq (xs : Nat → Int32) (xl d : Nat) (v1 : Int32) (M : dp_M) : D_X12_putsLeaf_0 xs xl d v1 M = if v1 < 0 ∨ 120 ≤ Int32.toNatClampNeg v1 then none else (if (dp_I M 174 (Int32.toNatClampNeg v1)) = (0 : Int32) then (dp_bv (dp_den true xs xl d 498 [.ref 114, .long (1718773093 : Int64)] M) (fun M4 => some (.inl none, M4))) else if (dp_I M 174 (Int32.toNatClampNeg v1)) = (1 : Int32) then (if v1 < 0 ∨ 120 ≤ Int32.toNatClampNeg v1 then none else (dp_bv (dp_den true xs xl d 497 [.ref 114, .int (dp_I M 175 (Int32.toNatClampNeg v1))] M) (fun M5 => dp_bv (dp_den true xs xl d 495 [.ref 114, .int (37 : Int32)] M5) (fun M6 => some (.inl none, M6))))) else if (dp_I M 174 (Int32.toNatClampNeg v1)) = (2 : Int32) then (if v1 < 0 ∨ 120 ≤ Int32.toNatClampNeg v1 then none else (dp_bv (dp_den true xs xl d 497 [.ref 114, .int (dp_I M 175 (Int32.toNatClampNeg v1))] M) (fun M7 => dp_bv (dp_den true xs xl d 495 [.ref 114, .int (47 : Int32)] M7) (fun M8 => if v1 < 0 ∨ 120 ≤ Int32.toNatClampNeg v1 then none else (dp_bv (dp_den true xs xl d 495 [.ref 114, .int ((65 : Int32) + (dp_I M8 176 (Int32.toNatClampNeg v1)))] M8) (fun M9 => some (.inl none, M9))))))) else (dp_bv (dp_den true xs xl d 498 [.ref 114, .long (495874043944 : Int64)] M) (fun M1 => if v1 < 0 ∨ 120 ≤ Int32.toNatClampNeg v1 then none else (dp_bv (dp_den true xs xl d 496 [.ref 114, .int (dp_I M1 175 (Int32.toNatClampNeg v1))] M1) (fun M2 => dp_w (0 : Int32) (fun y3 => D_X12_putsLeaf_112 xs xl d v1 y3 M2)))))) := by
  have hF := dp_den_grow (md := true) (xs := xs) (xl := xl) d
  unfold D_X12_putsLeaf_0
  refine dp_s1 hF (i := .aload_n 0) rfl (fun _ => rfl) ?_
  refine dp_s1 hF (i := .getfield 194) rfl (fun _ => rfl) ?_
  refine dp_s1 hF (i := .iload_n 1) rfl (fun _ => rfl) ?_
  refine dp_s3 hF (i := .iaload) rfl (fun _ => rfl) ?_
  refine (dp_s (E := fun k => if (dp_I M 174 (Int32.toNatClampNeg v1)) = (0 : Int32) then k (32, [some (.ref 114), some (.int v1), none], [], M) else if (dp_I M 174 (Int32.toNatClampNeg v1)) = (1 : Int32) then k (42, [some (.ref 114), some (.int v1), none], [], M) else if (dp_I M 174 (Int32.toNatClampNeg v1)) = (2 : Int32) then k (61, [some (.ref 114), some (.int v1), none], [], M) else k (93, [some (.ref 114), some (.int v1), none], [], M)) hF (i := .tableswitch 87 0 2 #[26, 36, 55]) rfl (fun _ => rfl)).trans ?_
  refine dp_ifc ?_ ?_
  · refine dp_s1 hF (i := .aload_n 0) rfl (fun _ => rfl) ?_
    refine dp_s1 hF (i := .ldc2_w 787) rfl (fun _ => rfl) ?_
    refine dp_sv (mj := dp_m_X12_putsWord) (i := .invokevirtual 857) rfl rfl rfl rfl (fun _ => rfl) (fun M4 => ?_)
    refine dp_s1 hF (i := .goto 148) rfl (fun _ => rfl) ?_
    exact dp_s0 hF (i := .return_) rfl (fun _ => rfl)
  refine dp_ifc ?_ ?_
  · refine dp_s1 hF (i := .aload_n 0) rfl (fun _ => rfl) ?_
    refine dp_s1 hF (i := .aload_n 0) rfl (fun _ => rfl) ?_
    refine dp_s1 hF (i := .getfield 197) rfl (fun _ => rfl) ?_
    refine dp_s1 hF (i := .iload_n 1) rfl (fun _ => rfl) ?_
    refine dp_s3 hF (i := .iaload) rfl (fun _ => rfl) ?_
    refine dp_sv (mj := dp_m_X12_putsNumber) (i := .invokevirtual 861) rfl rfl rfl rfl (fun _ => rfl) (fun M5 => ?_)
    refine dp_s1 hF (i := .aload_n 0) rfl (fun _ => rfl) ?_
    refine dp_s1 hF (i := .bipush 37) rfl (fun _ => rfl) ?_
    refine dp_sv (mj := dp_m_X12_puts) (i := .invokevirtual 851) rfl rfl rfl rfl (fun _ => rfl) (fun M6 => ?_)
    refine dp_s1 hF (i := .goto 129) rfl (fun _ => rfl) ?_
    exact dp_s0 hF (i := .return_) rfl (fun _ => rfl)
  refine dp_ifc ?_ ?_
  · refine dp_s1 hF (i := .aload_n 0) rfl (fun _ => rfl) ?_
    refine dp_s1 hF (i := .aload_n 0) rfl (fun _ => rfl) ?_
    refine dp_s1 hF (i := .getfield 197) rfl (fun _ => rfl) ?_
    refine dp_s1 hF (i := .iload_n 1) rfl (fun _ => rfl) ?_
    refine dp_s3 hF (i := .iaload) rfl (fun _ => rfl) ?_
    refine dp_sv (mj := dp_m_X12_putsNumber) (i := .invokevirtual 861) rfl rfl rfl rfl (fun _ => rfl) (fun M7 => ?_)
    refine dp_s1 hF (i := .aload_n 0) rfl (fun _ => rfl) ?_
    refine dp_s1 hF (i := .bipush 47) rfl (fun _ => rfl) ?_
    refine dp_sv (mj := dp_m_X12_puts) (i := .invokevirtual 851) rfl rfl rfl rfl (fun _ => rfl) (fun M8 => ?_)
    refine dp_s1 hF (i := .aload_n 0) rfl (fun _ => rfl) ?_
    refine dp_s1 hF (i := .bipush 65) rfl (fun _ => rfl) ?_
    refine dp_s1 hF (i := .aload_n 0) rfl (fun _ => rfl) ?_
    refine dp_s1 hF (i := .getfield 200) rfl (fun _ => rfl) ?_
    refine dp_s1 hF (i := .iload_n 1) rfl (fun _ => rfl) ?_
    refine dp_s3 hF (i := .iaload) rfl (fun _ => rfl) ?_
    refine dp_s1 hF (i := .iadd) rfl (fun _ => rfl) ?_
    refine dp_sv (mj := dp_m_X12_puts) (i := .invokevirtual 851) rfl rfl rfl rfl (fun _ => rfl) (fun M9 => ?_)
    refine dp_s1 hF (i := .goto 97) rfl (fun _ => rfl) ?_
    exact dp_s0 hF (i := .return_) rfl (fun _ => rfl)
  refine dp_s1 hF (i := .aload_n 0) rfl (fun _ => rfl) ?_
  refine dp_s1 hF (i := .ldc2_w 864) rfl (fun _ => rfl) ?_
  refine dp_sv (mj := dp_m_X12_putsWord) (i := .invokevirtual 857) rfl rfl rfl rfl (fun _ => rfl) (fun M1 => ?_)
  refine dp_s1 hF (i := .aload_n 0) rfl (fun _ => rfl) ?_
  refine dp_s1 hF (i := .aload_n 0) rfl (fun _ => rfl) ?_
  refine dp_s1 hF (i := .getfield 197) rfl (fun _ => rfl) ?_
  refine dp_s1 hF (i := .iload_n 1) rfl (fun _ => rfl) ?_
  refine dp_s3 hF (i := .iaload) rfl (fun _ => rfl) ?_
  refine dp_sv (mj := dp_m_X12_putsWhole) (i := .invokevirtual 854) rfl rfl rfl rfl (fun _ => rfl) (fun M2 => ?_)
  refine dp_s1 hF (i := .iconst 0) rfl (fun _ => rfl) ?_
  refine dp_s1w (0 : Int32) (fun (y3 : Int32) => (112, [some (.ref 114), some (.int v1), some (.int y3)], [], M2)) hF (i := .istore_n 2) rfl (fun _ => rfl) (fun y3 => ?_)
  exact rfl
set_option maxRecDepth 20000 in
theorem D_X12_putsLeaf_112_eq (xs : Nat → Int32) (xl d : Nat) (v1 : Int32) (v2 : Int32) (M : dp_M) : D_X12_putsLeaf_112 xs xl d v1 v2 M = if v1 < 0 ∨ 120 ≤ Int32.toNatClampNeg v1 then none else (if (dp_I M 179 (Int32.toNatClampNeg v1)) ≤ v2 then (dp_bv (dp_den true xs xl d 495 [.ref 114, .int (41 : Int32)] M) (fun M1 => some (.inl none, M1))) else (if v2 = 0 then (D_X12_putsLeaf_136 xs xl d v1 v2 (14880 : Int64) M) else (D_X12_putsLeaf_136 xs xl d v1 v2 (11296 : Int64) M))) := by
  have hF := dp_den_grow (md := true) (xs := xs) (xl := xl) d
  unfold D_X12_putsLeaf_112
  refine dp_s1 hF (i := .iload_n 2) rfl (fun _ => rfl) ?_
  refine dp_s1 hF (i := .aload_n 0) rfl (fun _ => rfl) ?_
  refine dp_s1 hF (i := .getfield 209) rfl (fun _ => rfl) ?_
  refine dp_s1 hF (i := .iload_n 1) rfl (fun _ => rfl) ?_
  refine dp_s3 hF (i := .iaload) rfl (fun _ => rfl) ?_
  refine dp_s2 hF (i := .if_icmp .ge 62) (a := (181, [some (.ref 114), some (.int v1), some (.int v2)], [], M)) (b := (122, [some (.ref 114), some (.int v1), some (.int v2)], [], M)) rfl (fun _ => rfl) ?_ ?_
  · refine dp_s1 hF (i := .aload_n 0) rfl (fun _ => rfl) ?_
    refine dp_s1 hF (i := .bipush 41) rfl (fun _ => rfl) ?_
    refine dp_sv (mj := dp_m_X12_puts) (i := .invokevirtual 851) rfl rfl rfl rfl (fun _ => rfl) (fun M1 => ?_)
    exact dp_s0 hF (i := .return_) rfl (fun _ => rfl)
  refine dp_s1 hF (i := .aload_n 0) rfl (fun _ => rfl) ?_
  refine dp_s1 hF (i := .iload_n 2) rfl (fun _ => rfl) ?_
  refine dp_s2 hF (i := .ifCond .ne 9) (a := (127, [some (.ref 114), some (.int v1), some (.int v2)], [.ref 114], M)) (b := (133, [some (.ref 114), some (.int v1), some (.int v2)], [.ref 114], M)) rfl (fun _ => rfl) ?_ ?_
  · refine dp_s1 hF (i := .ldc2_w 866) rfl (fun _ => rfl) ?_
    refine dp_s1 hF (i := .goto 6) rfl (fun _ => rfl) ?_
    exact rfl
  refine dp_s1 hF (i := .ldc2_w 868) rfl (fun _ => rfl) ?_
  exact rfl
set_option maxRecDepth 20000 in
theorem D_X12_putsLeaf_136_eq (xs : Nat → Int32) (xl d : Nat) (v1 : Int32) (v2 : Int32) (vs0 : Int64) (M : dp_M) : D_X12_putsLeaf_136 xs xl d v1 v2 vs0 M = dp_bv (dp_den true xs xl d 498 [.ref 114, .long vs0] M) (fun M1 => if (((6 : Int32) * v1) + v2) < 0 ∨ 720 ≤ Int32.toNatClampNeg (((6 : Int32) * v1) + v2) then none else (dp_bv (dp_den true xs xl d 496 [.ref 114, .int (dp_I M1 180 (Int32.toNatClampNeg (((6 : Int32) * v1) + v2)))] M1) (fun M2 => dp_bv (dp_den true xs xl d 495 [.ref 114, .int (61 : Int32)] M2) (fun M3 => if (((6 : Int32) * v1) + v2) < 0 ∨ 720 ≤ Int32.toNatClampNeg (((6 : Int32) * v1) + v2) then none else (dp_bv (dp_den true xs xl d 496 [.ref 114, .int (dp_I M3 181 (Int32.toNatClampNeg (((6 : Int32) * v1) + v2)))] M3) (fun M4 => dp_w (v2 + (1 : Int32)) (fun y5 => D_X12_putsLeaf_112 xs xl d v1 y5 M4))))))) := by
  have hF := dp_den_grow (md := true) (xs := xs) (xl := xl) d
  unfold D_X12_putsLeaf_136
  refine dp_sv (mj := dp_m_X12_putsWord) (i := .invokevirtual 857) rfl rfl rfl rfl (fun _ => rfl) (fun M1 => ?_)
  refine dp_s1 hF (i := .aload_n 0) rfl (fun _ => rfl) ?_
  refine dp_s1 hF (i := .aload_n 0) rfl (fun _ => rfl) ?_
  refine dp_s1 hF (i := .getfield 212) rfl (fun _ => rfl) ?_
  refine dp_s1 hF (i := .bipush 6) rfl (fun _ => rfl) ?_
  refine dp_s1 hF (i := .iload_n 1) rfl (fun _ => rfl) ?_
  refine dp_s1 hF (i := .imul) rfl (fun _ => rfl) ?_
  refine dp_s1 hF (i := .iload_n 2) rfl (fun _ => rfl) ?_
  refine dp_s1 hF (i := .iadd) rfl (fun _ => rfl) ?_
  refine dp_s3 hF (i := .iaload) rfl (fun _ => rfl) ?_
  refine dp_sv (mj := dp_m_X12_putsWhole) (i := .invokevirtual 854) rfl rfl rfl rfl (fun _ => rfl) (fun M2 => ?_)
  refine dp_s1 hF (i := .aload_n 0) rfl (fun _ => rfl) ?_
  refine dp_s1 hF (i := .bipush 61) rfl (fun _ => rfl) ?_
  refine dp_sv (mj := dp_m_X12_puts) (i := .invokevirtual 851) rfl rfl rfl rfl (fun _ => rfl) (fun M3 => ?_)
  refine dp_s1 hF (i := .aload_n 0) rfl (fun _ => rfl) ?_
  refine dp_s1 hF (i := .aload_n 0) rfl (fun _ => rfl) ?_
  refine dp_s1 hF (i := .getfield 215) rfl (fun _ => rfl) ?_
  refine dp_s1 hF (i := .bipush 6) rfl (fun _ => rfl) ?_
  refine dp_s1 hF (i := .iload_n 1) rfl (fun _ => rfl) ?_
  refine dp_s1 hF (i := .imul) rfl (fun _ => rfl) ?_
  refine dp_s1 hF (i := .iload_n 2) rfl (fun _ => rfl) ?_
  refine dp_s1 hF (i := .iadd) rfl (fun _ => rfl) ?_
  refine dp_s3 hF (i := .iaload) rfl (fun _ => rfl) ?_
  refine dp_sv (mj := dp_m_X12_putsWhole) (i := .invokevirtual 854) rfl rfl rfl rfl (fun _ => rfl) (fun M4 => ?_)
  refine dp_s1w (v2 + (1 : Int32)) (fun (y5 : Int32) => (178, [some (.ref 114), some (.int v1), some (.int y5)], [], M4)) hF (i := .iinc 2 1) rfl (fun _ => rfl) (fun y5 => ?_)
  refine dp_s1 hF (i := .goto (-66)) rfl (fun _ => rfl) ?_
  exact rfl
noncomputable def D_X12_piles_0 (xs : Nat → Int32) (xl d : Nat) (v1 : Int32) (v2 : Int32) (M : dp_M) : Option dp_Res := dp_lim true xs xl (dp_den true xs xl d) dp_m_X12_piles (0, [some (.ref 114), some (.int v1), some (.int v2)], [], M)
theorem D_X12_piles_0_den (xs : Nat → Int32) (xl d : Nat) (a0 : Int32) (a1 : Int32) (M : dp_M) : dp_den true xs xl (d + 1) 500 [.ref 114, .int a0, .int a1] M = D_X12_piles_0 xs xl d a0 a1 M := rfl
set_option maxRecDepth 20000 in
theorem D_X12_piles_0_eq (xs : Nat → Int32) (xl d : Nat) (v1 : Int32) (v2 : Int32) (M : dp_M) : D_X12_piles_0 xs xl d v1 v2 M = if v1 < 0 ∨ 400 ≤ Int32.toNatClampNeg v1 then none else dp_w (dp_setI M 186 (Int32.toNatClampNeg v1) v2) (fun M1 => some (.inl (some (.int (v1 + (1 : Int32)))), M1)) := by
  have hF := dp_den_grow (md := true) (xs := xs) (xl := xl) d
  unfold D_X12_piles_0
  refine dp_s1 hF (i := .aload_n 0) rfl (fun _ => rfl) ?_
  refine dp_s1 hF (i := .getfield 230) rfl (fun _ => rfl) ?_
  refine dp_s1 hF (i := .iload_n 1) rfl (fun _ => rfl) ?_
  refine dp_s1 hF (i := .iload_n 2) rfl (fun _ => rfl) ?_
  refine dp_s3w (dp_setI M 186 (Int32.toNatClampNeg v1) v2) (fun (M1 : dp_M) => (7, [some (.ref 114), some (.int v1), some (.int v2)], [], M1)) hF (i := .iastore) rfl (fun _ => rfl) (fun M1 => ?_)
  refine dp_s1 hF (i := .iload_n 1) rfl (fun _ => rfl) ?_
  refine dp_s1 hF (i := .iconst 1) rfl (fun _ => rfl) ?_
  refine dp_s1 hF (i := .iadd) rfl (fun _ => rfl) ?_
  exact dp_s0 hF (i := .ireturn) rfl (fun _ => rfl)
noncomputable def D_X12_putsTwo_0 (xs : Nat → Int32) (xl d : Nat) (v1 : Int32) (v2 : Int32) (M : dp_M) : Option dp_Res := dp_lim true xs xl (dp_den true xs xl d) dp_m_X12_putsTwo (0, [some (.ref 114), some (.int v1), some (.int v2), none, none, none, none, none], [], M)
noncomputable def D_X12_putsTwo_31 (xs : Nat → Int32) (xl d : Nat) (v1 : Int32) (v2 : Int32) (v3 : Int32) (v4 : Int32) (vs0 : Int32) (M : dp_M) : Option dp_Res := dp_lim true xs xl (dp_den true xs xl d) dp_m_X12_putsTwo (31, [some (.ref 114), some (.int v1), some (.int v2), some (.int v3), some (.int v4), none, none, none], [.int vs0], M)
noncomputable def D_X12_putsTwo_71 (xs : Nat → Int32) (xl d : Nat) (v1 : Int32) (v2 : Int32) (v3 : Int32) (v4 : Int32) (v5 : Int32) (vs0 : Int32) (M : dp_M) : Option dp_Res := dp_lim true xs xl (dp_den true xs xl d) dp_m_X12_putsTwo (71, [some (.ref 114), some (.int v1), some (.int v2), some (.int v3), some (.int v4), some (.int v5), none, none], [.int vs0], M)
noncomputable def D_X12_putsTwo_112 (xs : Nat → Int32) (xl d : Nat) (v1 : Int32) (v2 : Int32) (v3 : Int32) (v4 : Int32) (v5 : Int32) (v6 : Int32) (vs0 : Int32) (M : dp_M) : Option dp_Res := dp_lim true xs xl (dp_den true xs xl d) dp_m_X12_putsTwo (112, [some (.ref 114), some (.int v1), some (.int v2), some (.int v3), some (.int v4), some (.int v5), some (.int v6), none], [.int vs0], M)
noncomputable def D_X12_putsTwo_147 (xs : Nat → Int32) (xl d : Nat) (v1 : Int32) (v2 : Int32) (v3 : Int32) (v4 : Int32) (v5 : Int32) (v6 : Int32) (v7 : Int32) (vs0 : Int32) (M : dp_M) : Option dp_Res := dp_lim true xs xl (dp_den true xs xl d) dp_m_X12_putsTwo (147, [some (.ref 114), some (.int v1), some (.int v2), some (.int v3), some (.int v4), some (.int v5), some (.int v6), some (.int v7)], [.int vs0], M)
noncomputable def D_X12_putsTwo_185 (xs : Nat → Int32) (xl d : Nat) (v1 : Int32) (v2 : Int32) (v3 : Int32) (v4 : Int32) (v5 : Int32) (v6 : Int32) (v7 : Int32) (vs0 : Int32) (vs1 : Int32) (vs2 : Int32) (M : dp_M) : Option dp_Res := dp_lim true xs xl (dp_den true xs xl d) dp_m_X12_putsTwo (185, [some (.ref 114), some (.int v1), some (.int v2), some (.int v3), some (.int v4), some (.int v5), some (.int v6), some (.int v7)], [.int vs0, .int vs1, .int vs2, .ref 114], M)
theorem D_X12_putsTwo_0_den (xs : Nat → Int32) (xl d : Nat) (a0 : Int32) (a1 : Int32) (M : dp_M) : dp_den true xs xl (d + 1) 501 [.ref 114, .int a0, .int a1] M = D_X12_putsTwo_0 xs xl d a0 a1 M := rfl
set_option maxRecDepth 20000 in
theorem D_X12_putsTwo_0_eq (xs : Nat → Int32) (xl d : Nat) (v1 : Int32) (v2 : Int32) (M : dp_M) : D_X12_putsTwo_0 xs xl d v1 v2 M = if v1 < 0 ∨ 120 ≤ Int32.toNatClampNeg v1 then none else (dp_w (dp_I M 174 (Int32.toNatClampNeg v1)) (fun y1 => if v1 < 0 ∨ 120 ≤ Int32.toNatClampNeg v1 then none else (dp_w (dp_I M 178 (Int32.toNatClampNeg v1)) (fun y2 => if y1 = (5 : Int32) then (D_X12_putsTwo_31 xs xl d v1 v2 y1 y2 (1 : Int32) M) else (if y1 = (6 : Int32) then (D_X12_putsTwo_31 xs xl d v1 v2 y1 y2 (1 : Int32) M) else (D_X12_putsTwo_31 xs xl d v1 v2 y1 y2 (0 : Int32) M)))))) := by
  have hF := dp_den_grow (md := true) (xs := xs) (xl := xl) d
  unfold D_X12_putsTwo_0
  refine dp_s1 hF (i := .aload_n 0) rfl (fun _ => rfl) ?_
  refine dp_s1 hF (i := .getfield 194) rfl (fun _ => rfl) ?_
  refine dp_s1 hF (i := .iload_n 1) rfl (fun _ => rfl) ?_
  refine dp_s3 hF (i := .iaload) rfl (fun _ => rfl) ?_
  refine dp_s1w (dp_I M 174 (Int32.toNatClampNeg v1)) (fun (y1 : Int32) => (7, [some (.ref 114), some (.int v1), some (.int v2), some (.int y1), none, none, none, none], [], M)) hF (i := .istore_n 3) rfl (fun _ => rfl) (fun y1 => ?_)
  refine dp_s1 hF (i := .aload_n 0) rfl (fun _ => rfl) ?_
  refine dp_s1 hF (i := .getfield 206) rfl (fun _ => rfl) ?_
  refine dp_s1 hF (i := .iload_n 1) rfl (fun _ => rfl) ?_
  refine dp_s3 hF (i := .iaload) rfl (fun _ => rfl) ?_
  refine dp_s1w (dp_I M 178 (Int32.toNatClampNeg v1)) (fun (y2 : Int32) => (15, [some (.ref 114), some (.int v1), some (.int v2), some (.int y1), some (.int y2), none, none, none], [], M)) hF (i := .istore 4) rfl (fun _ => rfl) (fun y2 => ?_)
  refine dp_s1 hF (i := .iload_n 3) rfl (fun _ => rfl) ?_
  refine dp_s1 hF (i := .iconst 5) rfl (fun _ => rfl) ?_
  refine dp_s2 hF (i := .if_icmp .eq 9) (a := (26, [some (.ref 114), some (.int v1), some (.int v2), some (.int y1), some (.int y2), none, none, none], [], M)) (b := (20, [some (.ref 114), some (.int v1), some (.int v2), some (.int y1), some (.int y2), none, none, none], [], M)) rfl (fun _ => rfl) ?_ ?_
  · refine dp_s1 hF (i := .iconst 1) rfl (fun _ => rfl) ?_
    refine dp_s1 hF (i := .goto 4) rfl (fun _ => rfl) ?_
    exact rfl
  refine dp_s1 hF (i := .iload_n 3) rfl (fun _ => rfl) ?_
  refine dp_s1 hF (i := .bipush 6) rfl (fun _ => rfl) ?_
  refine dp_s2 hF (i := .if_icmp .ne 7) (a := (26, [some (.ref 114), some (.int v1), some (.int v2), some (.int y1), some (.int y2), none, none, none], [], M)) (b := (30, [some (.ref 114), some (.int v1), some (.int v2), some (.int y1), some (.int y2), none, none, none], [], M)) rfl (fun _ => rfl) ?_ ?_
  · refine dp_s1 hF (i := .iconst 1) rfl (fun _ => rfl) ?_
    refine dp_s1 hF (i := .goto 4) rfl (fun _ => rfl) ?_
    exact rfl
  refine dp_s1 hF (i := .iconst 0) rfl (fun _ => rfl) ?_
  exact rfl
set_option maxRecDepth 20000 in
theorem D_X12_putsTwo_31_eq (xs : Nat → Int32) (xl d : Nat) (v1 : Int32) (v2 : Int32) (v3 : Int32) (v4 : Int32) (vs0 : Int32) (M : dp_M) : D_X12_putsTwo_31 xs xl d v1 v2 v3 v4 vs0 M = if vs0 = 0 then (if ((60 : Int32) + v4) < 0 ∨ 120 ≤ Int32.toNatClampNeg ((60 : Int32) + v4) then none else (if (dp_I M 174 (Int32.toNatClampNeg ((60 : Int32) + v4))) = (3 : Int32) then (D_X12_putsTwo_71 xs xl d v1 v2 v3 v4 vs0 (1 : Int32) M) else (if ((60 : Int32) + v4) < 0 ∨ 120 ≤ Int32.toNatClampNeg ((60 : Int32) + v4) then none else (if (dp_I M 174 (Int32.toNatClampNeg ((60 : Int32) + v4))) = (4 : Int32) then (D_X12_putsTwo_71 xs xl d v1 v2 v3 v4 vs0 (1 : Int32) M) else (D_X12_putsTwo_71 xs xl d v1 v2 v3 v4 vs0 (0 : Int32) M))))) else (D_X12_putsTwo_71 xs xl d v1 v2 v3 v4 vs0 (1 : Int32) M) := by
  have hF := dp_den_grow (md := true) (xs := xs) (xl := xl) d
  unfold D_X12_putsTwo_31
  refine dp_s1 hF (i := .istore 5) rfl (fun _ => rfl) ?_
  refine dp_s1 hF (i := .iload 5) rfl (fun _ => rfl) ?_
  refine dp_s2 hF (i := .ifCond .ne 31) (a := (38, [some (.ref 114), some (.int v1), some (.int v2), some (.int v3), some (.int v4), some (.int vs0), none, none], [], M)) (b := (66, [some (.ref 114), some (.int v1), some (.int v2), some (.int v3), some (.int v4), some (.int vs0), none, none], [], M)) rfl (fun _ => rfl) ?_ ?_
  · refine dp_s1 hF (i := .aload_n 0) rfl (fun _ => rfl) ?_
    refine dp_s1 hF (i := .getfield 194) rfl (fun _ => rfl) ?_
    refine dp_s1 hF (i := .bipush 60) rfl (fun _ => rfl) ?_
    refine dp_s1 hF (i := .iload 4) rfl (fun _ => rfl) ?_
    refine dp_s1 hF (i := .iadd) rfl (fun _ => rfl) ?_
    refine dp_s3 hF (i := .iaload) rfl (fun _ => rfl) ?_
    refine dp_s1 hF (i := .iconst 3) rfl (fun _ => rfl) ?_
    refine dp_s2 hF (i := .if_icmp .eq 17) (a := (66, [some (.ref 114), some (.int v1), some (.int v2), some (.int v3), some (.int v4), some (.int vs0), none, none], [], M)) (b := (52, [some (.ref 114), some (.int v1), some (.int v2), some (.int v3), some (.int v4), some (.int vs0), none, none], [], M)) rfl (fun _ => rfl) ?_ ?_
    · refine dp_s1 hF (i := .iconst 1) rfl (fun _ => rfl) ?_
      refine dp_s1 hF (i := .goto 4) rfl (fun _ => rfl) ?_
      exact rfl
    refine dp_s1 hF (i := .aload_n 0) rfl (fun _ => rfl) ?_
    refine dp_s1 hF (i := .getfield 194) rfl (fun _ => rfl) ?_
    refine dp_s1 hF (i := .bipush 60) rfl (fun _ => rfl) ?_
    refine dp_s1 hF (i := .iload 4) rfl (fun _ => rfl) ?_
    refine dp_s1 hF (i := .iadd) rfl (fun _ => rfl) ?_
    refine dp_s3 hF (i := .iaload) rfl (fun _ => rfl) ?_
    refine dp_s1 hF (i := .iconst 4) rfl (fun _ => rfl) ?_
    refine dp_s2 hF (i := .if_icmp .ne 7) (a := (66, [some (.ref 114), some (.int v1), some (.int v2), some (.int v3), some (.int v4), some (.int vs0), none, none], [], M)) (b := (70, [some (.ref 114), some (.int v1), some (.int v2), some (.int v3), some (.int v4), some (.int vs0), none, none], [], M)) rfl (fun _ => rfl) ?_ ?_
    · refine dp_s1 hF (i := .iconst 1) rfl (fun _ => rfl) ?_
      refine dp_s1 hF (i := .goto 4) rfl (fun _ => rfl) ?_
      exact rfl
    refine dp_s1 hF (i := .iconst 0) rfl (fun _ => rfl) ?_
    exact rfl
  refine dp_s1 hF (i := .iconst 1) rfl (fun _ => rfl) ?_
  refine dp_s1 hF (i := .goto 4) rfl (fun _ => rfl) ?_
  exact rfl
set_option maxRecDepth 20000 in
theorem D_X12_putsTwo_71_eq (xs : Nat → Int32) (xl d : Nat) (v1 : Int32) (v2 : Int32) (v3 : Int32) (v4 : Int32) (v5 : Int32) (vs0 : Int32) (M : dp_M) : D_X12_putsTwo_71 xs xl d v1 v2 v3 v4 v5 vs0 M = if v5 = 0 then (if vs0 = 0 then (D_X12_putsTwo_112 xs xl d v1 v2 v3 v4 v5 vs0 v2 M) else (dp_bi (dp_den true xs xl d 500 [.ref 114, .int v2, .int (-42 : Int32)] M) (fun r2 M1 => D_X12_putsTwo_112 xs xl d v1 v2 v3 v4 v5 vs0 r2 M1))) else (if v3 = (5 : Int32) then (dp_bv (dp_den true xs xl d 498 [.ref 114, .long (1835626024 : Int64)] M) (fun M3 => if vs0 = 0 then (D_X12_putsTwo_112 xs xl d v1 v2 v3 v4 v5 vs0 v2 M3) else (dp_bi (dp_den true xs xl d 500 [.ref 114, .int v2, .int (-42 : Int32)] M3) (fun r5 M4 => D_X12_putsTwo_112 xs xl d v1 v2 v3 v4 v5 vs0 r5 M4)))) else (dp_bv (dp_den true xs xl d 498 [.ref 114, .long (1835104296 : Int64)] M) (fun M6 => if vs0 = 0 then (D_X12_putsTwo_112 xs xl d v1 v2 v3 v4 v5 vs0 v2 M6) else (dp_bi (dp_den true xs xl d 500 [.ref 114, .int v2, .int (-42 : Int32)] M6) (fun r8 M7 => D_X12_putsTwo_112 xs xl d v1 v2 v3 v4 v5 vs0 r8 M7))))) := by
  have hF := dp_den_grow (md := true) (xs := xs) (xl := xl) d
  unfold D_X12_putsTwo_71
  refine dp_s1 hF (i := .istore 6) rfl (fun _ => rfl) ?_
  refine dp_s1 hF (i := .iload 5) rfl (fun _ => rfl) ?_
  refine dp_s2 hF (i := .ifCond .eq 21) (a := (96, [some (.ref 114), some (.int v1), some (.int v2), some (.int v3), some (.int v4), some (.int v5), some (.int vs0), none], [], M)) (b := (78, [some (.ref 114), some (.int v1), some (.int v2), some (.int v3), some (.int v4), some (.int v5), some (.int vs0), none], [], M)) rfl (fun _ => rfl) ?_ ?_
  · refine dp_s1 hF (i := .iload 6) rfl (fun _ => rfl) ?_
    refine dp_s2 hF (i := .ifCond .eq 13) (a := (111, [some (.ref 114), some (.int v1), some (.int v2), some (.int v3), some (.int v4), some (.int v5), some (.int vs0), none], [], M)) (b := (101, [some (.ref 114), some (.int v1), some (.int v2), some (.int v3), some (.int v4), some (.int v5), some (.int vs0), none], [], M)) rfl (fun _ => rfl) ?_ ?_
    · refine dp_s1 hF (i := .iload_n 2) rfl (fun _ => rfl) ?_
      exact rfl
    refine dp_s1 hF (i := .aload_n 0) rfl (fun _ => rfl) ?_
    refine dp_s1 hF (i := .iload_n 2) rfl (fun _ => rfl) ?_
    refine dp_s1 hF (i := .bipush (-42)) rfl (fun _ => rfl) ?_
    refine dp_si (mj := dp_m_X12_piles) (i := .invokevirtual 874) rfl rfl (Or.inl rfl) rfl (fun _ => rfl) (fun r2 M1 => ?_)
    refine dp_s1 hF (i := .goto 4) rfl (fun _ => rfl) ?_
    exact rfl
  refine dp_s1 hF (i := .aload_n 0) rfl (fun _ => rfl) ?_
  refine dp_s1 hF (i := .iload_n 3) rfl (fun _ => rfl) ?_
  refine dp_s1 hF (i := .iconst 5) rfl (fun _ => rfl) ?_
  refine dp_s2 hF (i := .if_icmp .ne 9) (a := (84, [some (.ref 114), some (.int v1), some (.int v2), some (.int v3), some (.int v4), some (.int v5), some (.int vs0), none], [.ref 114], M)) (b := (90, [some (.ref 114), some (.int v1), some (.int v2), some (.int v3), some (.int v4), some (.int v5), some (.int vs0), none], [.ref 114], M)) rfl (fun _ => rfl) ?_ ?_
  · refine dp_s1 hF (i := .ldc2_w 870) rfl (fun _ => rfl) ?_
    refine dp_s1 hF (i := .goto 6) rfl (fun _ => rfl) ?_
    refine dp_sv (mj := dp_m_X12_putsWord) (i := .invokevirtual 857) rfl rfl rfl rfl (fun _ => rfl) (fun M3 => ?_)
    refine dp_s1 hF (i := .iload 6) rfl (fun _ => rfl) ?_
    refine dp_s2 hF (i := .ifCond .eq 13) (a := (111, [some (.ref 114), some (.int v1), some (.int v2), some (.int v3), some (.int v4), some (.int v5), some (.int vs0), none], [], M3)) (b := (101, [some (.ref 114), some (.int v1), some (.int v2), some (.int v3), some (.int v4), some (.int v5), some (.int vs0), none], [], M3)) rfl (fun _ => rfl) ?_ ?_
    · refine dp_s1 hF (i := .iload_n 2) rfl (fun _ => rfl) ?_
      exact rfl
    refine dp_s1 hF (i := .aload_n 0) rfl (fun _ => rfl) ?_
    refine dp_s1 hF (i := .iload_n 2) rfl (fun _ => rfl) ?_
    refine dp_s1 hF (i := .bipush (-42)) rfl (fun _ => rfl) ?_
    refine dp_si (mj := dp_m_X12_piles) (i := .invokevirtual 874) rfl rfl (Or.inl rfl) rfl (fun _ => rfl) (fun r5 M4 => ?_)
    refine dp_s1 hF (i := .goto 4) rfl (fun _ => rfl) ?_
    exact rfl
  refine dp_s1 hF (i := .ldc2_w 872) rfl (fun _ => rfl) ?_
  refine dp_sv (mj := dp_m_X12_putsWord) (i := .invokevirtual 857) rfl rfl rfl rfl (fun _ => rfl) (fun M6 => ?_)
  refine dp_s1 hF (i := .iload 6) rfl (fun _ => rfl) ?_
  refine dp_s2 hF (i := .ifCond .eq 13) (a := (111, [some (.ref 114), some (.int v1), some (.int v2), some (.int v3), some (.int v4), some (.int v5), some (.int vs0), none], [], M6)) (b := (101, [some (.ref 114), some (.int v1), some (.int v2), some (.int v3), some (.int v4), some (.int v5), some (.int vs0), none], [], M6)) rfl (fun _ => rfl) ?_ ?_
  · refine dp_s1 hF (i := .iload_n 2) rfl (fun _ => rfl) ?_
    exact rfl
  refine dp_s1 hF (i := .aload_n 0) rfl (fun _ => rfl) ?_
  refine dp_s1 hF (i := .iload_n 2) rfl (fun _ => rfl) ?_
  refine dp_s1 hF (i := .bipush (-42)) rfl (fun _ => rfl) ?_
  refine dp_si (mj := dp_m_X12_piles) (i := .invokevirtual 874) rfl rfl (Or.inl rfl) rfl (fun _ => rfl) (fun r8 M7 => ?_)
  refine dp_s1 hF (i := .goto 4) rfl (fun _ => rfl) ?_
  exact rfl
set_option maxRecDepth 20000 in
theorem D_X12_putsTwo_112_eq (xs : Nat → Int32) (xl d : Nat) (v1 : Int32) (v2 : Int32) (v3 : Int32) (v4 : Int32) (v5 : Int32) (v6 : Int32) (vs0 : Int32) (M : dp_M) : D_X12_putsTwo_112 xs xl d v1 v2 v3 v4 v5 v6 vs0 M = dp_bi (dp_den true xs xl d 500 [.ref 114, .int vs0, .int v4] M) (fun r2 M1 => if v6 = 0 then (D_X12_putsTwo_147 xs xl d v1 v2 v3 v4 v5 v6 r2 r2 M1) else (if v5 = 0 then (dp_bi (dp_den true xs xl d 500 [.ref 114, .int r2, .int (-41 : Int32)] M1) (fun r4 M3 => D_X12_putsTwo_147 xs xl d v1 v2 v3 v4 v5 v6 r2 r4 M3)) else (D_X12_putsTwo_147 xs xl d v1 v2 v3 v4 v5 v6 r2 r2 M1))) := by
  have hF := dp_den_grow (md := true) (xs := xs) (xl := xl) d
  unfold D_X12_putsTwo_112
  refine dp_s1 hF (i := .istore 7) rfl (fun _ => rfl) ?_
  refine dp_s1 hF (i := .aload_n 0) rfl (fun _ => rfl) ?_
  refine dp_s1 hF (i := .iload 7) rfl (fun _ => rfl) ?_
  refine dp_s1 hF (i := .iload 4) rfl (fun _ => rfl) ?_
  refine dp_si (mj := dp_m_X12_piles) (i := .invokevirtual 874) rfl rfl (Or.inl rfl) rfl (fun _ => rfl) (fun r2 M1 => ?_)
  refine dp_s1 hF (i := .istore 7) rfl (fun _ => rfl) ?_
  refine dp_s1 hF (i := .iload 6) rfl (fun _ => rfl) ?_
  refine dp_s2 hF (i := .ifCond .eq 19) (a := (145, [some (.ref 114), some (.int v1), some (.int v2), some (.int v3), some (.int v4), some (.int v5), some (.int v6), some (.int r2)], [], M1)) (b := (129, [some (.ref 114), some (.int v1), some (.int v2), some (.int v3), some (.int v4), some (.int v5), some (.int v6), some (.int r2)], [], M1)) rfl (fun _ => rfl) ?_ ?_
  · refine dp_s1 hF (i := .iload 7) rfl (fun _ => rfl) ?_
    exact rfl
  refine dp_s1 hF (i := .iload 5) rfl (fun _ => rfl) ?_
  refine dp_s2 hF (i := .ifCond .ne 14) (a := (134, [some (.ref 114), some (.int v1), some (.int v2), some (.int v3), some (.int v4), some (.int v5), some (.int v6), some (.int r2)], [], M1)) (b := (145, [some (.ref 114), some (.int v1), some (.int v2), some (.int v3), some (.int v4), some (.int v5), some (.int v6), some (.int r2)], [], M1)) rfl (fun _ => rfl) ?_ ?_
  · refine dp_s1 hF (i := .aload_n 0) rfl (fun _ => rfl) ?_
    refine dp_s1 hF (i := .iload 7) rfl (fun _ => rfl) ?_
    refine dp_s1 hF (i := .bipush (-41)) rfl (fun _ => rfl) ?_
    refine dp_si (mj := dp_m_X12_piles) (i := .invokevirtual 874) rfl rfl (Or.inl rfl) rfl (fun _ => rfl) (fun r4 M3 => ?_)
    refine dp_s1 hF (i := .goto 5) rfl (fun _ => rfl) ?_
    exact rfl
  refine dp_s1 hF (i := .iload 7) rfl (fun _ => rfl) ?_
  exact rfl
set_option maxRecDepth 20000 in
theorem D_X12_putsTwo_147_eq (xs : Nat → Int32) (xl d : Nat) (v1 : Int32) (v2 : Int32) (v3 : Int32) (v4 : Int32) (v5 : Int32) (v6 : Int32) (v7 : Int32) (vs0 : Int32) (M : dp_M) : D_X12_putsTwo_147 xs xl d v1 v2 v3 v4 v5 v6 v7 vs0 M = dp_bi (dp_den true xs xl d 500 [.ref 114, .int vs0, .int (-33 : Int32)] M) (fun r2 M1 => if v5 = 0 then (if v3 = (3 : Int32) then (D_X12_putsTwo_185 xs xl d v1 v2 v3 v4 v5 v6 r2 (43 : Int32) (-1 : Int32) r2 M1) else (D_X12_putsTwo_185 xs xl d v1 v2 v3 v4 v5 v6 r2 (45 : Int32) (-1 : Int32) r2 M1)) else (D_X12_putsTwo_185 xs xl d v1 v2 v3 v4 v5 v6 r2 (44 : Int32) (-1 : Int32) r2 M1)) := by
  have hF := dp_den_grow (md := true) (xs := xs) (xl := xl) d
  unfold D_X12_putsTwo_147
  refine dp_s1 hF (i := .istore 7) rfl (fun _ => rfl) ?_
  refine dp_s1 hF (i := .aload_n 0) rfl (fun _ => rfl) ?_
  refine dp_s1 hF (i := .iload 7) rfl (fun _ => rfl) ?_
  refine dp_s1 hF (i := .bipush (-33)) rfl (fun _ => rfl) ?_
  refine dp_si (mj := dp_m_X12_piles) (i := .invokevirtual 874) rfl rfl (Or.inl rfl) rfl (fun _ => rfl) (fun r2 M1 => ?_)
  refine dp_s1 hF (i := .istore 7) rfl (fun _ => rfl) ?_
  refine dp_s1 hF (i := .aload_n 0) rfl (fun _ => rfl) ?_
  refine dp_s1 hF (i := .iload 7) rfl (fun _ => rfl) ?_
  refine dp_s1 hF (i := .iconst (-1)) rfl (fun _ => rfl) ?_
  refine dp_s1 hF (i := .iload 5) rfl (fun _ => rfl) ?_
  refine dp_s2 hF (i := .ifCond .eq 8) (a := (173, [some (.ref 114), some (.int v1), some (.int v2), some (.int v3), some (.int v4), some (.int v5), some (.int v6), some (.int r2)], [.int (-1 : Int32), .int r2, .ref 114], M1)) (b := (168, [some (.ref 114), some (.int v1), some (.int v2), some (.int v3), some (.int v4), some (.int v5), some (.int v6), some (.int r2)], [.int (-1 : Int32), .int r2, .ref 114], M1)) rfl (fun _ => rfl) ?_ ?_
  · refine dp_s1 hF (i := .iload_n 3) rfl (fun _ => rfl) ?_
    refine dp_s1 hF (i := .iconst 3) rfl (fun _ => rfl) ?_
    refine dp_s2 hF (i := .if_icmp .ne 8) (a := (178, [some (.ref 114), some (.int v1), some (.int v2), some (.int v3), some (.int v4), some (.int v5), some (.int v6), some (.int r2)], [.int (-1 : Int32), .int r2, .ref 114], M1)) (b := (183, [some (.ref 114), some (.int v1), some (.int v2), some (.int v3), some (.int v4), some (.int v5), some (.int v6), some (.int r2)], [.int (-1 : Int32), .int r2, .ref 114], M1)) rfl (fun _ => rfl) ?_ ?_
    · refine dp_s1 hF (i := .bipush 43) rfl (fun _ => rfl) ?_
      refine dp_s1 hF (i := .goto 5) rfl (fun _ => rfl) ?_
      exact rfl
    refine dp_s1 hF (i := .bipush 45) rfl (fun _ => rfl) ?_
    exact rfl
  refine dp_s1 hF (i := .bipush 44) rfl (fun _ => rfl) ?_
  refine dp_s1 hF (i := .goto 15) rfl (fun _ => rfl) ?_
  exact rfl
set_option maxRecDepth 20000 in
theorem D_X12_putsTwo_185_eq (xs : Nat → Int32) (xl d : Nat) (v1 : Int32) (v2 : Int32) (v3 : Int32) (v4 : Int32) (v5 : Int32) (v6 : Int32) (v7 : Int32) (vs0 : Int32) (vs1 : Int32) (vs2 : Int32) (M : dp_M) : D_X12_putsTwo_185 xs xl d v1 v2 v3 v4 v5 v6 v7 vs0 vs1 vs2 M = dp_bi (dp_den true xs xl d 500 [.ref 114, .int vs2, .int (vs1 - vs0)] M) (fun r2 M1 => if v5 = 0 then (dp_bi (dp_den true xs xl d 500 [.ref 114, .int r2, .int (-33 : Int32)] M1) (fun r4 M3 => if v1 < 0 ∨ 120 ≤ Int32.toNatClampNeg v1 then none else (dp_bi (dp_den true xs xl d 500 [.ref 114, .int r4, .int (dp_I M3 177 (Int32.toNatClampNeg v1))] M3) (fun r6 M5 => some (.inl (some (.int r6)), M5))))) else (if v1 < 0 ∨ 120 ≤ Int32.toNatClampNeg v1 then none else (dp_bi (dp_den true xs xl d 500 [.ref 114, .int r2, .int (dp_I M1 177 (Int32.toNatClampNeg v1))] M1) (fun r8 M7 => some (.inl (some (.int r8)), M7))))) := by
  have hF := dp_den_grow (md := true) (xs := xs) (xl := xl) d
  unfold D_X12_putsTwo_185
  refine dp_s1 hF (i := .isub) rfl (fun _ => rfl) ?_
  refine dp_si (mj := dp_m_X12_piles) (i := .invokevirtual 874) rfl rfl (Or.inl rfl) rfl (fun _ => rfl) (fun r2 M1 => ?_)
  refine dp_s1 hF (i := .istore 7) rfl (fun _ => rfl) ?_
  refine dp_s1 hF (i := .iload 5) rfl (fun _ => rfl) ?_
  refine dp_s2 hF (i := .ifCond .eq 8) (a := (201, [some (.ref 114), some (.int v1), some (.int v2), some (.int v3), some (.int v4), some (.int v5), some (.int v6), some (.int r2)], [], M1)) (b := (196, [some (.ref 114), some (.int v1), some (.int v2), some (.int v3), some (.int v4), some (.int v5), some (.int v6), some (.int r2)], [], M1)) rfl (fun _ => rfl) ?_ ?_
  · refine dp_s1 hF (i := .aload_n 0) rfl (fun _ => rfl) ?_
    refine dp_s1 hF (i := .iload 7) rfl (fun _ => rfl) ?_
    refine dp_s1 hF (i := .bipush (-33)) rfl (fun _ => rfl) ?_
    refine dp_si (mj := dp_m_X12_piles) (i := .invokevirtual 874) rfl rfl (Or.inl rfl) rfl (fun _ => rfl) (fun r4 M3 => ?_)
    refine dp_s1 hF (i := .istore 7) rfl (fun _ => rfl) ?_
    refine dp_s1 hF (i := .aload_n 0) rfl (fun _ => rfl) ?_
    refine dp_s1 hF (i := .iload 7) rfl (fun _ => rfl) ?_
    refine dp_s1 hF (i := .aload_n 0) rfl (fun _ => rfl) ?_
    refine dp_s1 hF (i := .getfield 203) rfl (fun _ => rfl) ?_
    refine dp_s1 hF (i := .iload_n 1) rfl (fun _ => rfl) ?_
    refine dp_s3 hF (i := .iaload) rfl (fun _ => rfl) ?_
    refine dp_si (mj := dp_m_X12_piles) (i := .invokevirtual 874) rfl rfl (Or.inl rfl) rfl (fun _ => rfl) (fun r6 M5 => ?_)
    exact dp_s0 hF (i := .ireturn) rfl (fun _ => rfl)
  refine dp_s1 hF (i := .iload 7) rfl (fun _ => rfl) ?_
  refine dp_s1 hF (i := .goto 11) rfl (fun _ => rfl) ?_
  refine dp_s1 hF (i := .istore 7) rfl (fun _ => rfl) ?_
  refine dp_s1 hF (i := .aload_n 0) rfl (fun _ => rfl) ?_
  refine dp_s1 hF (i := .iload 7) rfl (fun _ => rfl) ?_
  refine dp_s1 hF (i := .aload_n 0) rfl (fun _ => rfl) ?_
  refine dp_s1 hF (i := .getfield 203) rfl (fun _ => rfl) ?_
  refine dp_s1 hF (i := .iload_n 1) rfl (fun _ => rfl) ?_
  refine dp_s3 hF (i := .iaload) rfl (fun _ => rfl) ?_
  refine dp_si (mj := dp_m_X12_piles) (i := .invokevirtual 874) rfl rfl (Or.inl rfl) rfl (fun _ => rfl) (fun r8 M7 => ?_)
  exact dp_s0 hF (i := .ireturn) rfl (fun _ => rfl)
noncomputable def D_X12_print_0 (xs : Nat → Int32) (xl d : Nat) (v1 : Int32) (M : dp_M) : Option dp_Res := dp_lim true xs xl (dp_den true xs xl d) dp_m_X12_print (0, [some (.ref 114), some (.int v1), none, none], [], M)
noncomputable def D_X12_print_25 (xs : Nat → Int32) (xl d : Nat) (v1 : Int32) (vs0 : Int32) (M : dp_M) : Option dp_Res := dp_lim true xs xl (dp_den true xs xl d) dp_m_X12_print (25, [some (.ref 114), some (.int v1), none, none], [.int vs0, .ref 172], M)
noncomputable def D_X12_print_59 (xs : Nat → Int32) (xl d : Nat) (v1 : Int32) (v2 : Int32) (M : dp_M) : Option dp_Res := dp_lim true xs xl (dp_den true xs xl d) dp_m_X12_print (59, [some (.ref 114), some (.int v1), some (.int v2), none], [], M)
noncomputable def D_X12_print_59_a (xs : Nat → Int32) (xl d : Nat) (v1 : Int32) (v2 : Int32) (v3 : Int32) (M : dp_M) : Option dp_Res := dp_lim true xs xl (dp_den true xs xl d) dp_m_X12_print (59, [some (.ref 114), some (.int v1), some (.int v2), some (.int v3)], [], M)
theorem D_X12_print_0_den (xs : Nat → Int32) (xl d : Nat) (a0 : Int32) (M : dp_M) : dp_den true xs xl (d + 1) 502 [.ref 114, .int a0] M = D_X12_print_0 xs xl d a0 M := rfl
set_option maxRecDepth 20000 in
theorem D_X12_print_0_eq (xs : Nat → Int32) (xl d : Nat) (v1 : Int32) (M : dp_M) : D_X12_print_0 xs xl d v1 M = dp_bi (dp_den true xs xl d 451 [.ref 114, .int v1] M) (fun r2 M1 => if r2 = 0 then (dp_bi (dp_den true xs xl d 366 [.ref 114, .int (1 : Int32)] M1) (fun r4 M3 => some (.inl (some (.int r4)), M3))) else (dp_bi (dp_den true xs xl d 451 [.ref 114, .int v1] M1) (fun r6 M5 => if r6 = 0 then (D_X12_print_25 xs xl d v1 (0 : Int32) M5) else (D_X12_print_25 xs xl d v1 v1 M5)))) := by
  have hF := dp_den_grow (md := true) (xs := xs) (xl := xl) d
  unfold D_X12_print_0
  refine dp_s1 hF (i := .aload_n 0) rfl (fun _ => rfl) ?_
  refine dp_s1 hF (i := .iload_n 1) rfl (fun _ => rfl) ?_
  refine dp_si (mj := dp_m_X12_isMeasure) (i := .invokevirtual 681) rfl rfl (Or.inr rfl) rfl (fun _ => rfl) (fun r2 M1 => ?_)
  refine dp_s2 hF (i := .ifCond .eq 24) (a := (29, [some (.ref 114), some (.int v1), none, none], [], M1)) (b := (8, [some (.ref 114), some (.int v1), none, none], [], M1)) rfl (fun _ => rfl) ?_ ?_
  · refine dp_s1 hF (i := .aload_n 0) rfl (fun _ => rfl) ?_
    refine dp_s1 hF (i := .iconst 1) rfl (fun _ => rfl) ?_
    refine dp_si (mj := dp_m_X12_refuse) (i := .invokevirtual 460) rfl rfl (Or.inl rfl) rfl (fun _ => rfl) (fun r4 M3 => ?_)
    exact dp_s0 hF (i := .ireturn) rfl (fun _ => rfl)
  refine dp_s1 hF (i := .aload_n 0) rfl (fun _ => rfl) ?_
  refine dp_s1 hF (i := .getfield 188) rfl (fun _ => rfl) ?_
  refine dp_s1 hF (i := .aload_n 0) rfl (fun _ => rfl) ?_
  refine dp_s1 hF (i := .iload_n 1) rfl (fun _ => rfl) ?_
  refine dp_si (mj := dp_m_X12_isMeasure) (i := .invokevirtual 681) rfl rfl (Or.inr rfl) rfl (fun _ => rfl) (fun r6 M5 => ?_)
  refine dp_s2 hF (i := .ifCond .eq 7) (a := (24, [some (.ref 114), some (.int v1), none, none], [.ref 172], M5)) (b := (20, [some (.ref 114), some (.int v1), none, none], [.ref 172], M5)) rfl (fun _ => rfl) ?_ ?_
  · refine dp_s1 hF (i := .iconst 0) rfl (fun _ => rfl) ?_
    exact rfl
  refine dp_s1 hF (i := .iload_n 1) rfl (fun _ => rfl) ?_
  refine dp_s1 hF (i := .goto 4) rfl (fun _ => rfl) ?_
  exact rfl
set_option maxRecDepth 20000 in
theorem D_X12_print_25_eq (xs : Nat → Int32) (xl d : Nat) (v1 : Int32) (vs0 : Int32) (M : dp_M) : D_X12_print_25 xs xl d v1 vs0 M = if vs0 < 0 ∨ 301 ≤ Int32.toNatClampNeg vs0 then none else (if (dp_I M 172 (Int32.toNatClampNeg vs0)) = 0 then (dp_bi (dp_den true xs xl d 366 [.ref 114, .int (1 : Int32)] M) (fun r2 M1 => some (.inl (some (.int r2)), M1))) else (dp_w (dp_setI M 114 0 (0 : Int32)) (fun M3 => dp_bv (dp_den true xs xl d 489 [.ref 114, .int v1] M3) (fun M4 => dp_w (dp_setI M4 114 104 (0 : Int32)) (fun M5 => dp_w (1 : Int32) (fun y6 => if (0 : Int32) < 0 ∨ 400 ≤ Int32.toNatClampNeg (0 : Int32) then none else dp_w (dp_setI M5 186 (Int32.toNatClampNeg (0 : Int32)) (0 : Int32)) (fun M7 => D_X12_print_59 xs xl d v1 y6 M7))))))) := by
  have hF := dp_den_grow (md := true) (xs := xs) (xl := xl) d
  unfold D_X12_print_25
  refine dp_s3 hF (i := .iaload) rfl (fun _ => rfl) ?_
  refine dp_s2 hF (i := .ifCond .ne 9) (a := (29, [some (.ref 114), some (.int v1), none, none], [], M)) (b := (35, [some (.ref 114), some (.int v1), none, none], [], M)) rfl (fun _ => rfl) ?_ ?_
  · refine dp_s1 hF (i := .aload_n 0) rfl (fun _ => rfl) ?_
    refine dp_s1 hF (i := .iconst 1) rfl (fun _ => rfl) ?_
    refine dp_si (mj := dp_m_X12_refuse) (i := .invokevirtual 460) rfl rfl (Or.inl rfl) rfl (fun _ => rfl) (fun r2 M1 => ?_)
    exact dp_s0 hF (i := .ireturn) rfl (fun _ => rfl)
  refine dp_s1 hF (i := .aload_n 0) rfl (fun _ => rfl) ?_
  refine dp_s1 hF (i := .iconst 0) rfl (fun _ => rfl) ?_
  refine dp_s1w (dp_setI M 114 0 (0 : Int32)) (fun (M3 : dp_M) => (40, [some (.ref 114), some (.int v1), none, none], [], M3)) hF (i := .putfield 1) rfl (fun _ => rfl) (fun M3 => ?_)
  refine dp_s1 hF (i := .aload_n 0) rfl (fun _ => rfl) ?_
  refine dp_s1 hF (i := .iload_n 1) rfl (fun _ => rfl) ?_
  refine dp_sv (mj := dp_m_X12_readsRate) (i := .invokevirtual 825) rfl rfl rfl rfl (fun _ => rfl) (fun M4 => ?_)
  refine dp_s1 hF (i := .aload_n 0) rfl (fun _ => rfl) ?_
  refine dp_s1 hF (i := .iconst 0) rfl (fun _ => rfl) ?_
  refine dp_s1w (dp_setI M4 114 104 (0 : Int32)) (fun (M5 : dp_M) => (50, [some (.ref 114), some (.int v1), none, none], [], M5)) hF (i := .putfield 848) rfl (fun _ => rfl) (fun M5 => ?_)
  refine dp_s1 hF (i := .iconst 1) rfl (fun _ => rfl) ?_
  refine dp_s1w (1 : Int32) (fun (y6 : Int32) => (52, [some (.ref 114), some (.int v1), some (.int y6), none], [], M5)) hF (i := .istore_n 2) rfl (fun _ => rfl) (fun y6 => ?_)
  refine dp_s1 hF (i := .aload_n 0) rfl (fun _ => rfl) ?_
  refine dp_s1 hF (i := .getfield 230) rfl (fun _ => rfl) ?_
  refine dp_s1 hF (i := .iconst 0) rfl (fun _ => rfl) ?_
  refine dp_s1 hF (i := .iconst 0) rfl (fun _ => rfl) ?_
  refine dp_s3w (dp_setI M5 186 (Int32.toNatClampNeg (0 : Int32)) (0 : Int32)) (fun (M7 : dp_M) => (59, [some (.ref 114), some (.int v1), some (.int y6), none], [], M7)) hF (i := .iastore) rfl (fun _ => rfl) (fun M7 => ?_)
  exact rfl
set_option maxRecDepth 20000 in
theorem D_X12_print_59_eq (xs : Nat → Int32) (xl d : Nat) (v1 : Int32) (v2 : Int32) (M : dp_M) : D_X12_print_59 xs xl d v1 v2 M = if v2 ≤ 0 then (some (.inl (some (.int (dp_I M 114 104))), M)) else (dp_w (v2 + (-1 : Int32)) (fun y1 => if y1 < 0 ∨ 400 ≤ Int32.toNatClampNeg y1 then none else (dp_w (dp_I M 186 (Int32.toNatClampNeg y1)) (fun y2 => if 0 ≤ y2 then (if ((60 : Int32) + y2) < 0 ∨ 120 ≤ Int32.toNatClampNeg ((60 : Int32) + y2) then none else (if (dp_I M 177 (Int32.toNatClampNeg ((60 : Int32) + y2))) = (-1 : Int32) then (dp_bv (dp_den true xs xl d 499 [.ref 114, .int ((60 : Int32) + y2)] M) (fun M3 => D_X12_print_59_a xs xl d v1 y1 y2 M3)) else (dp_bi (dp_den true xs xl d 501 [.ref 114, .int ((60 : Int32) + y2), .int y1] M) (fun r5 M4 => D_X12_print_59_a xs xl d v1 r5 y2 M4)))) else (dp_bv (dp_den true xs xl d 495 [.ref 114, .int ((-1 : Int32) - y2)] M) (fun M6 => D_X12_print_59_a xs xl d v1 y1 y2 M6)))))) := by
  have hF := dp_den_grow (md := true) (xs := xs) (xl := xl) d
  unfold D_X12_print_59
  refine dp_s1 hF (i := .iload_n 2) rfl (fun _ => rfl) ?_
  refine dp_s2 hF (i := .ifCond .le 64) (a := (124, [some (.ref 114), some (.int v1), some (.int v2), none], [], M)) (b := (63, [some (.ref 114), some (.int v1), some (.int v2), none], [], M)) rfl (fun _ => rfl) ?_ ?_
  · refine dp_s1 hF (i := .aload_n 0) rfl (fun _ => rfl) ?_
    refine dp_s1 hF (i := .getfield 848) rfl (fun _ => rfl) ?_
    exact dp_s0 hF (i := .ireturn) rfl (fun _ => rfl)
  refine dp_s1w (v2 + (-1 : Int32)) (fun (y1 : Int32) => (66, [some (.ref 114), some (.int v1), some (.int y1), none], [], M)) hF (i := .iinc 2 (-1)) rfl (fun _ => rfl) (fun y1 => ?_)
  refine dp_s1 hF (i := .aload_n 0) rfl (fun _ => rfl) ?_
  refine dp_s1 hF (i := .getfield 230) rfl (fun _ => rfl) ?_
  refine dp_s1 hF (i := .iload_n 2) rfl (fun _ => rfl) ?_
  refine dp_s3 hF (i := .iaload) rfl (fun _ => rfl) ?_
  refine dp_s1w (dp_I M 186 (Int32.toNatClampNeg y1)) (fun (y2 : Int32) => (73, [some (.ref 114), some (.int v1), some (.int y1), some (.int y2)], [], M)) hF (i := .istore_n 3) rfl (fun _ => rfl) (fun y2 => ?_)
  refine dp_s1 hF (i := .iload_n 3) rfl (fun _ => rfl) ?_
  refine dp_s2 hF (i := .ifCond .ge 13) (a := (87, [some (.ref 114), some (.int v1), some (.int y1), some (.int y2)], [], M)) (b := (77, [some (.ref 114), some (.int v1), some (.int y1), some (.int y2)], [], M)) rfl (fun _ => rfl) ?_ ?_
  · refine dp_s1 hF (i := .aload_n 0) rfl (fun _ => rfl) ?_
    refine dp_s1 hF (i := .getfield 203) rfl (fun _ => rfl) ?_
    refine dp_s1 hF (i := .bipush 60) rfl (fun _ => rfl) ?_
    refine dp_s1 hF (i := .iload_n 3) rfl (fun _ => rfl) ?_
    refine dp_s1 hF (i := .iadd) rfl (fun _ => rfl) ?_
    refine dp_s3 hF (i := .iaload) rfl (fun _ => rfl) ?_
    refine dp_s1 hF (i := .iconst (-1)) rfl (fun _ => rfl) ?_
    refine dp_s2 hF (i := .if_icmp .ne 14) (a := (100, [some (.ref 114), some (.int v1), some (.int y1), some (.int y2)], [], M)) (b := (111, [some (.ref 114), some (.int v1), some (.int y1), some (.int y2)], [], M)) rfl (fun _ => rfl) ?_ ?_
    · refine dp_s1 hF (i := .aload_n 0) rfl (fun _ => rfl) ?_
      refine dp_s1 hF (i := .bipush 60) rfl (fun _ => rfl) ?_
      refine dp_s1 hF (i := .iload_n 3) rfl (fun _ => rfl) ?_
      refine dp_s1 hF (i := .iadd) rfl (fun _ => rfl) ?_
      refine dp_sv (mj := dp_m_X12_putsLeaf) (i := .invokevirtual 877) rfl rfl rfl rfl (fun _ => rfl) (fun M3 => ?_)
      refine dp_s1 hF (i := .goto 13) rfl (fun _ => rfl) ?_
      refine dp_s1 hF (i := .goto (-62)) rfl (fun _ => rfl) ?_
      exact rfl
    refine dp_s1 hF (i := .aload_n 0) rfl (fun _ => rfl) ?_
    refine dp_s1 hF (i := .bipush 60) rfl (fun _ => rfl) ?_
    refine dp_s1 hF (i := .iload_n 3) rfl (fun _ => rfl) ?_
    refine dp_s1 hF (i := .iadd) rfl (fun _ => rfl) ?_
    refine dp_s1 hF (i := .iload_n 2) rfl (fun _ => rfl) ?_
    refine dp_si (mj := dp_m_X12_putsTwo) (i := .invokevirtual 880) rfl rfl (Or.inl rfl) rfl (fun _ => rfl) (fun r5 M4 => ?_)
    refine dp_s1 hF (i := .istore_n 2) rfl (fun _ => rfl) ?_
    refine dp_s1 hF (i := .goto (-62)) rfl (fun _ => rfl) ?_
    exact rfl
  refine dp_s1 hF (i := .aload_n 0) rfl (fun _ => rfl) ?_
  refine dp_s1 hF (i := .iconst (-1)) rfl (fun _ => rfl) ?_
  refine dp_s1 hF (i := .iload_n 3) rfl (fun _ => rfl) ?_
  refine dp_s1 hF (i := .isub) rfl (fun _ => rfl) ?_
  refine dp_sv (mj := dp_m_X12_puts) (i := .invokevirtual 851) rfl rfl rfl rfl (fun _ => rfl) (fun M6 => ?_)
  refine dp_s1 hF (i := .goto 37) rfl (fun _ => rfl) ?_
  refine dp_s1 hF (i := .goto (-62)) rfl (fun _ => rfl) ?_
  exact rfl
set_option maxRecDepth 20000 in
theorem D_X12_print_59_a_eq (xs : Nat → Int32) (xl d : Nat) (v1 : Int32) (v2 : Int32) (v3 : Int32) (M : dp_M) : D_X12_print_59_a xs xl d v1 v2 v3 M = if v2 ≤ 0 then (some (.inl (some (.int (dp_I M 114 104))), M)) else (dp_w (v2 + (-1 : Int32)) (fun y1 => if y1 < 0 ∨ 400 ≤ Int32.toNatClampNeg y1 then none else (dp_w (dp_I M 186 (Int32.toNatClampNeg y1)) (fun y2 => if 0 ≤ y2 then (if ((60 : Int32) + y2) < 0 ∨ 120 ≤ Int32.toNatClampNeg ((60 : Int32) + y2) then none else (if (dp_I M 177 (Int32.toNatClampNeg ((60 : Int32) + y2))) = (-1 : Int32) then (dp_bv (dp_den true xs xl d 499 [.ref 114, .int ((60 : Int32) + y2)] M) (fun M3 => D_X12_print_59_a xs xl d v1 y1 y2 M3)) else (dp_bi (dp_den true xs xl d 501 [.ref 114, .int ((60 : Int32) + y2), .int y1] M) (fun r5 M4 => D_X12_print_59_a xs xl d v1 r5 y2 M4)))) else (dp_bv (dp_den true xs xl d 495 [.ref 114, .int ((-1 : Int32) - y2)] M) (fun M6 => D_X12_print_59_a xs xl d v1 y1 y2 M6)))))) := by
  have hF := dp_den_grow (md := true) (xs := xs) (xl := xl) d
  unfold D_X12_print_59_a
  refine dp_s1 hF (i := .iload_n 2) rfl (fun _ => rfl) ?_
  refine dp_s2 hF (i := .ifCond .le 64) (a := (124, [some (.ref 114), some (.int v1), some (.int v2), some (.int v3)], [], M)) (b := (63, [some (.ref 114), some (.int v1), some (.int v2), some (.int v3)], [], M)) rfl (fun _ => rfl) ?_ ?_
  · refine dp_s1 hF (i := .aload_n 0) rfl (fun _ => rfl) ?_
    refine dp_s1 hF (i := .getfield 848) rfl (fun _ => rfl) ?_
    exact dp_s0 hF (i := .ireturn) rfl (fun _ => rfl)
  refine dp_s1w (v2 + (-1 : Int32)) (fun (y1 : Int32) => (66, [some (.ref 114), some (.int v1), some (.int y1), some (.int v3)], [], M)) hF (i := .iinc 2 (-1)) rfl (fun _ => rfl) (fun y1 => ?_)
  refine dp_s1 hF (i := .aload_n 0) rfl (fun _ => rfl) ?_
  refine dp_s1 hF (i := .getfield 230) rfl (fun _ => rfl) ?_
  refine dp_s1 hF (i := .iload_n 2) rfl (fun _ => rfl) ?_
  refine dp_s3 hF (i := .iaload) rfl (fun _ => rfl) ?_
  refine dp_s1w (dp_I M 186 (Int32.toNatClampNeg y1)) (fun (y2 : Int32) => (73, [some (.ref 114), some (.int v1), some (.int y1), some (.int y2)], [], M)) hF (i := .istore_n 3) rfl (fun _ => rfl) (fun y2 => ?_)
  refine dp_s1 hF (i := .iload_n 3) rfl (fun _ => rfl) ?_
  refine dp_s2 hF (i := .ifCond .ge 13) (a := (87, [some (.ref 114), some (.int v1), some (.int y1), some (.int y2)], [], M)) (b := (77, [some (.ref 114), some (.int v1), some (.int y1), some (.int y2)], [], M)) rfl (fun _ => rfl) ?_ ?_
  · refine dp_s1 hF (i := .aload_n 0) rfl (fun _ => rfl) ?_
    refine dp_s1 hF (i := .getfield 203) rfl (fun _ => rfl) ?_
    refine dp_s1 hF (i := .bipush 60) rfl (fun _ => rfl) ?_
    refine dp_s1 hF (i := .iload_n 3) rfl (fun _ => rfl) ?_
    refine dp_s1 hF (i := .iadd) rfl (fun _ => rfl) ?_
    refine dp_s3 hF (i := .iaload) rfl (fun _ => rfl) ?_
    refine dp_s1 hF (i := .iconst (-1)) rfl (fun _ => rfl) ?_
    refine dp_s2 hF (i := .if_icmp .ne 14) (a := (100, [some (.ref 114), some (.int v1), some (.int y1), some (.int y2)], [], M)) (b := (111, [some (.ref 114), some (.int v1), some (.int y1), some (.int y2)], [], M)) rfl (fun _ => rfl) ?_ ?_
    · refine dp_s1 hF (i := .aload_n 0) rfl (fun _ => rfl) ?_
      refine dp_s1 hF (i := .bipush 60) rfl (fun _ => rfl) ?_
      refine dp_s1 hF (i := .iload_n 3) rfl (fun _ => rfl) ?_
      refine dp_s1 hF (i := .iadd) rfl (fun _ => rfl) ?_
      refine dp_sv (mj := dp_m_X12_putsLeaf) (i := .invokevirtual 877) rfl rfl rfl rfl (fun _ => rfl) (fun M3 => ?_)
      refine dp_s1 hF (i := .goto 13) rfl (fun _ => rfl) ?_
      refine dp_s1 hF (i := .goto (-62)) rfl (fun _ => rfl) ?_
      exact rfl
    refine dp_s1 hF (i := .aload_n 0) rfl (fun _ => rfl) ?_
    refine dp_s1 hF (i := .bipush 60) rfl (fun _ => rfl) ?_
    refine dp_s1 hF (i := .iload_n 3) rfl (fun _ => rfl) ?_
    refine dp_s1 hF (i := .iadd) rfl (fun _ => rfl) ?_
    refine dp_s1 hF (i := .iload_n 2) rfl (fun _ => rfl) ?_
    refine dp_si (mj := dp_m_X12_putsTwo) (i := .invokevirtual 880) rfl rfl (Or.inl rfl) rfl (fun _ => rfl) (fun r5 M4 => ?_)
    refine dp_s1 hF (i := .istore_n 2) rfl (fun _ => rfl) ?_
    refine dp_s1 hF (i := .goto (-62)) rfl (fun _ => rfl) ?_
    exact rfl
  refine dp_s1 hF (i := .aload_n 0) rfl (fun _ => rfl) ?_
  refine dp_s1 hF (i := .iconst (-1)) rfl (fun _ => rfl) ?_
  refine dp_s1 hF (i := .iload_n 3) rfl (fun _ => rfl) ?_
  refine dp_s1 hF (i := .isub) rfl (fun _ => rfl) ?_
  refine dp_sv (mj := dp_m_X12_puts) (i := .invokevirtual 851) rfl rfl rfl rfl (fun _ => rfl) (fun M6 => ?_)
  refine dp_s1 hF (i := .goto 37) rfl (fun _ => rfl) ?_
  refine dp_s1 hF (i := .goto (-62)) rfl (fun _ => rfl) ?_
  exact rfl
noncomputable def D_X12_printed_0 (xs : Nat → Int32) (xl d : Nat) (v1 : Int32) (M : dp_M) : Option dp_Res := dp_lim true xs xl (dp_den true xs xl d) dp_m_X12_printed (0, [some (.ref 114), some (.int v1)], [], M)
theorem D_X12_printed_0_den (xs : Nat → Int32) (xl d : Nat) (a0 : Int32) (M : dp_M) : dp_den true xs xl (d + 1) 503 [.ref 114, .int a0] M = D_X12_printed_0 xs xl d a0 M := rfl
set_option maxRecDepth 20000 in
theorem D_X12_printed_0_eq (xs : Nat → Int32) (xl d : Nat) (v1 : Int32) (M : dp_M) : D_X12_printed_0 xs xl d v1 M = if v1 < 0 then (dp_w (dp_setI M 114 0 (1 : Int32)) (fun M1 => if (dp_I M1 114 0) ≤ 0 then (if v1 < 0 ∨ 4000 ≤ Int32.toNatClampNeg v1 then none else (some (.inl (some (.int (dp_I M1 190 (Int32.toNatClampNeg v1)))), M1))) else (some (.inl (some (.int (0 : Int32))), M1)))) else (if (dp_I M 114 104) ≤ v1 then (dp_w (dp_setI M 114 0 (1 : Int32)) (fun M2 => if (dp_I M2 114 0) ≤ 0 then (if v1 < 0 ∨ 4000 ≤ Int32.toNatClampNeg v1 then none else (some (.inl (some (.int (dp_I M2 190 (Int32.toNatClampNeg v1)))), M2))) else (some (.inl (some (.int (0 : Int32))), M2)))) else (dp_w (dp_setI M 114 0 (0 : Int32)) (fun M3 => if (dp_I M3 114 0) ≤ 0 then (if v1 < 0 ∨ 4000 ≤ Int32.toNatClampNeg v1 then none else (some (.inl (some (.int (dp_I M3 190 (Int32.toNatClampNeg v1)))), M3))) else (some (.inl (some (.int (0 : Int32))), M3))))) := by
  have hF := dp_den_grow (md := true) (xs := xs) (xl := xl) d
  unfold D_X12_printed_0
  refine dp_s1 hF (i := .aload_n 0) rfl (fun _ => rfl) ?_
  refine dp_s1 hF (i := .iload_n 1) rfl (fun _ => rfl) ?_
  refine dp_s2 hF (i := .ifCond .lt 15) (a := (17, [some (.ref 114), some (.int v1)], [.ref 114], M)) (b := (5, [some (.ref 114), some (.int v1)], [.ref 114], M)) rfl (fun _ => rfl) ?_ ?_
  · refine dp_s1 hF (i := .iconst 1) rfl (fun _ => rfl) ?_
    refine dp_s1w (dp_setI M 114 0 (1 : Int32)) (fun (M1 : dp_M) => (21, [some (.ref 114), some (.int v1)], [], M1)) hF (i := .putfield 1) rfl (fun _ => rfl) (fun M1 => ?_)
    refine dp_s1 hF (i := .aload_n 0) rfl (fun _ => rfl) ?_
    refine dp_s1 hF (i := .getfield 1) rfl (fun _ => rfl) ?_
    refine dp_s2 hF (i := .ifCond .le 7) (a := (32, [some (.ref 114), some (.int v1)], [], M1)) (b := (28, [some (.ref 114), some (.int v1)], [], M1)) rfl (fun _ => rfl) ?_ ?_
    · refine dp_s1 hF (i := .aload_n 0) rfl (fun _ => rfl) ?_
      refine dp_s1 hF (i := .getfield 242) rfl (fun _ => rfl) ?_
      refine dp_s1 hF (i := .iload_n 1) rfl (fun _ => rfl) ?_
      refine dp_s3 hF (i := .iaload) rfl (fun _ => rfl) ?_
      exact dp_s0 hF (i := .ireturn) rfl (fun _ => rfl)
    refine dp_s1 hF (i := .iconst 0) rfl (fun _ => rfl) ?_
    refine dp_s1 hF (i := .goto 9) rfl (fun _ => rfl) ?_
    exact dp_s0 hF (i := .ireturn) rfl (fun _ => rfl)
  refine dp_s1 hF (i := .iload_n 1) rfl (fun _ => rfl) ?_
  refine dp_s1 hF (i := .aload_n 0) rfl (fun _ => rfl) ?_
  refine dp_s1 hF (i := .getfield 848) rfl (fun _ => rfl) ?_
  refine dp_s2 hF (i := .if_icmp .ge 7) (a := (17, [some (.ref 114), some (.int v1)], [.ref 114], M)) (b := (13, [some (.ref 114), some (.int v1)], [.ref 114], M)) rfl (fun _ => rfl) ?_ ?_
  · refine dp_s1 hF (i := .iconst 1) rfl (fun _ => rfl) ?_
    refine dp_s1w (dp_setI M 114 0 (1 : Int32)) (fun (M2 : dp_M) => (21, [some (.ref 114), some (.int v1)], [], M2)) hF (i := .putfield 1) rfl (fun _ => rfl) (fun M2 => ?_)
    refine dp_s1 hF (i := .aload_n 0) rfl (fun _ => rfl) ?_
    refine dp_s1 hF (i := .getfield 1) rfl (fun _ => rfl) ?_
    refine dp_s2 hF (i := .ifCond .le 7) (a := (32, [some (.ref 114), some (.int v1)], [], M2)) (b := (28, [some (.ref 114), some (.int v1)], [], M2)) rfl (fun _ => rfl) ?_ ?_
    · refine dp_s1 hF (i := .aload_n 0) rfl (fun _ => rfl) ?_
      refine dp_s1 hF (i := .getfield 242) rfl (fun _ => rfl) ?_
      refine dp_s1 hF (i := .iload_n 1) rfl (fun _ => rfl) ?_
      refine dp_s3 hF (i := .iaload) rfl (fun _ => rfl) ?_
      exact dp_s0 hF (i := .ireturn) rfl (fun _ => rfl)
    refine dp_s1 hF (i := .iconst 0) rfl (fun _ => rfl) ?_
    refine dp_s1 hF (i := .goto 9) rfl (fun _ => rfl) ?_
    exact dp_s0 hF (i := .ireturn) rfl (fun _ => rfl)
  refine dp_s1 hF (i := .iconst 0) rfl (fun _ => rfl) ?_
  refine dp_s1 hF (i := .goto 4) rfl (fun _ => rfl) ?_
  refine dp_s1w (dp_setI M 114 0 (0 : Int32)) (fun (M3 : dp_M) => (21, [some (.ref 114), some (.int v1)], [], M3)) hF (i := .putfield 1) rfl (fun _ => rfl) (fun M3 => ?_)
  refine dp_s1 hF (i := .aload_n 0) rfl (fun _ => rfl) ?_
  refine dp_s1 hF (i := .getfield 1) rfl (fun _ => rfl) ?_
  refine dp_s2 hF (i := .ifCond .le 7) (a := (32, [some (.ref 114), some (.int v1)], [], M3)) (b := (28, [some (.ref 114), some (.int v1)], [], M3)) rfl (fun _ => rfl) ?_ ?_
  · refine dp_s1 hF (i := .aload_n 0) rfl (fun _ => rfl) ?_
    refine dp_s1 hF (i := .getfield 242) rfl (fun _ => rfl) ?_
    refine dp_s1 hF (i := .iload_n 1) rfl (fun _ => rfl) ?_
    refine dp_s3 hF (i := .iaload) rfl (fun _ => rfl) ?_
    exact dp_s0 hF (i := .ireturn) rfl (fun _ => rfl)
  refine dp_s1 hF (i := .iconst 0) rfl (fun _ => rfl) ?_
  refine dp_s1 hF (i := .goto 9) rfl (fun _ => rfl) ?_
  exact dp_s0 hF (i := .ireturn) rfl (fun _ => rfl)
noncomputable def D_X12_isSpanDay_0 (xs : Nat → Int32) (xl d : Nat) (v0 : Int32) (M : dp_M) : Option dp_Res := dp_lim true xs xl (dp_den true xs xl d) dp_m_X12_isSpanDay (0, [some (.int v0)], [], M)
theorem D_X12_isSpanDay_0_den (xs : Nat → Int32) (xl d : Nat) (a0 : Int32) (M : dp_M) : dp_den true xs xl (d + 1) 504 [.int a0] M = D_X12_isSpanDay_0 xs xl d a0 M := rfl
set_option maxRecDepth 20000 in
theorem D_X12_isSpanDay_0_eq (xs : Nat → Int32) (xl d : Nat) (v0 : Int32) (M : dp_M) : D_X12_isSpanDay_0 xs xl d v0 M = dp_bi (dp_den true xs xl d 367 [.long (Int32.toInt64 v0), .long (0 : Int64), .long (400 : Int64)] M) (fun r2 M1 => if r2 = 0 ∨ r2 = 1 then some (.inl (some (.int r2)), M1) else none) := by
  have hF := dp_den_grow (md := true) (xs := xs) (xl := xl) d
  unfold D_X12_isSpanDay_0
  refine dp_s1 hF (i := .iload_n 0) rfl (fun _ => rfl) ?_
  refine dp_s1 hF (i := .i2l) rfl (fun _ => rfl) ?_
  refine dp_s1 hF (i := .lconst 0) rfl (fun _ => rfl) ?_
  refine dp_s1 hF (i := .ldc2_w 883) rfl (fun _ => rfl) ?_
  refine dp_si (mj := dp_m_X12_in) (i := .invokestatic 446) rfl rfl (Or.inr rfl) rfl (fun _ => rfl) (fun r2 M1 => ?_)
  exact dp_s0 hF (i := .ireturn) rfl (fun _ => rfl)
noncomputable def D_X12_isOrder_0 (xs : Nat → Int32) (xl d : Nat) (v1 : Int32) (M : dp_M) : Option dp_Res := dp_lim true xs xl (dp_den true xs xl d) dp_m_X12_isOrder (0, [some (.ref 114), some (.int v1)], [], M)
theorem D_X12_isOrder_0_den (xs : Nat → Int32) (xl d : Nat) (a0 : Int32) (M : dp_M) : dp_den true xs xl (d + 1) 505 [.ref 114, .int a0] M = D_X12_isOrder_0 xs xl d a0 M := rfl
set_option maxRecDepth 20000 in
theorem D_X12_isOrder_0_eq (xs : Nat → Int32) (xl d : Nat) (v1 : Int32) (M : dp_M) : D_X12_isOrder_0 xs xl d v1 M = if v1 < 0 then (some (.inl (some (.int (0 : Int32))), M)) else (if (dp_I M 114 105) ≤ v1 then (some (.inl (some (.int (0 : Int32))), M)) else (some (.inl (some (.int (1 : Int32))), M))) := by
  have hF := dp_den_grow (md := true) (xs := xs) (xl := xl) d
  unfold D_X12_isOrder_0
  refine dp_s1 hF (i := .iload_n 1) rfl (fun _ => rfl) ?_
  refine dp_s2 hF (i := .ifCond .lt 15) (a := (16, [some (.ref 114), some (.int v1)], [], M)) (b := (4, [some (.ref 114), some (.int v1)], [], M)) rfl (fun _ => rfl) ?_ ?_
  · refine dp_s1 hF (i := .iconst 0) rfl (fun _ => rfl) ?_
    exact dp_s0 hF (i := .ireturn) rfl (fun _ => rfl)
  refine dp_s1 hF (i := .iload_n 1) rfl (fun _ => rfl) ?_
  refine dp_s1 hF (i := .aload_n 0) rfl (fun _ => rfl) ?_
  refine dp_s1 hF (i := .getfield 885) rfl (fun _ => rfl) ?_
  refine dp_s2 hF (i := .if_icmp .ge 7) (a := (16, [some (.ref 114), some (.int v1)], [], M)) (b := (12, [some (.ref 114), some (.int v1)], [], M)) rfl (fun _ => rfl) ?_ ?_
  · refine dp_s1 hF (i := .iconst 0) rfl (fun _ => rfl) ?_
    exact dp_s0 hF (i := .ireturn) rfl (fun _ => rfl)
  refine dp_s1 hF (i := .iconst 1) rfl (fun _ => rfl) ?_
  refine dp_s1 hF (i := .goto 4) rfl (fun _ => rfl) ?_
  exact dp_s0 hF (i := .ireturn) rfl (fun _ => rfl)
noncomputable def D_X12_dayOfAsk_0 (xs : Nat → Int32) (xl d : Nat) (v1 : Int32) (M : dp_M) : Option dp_Res := dp_lim true xs xl (dp_den true xs xl d) dp_m_X12_dayOfAsk (0, [some (.ref 114), some (.int v1)], [], M)
theorem D_X12_dayOfAsk_0_den (xs : Nat → Int32) (xl d : Nat) (a0 : Int32) (M : dp_M) : dp_den true xs xl (d + 1) 506 [.ref 114, .int a0] M = D_X12_dayOfAsk_0 xs xl d a0 M := rfl
set_option maxRecDepth 20000 in
theorem D_X12_dayOfAsk_0_eq (xs : Nat → Int32) (xl d : Nat) (v1 : Int32) (M : dp_M) : D_X12_dayOfAsk_0 xs xl d v1 M = if v1 < 0 ∨ 400 ≤ Int32.toNatClampNeg v1 then none else (if (dp_I M 196 (Int32.toNatClampNeg v1)) < 0 ∨ 400 ≤ Int32.toNatClampNeg (dp_I M 196 (Int32.toNatClampNeg v1)) then none else (some (.inl (some (.int (dp_I M 238 (Int32.toNatClampNeg (dp_I M 196 (Int32.toNatClampNeg v1)))))), M))) := by
  have hF := dp_den_grow (md := true) (xs := xs) (xl := xl) d
  unfold D_X12_dayOfAsk_0
  refine dp_s1 hF (i := .aload_n 0) rfl (fun _ => rfl) ?_
  refine dp_s1 hF (i := .getfield 395) rfl (fun _ => rfl) ?_
  refine dp_s1 hF (i := .aload_n 0) rfl (fun _ => rfl) ?_
  refine dp_s1 hF (i := .getfield 260) rfl (fun _ => rfl) ?_
  refine dp_s1 hF (i := .iload_n 1) rfl (fun _ => rfl) ?_
  refine dp_s3 hF (i := .iaload) rfl (fun _ => rfl) ?_
  refine dp_s3 hF (i := .iaload) rfl (fun _ => rfl) ?_
  exact dp_s0 hF (i := .ireturn) rfl (fun _ => rfl)
noncomputable def D_X12_treats_0 (xs : Nat → Int32) (xl d : Nat) (v1 : Int32) (v2 : Int32) (M : dp_M) : Option dp_Res := dp_lim true xs xl (dp_den true xs xl d) dp_m_X12_treats (0, [some (.ref 114), some (.int v1), some (.int v2), none, none, none, none, none, none], [], M)
noncomputable def D_X12_treats_5 (xs : Nat → Int32) (xl d : Nat) (v1 : Int32) (v2 : Int32) (v3 : Int64) (v5 : Int32) (M : dp_M) : Option dp_Res := dp_lim true xs xl (dp_den true xs xl d) dp_m_X12_treats (5, [some (.ref 114), some (.int v1), some (.int v2), some (.long v3), none, some (.int v5), none, none, none], [], M)
noncomputable def D_X12_treats_110 (xs : Nat → Int32) (xl d : Nat) (v1 : Int32) (v2 : Int32) (v3 : Int64) (v5 : Int64) (v7 : Int32) (M : dp_M) : Option dp_Res := dp_lim true xs xl (dp_den true xs xl d) dp_m_X12_treats (110, [some (.ref 114), some (.int v1), some (.int v2), some (.long v3), none, some (.long v5), none, some (.int v7), none], [], M)
noncomputable def D_X12_treats_75 (xs : Nat → Int32) (xl d : Nat) (v1 : Int32) (v2 : Int32) (v3 : Int64) (v5 : Int32) (v6 : Int32) (vs0 : Int32) (vs1 : Int32) (M : dp_M) : Option dp_Res := dp_lim true xs xl (dp_den true xs xl d) dp_m_X12_treats (75, [some (.ref 114), some (.int v1), some (.int v2), some (.long v3), none, some (.int v5), some (.int v6), none, none], [.int vs0, .int vs1, .ref 199], M)
noncomputable def D_X12_treats_202 (xs : Nat → Int32) (xl d : Nat) (v1 : Int32) (v2 : Int32) (v3 : Int64) (v5 : Int64) (v7 : Int32) (M : dp_M) : Option dp_Res := dp_lim true xs xl (dp_den true xs xl d) dp_m_X12_treats (202, [some (.ref 114), some (.int v1), some (.int v2), some (.long v3), none, some (.long v5), none, some (.int v7), none], [], M)
noncomputable def D_X12_treats_5_a (xs : Nat → Int32) (xl d : Nat) (v1 : Int32) (v2 : Int32) (v3 : Int64) (v5 : Int32) (v6 : Int32) (M : dp_M) : Option dp_Res := dp_lim true xs xl (dp_den true xs xl d) dp_m_X12_treats (5, [some (.ref 114), some (.int v1), some (.int v2), some (.long v3), none, some (.int v5), some (.int v6), none, none], [], M)
noncomputable def D_X12_treats_218 (xs : Nat → Int32) (xl d : Nat) (v1 : Int32) (v2 : Int32) (v3 : Int64) (v5 : Int64) (v7 : Int32) (v8 : Int32) (M : dp_M) : Option dp_Res := dp_lim true xs xl (dp_den true xs xl d) dp_m_X12_treats (218, [some (.ref 114), some (.int v1), some (.int v2), some (.long v3), none, some (.long v5), none, some (.int v7), some (.int v8)], [], M)
noncomputable def D_X12_treats_202_a (xs : Nat → Int32) (xl d : Nat) (v1 : Int32) (v2 : Int32) (v3 : Int64) (v5 : Int64) (v7 : Int32) (v8 : Int32) (M : dp_M) : Option dp_Res := dp_lim true xs xl (dp_den true xs xl d) dp_m_X12_treats (202, [some (.ref 114), some (.int v1), some (.int v2), some (.long v3), none, some (.long v5), none, some (.int v7), some (.int v8)], [], M)
theorem D_X12_treats_0_den (xs : Nat → Int32) (xl d : Nat) (a0 : Int32) (a1 : Int32) (M : dp_M) : dp_den true xs xl (d + 1) 507 [.ref 114, .int a0, .int a1] M = D_X12_treats_0 xs xl d a0 a1 M := rfl
set_option maxRecDepth 20000 in
theorem D_X12_treats_0_eq (xs : Nat → Int32) (xl d : Nat) (v1 : Int32) (v2 : Int32) (M : dp_M) : D_X12_treats_0 xs xl d v1 v2 M = dp_w (0 : Int64) (fun y1 => dp_w (0 : Int32) (fun y2 => D_X12_treats_5 xs xl d v1 v2 y1 y2 M)) := by
  have hF := dp_den_grow (md := true) (xs := xs) (xl := xl) d
  unfold D_X12_treats_0
  refine dp_s1 hF (i := .lconst 0) rfl (fun _ => rfl) ?_
  refine dp_s1w (0 : Int64) (fun (y1 : Int64) => (2, [some (.ref 114), some (.int v1), some (.int v2), some (.long y1), none, none, none, none, none], [], M)) hF (i := .lstore_n 3) rfl (fun _ => rfl) (fun y1 => ?_)
  refine dp_s1 hF (i := .iconst 0) rfl (fun _ => rfl) ?_
  refine dp_s1w (0 : Int32) (fun (y2 : Int32) => (5, [some (.ref 114), some (.int v1), some (.int v2), some (.long y1), none, some (.int y2), none, none, none], [], M)) hF (i := .istore 5) rfl (fun _ => rfl) (fun y2 => ?_)
  exact rfl
set_option maxRecDepth 20000 in
theorem D_X12_treats_5_eq (xs : Nat → Int32) (xl d : Nat) (v1 : Int32) (v2 : Int32) (v3 : Int64) (v5 : Int32) (M : dp_M) : D_X12_treats_5 xs xl d v1 v2 v3 v5 M = if (dp_I M 114 111) ≤ v5 then (dp_w (dp_J M 114 118) (fun y1 => dp_w (0 : Int32) (fun y2 => D_X12_treats_110 xs xl d v1 v2 v3 y1 y2 M))) else (if v5 < 0 ∨ 400 ≤ Int32.toNatClampNeg v5 then none else (if (dp_I M 197 (Int32.toNatClampNeg v5)) = v1 then (dp_bi (dp_den true xs xl d 506 [.ref 114, .int v5] M) (fun r4 M3 => if v2 < r4 then (dp_w (0 : Int32) (fun y5 => if y5 = 0 then (if v5 < 0 ∨ 400 ≤ Int32.toNatClampNeg v5 then none else (D_X12_treats_75 xs xl d v1 v2 v3 v5 y5 (dp_I M3 199 (Int32.toNatClampNeg v5)) v5 M3)) else (D_X12_treats_75 xs xl d v1 v2 v3 v5 y5 v2 v5 M3))) else (if v5 < 0 ∨ 400 ≤ Int32.toNatClampNeg v5 then none else (if (dp_I M3 199 (Int32.toNatClampNeg v5)) = (-1 : Int32) then (dp_w (1 : Int32) (fun y6 => if y6 = 0 then (if v5 < 0 ∨ 400 ≤ Int32.toNatClampNeg v5 then none else (D_X12_treats_75 xs xl d v1 v2 v3 v5 y6 (dp_I M3 199 (Int32.toNatClampNeg v5)) v5 M3)) else (D_X12_treats_75 xs xl d v1 v2 v3 v5 y6 v2 v5 M3))) else (dp_w (0 : Int32) (fun y7 => if y7 = 0 then (if v5 < 0 ∨ 400 ≤ Int32.toNatClampNeg v5 then none else (D_X12_treats_75 xs xl d v1 v2 v3 v5 y7 (dp_I M3 199 (Int32.toNatClampNeg v5)) v5 M3)) else (D_X12_treats_75 xs xl d v1 v2 v3 v5 y7 v2 v5 M3))))))) else (dp_w (0 : Int32) (fun y8 => if y8 = 0 then (if v5 < 0 ∨ 400 ≤ Int32.toNatClampNeg v5 then none else (D_X12_treats_75 xs xl d v1 v2 v3 v5 y8 (dp_I M 199 (Int32.toNatClampNeg v5)) v5 M)) else (D_X12_treats_75 xs xl d v1 v2 v3 v5 y8 v2 v5 M))))) := by
  have hF := dp_den_grow (md := true) (xs := xs) (xl := xl) d
  unfold D_X12_treats_5
  refine dp_s1 hF (i := .iload 5) rfl (fun _ => rfl) ?_
  refine dp_s1 hF (i := .aload_n 0) rfl (fun _ => rfl) ?_
  refine dp_s1 hF (i := .getfield 888) rfl (fun _ => rfl) ?_
  refine dp_s2 hF (i := .if_icmp .ge 90) (a := (101, [some (.ref 114), some (.int v1), some (.int v2), some (.long v3), none, some (.int v5), none, none, none], [], M)) (b := (14, [some (.ref 114), some (.int v1), some (.int v2), some (.long v3), none, some (.int v5), none, none, none], [], M)) rfl (fun _ => rfl) ?_ ?_
  · refine dp_s1 hF (i := .aload_n 0) rfl (fun _ => rfl) ?_
    refine dp_s1 hF (i := .getfield 894) rfl (fun _ => rfl) ?_
    refine dp_s1w (dp_J M 114 118) (fun (y1 : Int64) => (107, [some (.ref 114), some (.int v1), some (.int v2), some (.long v3), none, some (.long y1), none, none, none], [], M)) hF (i := .lstore 5) rfl (fun _ => rfl) (fun y1 => ?_)
    refine dp_s1 hF (i := .iconst 0) rfl (fun _ => rfl) ?_
    refine dp_s1w (0 : Int32) (fun (y2 : Int32) => (110, [some (.ref 114), some (.int v1), some (.int v2), some (.long v3), none, some (.long y1), none, some (.int y2), none], [], M)) hF (i := .istore 7) rfl (fun _ => rfl) (fun y2 => ?_)
    exact rfl
  refine dp_s1 hF (i := .aload_n 0) rfl (fun _ => rfl) ?_
  refine dp_s1 hF (i := .getfield 263) rfl (fun _ => rfl) ?_
  refine dp_s1 hF (i := .iload 5) rfl (fun _ => rfl) ?_
  refine dp_s3 hF (i := .iaload) rfl (fun _ => rfl) ?_
  refine dp_s1 hF (i := .iload_n 1) rfl (fun _ => rfl) ?_
  refine dp_s2 hF (i := .if_icmp .ne 28) (a := (25, [some (.ref 114), some (.int v1), some (.int v2), some (.long v3), none, some (.int v5), none, none, none], [], M)) (b := (50, [some (.ref 114), some (.int v1), some (.int v2), some (.long v3), none, some (.int v5), none, none, none], [], M)) rfl (fun _ => rfl) ?_ ?_
  · refine dp_s1 hF (i := .aload_n 0) rfl (fun _ => rfl) ?_
    refine dp_s1 hF (i := .iload 5) rfl (fun _ => rfl) ?_
    refine dp_si (mj := dp_m_X12_dayOfAsk) (i := .invokevirtual 891) rfl rfl (Or.inl rfl) rfl (fun _ => rfl) (fun r4 M3 => ?_)
    refine dp_s1 hF (i := .iload_n 2) rfl (fun _ => rfl) ?_
    refine dp_s2 hF (i := .if_icmp .gt 18) (a := (50, [some (.ref 114), some (.int v1), some (.int v2), some (.long v3), none, some (.int v5), none, none, none], [], M3)) (b := (35, [some (.ref 114), some (.int v1), some (.int v2), some (.long v3), none, some (.int v5), none, none, none], [], M3)) rfl (fun _ => rfl) ?_ ?_
    · refine dp_s1 hF (i := .iconst 0) rfl (fun _ => rfl) ?_
      refine dp_s1w (0 : Int32) (fun (y5 : Int32) => (53, [some (.ref 114), some (.int v1), some (.int v2), some (.long v3), none, some (.int v5), some (.int y5), none, none], [], M3)) hF (i := .istore 6) rfl (fun _ => rfl) (fun y5 => ?_)
      refine dp_s1 hF (i := .aload_n 0) rfl (fun _ => rfl) ?_
      refine dp_s1 hF (i := .getfield 269) rfl (fun _ => rfl) ?_
      refine dp_s1 hF (i := .iload 5) rfl (fun _ => rfl) ?_
      refine dp_s1 hF (i := .iload 6) rfl (fun _ => rfl) ?_
      refine dp_s2 hF (i := .ifCond .eq 7) (a := (68, [some (.ref 114), some (.int v1), some (.int v2), some (.long v3), none, some (.int v5), some (.int y5), none, none], [.int v5, .ref 199], M3)) (b := (64, [some (.ref 114), some (.int v1), some (.int v2), some (.long v3), none, some (.int v5), some (.int y5), none, none], [.int v5, .ref 199], M3)) rfl (fun _ => rfl) ?_ ?_
      · refine dp_s1 hF (i := .aload_n 0) rfl (fun _ => rfl) ?_
        refine dp_s1 hF (i := .getfield 269) rfl (fun _ => rfl) ?_
        refine dp_s1 hF (i := .iload 5) rfl (fun _ => rfl) ?_
        refine dp_s3 hF (i := .iaload) rfl (fun _ => rfl) ?_
        exact rfl
      refine dp_s1 hF (i := .iload_n 2) rfl (fun _ => rfl) ?_
      refine dp_s1 hF (i := .goto 10) rfl (fun _ => rfl) ?_
      exact rfl
    refine dp_s1 hF (i := .aload_n 0) rfl (fun _ => rfl) ?_
    refine dp_s1 hF (i := .getfield 269) rfl (fun _ => rfl) ?_
    refine dp_s1 hF (i := .iload 5) rfl (fun _ => rfl) ?_
    refine dp_s3 hF (i := .iaload) rfl (fun _ => rfl) ?_
    refine dp_s1 hF (i := .iconst (-1)) rfl (fun _ => rfl) ?_
    refine dp_s2 hF (i := .if_icmp .ne 7) (a := (46, [some (.ref 114), some (.int v1), some (.int v2), some (.long v3), none, some (.int v5), none, none, none], [], M3)) (b := (50, [some (.ref 114), some (.int v1), some (.int v2), some (.long v3), none, some (.int v5), none, none, none], [], M3)) rfl (fun _ => rfl) ?_ ?_
    · refine dp_s1 hF (i := .iconst 1) rfl (fun _ => rfl) ?_
      refine dp_s1 hF (i := .goto 4) rfl (fun _ => rfl) ?_
      refine dp_s1w (1 : Int32) (fun (y6 : Int32) => (53, [some (.ref 114), some (.int v1), some (.int v2), some (.long v3), none, some (.int v5), some (.int y6), none, none], [], M3)) hF (i := .istore 6) rfl (fun _ => rfl) (fun y6 => ?_)
      refine dp_s1 hF (i := .aload_n 0) rfl (fun _ => rfl) ?_
      refine dp_s1 hF (i := .getfield 269) rfl (fun _ => rfl) ?_
      refine dp_s1 hF (i := .iload 5) rfl (fun _ => rfl) ?_
      refine dp_s1 hF (i := .iload 6) rfl (fun _ => rfl) ?_
      refine dp_s2 hF (i := .ifCond .eq 7) (a := (68, [some (.ref 114), some (.int v1), some (.int v2), some (.long v3), none, some (.int v5), some (.int y6), none, none], [.int v5, .ref 199], M3)) (b := (64, [some (.ref 114), some (.int v1), some (.int v2), some (.long v3), none, some (.int v5), some (.int y6), none, none], [.int v5, .ref 199], M3)) rfl (fun _ => rfl) ?_ ?_
      · refine dp_s1 hF (i := .aload_n 0) rfl (fun _ => rfl) ?_
        refine dp_s1 hF (i := .getfield 269) rfl (fun _ => rfl) ?_
        refine dp_s1 hF (i := .iload 5) rfl (fun _ => rfl) ?_
        refine dp_s3 hF (i := .iaload) rfl (fun _ => rfl) ?_
        exact rfl
      refine dp_s1 hF (i := .iload_n 2) rfl (fun _ => rfl) ?_
      refine dp_s1 hF (i := .goto 10) rfl (fun _ => rfl) ?_
      exact rfl
    refine dp_s1 hF (i := .iconst 0) rfl (fun _ => rfl) ?_
    refine dp_s1w (0 : Int32) (fun (y7 : Int32) => (53, [some (.ref 114), some (.int v1), some (.int v2), some (.long v3), none, some (.int v5), some (.int y7), none, none], [], M3)) hF (i := .istore 6) rfl (fun _ => rfl) (fun y7 => ?_)
    refine dp_s1 hF (i := .aload_n 0) rfl (fun _ => rfl) ?_
    refine dp_s1 hF (i := .getfield 269) rfl (fun _ => rfl) ?_
    refine dp_s1 hF (i := .iload 5) rfl (fun _ => rfl) ?_
    refine dp_s1 hF (i := .iload 6) rfl (fun _ => rfl) ?_
    refine dp_s2 hF (i := .ifCond .eq 7) (a := (68, [some (.ref 114), some (.int v1), some (.int v2), some (.long v3), none, some (.int v5), some (.int y7), none, none], [.int v5, .ref 199], M3)) (b := (64, [some (.ref 114), some (.int v1), some (.int v2), some (.long v3), none, some (.int v5), some (.int y7), none, none], [.int v5, .ref 199], M3)) rfl (fun _ => rfl) ?_ ?_
    · refine dp_s1 hF (i := .aload_n 0) rfl (fun _ => rfl) ?_
      refine dp_s1 hF (i := .getfield 269) rfl (fun _ => rfl) ?_
      refine dp_s1 hF (i := .iload 5) rfl (fun _ => rfl) ?_
      refine dp_s3 hF (i := .iaload) rfl (fun _ => rfl) ?_
      exact rfl
    refine dp_s1 hF (i := .iload_n 2) rfl (fun _ => rfl) ?_
    refine dp_s1 hF (i := .goto 10) rfl (fun _ => rfl) ?_
    exact rfl
  refine dp_s1 hF (i := .iconst 0) rfl (fun _ => rfl) ?_
  refine dp_s1w (0 : Int32) (fun (y8 : Int32) => (53, [some (.ref 114), some (.int v1), some (.int v2), some (.long v3), none, some (.int v5), some (.int y8), none, none], [], M)) hF (i := .istore 6) rfl (fun _ => rfl) (fun y8 => ?_)
  refine dp_s1 hF (i := .aload_n 0) rfl (fun _ => rfl) ?_
  refine dp_s1 hF (i := .getfield 269) rfl (fun _ => rfl) ?_
  refine dp_s1 hF (i := .iload 5) rfl (fun _ => rfl) ?_
  refine dp_s1 hF (i := .iload 6) rfl (fun _ => rfl) ?_
  refine dp_s2 hF (i := .ifCond .eq 7) (a := (68, [some (.ref 114), some (.int v1), some (.int v2), some (.long v3), none, some (.int v5), some (.int y8), none, none], [.int v5, .ref 199], M)) (b := (64, [some (.ref 114), some (.int v1), some (.int v2), some (.long v3), none, some (.int v5), some (.int y8), none, none], [.int v5, .ref 199], M)) rfl (fun _ => rfl) ?_ ?_
  · refine dp_s1 hF (i := .aload_n 0) rfl (fun _ => rfl) ?_
    refine dp_s1 hF (i := .getfield 269) rfl (fun _ => rfl) ?_
    refine dp_s1 hF (i := .iload 5) rfl (fun _ => rfl) ?_
    refine dp_s3 hF (i := .iaload) rfl (fun _ => rfl) ?_
    exact rfl
  refine dp_s1 hF (i := .iload_n 2) rfl (fun _ => rfl) ?_
  refine dp_s1 hF (i := .goto 10) rfl (fun _ => rfl) ?_
  exact rfl
set_option maxRecDepth 20000 in
theorem D_X12_treats_110_eq (xs : Nat → Int32) (xl d : Nat) (v1 : Int32) (v2 : Int32) (v3 : Int64) (v5 : Int64) (v7 : Int32) (M : dp_M) : D_X12_treats_110 xs xl d v1 v2 v3 v5 v7 M = if (dp_I M 114 111) ≤ v7 then (dp_w (0 : Int32) (fun y1 => D_X12_treats_202 xs xl d v1 v2 v3 v5 y1 M)) else (if v7 < 0 ∨ 400 ≤ Int32.toNatClampNeg v7 then none else (if (dp_I M 197 (Int32.toNatClampNeg v7)) = v1 then (if v7 < 0 ∨ 400 ≤ Int32.toNatClampNeg v7 then none else (if (dp_I M 199 (Int32.toNatClampNeg v7)) = v2 then (if 0 < (lg_cmp v3 v5) then (if v7 < 0 ∨ 400 ≤ Int32.toNatClampNeg v7 then none else (if v3 = 0 then none else (if v7 < 0 ∨ 400 ≤ Int32.toNatClampNeg v7 then none else dp_w (dp_setJ M 200 (Int32.toNatClampNeg v7) (((dp_J M 198 (Int32.toNatClampNeg v7)) * v5) / v3)) (fun M2 => if v7 < 0 ∨ 400 ≤ Int32.toNatClampNeg v7 then none else (dp_w (dp_setJ M2 114 118 ((dp_J M2 114 118) - (dp_J M2 200 (Int32.toNatClampNeg v7)))) (fun M3 => dp_w (v7 + (1 : Int32)) (fun y4 => D_X12_treats_110 xs xl d v1 v2 v3 v5 y4 M3))))))) else (if v7 < 0 ∨ 400 ≤ Int32.toNatClampNeg v7 then none else (if v7 < 0 ∨ 400 ≤ Int32.toNatClampNeg v7 then none else dp_w (dp_setJ M 200 (Int32.toNatClampNeg v7) (dp_J M 198 (Int32.toNatClampNeg v7))) (fun M5 => if v7 < 0 ∨ 400 ≤ Int32.toNatClampNeg v7 then none else (dp_w (dp_setJ M5 114 118 ((dp_J M5 114 118) - (dp_J M5 200 (Int32.toNatClampNeg v7)))) (fun M6 => dp_w (v7 + (1 : Int32)) (fun y7 => D_X12_treats_110 xs xl d v1 v2 v3 v5 y7 M6))))))) else (dp_w (v7 + (1 : Int32)) (fun y8 => D_X12_treats_110 xs xl d v1 v2 v3 v5 y8 M)))) else (dp_w (v7 + (1 : Int32)) (fun y9 => D_X12_treats_110 xs xl d v1 v2 v3 v5 y9 M)))) := by
  have hF := dp_den_grow (md := true) (xs := xs) (xl := xl) d
  unfold D_X12_treats_110
  refine dp_s1 hF (i := .iload 7) rfl (fun _ => rfl) ?_
  refine dp_s1 hF (i := .aload_n 0) rfl (fun _ => rfl) ?_
  refine dp_s1 hF (i := .getfield 888) rfl (fun _ => rfl) ?_
  refine dp_s2 hF (i := .if_icmp .ge 83) (a := (199, [some (.ref 114), some (.int v1), some (.int v2), some (.long v3), none, some (.long v5), none, some (.int v7), none], [], M)) (b := (119, [some (.ref 114), some (.int v1), some (.int v2), some (.long v3), none, some (.long v5), none, some (.int v7), none], [], M)) rfl (fun _ => rfl) ?_ ?_
  · refine dp_s1 hF (i := .iconst 0) rfl (fun _ => rfl) ?_
    refine dp_s1w (0 : Int32) (fun (y1 : Int32) => (202, [some (.ref 114), some (.int v1), some (.int v2), some (.long v3), none, some (.long v5), none, some (.int y1), none], [], M)) hF (i := .istore 7) rfl (fun _ => rfl) (fun y1 => ?_)
    exact rfl
  refine dp_s1 hF (i := .aload_n 0) rfl (fun _ => rfl) ?_
  refine dp_s1 hF (i := .getfield 263) rfl (fun _ => rfl) ?_
  refine dp_s1 hF (i := .iload 7) rfl (fun _ => rfl) ?_
  refine dp_s3 hF (i := .iaload) rfl (fun _ => rfl) ?_
  refine dp_s1 hF (i := .iload_n 1) rfl (fun _ => rfl) ?_
  refine dp_s2 hF (i := .if_icmp .ne 66) (a := (130, [some (.ref 114), some (.int v1), some (.int v2), some (.long v3), none, some (.long v5), none, some (.int v7), none], [], M)) (b := (193, [some (.ref 114), some (.int v1), some (.int v2), some (.long v3), none, some (.long v5), none, some (.int v7), none], [], M)) rfl (fun _ => rfl) ?_ ?_
  · refine dp_s1 hF (i := .aload_n 0) rfl (fun _ => rfl) ?_
    refine dp_s1 hF (i := .getfield 269) rfl (fun _ => rfl) ?_
    refine dp_s1 hF (i := .iload 7) rfl (fun _ => rfl) ?_
    refine dp_s3 hF (i := .iaload) rfl (fun _ => rfl) ?_
    refine dp_s1 hF (i := .iload_n 2) rfl (fun _ => rfl) ?_
    refine dp_s2 hF (i := .if_icmp .ne 55) (a := (141, [some (.ref 114), some (.int v1), some (.int v2), some (.long v3), none, some (.long v5), none, some (.int v7), none], [], M)) (b := (193, [some (.ref 114), some (.int v1), some (.int v2), some (.long v3), none, some (.long v5), none, some (.int v7), none], [], M)) rfl (fun _ => rfl) ?_ ?_
    · refine dp_s1 hF (i := .aload_n 0) rfl (fun _ => rfl) ?_
      refine dp_s1 hF (i := .getfield 272) rfl (fun _ => rfl) ?_
      refine dp_s1 hF (i := .iload 7) rfl (fun _ => rfl) ?_
      refine dp_s1 hF (i := .lload_n 3) rfl (fun _ => rfl) ?_
      refine dp_s1 hF (i := .lload 5) rfl (fun _ => rfl) ?_
      refine dp_s1 hF (i := .lcmp) rfl (fun _ => rfl) ?_
      refine dp_s2 hF (i := .ifCond .gt 13) (a := (164, [some (.ref 114), some (.int v1), some (.int v2), some (.long v3), none, some (.long v5), none, some (.int v7), none], [.int v7, .ref 200], M)) (b := (154, [some (.ref 114), some (.int v1), some (.int v2), some (.long v3), none, some (.long v5), none, some (.int v7), none], [.int v7, .ref 200], M)) rfl (fun _ => rfl) ?_ ?_
      · refine dp_s1 hF (i := .aload_n 0) rfl (fun _ => rfl) ?_
        refine dp_s1 hF (i := .getfield 266) rfl (fun _ => rfl) ?_
        refine dp_s1 hF (i := .iload 7) rfl (fun _ => rfl) ?_
        refine dp_s3 hF (i := .laload) rfl (fun _ => rfl) ?_
        refine dp_s1 hF (i := .lload 5) rfl (fun _ => rfl) ?_
        refine dp_s1 hF (i := .lmul) rfl (fun _ => rfl) ?_
        refine dp_s1 hF (i := .lload_n 3) rfl (fun _ => rfl) ?_
        refine dp_s3 hF (i := .ldiv) rfl (fun _ => rfl) ?_
        refine dp_s3w (dp_setJ M 200 (Int32.toNatClampNeg v7) (((dp_J M 198 (Int32.toNatClampNeg v7)) * v5) / v3)) (fun (M2 : dp_M) => (177, [some (.ref 114), some (.int v1), some (.int v2), some (.long v3), none, some (.long v5), none, some (.int v7), none], [], M2)) hF (i := .lastore) rfl (fun _ => rfl) (fun M2 => ?_)
        refine dp_s1 hF (i := .aload_n 0) rfl (fun _ => rfl) ?_
        refine dp_s1 hF (i := .dup) rfl (fun _ => rfl) ?_
        refine dp_s1 hF (i := .getfield 894) rfl (fun _ => rfl) ?_
        refine dp_s1 hF (i := .aload_n 0) rfl (fun _ => rfl) ?_
        refine dp_s1 hF (i := .getfield 272) rfl (fun _ => rfl) ?_
        refine dp_s1 hF (i := .iload 7) rfl (fun _ => rfl) ?_
        refine dp_s3 hF (i := .laload) rfl (fun _ => rfl) ?_
        refine dp_s1 hF (i := .lsub) rfl (fun _ => rfl) ?_
        refine dp_s1w (dp_setJ M2 114 118 ((dp_J M2 114 118) - (dp_J M2 200 (Int32.toNatClampNeg v7)))) (fun (M3 : dp_M) => (193, [some (.ref 114), some (.int v1), some (.int v2), some (.long v3), none, some (.long v5), none, some (.int v7), none], [], M3)) hF (i := .putfield 894) rfl (fun _ => rfl) (fun M3 => ?_)
        refine dp_s1w (v7 + (1 : Int32)) (fun (y4 : Int32) => (196, [some (.ref 114), some (.int v1), some (.int v2), some (.long v3), none, some (.long v5), none, some (.int y4), none], [], M3)) hF (i := .iinc 7 1) rfl (fun _ => rfl) (fun y4 => ?_)
        refine dp_s1 hF (i := .goto (-86)) rfl (fun _ => rfl) ?_
        exact rfl
      refine dp_s1 hF (i := .aload_n 0) rfl (fun _ => rfl) ?_
      refine dp_s1 hF (i := .getfield 266) rfl (fun _ => rfl) ?_
      refine dp_s1 hF (i := .iload 7) rfl (fun _ => rfl) ?_
      refine dp_s3 hF (i := .laload) rfl (fun _ => rfl) ?_
      refine dp_s1 hF (i := .goto 15) rfl (fun _ => rfl) ?_
      refine dp_s3w (dp_setJ M 200 (Int32.toNatClampNeg v7) (dp_J M 198 (Int32.toNatClampNeg v7))) (fun (M5 : dp_M) => (177, [some (.ref 114), some (.int v1), some (.int v2), some (.long v3), none, some (.long v5), none, some (.int v7), none], [], M5)) hF (i := .lastore) rfl (fun _ => rfl) (fun M5 => ?_)
      refine dp_s1 hF (i := .aload_n 0) rfl (fun _ => rfl) ?_
      refine dp_s1 hF (i := .dup) rfl (fun _ => rfl) ?_
      refine dp_s1 hF (i := .getfield 894) rfl (fun _ => rfl) ?_
      refine dp_s1 hF (i := .aload_n 0) rfl (fun _ => rfl) ?_
      refine dp_s1 hF (i := .getfield 272) rfl (fun _ => rfl) ?_
      refine dp_s1 hF (i := .iload 7) rfl (fun _ => rfl) ?_
      refine dp_s3 hF (i := .laload) rfl (fun _ => rfl) ?_
      refine dp_s1 hF (i := .lsub) rfl (fun _ => rfl) ?_
      refine dp_s1w (dp_setJ M5 114 118 ((dp_J M5 114 118) - (dp_J M5 200 (Int32.toNatClampNeg v7)))) (fun (M6 : dp_M) => (193, [some (.ref 114), some (.int v1), some (.int v2), some (.long v3), none, some (.long v5), none, some (.int v7), none], [], M6)) hF (i := .putfield 894) rfl (fun _ => rfl) (fun M6 => ?_)
      refine dp_s1w (v7 + (1 : Int32)) (fun (y7 : Int32) => (196, [some (.ref 114), some (.int v1), some (.int v2), some (.long v3), none, some (.long v5), none, some (.int y7), none], [], M6)) hF (i := .iinc 7 1) rfl (fun _ => rfl) (fun y7 => ?_)
      refine dp_s1 hF (i := .goto (-86)) rfl (fun _ => rfl) ?_
      exact rfl
    refine dp_s1w (v7 + (1 : Int32)) (fun (y8 : Int32) => (196, [some (.ref 114), some (.int v1), some (.int v2), some (.long v3), none, some (.long v5), none, some (.int y8), none], [], M)) hF (i := .iinc 7 1) rfl (fun _ => rfl) (fun y8 => ?_)
    refine dp_s1 hF (i := .goto (-86)) rfl (fun _ => rfl) ?_
    exact rfl
  refine dp_s1w (v7 + (1 : Int32)) (fun (y9 : Int32) => (196, [some (.ref 114), some (.int v1), some (.int v2), some (.long v3), none, some (.long v5), none, some (.int y9), none], [], M)) hF (i := .iinc 7 1) rfl (fun _ => rfl) (fun y9 => ?_)
  refine dp_s1 hF (i := .goto (-86)) rfl (fun _ => rfl) ?_
  exact rfl
set_option maxRecDepth 20000 in
theorem D_X12_treats_75_eq (xs : Nat → Int32) (xl d : Nat) (v1 : Int32) (v2 : Int32) (v3 : Int64) (v5 : Int32) (v6 : Int32) (vs0 : Int32) (vs1 : Int32) (M : dp_M) : D_X12_treats_75 xs xl d v1 v2 v3 v5 v6 vs0 vs1 M = if vs1 < 0 ∨ 400 ≤ Int32.toNatClampNeg vs1 then none else dp_w (dp_setI M 199 (Int32.toNatClampNeg vs1) vs0) (fun M1 => if v6 = 0 then (dp_w (v3 + (0 : Int64)) (fun y2 => dp_w (v5 + (1 : Int32)) (fun y3 => D_X12_treats_5_a xs xl d v1 v2 y2 y3 v6 M1))) else (if v5 < 0 ∨ 400 ≤ Int32.toNatClampNeg v5 then none else (dp_w (v3 + (dp_J M1 198 (Int32.toNatClampNeg v5))) (fun y4 => dp_w (v5 + (1 : Int32)) (fun y5 => D_X12_treats_5_a xs xl d v1 v2 y4 y5 v6 M1))))) := by
  have hF := dp_den_grow (md := true) (xs := xs) (xl := xl) d
  unfold D_X12_treats_75
  refine dp_s3w (dp_setI M 199 (Int32.toNatClampNeg vs1) vs0) (fun (M1 : dp_M) => (76, [some (.ref 114), some (.int v1), some (.int v2), some (.long v3), none, some (.int v5), some (.int v6), none, none], [], M1)) hF (i := .iastore) rfl (fun _ => rfl) (fun M1 => ?_)
  refine dp_s1 hF (i := .lload_n 3) rfl (fun _ => rfl) ?_
  refine dp_s1 hF (i := .iload 6) rfl (fun _ => rfl) ?_
  refine dp_s2 hF (i := .ifCond .eq 13) (a := (92, [some (.ref 114), some (.int v1), some (.int v2), some (.long v3), none, some (.int v5), some (.int v6), none, none], [.long v3], M1)) (b := (82, [some (.ref 114), some (.int v1), some (.int v2), some (.long v3), none, some (.int v5), some (.int v6), none, none], [.long v3], M1)) rfl (fun _ => rfl) ?_ ?_
  · refine dp_s1 hF (i := .lconst 0) rfl (fun _ => rfl) ?_
    refine dp_s1 hF (i := .ladd) rfl (fun _ => rfl) ?_
    refine dp_s1w (v3 + (0 : Int64)) (fun (y2 : Int64) => (95, [some (.ref 114), some (.int v1), some (.int v2), some (.long y2), none, some (.int v5), some (.int v6), none, none], [], M1)) hF (i := .lstore_n 3) rfl (fun _ => rfl) (fun y2 => ?_)
    refine dp_s1w (v5 + (1 : Int32)) (fun (y3 : Int32) => (98, [some (.ref 114), some (.int v1), some (.int v2), some (.long y2), none, some (.int y3), some (.int v6), none, none], [], M1)) hF (i := .iinc 5 1) rfl (fun _ => rfl) (fun y3 => ?_)
    refine dp_s1 hF (i := .goto (-93)) rfl (fun _ => rfl) ?_
    exact rfl
  refine dp_s1 hF (i := .aload_n 0) rfl (fun _ => rfl) ?_
  refine dp_s1 hF (i := .getfield 266) rfl (fun _ => rfl) ?_
  refine dp_s1 hF (i := .iload 5) rfl (fun _ => rfl) ?_
  refine dp_s3 hF (i := .laload) rfl (fun _ => rfl) ?_
  refine dp_s1 hF (i := .goto 4) rfl (fun _ => rfl) ?_
  refine dp_s1 hF (i := .ladd) rfl (fun _ => rfl) ?_
  refine dp_s1w (v3 + (dp_J M1 198 (Int32.toNatClampNeg v5))) (fun (y4 : Int64) => (95, [some (.ref 114), some (.int v1), some (.int v2), some (.long y4), none, some (.int v5), some (.int v6), none, none], [], M1)) hF (i := .lstore_n 3) rfl (fun _ => rfl) (fun y4 => ?_)
  refine dp_s1w (v5 + (1 : Int32)) (fun (y5 : Int32) => (98, [some (.ref 114), some (.int v1), some (.int v2), some (.long y4), none, some (.int y5), some (.int v6), none, none], [], M1)) hF (i := .iinc 5 1) rfl (fun _ => rfl) (fun y5 => ?_)
  refine dp_s1 hF (i := .goto (-93)) rfl (fun _ => rfl) ?_
  exact rfl
set_option maxRecDepth 20000 in
theorem D_X12_treats_202_eq (xs : Nat → Int32) (xl d : Nat) (v1 : Int32) (v2 : Int32) (v3 : Int64) (v5 : Int64) (v7 : Int32) (M : dp_M) : D_X12_treats_202 xs xl d v1 v2 v3 v5 v7 M = if (4 : Int32) ≤ v7 then (some (.inl none, M)) else (if (lg_cmp v3 v5) ≤ 0 then (some (.inl none, M)) else (dp_w (0 : Int32) (fun y1 => D_X12_treats_218 xs xl d v1 v2 v3 v5 v7 y1 M))) := by
  have hF := dp_den_grow (md := true) (xs := xs) (xl := xl) d
  unfold D_X12_treats_202
  refine dp_s1 hF (i := .iload 7) rfl (fun _ => rfl) ?_
  refine dp_s1 hF (i := .iconst 4) rfl (fun _ => rfl) ?_
  refine dp_s2 hF (i := .if_icmp .ge 121) (a := (326, [some (.ref 114), some (.int v1), some (.int v2), some (.long v3), none, some (.long v5), none, some (.int v7), none], [], M)) (b := (208, [some (.ref 114), some (.int v1), some (.int v2), some (.long v3), none, some (.long v5), none, some (.int v7), none], [], M)) rfl (fun _ => rfl) ?_ ?_
  · exact dp_s0 hF (i := .return_) rfl (fun _ => rfl)
  refine dp_s1 hF (i := .lload_n 3) rfl (fun _ => rfl) ?_
  refine dp_s1 hF (i := .lload 5) rfl (fun _ => rfl) ?_
  refine dp_s1 hF (i := .lcmp) rfl (fun _ => rfl) ?_
  refine dp_s2 hF (i := .ifCond .le 114) (a := (326, [some (.ref 114), some (.int v1), some (.int v2), some (.long v3), none, some (.long v5), none, some (.int v7), none], [], M)) (b := (215, [some (.ref 114), some (.int v1), some (.int v2), some (.long v3), none, some (.long v5), none, some (.int v7), none], [], M)) rfl (fun _ => rfl) ?_ ?_
  · exact dp_s0 hF (i := .return_) rfl (fun _ => rfl)
  refine dp_s1 hF (i := .iconst 0) rfl (fun _ => rfl) ?_
  refine dp_s1w (0 : Int32) (fun (y1 : Int32) => (218, [some (.ref 114), some (.int v1), some (.int v2), some (.long v3), none, some (.long v5), none, some (.int v7), some (.int y1)], [], M)) hF (i := .istore 8) rfl (fun _ => rfl) (fun y1 => ?_)
  exact rfl
set_option maxRecDepth 20000 in
theorem D_X12_treats_5_a_eq (xs : Nat → Int32) (xl d : Nat) (v1 : Int32) (v2 : Int32) (v3 : Int64) (v5 : Int32) (v6 : Int32) (M : dp_M) : D_X12_treats_5_a xs xl d v1 v2 v3 v5 v6 M = if (dp_I M 114 111) ≤ v5 then (dp_w (dp_J M 114 118) (fun y1 => dp_w (0 : Int32) (fun y2 => D_X12_treats_110 xs xl d v1 v2 v3 y1 y2 M))) else (if v5 < 0 ∨ 400 ≤ Int32.toNatClampNeg v5 then none else (if (dp_I M 197 (Int32.toNatClampNeg v5)) = v1 then (dp_bi (dp_den true xs xl d 506 [.ref 114, .int v5] M) (fun r4 M3 => if v2 < r4 then (dp_w (0 : Int32) (fun y5 => if y5 = 0 then (if v5 < 0 ∨ 400 ≤ Int32.toNatClampNeg v5 then none else (D_X12_treats_75 xs xl d v1 v2 v3 v5 y5 (dp_I M3 199 (Int32.toNatClampNeg v5)) v5 M3)) else (D_X12_treats_75 xs xl d v1 v2 v3 v5 y5 v2 v5 M3))) else (if v5 < 0 ∨ 400 ≤ Int32.toNatClampNeg v5 then none else (if (dp_I M3 199 (Int32.toNatClampNeg v5)) = (-1 : Int32) then (dp_w (1 : Int32) (fun y6 => if y6 = 0 then (if v5 < 0 ∨ 400 ≤ Int32.toNatClampNeg v5 then none else (D_X12_treats_75 xs xl d v1 v2 v3 v5 y6 (dp_I M3 199 (Int32.toNatClampNeg v5)) v5 M3)) else (D_X12_treats_75 xs xl d v1 v2 v3 v5 y6 v2 v5 M3))) else (dp_w (0 : Int32) (fun y7 => if y7 = 0 then (if v5 < 0 ∨ 400 ≤ Int32.toNatClampNeg v5 then none else (D_X12_treats_75 xs xl d v1 v2 v3 v5 y7 (dp_I M3 199 (Int32.toNatClampNeg v5)) v5 M3)) else (D_X12_treats_75 xs xl d v1 v2 v3 v5 y7 v2 v5 M3))))))) else (dp_w (0 : Int32) (fun y8 => if y8 = 0 then (if v5 < 0 ∨ 400 ≤ Int32.toNatClampNeg v5 then none else (D_X12_treats_75 xs xl d v1 v2 v3 v5 y8 (dp_I M 199 (Int32.toNatClampNeg v5)) v5 M)) else (D_X12_treats_75 xs xl d v1 v2 v3 v5 y8 v2 v5 M))))) := by
  have hF := dp_den_grow (md := true) (xs := xs) (xl := xl) d
  unfold D_X12_treats_5_a
  refine dp_s1 hF (i := .iload 5) rfl (fun _ => rfl) ?_
  refine dp_s1 hF (i := .aload_n 0) rfl (fun _ => rfl) ?_
  refine dp_s1 hF (i := .getfield 888) rfl (fun _ => rfl) ?_
  refine dp_s2 hF (i := .if_icmp .ge 90) (a := (101, [some (.ref 114), some (.int v1), some (.int v2), some (.long v3), none, some (.int v5), some (.int v6), none, none], [], M)) (b := (14, [some (.ref 114), some (.int v1), some (.int v2), some (.long v3), none, some (.int v5), some (.int v6), none, none], [], M)) rfl (fun _ => rfl) ?_ ?_
  · refine dp_s1 hF (i := .aload_n 0) rfl (fun _ => rfl) ?_
    refine dp_s1 hF (i := .getfield 894) rfl (fun _ => rfl) ?_
    refine dp_s1w (dp_J M 114 118) (fun (y1 : Int64) => (107, [some (.ref 114), some (.int v1), some (.int v2), some (.long v3), none, some (.long y1), none, none, none], [], M)) hF (i := .lstore 5) rfl (fun _ => rfl) (fun y1 => ?_)
    refine dp_s1 hF (i := .iconst 0) rfl (fun _ => rfl) ?_
    refine dp_s1w (0 : Int32) (fun (y2 : Int32) => (110, [some (.ref 114), some (.int v1), some (.int v2), some (.long v3), none, some (.long y1), none, some (.int y2), none], [], M)) hF (i := .istore 7) rfl (fun _ => rfl) (fun y2 => ?_)
    exact rfl
  refine dp_s1 hF (i := .aload_n 0) rfl (fun _ => rfl) ?_
  refine dp_s1 hF (i := .getfield 263) rfl (fun _ => rfl) ?_
  refine dp_s1 hF (i := .iload 5) rfl (fun _ => rfl) ?_
  refine dp_s3 hF (i := .iaload) rfl (fun _ => rfl) ?_
  refine dp_s1 hF (i := .iload_n 1) rfl (fun _ => rfl) ?_
  refine dp_s2 hF (i := .if_icmp .ne 28) (a := (25, [some (.ref 114), some (.int v1), some (.int v2), some (.long v3), none, some (.int v5), some (.int v6), none, none], [], M)) (b := (50, [some (.ref 114), some (.int v1), some (.int v2), some (.long v3), none, some (.int v5), some (.int v6), none, none], [], M)) rfl (fun _ => rfl) ?_ ?_
  · refine dp_s1 hF (i := .aload_n 0) rfl (fun _ => rfl) ?_
    refine dp_s1 hF (i := .iload 5) rfl (fun _ => rfl) ?_
    refine dp_si (mj := dp_m_X12_dayOfAsk) (i := .invokevirtual 891) rfl rfl (Or.inl rfl) rfl (fun _ => rfl) (fun r4 M3 => ?_)
    refine dp_s1 hF (i := .iload_n 2) rfl (fun _ => rfl) ?_
    refine dp_s2 hF (i := .if_icmp .gt 18) (a := (50, [some (.ref 114), some (.int v1), some (.int v2), some (.long v3), none, some (.int v5), some (.int v6), none, none], [], M3)) (b := (35, [some (.ref 114), some (.int v1), some (.int v2), some (.long v3), none, some (.int v5), some (.int v6), none, none], [], M3)) rfl (fun _ => rfl) ?_ ?_
    · refine dp_s1 hF (i := .iconst 0) rfl (fun _ => rfl) ?_
      refine dp_s1w (0 : Int32) (fun (y5 : Int32) => (53, [some (.ref 114), some (.int v1), some (.int v2), some (.long v3), none, some (.int v5), some (.int y5), none, none], [], M3)) hF (i := .istore 6) rfl (fun _ => rfl) (fun y5 => ?_)
      refine dp_s1 hF (i := .aload_n 0) rfl (fun _ => rfl) ?_
      refine dp_s1 hF (i := .getfield 269) rfl (fun _ => rfl) ?_
      refine dp_s1 hF (i := .iload 5) rfl (fun _ => rfl) ?_
      refine dp_s1 hF (i := .iload 6) rfl (fun _ => rfl) ?_
      refine dp_s2 hF (i := .ifCond .eq 7) (a := (68, [some (.ref 114), some (.int v1), some (.int v2), some (.long v3), none, some (.int v5), some (.int y5), none, none], [.int v5, .ref 199], M3)) (b := (64, [some (.ref 114), some (.int v1), some (.int v2), some (.long v3), none, some (.int v5), some (.int y5), none, none], [.int v5, .ref 199], M3)) rfl (fun _ => rfl) ?_ ?_
      · refine dp_s1 hF (i := .aload_n 0) rfl (fun _ => rfl) ?_
        refine dp_s1 hF (i := .getfield 269) rfl (fun _ => rfl) ?_
        refine dp_s1 hF (i := .iload 5) rfl (fun _ => rfl) ?_
        refine dp_s3 hF (i := .iaload) rfl (fun _ => rfl) ?_
        exact rfl
      refine dp_s1 hF (i := .iload_n 2) rfl (fun _ => rfl) ?_
      refine dp_s1 hF (i := .goto 10) rfl (fun _ => rfl) ?_
      exact rfl
    refine dp_s1 hF (i := .aload_n 0) rfl (fun _ => rfl) ?_
    refine dp_s1 hF (i := .getfield 269) rfl (fun _ => rfl) ?_
    refine dp_s1 hF (i := .iload 5) rfl (fun _ => rfl) ?_
    refine dp_s3 hF (i := .iaload) rfl (fun _ => rfl) ?_
    refine dp_s1 hF (i := .iconst (-1)) rfl (fun _ => rfl) ?_
    refine dp_s2 hF (i := .if_icmp .ne 7) (a := (46, [some (.ref 114), some (.int v1), some (.int v2), some (.long v3), none, some (.int v5), some (.int v6), none, none], [], M3)) (b := (50, [some (.ref 114), some (.int v1), some (.int v2), some (.long v3), none, some (.int v5), some (.int v6), none, none], [], M3)) rfl (fun _ => rfl) ?_ ?_
    · refine dp_s1 hF (i := .iconst 1) rfl (fun _ => rfl) ?_
      refine dp_s1 hF (i := .goto 4) rfl (fun _ => rfl) ?_
      refine dp_s1w (1 : Int32) (fun (y6 : Int32) => (53, [some (.ref 114), some (.int v1), some (.int v2), some (.long v3), none, some (.int v5), some (.int y6), none, none], [], M3)) hF (i := .istore 6) rfl (fun _ => rfl) (fun y6 => ?_)
      refine dp_s1 hF (i := .aload_n 0) rfl (fun _ => rfl) ?_
      refine dp_s1 hF (i := .getfield 269) rfl (fun _ => rfl) ?_
      refine dp_s1 hF (i := .iload 5) rfl (fun _ => rfl) ?_
      refine dp_s1 hF (i := .iload 6) rfl (fun _ => rfl) ?_
      refine dp_s2 hF (i := .ifCond .eq 7) (a := (68, [some (.ref 114), some (.int v1), some (.int v2), some (.long v3), none, some (.int v5), some (.int y6), none, none], [.int v5, .ref 199], M3)) (b := (64, [some (.ref 114), some (.int v1), some (.int v2), some (.long v3), none, some (.int v5), some (.int y6), none, none], [.int v5, .ref 199], M3)) rfl (fun _ => rfl) ?_ ?_
      · refine dp_s1 hF (i := .aload_n 0) rfl (fun _ => rfl) ?_
        refine dp_s1 hF (i := .getfield 269) rfl (fun _ => rfl) ?_
        refine dp_s1 hF (i := .iload 5) rfl (fun _ => rfl) ?_
        refine dp_s3 hF (i := .iaload) rfl (fun _ => rfl) ?_
        exact rfl
      refine dp_s1 hF (i := .iload_n 2) rfl (fun _ => rfl) ?_
      refine dp_s1 hF (i := .goto 10) rfl (fun _ => rfl) ?_
      exact rfl
    refine dp_s1 hF (i := .iconst 0) rfl (fun _ => rfl) ?_
    refine dp_s1w (0 : Int32) (fun (y7 : Int32) => (53, [some (.ref 114), some (.int v1), some (.int v2), some (.long v3), none, some (.int v5), some (.int y7), none, none], [], M3)) hF (i := .istore 6) rfl (fun _ => rfl) (fun y7 => ?_)
    refine dp_s1 hF (i := .aload_n 0) rfl (fun _ => rfl) ?_
    refine dp_s1 hF (i := .getfield 269) rfl (fun _ => rfl) ?_
    refine dp_s1 hF (i := .iload 5) rfl (fun _ => rfl) ?_
    refine dp_s1 hF (i := .iload 6) rfl (fun _ => rfl) ?_
    refine dp_s2 hF (i := .ifCond .eq 7) (a := (68, [some (.ref 114), some (.int v1), some (.int v2), some (.long v3), none, some (.int v5), some (.int y7), none, none], [.int v5, .ref 199], M3)) (b := (64, [some (.ref 114), some (.int v1), some (.int v2), some (.long v3), none, some (.int v5), some (.int y7), none, none], [.int v5, .ref 199], M3)) rfl (fun _ => rfl) ?_ ?_
    · refine dp_s1 hF (i := .aload_n 0) rfl (fun _ => rfl) ?_
      refine dp_s1 hF (i := .getfield 269) rfl (fun _ => rfl) ?_
      refine dp_s1 hF (i := .iload 5) rfl (fun _ => rfl) ?_
      refine dp_s3 hF (i := .iaload) rfl (fun _ => rfl) ?_
      exact rfl
    refine dp_s1 hF (i := .iload_n 2) rfl (fun _ => rfl) ?_
    refine dp_s1 hF (i := .goto 10) rfl (fun _ => rfl) ?_
    exact rfl
  refine dp_s1 hF (i := .iconst 0) rfl (fun _ => rfl) ?_
  refine dp_s1w (0 : Int32) (fun (y8 : Int32) => (53, [some (.ref 114), some (.int v1), some (.int v2), some (.long v3), none, some (.int v5), some (.int y8), none, none], [], M)) hF (i := .istore 6) rfl (fun _ => rfl) (fun y8 => ?_)
  refine dp_s1 hF (i := .aload_n 0) rfl (fun _ => rfl) ?_
  refine dp_s1 hF (i := .getfield 269) rfl (fun _ => rfl) ?_
  refine dp_s1 hF (i := .iload 5) rfl (fun _ => rfl) ?_
  refine dp_s1 hF (i := .iload 6) rfl (fun _ => rfl) ?_
  refine dp_s2 hF (i := .ifCond .eq 7) (a := (68, [some (.ref 114), some (.int v1), some (.int v2), some (.long v3), none, some (.int v5), some (.int y8), none, none], [.int v5, .ref 199], M)) (b := (64, [some (.ref 114), some (.int v1), some (.int v2), some (.long v3), none, some (.int v5), some (.int y8), none, none], [.int v5, .ref 199], M)) rfl (fun _ => rfl) ?_ ?_
  · refine dp_s1 hF (i := .aload_n 0) rfl (fun _ => rfl) ?_
    refine dp_s1 hF (i := .getfield 269) rfl (fun _ => rfl) ?_
    refine dp_s1 hF (i := .iload 5) rfl (fun _ => rfl) ?_
    refine dp_s3 hF (i := .iaload) rfl (fun _ => rfl) ?_
    exact rfl
  refine dp_s1 hF (i := .iload_n 2) rfl (fun _ => rfl) ?_
  refine dp_s1 hF (i := .goto 10) rfl (fun _ => rfl) ?_
  exact rfl
set_option maxRecDepth 20000 in
theorem D_X12_treats_218_eq (xs : Nat → Int32) (xl d : Nat) (v1 : Int32) (v2 : Int32) (v3 : Int64) (v5 : Int64) (v7 : Int32) (v8 : Int32) (M : dp_M) : D_X12_treats_218 xs xl d v1 v2 v3 v5 v7 v8 M = if (dp_I M 114 111) ≤ v8 then (dp_w (v7 + (1 : Int32)) (fun y1 => D_X12_treats_202_a xs xl d v1 v2 v3 v5 y1 v8 M)) else (if v8 < 0 ∨ 400 ≤ Int32.toNatClampNeg v8 then none else (if (dp_I M 197 (Int32.toNatClampNeg v8)) = v1 then (if v8 < 0 ∨ 400 ≤ Int32.toNatClampNeg v8 then none else (if (dp_I M 199 (Int32.toNatClampNeg v8)) = v2 then (if v8 < 0 ∨ 400 ≤ Int32.toNatClampNeg v8 then none else (if (dp_I M 196 (Int32.toNatClampNeg v8)) < 0 ∨ 400 ≤ Int32.toNatClampNeg (dp_I M 196 (Int32.toNatClampNeg v8)) then none else (if (dp_I M 235 (Int32.toNatClampNeg (dp_I M 196 (Int32.toNatClampNeg v8)))) = v7 then (if v8 < 0 ∨ 400 ≤ Int32.toNatClampNeg v8 then none else (if v8 < 0 ∨ 400 ≤ Int32.toNatClampNeg v8 then none else (if 0 ≤ (lg_cmp (dp_J M 200 (Int32.toNatClampNeg v8)) (dp_J M 198 (Int32.toNatClampNeg v8))) then (dp_w (v8 + (1 : Int32)) (fun y2 => D_X12_treats_218 xs xl d v1 v2 v3 v5 v7 y2 M)) else (if (lg_cmp (dp_J M 114 118) (0 : Int64)) ≤ 0 then (dp_w (v8 + (1 : Int32)) (fun y3 => D_X12_treats_218 xs xl d v1 v2 v3 v5 v7 y3 M)) else (if v8 < 0 ∨ 400 ≤ Int32.toNatClampNeg v8 then none else (if v8 < 0 ∨ 400 ≤ Int32.toNatClampNeg v8 then none else dp_w (dp_setJ M 200 (Int32.toNatClampNeg v8) ((dp_J M 200 (Int32.toNatClampNeg v8)) + (1 : Int64))) (fun M4 => dp_w (dp_setJ M4 114 118 ((dp_J M4 114 118) - (1 : Int64))) (fun M5 => dp_w (v8 + (1 : Int32)) (fun y6 => D_X12_treats_218 xs xl d v1 v2 v3 v5 v7 y6 M5))))))))) else (dp_w (v8 + (1 : Int32)) (fun y7 => D_X12_treats_218 xs xl d v1 v2 v3 v5 v7 y7 M))))) else (dp_w (v8 + (1 : Int32)) (fun y8 => D_X12_treats_218 xs xl d v1 v2 v3 v5 v7 y8 M)))) else (dp_w (v8 + (1 : Int32)) (fun y9 => D_X12_treats_218 xs xl d v1 v2 v3 v5 v7 y9 M)))) := by
  have hF := dp_den_grow (md := true) (xs := xs) (xl := xl) d
  unfold D_X12_treats_218
  refine dp_s1 hF (i := .iload 8) rfl (fun _ => rfl) ?_
  refine dp_s1 hF (i := .aload_n 0) rfl (fun _ => rfl) ?_
  refine dp_s1 hF (i := .getfield 888) rfl (fun _ => rfl) ?_
  refine dp_s2 hF (i := .if_icmp .ge 96) (a := (320, [some (.ref 114), some (.int v1), some (.int v2), some (.long v3), none, some (.long v5), none, some (.int v7), some (.int v8)], [], M)) (b := (227, [some (.ref 114), some (.int v1), some (.int v2), some (.long v3), none, some (.long v5), none, some (.int v7), some (.int v8)], [], M)) rfl (fun _ => rfl) ?_ ?_
  · refine dp_s1w (v7 + (1 : Int32)) (fun (y1 : Int32) => (323, [some (.ref 114), some (.int v1), some (.int v2), some (.long v3), none, some (.long v5), none, some (.int y1), some (.int v8)], [], M)) hF (i := .iinc 7 1) rfl (fun _ => rfl) (fun y1 => ?_)
    refine dp_s1 hF (i := .goto (-121)) rfl (fun _ => rfl) ?_
    exact rfl
  refine dp_s1 hF (i := .aload_n 0) rfl (fun _ => rfl) ?_
  refine dp_s1 hF (i := .getfield 263) rfl (fun _ => rfl) ?_
  refine dp_s1 hF (i := .iload 8) rfl (fun _ => rfl) ?_
  refine dp_s3 hF (i := .iaload) rfl (fun _ => rfl) ?_
  refine dp_s1 hF (i := .iload_n 1) rfl (fun _ => rfl) ?_
  refine dp_s2 hF (i := .if_icmp .ne 79) (a := (238, [some (.ref 114), some (.int v1), some (.int v2), some (.long v3), none, some (.long v5), none, some (.int v7), some (.int v8)], [], M)) (b := (314, [some (.ref 114), some (.int v1), some (.int v2), some (.long v3), none, some (.long v5), none, some (.int v7), some (.int v8)], [], M)) rfl (fun _ => rfl) ?_ ?_
  · refine dp_s1 hF (i := .aload_n 0) rfl (fun _ => rfl) ?_
    refine dp_s1 hF (i := .getfield 269) rfl (fun _ => rfl) ?_
    refine dp_s1 hF (i := .iload 8) rfl (fun _ => rfl) ?_
    refine dp_s3 hF (i := .iaload) rfl (fun _ => rfl) ?_
    refine dp_s1 hF (i := .iload_n 2) rfl (fun _ => rfl) ?_
    refine dp_s2 hF (i := .if_icmp .ne 68) (a := (249, [some (.ref 114), some (.int v1), some (.int v2), some (.long v3), none, some (.long v5), none, some (.int v7), some (.int v8)], [], M)) (b := (314, [some (.ref 114), some (.int v1), some (.int v2), some (.long v3), none, some (.long v5), none, some (.int v7), some (.int v8)], [], M)) rfl (fun _ => rfl) ?_ ?_
    · refine dp_s1 hF (i := .aload_n 0) rfl (fun _ => rfl) ?_
      refine dp_s1 hF (i := .getfield 386) rfl (fun _ => rfl) ?_
      refine dp_s1 hF (i := .aload_n 0) rfl (fun _ => rfl) ?_
      refine dp_s1 hF (i := .getfield 260) rfl (fun _ => rfl) ?_
      refine dp_s1 hF (i := .iload 8) rfl (fun _ => rfl) ?_
      refine dp_s3 hF (i := .iaload) rfl (fun _ => rfl) ?_
      refine dp_s3 hF (i := .iaload) rfl (fun _ => rfl) ?_
      refine dp_s1 hF (i := .iload 7) rfl (fun _ => rfl) ?_
      refine dp_s2 hF (i := .if_icmp .ne 51) (a := (266, [some (.ref 114), some (.int v1), some (.int v2), some (.long v3), none, some (.long v5), none, some (.int v7), some (.int v8)], [], M)) (b := (314, [some (.ref 114), some (.int v1), some (.int v2), some (.long v3), none, some (.long v5), none, some (.int v7), some (.int v8)], [], M)) rfl (fun _ => rfl) ?_ ?_
      · refine dp_s1 hF (i := .aload_n 0) rfl (fun _ => rfl) ?_
        refine dp_s1 hF (i := .getfield 272) rfl (fun _ => rfl) ?_
        refine dp_s1 hF (i := .iload 8) rfl (fun _ => rfl) ?_
        refine dp_s3 hF (i := .laload) rfl (fun _ => rfl) ?_
        refine dp_s1 hF (i := .aload_n 0) rfl (fun _ => rfl) ?_
        refine dp_s1 hF (i := .getfield 266) rfl (fun _ => rfl) ?_
        refine dp_s1 hF (i := .iload 8) rfl (fun _ => rfl) ?_
        refine dp_s3 hF (i := .laload) rfl (fun _ => rfl) ?_
        refine dp_s1 hF (i := .lcmp) rfl (fun _ => rfl) ?_
        refine dp_s2 hF (i := .ifCond .ge 33) (a := (314, [some (.ref 114), some (.int v1), some (.int v2), some (.long v3), none, some (.long v5), none, some (.int v7), some (.int v8)], [], M)) (b := (284, [some (.ref 114), some (.int v1), some (.int v2), some (.long v3), none, some (.long v5), none, some (.int v7), some (.int v8)], [], M)) rfl (fun _ => rfl) ?_ ?_
        · refine dp_s1w (v8 + (1 : Int32)) (fun (y2 : Int32) => (317, [some (.ref 114), some (.int v1), some (.int v2), some (.long v3), none, some (.long v5), none, some (.int v7), some (.int y2)], [], M)) hF (i := .iinc 8 1) rfl (fun _ => rfl) (fun y2 => ?_)
          refine dp_s1 hF (i := .goto (-99)) rfl (fun _ => rfl) ?_
          exact rfl
        refine dp_s1 hF (i := .aload_n 0) rfl (fun _ => rfl) ?_
        refine dp_s1 hF (i := .getfield 894) rfl (fun _ => rfl) ?_
        refine dp_s1 hF (i := .lconst 0) rfl (fun _ => rfl) ?_
        refine dp_s1 hF (i := .lcmp) rfl (fun _ => rfl) ?_
        refine dp_s2 hF (i := .ifCond .le 24) (a := (314, [some (.ref 114), some (.int v1), some (.int v2), some (.long v3), none, some (.long v5), none, some (.int v7), some (.int v8)], [], M)) (b := (293, [some (.ref 114), some (.int v1), some (.int v2), some (.long v3), none, some (.long v5), none, some (.int v7), some (.int v8)], [], M)) rfl (fun _ => rfl) ?_ ?_
        · refine dp_s1w (v8 + (1 : Int32)) (fun (y3 : Int32) => (317, [some (.ref 114), some (.int v1), some (.int v2), some (.long v3), none, some (.long v5), none, some (.int v7), some (.int y3)], [], M)) hF (i := .iinc 8 1) rfl (fun _ => rfl) (fun y3 => ?_)
          refine dp_s1 hF (i := .goto (-99)) rfl (fun _ => rfl) ?_
          exact rfl
        refine dp_s1 hF (i := .aload_n 0) rfl (fun _ => rfl) ?_
        refine dp_s1 hF (i := .getfield 272) rfl (fun _ => rfl) ?_
        refine dp_s1 hF (i := .iload 8) rfl (fun _ => rfl) ?_
        refine dp_s1 hF (i := .dup2) rfl (fun _ => rfl) ?_
        refine dp_s3 hF (i := .laload) rfl (fun _ => rfl) ?_
        refine dp_s1 hF (i := .lconst 1) rfl (fun _ => rfl) ?_
        refine dp_s1 hF (i := .ladd) rfl (fun _ => rfl) ?_
        refine dp_s3w (dp_setJ M 200 (Int32.toNatClampNeg v8) ((dp_J M 200 (Int32.toNatClampNeg v8)) + (1 : Int64))) (fun (M4 : dp_M) => (304, [some (.ref 114), some (.int v1), some (.int v2), some (.long v3), none, some (.long v5), none, some (.int v7), some (.int v8)], [], M4)) hF (i := .lastore) rfl (fun _ => rfl) (fun M4 => ?_)
        refine dp_s1 hF (i := .aload_n 0) rfl (fun _ => rfl) ?_
        refine dp_s1 hF (i := .dup) rfl (fun _ => rfl) ?_
        refine dp_s1 hF (i := .getfield 894) rfl (fun _ => rfl) ?_
        refine dp_s1 hF (i := .lconst 1) rfl (fun _ => rfl) ?_
        refine dp_s1 hF (i := .lsub) rfl (fun _ => rfl) ?_
        refine dp_s1w (dp_setJ M4 114 118 ((dp_J M4 114 118) - (1 : Int64))) (fun (M5 : dp_M) => (314, [some (.ref 114), some (.int v1), some (.int v2), some (.long v3), none, some (.long v5), none, some (.int v7), some (.int v8)], [], M5)) hF (i := .putfield 894) rfl (fun _ => rfl) (fun M5 => ?_)
        refine dp_s1w (v8 + (1 : Int32)) (fun (y6 : Int32) => (317, [some (.ref 114), some (.int v1), some (.int v2), some (.long v3), none, some (.long v5), none, some (.int v7), some (.int y6)], [], M5)) hF (i := .iinc 8 1) rfl (fun _ => rfl) (fun y6 => ?_)
        refine dp_s1 hF (i := .goto (-99)) rfl (fun _ => rfl) ?_
        exact rfl
      refine dp_s1w (v8 + (1 : Int32)) (fun (y7 : Int32) => (317, [some (.ref 114), some (.int v1), some (.int v2), some (.long v3), none, some (.long v5), none, some (.int v7), some (.int y7)], [], M)) hF (i := .iinc 8 1) rfl (fun _ => rfl) (fun y7 => ?_)
      refine dp_s1 hF (i := .goto (-99)) rfl (fun _ => rfl) ?_
      exact rfl
    refine dp_s1w (v8 + (1 : Int32)) (fun (y8 : Int32) => (317, [some (.ref 114), some (.int v1), some (.int v2), some (.long v3), none, some (.long v5), none, some (.int v7), some (.int y8)], [], M)) hF (i := .iinc 8 1) rfl (fun _ => rfl) (fun y8 => ?_)
    refine dp_s1 hF (i := .goto (-99)) rfl (fun _ => rfl) ?_
    exact rfl
  refine dp_s1w (v8 + (1 : Int32)) (fun (y9 : Int32) => (317, [some (.ref 114), some (.int v1), some (.int v2), some (.long v3), none, some (.long v5), none, some (.int v7), some (.int y9)], [], M)) hF (i := .iinc 8 1) rfl (fun _ => rfl) (fun y9 => ?_)
  refine dp_s1 hF (i := .goto (-99)) rfl (fun _ => rfl) ?_
  exact rfl
set_option maxRecDepth 20000 in
theorem D_X12_treats_202_a_eq (xs : Nat → Int32) (xl d : Nat) (v1 : Int32) (v2 : Int32) (v3 : Int64) (v5 : Int64) (v7 : Int32) (v8 : Int32) (M : dp_M) : D_X12_treats_202_a xs xl d v1 v2 v3 v5 v7 v8 M = if (4 : Int32) ≤ v7 then (some (.inl none, M)) else (if (lg_cmp v3 v5) ≤ 0 then (some (.inl none, M)) else (dp_w (0 : Int32) (fun y1 => D_X12_treats_218 xs xl d v1 v2 v3 v5 v7 y1 M))) := by
  have hF := dp_den_grow (md := true) (xs := xs) (xl := xl) d
  unfold D_X12_treats_202_a
  refine dp_s1 hF (i := .iload 7) rfl (fun _ => rfl) ?_
  refine dp_s1 hF (i := .iconst 4) rfl (fun _ => rfl) ?_
  refine dp_s2 hF (i := .if_icmp .ge 121) (a := (326, [some (.ref 114), some (.int v1), some (.int v2), some (.long v3), none, some (.long v5), none, some (.int v7), some (.int v8)], [], M)) (b := (208, [some (.ref 114), some (.int v1), some (.int v2), some (.long v3), none, some (.long v5), none, some (.int v7), some (.int v8)], [], M)) rfl (fun _ => rfl) ?_ ?_
  · exact dp_s0 hF (i := .return_) rfl (fun _ => rfl)
  refine dp_s1 hF (i := .lload_n 3) rfl (fun _ => rfl) ?_
  refine dp_s1 hF (i := .lload 5) rfl (fun _ => rfl) ?_
  refine dp_s1 hF (i := .lcmp) rfl (fun _ => rfl) ?_
  refine dp_s2 hF (i := .ifCond .le 114) (a := (326, [some (.ref 114), some (.int v1), some (.int v2), some (.long v3), none, some (.long v5), none, some (.int v7), some (.int v8)], [], M)) (b := (215, [some (.ref 114), some (.int v1), some (.int v2), some (.long v3), none, some (.long v5), none, some (.int v7), some (.int v8)], [], M)) rfl (fun _ => rfl) ?_ ?_
  · exact dp_s0 hF (i := .return_) rfl (fun _ => rfl)
  refine dp_s1 hF (i := .iconst 0) rfl (fun _ => rfl) ?_
  refine dp_s1w (0 : Int32) (fun (y1 : Int32) => (218, [some (.ref 114), some (.int v1), some (.int v2), some (.long v3), none, some (.long v5), none, some (.int v7), some (.int y1)], [], M)) hF (i := .istore 8) rfl (fun _ => rfl) (fun y1 => ?_)
  exact rfl
noncomputable def D_X12_course_0 (xs : Nat → Int32) (xl d : Nat) (v1 : Int32) (v2 : Int32) (M : dp_M) : Option dp_Res := dp_lim true xs xl (dp_den true xs xl d) dp_m_X12_course (0, [some (.ref 114), some (.int v1), some (.int v2), none], [], M)
noncomputable def D_X12_course_12 (xs : Nat → Int32) (xl d : Nat) (v1 : Int32) (v2 : Int32) (v3 : Int32) (M : dp_M) : Option dp_Res := dp_lim true xs xl (dp_den true xs xl d) dp_m_X12_course (12, [some (.ref 114), some (.int v1), some (.int v2), some (.int v3)], [], M)
noncomputable def D_X12_course_85 (xs : Nat → Int32) (xl d : Nat) (v1 : Int32) (v2 : Int32) (v3 : Int32) (M : dp_M) : Option dp_Res := dp_lim true xs xl (dp_den true xs xl d) dp_m_X12_course (85, [some (.ref 114), some (.int v1), some (.int v2), some (.int v3)], [], M)
noncomputable def D_X12_course_45 (xs : Nat → Int32) (xl d : Nat) (v1 : Int32) (v2 : Int32) (v3 : Int32) (vs0 : Int32) (vs1 : Int32) (M : dp_M) : Option dp_Res := dp_lim true xs xl (dp_den true xs xl d) dp_m_X12_course (45, [some (.ref 114), some (.int v1), some (.int v2), some (.int v3)], [.int vs0, .int vs1, .ref 199], M)
theorem D_X12_course_0_den (xs : Nat → Int32) (xl d : Nat) (a0 : Int32) (a1 : Int32) (M : dp_M) : dp_den true xs xl (d + 1) 508 [.ref 114, .int a0, .int a1] M = D_X12_course_0 xs xl d a0 a1 M := rfl
set_option maxRecDepth 20000 in
theorem D_X12_course_0_eq (xs : Nat → Int32) (xl d : Nat) (v1 : Int32) (v2 : Int32) (M : dp_M) : D_X12_course_0 xs xl d v1 v2 M = if v1 < 0 ∨ 16 ≤ Int32.toNatClampNeg v1 then none else (dp_w (dp_setJ M 114 118 (dp_J M 191 (Int32.toNatClampNeg v1))) (fun M1 => dp_w (0 : Int32) (fun y2 => D_X12_course_12 xs xl d v1 v2 y2 M1))) := by
  have hF := dp_den_grow (md := true) (xs := xs) (xl := xl) d
  unfold D_X12_course_0
  refine dp_s1 hF (i := .aload_n 0) rfl (fun _ => rfl) ?_
  refine dp_s1 hF (i := .aload_n 0) rfl (fun _ => rfl) ?_
  refine dp_s1 hF (i := .getfield 245) rfl (fun _ => rfl) ?_
  refine dp_s1 hF (i := .iload_n 1) rfl (fun _ => rfl) ?_
  refine dp_s3 hF (i := .laload) rfl (fun _ => rfl) ?_
  refine dp_s1w (dp_setJ M 114 118 (dp_J M 191 (Int32.toNatClampNeg v1))) (fun (M1 : dp_M) => (10, [some (.ref 114), some (.int v1), some (.int v2), none], [], M1)) hF (i := .putfield 894) rfl (fun _ => rfl) (fun M1 => ?_)
  refine dp_s1 hF (i := .iconst 0) rfl (fun _ => rfl) ?_
  refine dp_s1w (0 : Int32) (fun (y2 : Int32) => (12, [some (.ref 114), some (.int v1), some (.int v2), some (.int y2)], [], M1)) hF (i := .istore_n 3) rfl (fun _ => rfl) (fun y2 => ?_)
  exact rfl
set_option maxRecDepth 20000 in
theorem D_X12_course_12_eq (xs : Nat → Int32) (xl d : Nat) (v1 : Int32) (v2 : Int32) (v3 : Int32) (M : dp_M) : D_X12_course_12 xs xl d v1 v2 v3 M = if (dp_I M 114 111) ≤ v3 then (if v1 < 0 ∨ 16 ≤ Int32.toNatClampNeg v1 then none else (dp_w (dp_I M 192 (Int32.toNatClampNeg v1)) (fun y1 => D_X12_course_85 xs xl d v1 v2 y1 M))) else (if v3 < 0 ∨ 400 ≤ Int32.toNatClampNeg v3 then none else (if (dp_I M 197 (Int32.toNatClampNeg v3)) = v1 then (D_X12_course_45 xs xl d v1 v2 v3 (-1 : Int32) v3 M) else (if v3 < 0 ∨ 400 ≤ Int32.toNatClampNeg v3 then none else (D_X12_course_45 xs xl d v1 v2 v3 (dp_I M 199 (Int32.toNatClampNeg v3)) v3 M)))) := by
  have hF := dp_den_grow (md := true) (xs := xs) (xl := xl) d
  unfold D_X12_course_12
  refine dp_s1 hF (i := .iload_n 3) rfl (fun _ => rfl) ?_
  refine dp_s1 hF (i := .aload_n 0) rfl (fun _ => rfl) ?_
  refine dp_s1 hF (i := .getfield 888) rfl (fun _ => rfl) ?_
  refine dp_s2 hF (i := .if_icmp .ge 61) (a := (78, [some (.ref 114), some (.int v1), some (.int v2), some (.int v3)], [], M)) (b := (20, [some (.ref 114), some (.int v1), some (.int v2), some (.int v3)], [], M)) rfl (fun _ => rfl) ?_ ?_
  · refine dp_s1 hF (i := .aload_n 0) rfl (fun _ => rfl) ?_
    refine dp_s1 hF (i := .getfield 248) rfl (fun _ => rfl) ?_
    refine dp_s1 hF (i := .iload_n 1) rfl (fun _ => rfl) ?_
    refine dp_s3 hF (i := .iaload) rfl (fun _ => rfl) ?_
    refine dp_s1w (dp_I M 192 (Int32.toNatClampNeg v1)) (fun (y1 : Int32) => (85, [some (.ref 114), some (.int v1), some (.int v2), some (.int y1)], [], M)) hF (i := .istore_n 3) rfl (fun _ => rfl) (fun y1 => ?_)
    exact rfl
  refine dp_s1 hF (i := .aload_n 0) rfl (fun _ => rfl) ?_
  refine dp_s1 hF (i := .getfield 269) rfl (fun _ => rfl) ?_
  refine dp_s1 hF (i := .iload_n 3) rfl (fun _ => rfl) ?_
  refine dp_s1 hF (i := .aload_n 0) rfl (fun _ => rfl) ?_
  refine dp_s1 hF (i := .getfield 263) rfl (fun _ => rfl) ?_
  refine dp_s1 hF (i := .iload_n 3) rfl (fun _ => rfl) ?_
  refine dp_s3 hF (i := .iaload) rfl (fun _ => rfl) ?_
  refine dp_s1 hF (i := .iload_n 1) rfl (fun _ => rfl) ?_
  refine dp_s2 hF (i := .if_icmp .ne 7) (a := (35, [some (.ref 114), some (.int v1), some (.int v2), some (.int v3)], [.int v3, .ref 199], M)) (b := (39, [some (.ref 114), some (.int v1), some (.int v2), some (.int v3)], [.int v3, .ref 199], M)) rfl (fun _ => rfl) ?_ ?_
  · refine dp_s1 hF (i := .iconst (-1)) rfl (fun _ => rfl) ?_
    refine dp_s1 hF (i := .goto 9) rfl (fun _ => rfl) ?_
    exact rfl
  refine dp_s1 hF (i := .aload_n 0) rfl (fun _ => rfl) ?_
  refine dp_s1 hF (i := .getfield 269) rfl (fun _ => rfl) ?_
  refine dp_s1 hF (i := .iload_n 3) rfl (fun _ => rfl) ?_
  refine dp_s3 hF (i := .iaload) rfl (fun _ => rfl) ?_
  exact rfl
set_option maxRecDepth 20000 in
theorem D_X12_course_85_eq (xs : Nat → Int32) (xl d : Nat) (v1 : Int32) (v2 : Int32) (v3 : Int32) (M : dp_M) : D_X12_course_85 xs xl d v1 v2 v3 M = if v2 < v3 then (some (.inl none, M)) else (if v1 < 0 ∨ 16 ≤ Int32.toNatClampNeg v1 then none else (if (dp_I M 193 (Int32.toNatClampNeg v1)) < v3 then (some (.inl none, M)) else (if (((401 : Int32) * v1) + v3) < 0 ∨ 6416 ≤ Int32.toNatClampNeg (((401 : Int32) * v1) + v3) then none else (if (dp_I M 195 (Int32.toNatClampNeg (((401 : Int32) * v1) + v3))) = 0 then (dp_bv (dp_den true xs xl d 507 [.ref 114, .int v1, .int v3] M) (fun M1 => dp_w (v3 + (1 : Int32)) (fun y2 => D_X12_course_85 xs xl d v1 v2 y2 M1))) else (dp_w (v3 + (1 : Int32)) (fun y3 => D_X12_course_85 xs xl d v1 v2 y3 M)))))) := by
  have hF := dp_den_grow (md := true) (xs := xs) (xl := xl) d
  unfold D_X12_course_85
  refine dp_s1 hF (i := .iload_n 3) rfl (fun _ => rfl) ?_
  refine dp_s1 hF (i := .iload_n 2) rfl (fun _ => rfl) ?_
  refine dp_s2 hF (i := .if_icmp .gt 40) (a := (127, [some (.ref 114), some (.int v1), some (.int v2), some (.int v3)], [], M)) (b := (90, [some (.ref 114), some (.int v1), some (.int v2), some (.int v3)], [], M)) rfl (fun _ => rfl) ?_ ?_
  · exact dp_s0 hF (i := .return_) rfl (fun _ => rfl)
  refine dp_s1 hF (i := .iload_n 3) rfl (fun _ => rfl) ?_
  refine dp_s1 hF (i := .aload_n 0) rfl (fun _ => rfl) ?_
  refine dp_s1 hF (i := .getfield 251) rfl (fun _ => rfl) ?_
  refine dp_s1 hF (i := .iload_n 1) rfl (fun _ => rfl) ?_
  refine dp_s3 hF (i := .iaload) rfl (fun _ => rfl) ?_
  refine dp_s2 hF (i := .if_icmp .gt 30) (a := (127, [some (.ref 114), some (.int v1), some (.int v2), some (.int v3)], [], M)) (b := (100, [some (.ref 114), some (.int v1), some (.int v2), some (.int v3)], [], M)) rfl (fun _ => rfl) ?_ ?_
  · exact dp_s0 hF (i := .return_) rfl (fun _ => rfl)
  refine dp_s1 hF (i := .aload_n 0) rfl (fun _ => rfl) ?_
  refine dp_s1 hF (i := .getfield 257) rfl (fun _ => rfl) ?_
  refine dp_s1 hF (i := .sipush 401) rfl (fun _ => rfl) ?_
  refine dp_s1 hF (i := .iload_n 1) rfl (fun _ => rfl) ?_
  refine dp_s1 hF (i := .imul) rfl (fun _ => rfl) ?_
  refine dp_s1 hF (i := .iload_n 3) rfl (fun _ => rfl) ?_
  refine dp_s1 hF (i := .iadd) rfl (fun _ => rfl) ?_
  refine dp_s3 hF (i := .baload) rfl (fun _ => rfl) ?_
  refine dp_s2 hF (i := .ifCond .ne 9) (a := (115, [some (.ref 114), some (.int v1), some (.int v2), some (.int v3)], [], M)) (b := (121, [some (.ref 114), some (.int v1), some (.int v2), some (.int v3)], [], M)) rfl (fun _ => rfl) ?_ ?_
  · refine dp_s1 hF (i := .aload_n 0) rfl (fun _ => rfl) ?_
    refine dp_s1 hF (i := .iload_n 1) rfl (fun _ => rfl) ?_
    refine dp_s1 hF (i := .iload_n 3) rfl (fun _ => rfl) ?_
    refine dp_sv (mj := dp_m_X12_treats) (i := .invokevirtual 897) rfl rfl rfl rfl (fun _ => rfl) (fun M1 => ?_)
    refine dp_s1w (v3 + (1 : Int32)) (fun (y2 : Int32) => (124, [some (.ref 114), some (.int v1), some (.int v2), some (.int y2)], [], M1)) hF (i := .iinc 3 1) rfl (fun _ => rfl) (fun y2 => ?_)
    refine dp_s1 hF (i := .goto (-39)) rfl (fun _ => rfl) ?_
    exact rfl
  refine dp_s1w (v3 + (1 : Int32)) (fun (y3 : Int32) => (124, [some (.ref 114), some (.int v1), some (.int v2), some (.int y3)], [], M)) hF (i := .iinc 3 1) rfl (fun _ => rfl) (fun y3 => ?_)
  refine dp_s1 hF (i := .goto (-39)) rfl (fun _ => rfl) ?_
  exact rfl
set_option maxRecDepth 20000 in
theorem D_X12_course_45_eq (xs : Nat → Int32) (xl d : Nat) (v1 : Int32) (v2 : Int32) (v3 : Int32) (vs0 : Int32) (vs1 : Int32) (M : dp_M) : D_X12_course_45 xs xl d v1 v2 v3 vs0 vs1 M = if vs1 < 0 ∨ 400 ≤ Int32.toNatClampNeg vs1 then none else dp_w (dp_setI M 199 (Int32.toNatClampNeg vs1) vs0) (fun M1 => if v3 < 0 ∨ 400 ≤ Int32.toNatClampNeg v3 then none else (if (dp_I M1 197 (Int32.toNatClampNeg v3)) = v1 then (if v3 < 0 ∨ 400 ≤ Int32.toNatClampNeg v3 then none else dp_w (dp_setJ M1 200 (Int32.toNatClampNeg v3) (0 : Int64)) (fun M2 => dp_w (v3 + (1 : Int32)) (fun y3 => D_X12_course_12 xs xl d v1 v2 y3 M2))) else (if v3 < 0 ∨ 400 ≤ Int32.toNatClampNeg v3 then none else (if v3 < 0 ∨ 400 ≤ Int32.toNatClampNeg v3 then none else dp_w (dp_setJ M1 200 (Int32.toNatClampNeg v3) (dp_J M1 200 (Int32.toNatClampNeg v3))) (fun M4 => dp_w (v3 + (1 : Int32)) (fun y5 => D_X12_course_12 xs xl d v1 v2 y5 M4)))))) := by
  have hF := dp_den_grow (md := true) (xs := xs) (xl := xl) d
  unfold D_X12_course_45
  refine dp_s3w (dp_setI M 199 (Int32.toNatClampNeg vs1) vs0) (fun (M1 : dp_M) => (46, [some (.ref 114), some (.int v1), some (.int v2), some (.int v3)], [], M1)) hF (i := .iastore) rfl (fun _ => rfl) (fun M1 => ?_)
  refine dp_s1 hF (i := .aload_n 0) rfl (fun _ => rfl) ?_
  refine dp_s1 hF (i := .getfield 272) rfl (fun _ => rfl) ?_
  refine dp_s1 hF (i := .iload_n 3) rfl (fun _ => rfl) ?_
  refine dp_s1 hF (i := .aload_n 0) rfl (fun _ => rfl) ?_
  refine dp_s1 hF (i := .getfield 263) rfl (fun _ => rfl) ?_
  refine dp_s1 hF (i := .iload_n 3) rfl (fun _ => rfl) ?_
  refine dp_s3 hF (i := .iaload) rfl (fun _ => rfl) ?_
  refine dp_s1 hF (i := .iload_n 1) rfl (fun _ => rfl) ?_
  refine dp_s2 hF (i := .if_icmp .ne 7) (a := (61, [some (.ref 114), some (.int v1), some (.int v2), some (.int v3)], [.int v3, .ref 200], M1)) (b := (65, [some (.ref 114), some (.int v1), some (.int v2), some (.int v3)], [.int v3, .ref 200], M1)) rfl (fun _ => rfl) ?_ ?_
  · refine dp_s1 hF (i := .lconst 0) rfl (fun _ => rfl) ?_
    refine dp_s1 hF (i := .goto 9) rfl (fun _ => rfl) ?_
    refine dp_s3w (dp_setJ M1 200 (Int32.toNatClampNeg v3) (0 : Int64)) (fun (M2 : dp_M) => (72, [some (.ref 114), some (.int v1), some (.int v2), some (.int v3)], [], M2)) hF (i := .lastore) rfl (fun _ => rfl) (fun M2 => ?_)
    refine dp_s1w (v3 + (1 : Int32)) (fun (y3 : Int32) => (75, [some (.ref 114), some (.int v1), some (.int v2), some (.int y3)], [], M2)) hF (i := .iinc 3 1) rfl (fun _ => rfl) (fun y3 => ?_)
    refine dp_s1 hF (i := .goto (-63)) rfl (fun _ => rfl) ?_
    exact rfl
  refine dp_s1 hF (i := .aload_n 0) rfl (fun _ => rfl) ?_
  refine dp_s1 hF (i := .getfield 272) rfl (fun _ => rfl) ?_
  refine dp_s1 hF (i := .iload_n 3) rfl (fun _ => rfl) ?_
  refine dp_s3 hF (i := .laload) rfl (fun _ => rfl) ?_
  refine dp_s3w (dp_setJ M1 200 (Int32.toNatClampNeg v3) (dp_J M1 200 (Int32.toNatClampNeg v3))) (fun (M4 : dp_M) => (72, [some (.ref 114), some (.int v1), some (.int v2), some (.int v3)], [], M4)) hF (i := .lastore) rfl (fun _ => rfl) (fun M4 => ?_)
  refine dp_s1w (v3 + (1 : Int32)) (fun (y5 : Int32) => (75, [some (.ref 114), some (.int v1), some (.int v2), some (.int y5)], [], M4)) hF (i := .iinc 3 1) rfl (fun _ => rfl) (fun y5 => ?_)
  refine dp_s1 hF (i := .goto (-63)) rfl (fun _ => rfl) ?_
  exact rfl
noncomputable def D_X12_order_0 (xs : Nat → Int32) (xl d : Nat) (v1 : Int64) (v3 : Int32) (v4 : Int32) (M : dp_M) : Option dp_Res := dp_lim true xs xl (dp_den true xs xl d) dp_m_X12_order (0, [some (.ref 114), some (.long v1), none, some (.int v3), some (.int v4)], [], M)
theorem D_X12_order_0_den (xs : Nat → Int32) (xl d : Nat) (a0 : Int64) (a1 : Int32) (a2 : Int32) (M : dp_M) : dp_den true xs xl (d + 1) 509 [.ref 114, .long a0, .int a1, .int a2] M = D_X12_order_0 xs xl d a0 a1 a2 M := rfl
set_option maxRecDepth 20000 in
theorem D_X12_order_0_eq (xs : Nat → Int32) (xl d : Nat) (v1 : Int64) (v3 : Int32) (v4 : Int32) (M : dp_M) : D_X12_order_0 xs xl d v1 v3 v4 M = dp_bi (dp_den true xs xl d 367 [.long v1, .long (1 : Int64), .long (1000000000 : Int64)] M) (fun r2 M1 => if r2 = 0 then (dp_bi (dp_den true xs xl d 366 [.ref 114, .int (1 : Int32)] M1) (fun r4 M3 => some (.inl (some (.int r4)), M3))) else (dp_bi (dp_den true xs xl d 504 [.int v3] M1) (fun r6 M5 => if r6 = 0 then (dp_bi (dp_den true xs xl d 366 [.ref 114, .int (1 : Int32)] M5) (fun r8 M7 => some (.inl (some (.int r8)), M7))) else (dp_bi (dp_den true xs xl d 504 [.int v4] M5) (fun r10 M9 => if r10 = 0 then (dp_bi (dp_den true xs xl d 366 [.ref 114, .int (1 : Int32)] M9) (fun r12 M11 => some (.inl (some (.int r12)), M11))) else (if v3 ≤ v4 then (if (dp_I M9 114 105) = (16 : Int32) then (dp_bi (dp_den true xs xl d 366 [.ref 114, .int (2 : Int32)] M9) (fun r14 M13 => some (.inl (some (.int r14)), M13))) else (dp_w (dp_setI M9 114 0 (0 : Int32)) (fun M15 => if (dp_I M15 114 105) < 0 ∨ 16 ≤ Int32.toNatClampNeg (dp_I M15 114 105) then none else dp_w (dp_setJ M15 191 (Int32.toNatClampNeg (dp_I M15 114 105)) v1) (fun M16 => if (dp_I M16 114 105) < 0 ∨ 16 ≤ Int32.toNatClampNeg (dp_I M16 114 105) then none else dp_w (dp_setI M16 192 (Int32.toNatClampNeg (dp_I M16 114 105)) v3) (fun M17 => if (dp_I M17 114 105) < 0 ∨ 16 ≤ Int32.toNatClampNeg (dp_I M17 114 105) then none else dp_w (dp_setI M17 193 (Int32.toNatClampNeg (dp_I M17 114 105)) v4) (fun M18 => if (dp_I M18 114 105) < 0 ∨ 16 ≤ Int32.toNatClampNeg (dp_I M18 114 105) then none else dp_w (dp_setI M18 194 (Int32.toNatClampNeg (dp_I M18 114 105)) (v3 - (1 : Int32))) (fun M19 => dp_w (dp_setI M19 114 105 ((dp_I M19 114 105) + (1 : Int32))) (fun M20 => some (.inl (some (.int ((dp_I M20 114 105) - (1 : Int32)))), M20))))))))) else (dp_bi (dp_den true xs xl d 366 [.ref 114, .int (1 : Int32)] M9) (fun r22 M21 => some (.inl (some (.int r22)), M21))))))))) := by
  have hF := dp_den_grow (md := true) (xs := xs) (xl := xl) d
  unfold D_X12_order_0
  refine dp_s1 hF (i := .lload_n 1) rfl (fun _ => rfl) ?_
  refine dp_s1 hF (i := .lconst 1) rfl (fun _ => rfl) ?_
  refine dp_s1 hF (i := .ldc2_w 900) rfl (fun _ => rfl) ?_
  refine dp_si (mj := dp_m_X12_in) (i := .invokestatic 446) rfl rfl (Or.inr rfl) rfl (fun _ => rfl) (fun r2 M1 => ?_)
  refine dp_s2 hF (i := .ifCond .eq 24) (a := (32, [some (.ref 114), some (.long v1), none, some (.int v3), some (.int v4)], [], M1)) (b := (11, [some (.ref 114), some (.long v1), none, some (.int v3), some (.int v4)], [], M1)) rfl (fun _ => rfl) ?_ ?_
  · refine dp_s1 hF (i := .aload_n 0) rfl (fun _ => rfl) ?_
    refine dp_s1 hF (i := .iconst 1) rfl (fun _ => rfl) ?_
    refine dp_si (mj := dp_m_X12_refuse) (i := .invokevirtual 460) rfl rfl (Or.inl rfl) rfl (fun _ => rfl) (fun r4 M3 => ?_)
    exact dp_s0 hF (i := .ireturn) rfl (fun _ => rfl)
  refine dp_s1 hF (i := .iload_n 3) rfl (fun _ => rfl) ?_
  refine dp_si (mj := dp_m_X12_isSpanDay) (i := .invokestatic 902) rfl rfl (Or.inr rfl) rfl (fun _ => rfl) (fun r6 M5 => ?_)
  refine dp_s2 hF (i := .ifCond .eq 17) (a := (32, [some (.ref 114), some (.long v1), none, some (.int v3), some (.int v4)], [], M5)) (b := (18, [some (.ref 114), some (.long v1), none, some (.int v3), some (.int v4)], [], M5)) rfl (fun _ => rfl) ?_ ?_
  · refine dp_s1 hF (i := .aload_n 0) rfl (fun _ => rfl) ?_
    refine dp_s1 hF (i := .iconst 1) rfl (fun _ => rfl) ?_
    refine dp_si (mj := dp_m_X12_refuse) (i := .invokevirtual 460) rfl rfl (Or.inl rfl) rfl (fun _ => rfl) (fun r8 M7 => ?_)
    exact dp_s0 hF (i := .ireturn) rfl (fun _ => rfl)
  refine dp_s1 hF (i := .iload 4) rfl (fun _ => rfl) ?_
  refine dp_si (mj := dp_m_X12_isSpanDay) (i := .invokestatic 902) rfl rfl (Or.inr rfl) rfl (fun _ => rfl) (fun r10 M9 => ?_)
  refine dp_s2 hF (i := .ifCond .eq 9) (a := (32, [some (.ref 114), some (.long v1), none, some (.int v3), some (.int v4)], [], M9)) (b := (26, [some (.ref 114), some (.long v1), none, some (.int v3), some (.int v4)], [], M9)) rfl (fun _ => rfl) ?_ ?_
  · refine dp_s1 hF (i := .aload_n 0) rfl (fun _ => rfl) ?_
    refine dp_s1 hF (i := .iconst 1) rfl (fun _ => rfl) ?_
    refine dp_si (mj := dp_m_X12_refuse) (i := .invokevirtual 460) rfl rfl (Or.inl rfl) rfl (fun _ => rfl) (fun r12 M11 => ?_)
    exact dp_s0 hF (i := .ireturn) rfl (fun _ => rfl)
  refine dp_s1 hF (i := .iload 4) rfl (fun _ => rfl) ?_
  refine dp_s1 hF (i := .iload_n 3) rfl (fun _ => rfl) ?_
  refine dp_s2 hF (i := .if_icmp .ge 9) (a := (38, [some (.ref 114), some (.long v1), none, some (.int v3), some (.int v4)], [], M9)) (b := (32, [some (.ref 114), some (.long v1), none, some (.int v3), some (.int v4)], [], M9)) rfl (fun _ => rfl) ?_ ?_
  · refine dp_s1 hF (i := .aload_n 0) rfl (fun _ => rfl) ?_
    refine dp_s1 hF (i := .getfield 885) rfl (fun _ => rfl) ?_
    refine dp_s1 hF (i := .bipush 16) rfl (fun _ => rfl) ?_
    refine dp_s2 hF (i := .if_icmp .ne 9) (a := (47, [some (.ref 114), some (.long v1), none, some (.int v3), some (.int v4)], [], M9)) (b := (53, [some (.ref 114), some (.long v1), none, some (.int v3), some (.int v4)], [], M9)) rfl (fun _ => rfl) ?_ ?_
    · refine dp_s1 hF (i := .aload_n 0) rfl (fun _ => rfl) ?_
      refine dp_s1 hF (i := .iconst 2) rfl (fun _ => rfl) ?_
      refine dp_si (mj := dp_m_X12_refuse) (i := .invokevirtual 460) rfl rfl (Or.inl rfl) rfl (fun _ => rfl) (fun r14 M13 => ?_)
      exact dp_s0 hF (i := .ireturn) rfl (fun _ => rfl)
    refine dp_s1 hF (i := .aload_n 0) rfl (fun _ => rfl) ?_
    refine dp_s1 hF (i := .iconst 0) rfl (fun _ => rfl) ?_
    refine dp_s1w (dp_setI M9 114 0 (0 : Int32)) (fun (M15 : dp_M) => (58, [some (.ref 114), some (.long v1), none, some (.int v3), some (.int v4)], [], M15)) hF (i := .putfield 1) rfl (fun _ => rfl) (fun M15 => ?_)
    refine dp_s1 hF (i := .aload_n 0) rfl (fun _ => rfl) ?_
    refine dp_s1 hF (i := .getfield 245) rfl (fun _ => rfl) ?_
    refine dp_s1 hF (i := .aload_n 0) rfl (fun _ => rfl) ?_
    refine dp_s1 hF (i := .getfield 885) rfl (fun _ => rfl) ?_
    refine dp_s1 hF (i := .lload_n 1) rfl (fun _ => rfl) ?_
    refine dp_s3w (dp_setJ M15 191 (Int32.toNatClampNeg (dp_I M15 114 105)) v1) (fun (M16 : dp_M) => (68, [some (.ref 114), some (.long v1), none, some (.int v3), some (.int v4)], [], M16)) hF (i := .lastore) rfl (fun _ => rfl) (fun M16 => ?_)
    refine dp_s1 hF (i := .aload_n 0) rfl (fun _ => rfl) ?_
    refine dp_s1 hF (i := .getfield 248) rfl (fun _ => rfl) ?_
    refine dp_s1 hF (i := .aload_n 0) rfl (fun _ => rfl) ?_
    refine dp_s1 hF (i := .getfield 885) rfl (fun _ => rfl) ?_
    refine dp_s1 hF (i := .iload_n 3) rfl (fun _ => rfl) ?_
    refine dp_s3w (dp_setI M16 192 (Int32.toNatClampNeg (dp_I M16 114 105)) v3) (fun (M17 : dp_M) => (78, [some (.ref 114), some (.long v1), none, some (.int v3), some (.int v4)], [], M17)) hF (i := .iastore) rfl (fun _ => rfl) (fun M17 => ?_)
    refine dp_s1 hF (i := .aload_n 0) rfl (fun _ => rfl) ?_
    refine dp_s1 hF (i := .getfield 251) rfl (fun _ => rfl) ?_
    refine dp_s1 hF (i := .aload_n 0) rfl (fun _ => rfl) ?_
    refine dp_s1 hF (i := .getfield 885) rfl (fun _ => rfl) ?_
    refine dp_s1 hF (i := .iload 4) rfl (fun _ => rfl) ?_
    refine dp_s3w (dp_setI M17 193 (Int32.toNatClampNeg (dp_I M17 114 105)) v4) (fun (M18 : dp_M) => (89, [some (.ref 114), some (.long v1), none, some (.int v3), some (.int v4)], [], M18)) hF (i := .iastore) rfl (fun _ => rfl) (fun M18 => ?_)
    refine dp_s1 hF (i := .aload_n 0) rfl (fun _ => rfl) ?_
    refine dp_s1 hF (i := .getfield 254) rfl (fun _ => rfl) ?_
    refine dp_s1 hF (i := .aload_n 0) rfl (fun _ => rfl) ?_
    refine dp_s1 hF (i := .getfield 885) rfl (fun _ => rfl) ?_
    refine dp_s1 hF (i := .iload_n 3) rfl (fun _ => rfl) ?_
    refine dp_s1 hF (i := .iconst 1) rfl (fun _ => rfl) ?_
    refine dp_s1 hF (i := .isub) rfl (fun _ => rfl) ?_
    refine dp_s3w (dp_setI M18 194 (Int32.toNatClampNeg (dp_I M18 114 105)) (v3 - (1 : Int32))) (fun (M19 : dp_M) => (101, [some (.ref 114), some (.long v1), none, some (.int v3), some (.int v4)], [], M19)) hF (i := .iastore) rfl (fun _ => rfl) (fun M19 => ?_)
    refine dp_s1 hF (i := .aload_n 0) rfl (fun _ => rfl) ?_
    refine dp_s1 hF (i := .dup) rfl (fun _ => rfl) ?_
    refine dp_s1 hF (i := .getfield 885) rfl (fun _ => rfl) ?_
    refine dp_s1 hF (i := .iconst 1) rfl (fun _ => rfl) ?_
    refine dp_s1 hF (i := .iadd) rfl (fun _ => rfl) ?_
    refine dp_s1w (dp_setI M19 114 105 ((dp_I M19 114 105) + (1 : Int32))) (fun (M20 : dp_M) => (111, [some (.ref 114), some (.long v1), none, some (.int v3), some (.int v4)], [], M20)) hF (i := .putfield 885) rfl (fun _ => rfl) (fun M20 => ?_)
    refine dp_s1 hF (i := .aload_n 0) rfl (fun _ => rfl) ?_
    refine dp_s1 hF (i := .getfield 885) rfl (fun _ => rfl) ?_
    refine dp_s1 hF (i := .iconst 1) rfl (fun _ => rfl) ?_
    refine dp_s1 hF (i := .isub) rfl (fun _ => rfl) ?_
    exact dp_s0 hF (i := .ireturn) rfl (fun _ => rfl)
  refine dp_s1 hF (i := .aload_n 0) rfl (fun _ => rfl) ?_
  refine dp_s1 hF (i := .iconst 1) rfl (fun _ => rfl) ?_
  refine dp_si (mj := dp_m_X12_refuse) (i := .invokevirtual 460) rfl rfl (Or.inl rfl) rfl (fun _ => rfl) (fun r22 M21 => ?_)
  exact dp_s0 hF (i := .ireturn) rfl (fun _ => rfl)
