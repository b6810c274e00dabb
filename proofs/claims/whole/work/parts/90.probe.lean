noncomputable def zz_hof (xs : Nat → Int32) (xl d : Nat) (x1 x2 n b : Int32) (M : dp_M) : Option dp_Res := dp_lim true xs xl (dp_den true xs xl d) dp_m_X2_heightOf (5, [some (.ref 1), some (.int x1), some (.int x2), some (.int n), some (.int b)], [], M)
set_option maxRecDepth 10000 in
theorem zz_hof_eq (xs : Nat → Int32) (xl d : Nat) (x1 x2 n b : Int32) (M : dp_M) : zz_hof xs xl d x1 x2 n b M =
    if dp_I M 1 2 ≤ b then some (.inl (some (.int n)), M) else
    if b < 0 ∨ 100 ≤ b.toNatClampNeg then none else
    if dp_I M 8 b.toNatClampNeg = x1 then (if b < 0 ∨ 100 ≤ b.toNatClampNeg then none else if dp_I M 9 b.toNatClampNeg = x2 then zz_hof xs xl d x1 x2 (n + Int32.ofInt 1) (b + Int32.ofInt 1) M else zz_hof xs xl d x1 x2 (n + Int32.ofInt 0) (b + Int32.ofInt 1) M) else zz_hof xs xl d x1 x2 (n + Int32.ofInt 0) (b + Int32.ofInt 1) M := by
  have hF := dp_den_grow (md := true) (xs := xs) (xl := xl) d
  unfold zz_hof
  refine dp_s1 hF (i := .iload 4) rfl (fun _ => rfl) ?_
  refine dp_s1 hF (i := .aload_n 0) rfl (fun _ => rfl) ?_
  refine dp_s1 hF (i := .getfield 78) rfl (fun _ => rfl) ?_
  refine dp_s2 hF (i := .if_icmp .ge 39) (a := (50, _, _, _)) (b := (14, _, _, _)) rfl (fun _ => rfl) ?_ ?_
  · refine dp_s1 hF (i := .iload_n 3) rfl (fun _ => rfl) ?_
    exact dp_s0 hF (i := .ireturn) rfl (fun _ => rfl)
  refine dp_s1 hF (i := .iload_n 3) rfl (fun _ => rfl) ?_
  refine dp_s1 hF (i := .aload_n 0) rfl (fun _ => rfl) ?_
  refine dp_s1 hF (i := .getfield 30) rfl (fun _ => rfl) ?_
  refine dp_s1 hF (i := .iload 4) rfl (fun _ => rfl) ?_
  refine dp_s3 hF (i := .iaload) rfl (fun _ => rfl) ?_
  sorry
