noncomputable def D_X11_claim_0 (xs : Nat → Int32) (xl d : Nat) (v1 : Int32) (v2 : Int32) (M : dp_M) : Option dp_Res := dp_lim true xs xl (dp_den true xs xl d) dp_m_X11_claim (0, [some (.ref 0), some (.int v1), some (.int v2)], [], M)
theorem D_X11_claim_0_den (xs : Nat → Int32) (xl d : Nat) (a0 : Int32) (a1 : Int32) (M : dp_M) : dp_den true xs xl (d + 1) 355 [.ref 0, .int a0, .int a1] M = D_X11_claim_0 xs xl d a0 a1 M := rfl
set_option maxRecDepth 20000 in
theorem D_X11_claim_0_eq (xs : Nat → Int32) (xl d : Nat) (v1 : Int32) (v2 : Int32) (M : dp_M) : D_X11_claim_0 xs xl d v1 v2 M = dp_bi (dp_den true xs xl d 260 [.ref 0, .int v1, .int (1 : Int32)] M) (fun r2 M1 => if r2 = 0 then (dp_nk M1 0 (some (.inr 0, dp_new M1 0 0 6))) else (dp_bl (dp_den true xs xl d 6 [.ref 108, .int v1] M1) (fun r4 M3 => if (lg_cmp r4 (0 : Int64)) ≤ 0 then (dp_nk M3 0 (some (.inr 0, dp_new M3 0 0 6))) else (dp_bi (dp_den true xs xl d 263 [.int v2] M3) (fun r6 M5 => if r6 = 0 then (dp_nk M5 0 (some (.inr 0, dp_new M5 0 0 6))) else (dp_bi (dp_den true xs xl d 21 [.ref 108, .int v1] M5) (fun r8 M7 => dp_bi (dp_den true xs xl d 87 [.ref 97, .int r8, .int v2] M7) (fun r10 M9 => if r10 = 0 then (dp_nk M9 0 (some (.inr 1, dp_new M9 0 0 6))) else (dp_bl (dp_den true xs xl d 22 [.ref 108, .int v1, .int v2] M9) (fun r12 M11 => some (.inl (some (.long r12)), M11))))))))))) := by
  have hF := dp_den_grow (md := true) (xs := xs) (xl := xl) d
  unfold D_X11_claim_0
  refine dp_s1 hF (i := .aload_n 0) rfl (fun _ => rfl) ?_
  refine dp_s1 hF (i := .iload_n 1) rfl (fun _ => rfl) ?_
  refine dp_s1 hF (i := .iconst 1) rfl (fun _ => rfl) ?_
  refine dp_si (mj := dp_m_X11_isDeclarationIn) (i := .invokevirtual 778) rfl rfl (Or.inr rfl) rfl (fun _ => rfl) (fun r2 M1 => ?_)
  refine dp_s2 hF (i := .ifCond .eq 23) (a := (29, [some (.ref 0), some (.int v1), some (.int v2)], [], M1)) (b := (9, [some (.ref 0), some (.int v1), some (.int v2)], [], M1)) rfl (fun _ => rfl) ?_ ?_
  · exact dp_s0 hF (i := .new 141) rfl (fun _ => rfl)
  refine dp_s1 hF (i := .aload_n 0) rfl (fun _ => rfl) ?_
  refine dp_s1 hF (i := .getfield 80) rfl (fun _ => rfl) ?_
  refine dp_s1 hF (i := .iload_n 1) rfl (fun _ => rfl) ?_
  refine dp_sl9 (mj := dp_m_X0_dutyOf) (i := .invokevirtual 814) rfl rfl rfl rfl (fun _ => rfl) (fun r4 M3 => ?_)
  refine dp_s1 hF (i := .lconst 0) rfl (fun _ => rfl) ?_
  refine dp_s1 hF (i := .lcmp) rfl (fun _ => rfl) ?_
  refine dp_s2 hF (i := .ifCond .le 10) (a := (29, [some (.ref 0), some (.int v1), some (.int v2)], [], M3)) (b := (22, [some (.ref 0), some (.int v1), some (.int v2)], [], M3)) rfl (fun _ => rfl) ?_ ?_
  · exact dp_s0 hF (i := .new 141) rfl (fun _ => rfl)
  refine dp_s1 hF (i := .iload_n 2) rfl (fun _ => rfl) ?_
  refine dp_si (mj := dp_m_X11_isBookDay) (i := .invokestatic 667) rfl rfl (Or.inr rfl) rfl (fun _ => rfl) (fun r6 M5 => ?_)
  refine dp_s2 hF (i := .ifCond .ne 14) (a := (29, [some (.ref 0), some (.int v1), some (.int v2)], [], M5)) (b := (40, [some (.ref 0), some (.int v1), some (.int v2)], [], M5)) rfl (fun _ => rfl) ?_ ?_
  · exact dp_s0 hF (i := .new 141) rfl (fun _ => rfl)
  refine dp_s1 hF (i := .aload_n 0) rfl (fun _ => rfl) ?_
  refine dp_s1 hF (i := .getfield 71) rfl (fun _ => rfl) ?_
  refine dp_s1 hF (i := .aload_n 0) rfl (fun _ => rfl) ?_
  refine dp_s1 hF (i := .getfield 80) rfl (fun _ => rfl) ?_
  refine dp_s1 hF (i := .iload_n 1) rfl (fun _ => rfl) ?_
  refine dp_si (mj := dp_m_X0_claimEntries) (i := .invokevirtual 822) rfl rfl (Or.inl rfl) rfl (fun _ => rfl) (fun r8 M7 => ?_)
  refine dp_s1 hF (i := .iload_n 2) rfl (fun _ => rfl) ?_
  refine dp_si (mj := dp_m_X3_wouldTake) (i := .invokevirtual 719) rfl rfl (Or.inr rfl) rfl (fun _ => rfl) (fun r10 M9 => ?_)
  refine dp_s2 hF (i := .ifCond .ne 14) (a := (59, [some (.ref 0), some (.int v1), some (.int v2)], [], M9)) (b := (70, [some (.ref 0), some (.int v1), some (.int v2)], [], M9)) rfl (fun _ => rfl) ?_ ?_
  · exact dp_s0 hF (i := .new 167) rfl (fun _ => rfl)
  refine dp_s1 hF (i := .aload_n 0) rfl (fun _ => rfl) ?_
  refine dp_s1 hF (i := .getfield 80) rfl (fun _ => rfl) ?_
  refine dp_s1 hF (i := .iload_n 1) rfl (fun _ => rfl) ?_
  refine dp_s1 hF (i := .iload_n 2) rfl (fun _ => rfl) ?_
  refine dp_sl9 (mj := dp_m_X0_callIn) (i := .invokevirtual 825) rfl rfl rfl rfl (fun _ => rfl) (fun r12 M11 => ?_)
  exact dp_s0 hF (i := .lreturn) rfl (fun _ => rfl)
noncomputable def D_X11_correct_0 (xs : Nat → Int32) (xl d : Nat) (v1 : Int32) (v2 : Int32) (M : dp_M) : Option dp_Res := dp_lim true xs xl (dp_den true xs xl d) dp_m_X11_correct (0, [some (.ref 0), some (.int v1), some (.int v2), none, none, none], [], M)
noncomputable def D_X11_correct_23 (xs : Nat → Int32) (xl d : Nat) (v1 : Int32) (v2 : Int32) (vs0 : Int32) (M : dp_M) : Option dp_Res := dp_lim true xs xl (dp_den true xs xl d) dp_m_X11_correct (23, [some (.ref 0), some (.int v1), some (.int v2), none, none, none], [.int vs0], M)
theorem D_X11_correct_0_den (xs : Nat → Int32) (xl d : Nat) (a0 : Int32) (a1 : Int32) (M : dp_M) : dp_den true xs xl (d + 1) 356 [.ref 0, .int a0, .int a1] M = D_X11_correct_0 xs xl d a0 a1 M := rfl
set_option maxRecDepth 20000 in
theorem D_X11_correct_0_eq (xs : Nat → Int32) (xl d : Nat) (v1 : Int32) (v2 : Int32) (M : dp_M) : D_X11_correct_0 xs xl d v1 v2 M = dp_bi (dp_den true xs xl d 260 [.ref 0, .int v1, .int (2 : Int32)] M) (fun r2 M1 => if r2 = 0 then (dp_bi (dp_den true xs xl d 260 [.ref 0, .int v1, .int (3 : Int32)] M1) (fun r4 M3 => if r4 = 0 then (D_X11_correct_23 xs xl d v1 v2 (0 : Int32) M3) else (D_X11_correct_23 xs xl d v1 v2 (1 : Int32) M3))) else (D_X11_correct_23 xs xl d v1 v2 (1 : Int32) M1)) := by
  have hF := dp_den_grow (md := true) (xs := xs) (xl := xl) d
  unfold D_X11_correct_0
  refine dp_s1 hF (i := .aload_n 0) rfl (fun _ => rfl) ?_
  refine dp_s1 hF (i := .iload_n 1) rfl (fun _ => rfl) ?_
  refine dp_s1 hF (i := .iconst 2) rfl (fun _ => rfl) ?_
  refine dp_si (mj := dp_m_X11_isDeclarationIn) (i := .invokevirtual 778) rfl rfl (Or.inr rfl) rfl (fun _ => rfl) (fun r2 M1 => ?_)
  refine dp_s2 hF (i := .ifCond .ne 12) (a := (9, [some (.ref 0), some (.int v1), some (.int v2), none, none, none], [], M1)) (b := (18, [some (.ref 0), some (.int v1), some (.int v2), none, none, none], [], M1)) rfl (fun _ => rfl) ?_ ?_
  · refine dp_s1 hF (i := .aload_n 0) rfl (fun _ => rfl) ?_
    refine dp_s1 hF (i := .iload_n 1) rfl (fun _ => rfl) ?_
    refine dp_s1 hF (i := .iconst 3) rfl (fun _ => rfl) ?_
    refine dp_si (mj := dp_m_X11_isDeclarationIn) (i := .invokevirtual 778) rfl rfl (Or.inr rfl) rfl (fun _ => rfl) (fun r4 M3 => ?_)
    refine dp_s2 hF (i := .ifCond .eq 7) (a := (22, [some (.ref 0), some (.int v1), some (.int v2), none, none, none], [], M3)) (b := (18, [some (.ref 0), some (.int v1), some (.int v2), none, none, none], [], M3)) rfl (fun _ => rfl) ?_ ?_
    · refine dp_s1 hF (i := .iconst 0) rfl (fun _ => rfl) ?_
      exact rfl
    refine dp_s1 hF (i := .iconst 1) rfl (fun _ => rfl) ?_
    refine dp_s1 hF (i := .goto 4) rfl (fun _ => rfl) ?_
    exact rfl
  refine dp_s1 hF (i := .iconst 1) rfl (fun _ => rfl) ?_
  refine dp_s1 hF (i := .goto 4) rfl (fun _ => rfl) ?_
  exact rfl
set_option maxRecDepth 20000 in
theorem D_X11_correct_23_eq (xs : Nat → Int32) (xl d : Nat) (v1 : Int32) (v2 : Int32) (vs0 : Int32) (M : dp_M) : D_X11_correct_23 xs xl d v1 v2 vs0 M = if vs0 = 0 then (dp_nk M 0 (some (.inr 0, dp_new M 0 0 6))) else (dp_bi (dp_den true xs xl d 261 [.int v2] M) (fun r2 M1 => if r2 = 0 then (dp_nk M1 0 (some (.inr 0, dp_new M1 0 0 6))) else (dp_bl (dp_den true xs xl d 13 [.ref 108, .int v1, .int v2] M1) (fun r4 M3 => if (lg_cmp r4 (-1 : Int64)) = 0 then (dp_nk M3 0 (some (.inr 3, dp_new M3 0 0 6))) else (dp_bl (dp_den true xs xl d 6 [.ref 108, .int v1] M3) (fun r6 M5 => if (lg_cmp r4 r6) = 0 then (dp_bl (dp_den true xs xl d 23 [.ref 108, .int v1, .long r4, .int v2] M5) (fun r8 M7 => some (.inl (some (.long r8)), M7))) else (dp_bi (dp_den true xs xl d 87 [.ref 97, .int (2 : Int32), .int v2] M5) (fun r10 M9 => if r10 = 0 then (dp_nk M9 0 (some (.inr 1, dp_new M9 0 0 6))) else (dp_bl (dp_den true xs xl d 23 [.ref 108, .int v1, .long r4, .int v2] M9) (fun r12 M11 => some (.inl (some (.long r12)), M11))))))))))) := by
  have hF := dp_den_grow (md := true) (xs := xs) (xl := xl) d
  unfold D_X11_correct_23
  refine dp_s1 hF (i := .istore_n 3) rfl (fun _ => rfl) ?_
  refine dp_s1 hF (i := .iload_n 3) rfl (fun _ => rfl) ?_
  refine dp_s2 hF (i := .ifCond .eq 10) (a := (35, [some (.ref 0), some (.int v1), some (.int v2), some (.int vs0), none, none], [], M)) (b := (28, [some (.ref 0), some (.int v1), some (.int v2), some (.int vs0), none, none], [], M)) rfl (fun _ => rfl) ?_ ?_
  · exact dp_s0 hF (i := .new 141) rfl (fun _ => rfl)
  refine dp_s1 hF (i := .iload_n 2) rfl (fun _ => rfl) ?_
  refine dp_si (mj := dp_m_X11_isDay) (i := .invokestatic 129) rfl rfl (Or.inr rfl) rfl (fun _ => rfl) (fun r2 M1 => ?_)
  refine dp_s2 hF (i := .ifCond .ne 14) (a := (35, [some (.ref 0), some (.int v1), some (.int v2), some (.int vs0), none, none], [], M1)) (b := (46, [some (.ref 0), some (.int v1), some (.int v2), some (.int vs0), none, none], [], M1)) rfl (fun _ => rfl) ?_ ?_
  · exact dp_s0 hF (i := .new 141) rfl (fun _ => rfl)
  refine dp_s1 hF (i := .aload_n 0) rfl (fun _ => rfl) ?_
  refine dp_s1 hF (i := .getfield 80) rfl (fun _ => rfl) ?_
  refine dp_s1 hF (i := .iload_n 1) rfl (fun _ => rfl) ?_
  refine dp_s1 hF (i := .iload_n 2) rfl (fun _ => rfl) ?_
  refine dp_sl9 (mj := dp_m_X0_reckon) (i := .invokevirtual 805) rfl rfl rfl rfl (fun _ => rfl) (fun r4 M3 => ?_)
  refine dp_s1 hF (i := .lstore 4) rfl (fun _ => rfl) ?_
  refine dp_s1 hF (i := .lload 4) rfl (fun _ => rfl) ?_
  refine dp_s1 hF (i := .ldc2_w 646) rfl (fun _ => rfl) ?_
  refine dp_s1 hF (i := .lcmp) rfl (fun _ => rfl) ?_
  refine dp_s2 hF (i := .ifCond .ne 14) (a := (66, [some (.ref 0), some (.int v1), some (.int v2), some (.int vs0), some (.long r4), none], [], M3)) (b := (77, [some (.ref 0), some (.int v1), some (.int v2), some (.int vs0), some (.long r4), none], [], M3)) rfl (fun _ => rfl) ?_ ?_
  · exact dp_s0 hF (i := .new 538) rfl (fun _ => rfl)
  refine dp_s1 hF (i := .lload 4) rfl (fun _ => rfl) ?_
  refine dp_s1 hF (i := .aload_n 0) rfl (fun _ => rfl) ?_
  refine dp_s1 hF (i := .getfield 80) rfl (fun _ => rfl) ?_
  refine dp_s1 hF (i := .iload_n 1) rfl (fun _ => rfl) ?_
  refine dp_sl9 (mj := dp_m_X0_dutyOf) (i := .invokevirtual 814) rfl rfl rfl rfl (fun _ => rfl) (fun r6 M5 => ?_)
  refine dp_s1 hF (i := .lcmp) rfl (fun _ => rfl) ?_
  refine dp_s2 hF (i := .ifCond .eq 26) (a := (114, [some (.ref 0), some (.int v1), some (.int v2), some (.int vs0), some (.long r4), none], [], M5)) (b := (91, [some (.ref 0), some (.int v1), some (.int v2), some (.int vs0), some (.long r4), none], [], M5)) rfl (fun _ => rfl) ?_ ?_
  · refine dp_s1 hF (i := .aload_n 0) rfl (fun _ => rfl) ?_
    refine dp_s1 hF (i := .getfield 80) rfl (fun _ => rfl) ?_
    refine dp_s1 hF (i := .iload_n 1) rfl (fun _ => rfl) ?_
    refine dp_s1 hF (i := .lload 4) rfl (fun _ => rfl) ?_
    refine dp_s1 hF (i := .iload_n 2) rfl (fun _ => rfl) ?_
    refine dp_sl9 (mj := dp_m_X0_setRight) (i := .invokevirtual 828) rfl rfl rfl rfl (fun _ => rfl) (fun r8 M7 => ?_)
    exact dp_s0 hF (i := .lreturn) rfl (fun _ => rfl)
  refine dp_s1 hF (i := .aload_n 0) rfl (fun _ => rfl) ?_
  refine dp_s1 hF (i := .getfield 71) rfl (fun _ => rfl) ?_
  refine dp_s1 hF (i := .iconst 2) rfl (fun _ => rfl) ?_
  refine dp_s1 hF (i := .iload_n 2) rfl (fun _ => rfl) ?_
  refine dp_si (mj := dp_m_X3_wouldTake) (i := .invokevirtual 719) rfl rfl (Or.inr rfl) rfl (fun _ => rfl) (fun r10 M9 => ?_)
  refine dp_s2 hF (i := .ifCond .ne 14) (a := (103, [some (.ref 0), some (.int v1), some (.int v2), some (.int vs0), some (.long r4), none], [], M9)) (b := (114, [some (.ref 0), some (.int v1), some (.int v2), some (.int vs0), some (.long r4), none], [], M9)) rfl (fun _ => rfl) ?_ ?_
  · exact dp_s0 hF (i := .new 167) rfl (fun _ => rfl)
  refine dp_s1 hF (i := .aload_n 0) rfl (fun _ => rfl) ?_
  refine dp_s1 hF (i := .getfield 80) rfl (fun _ => rfl) ?_
  refine dp_s1 hF (i := .iload_n 1) rfl (fun _ => rfl) ?_
  refine dp_s1 hF (i := .lload 4) rfl (fun _ => rfl) ?_
  refine dp_s1 hF (i := .iload_n 2) rfl (fun _ => rfl) ?_
  refine dp_sl9 (mj := dp_m_X0_setRight) (i := .invokevirtual 828) rfl rfl rfl rfl (fun _ => rfl) (fun r12 M11 => ?_)
  exact dp_s0 hF (i := .lreturn) rfl (fun _ => rfl)
noncomputable def D_X11_cancel_0 (xs : Nat → Int32) (xl d : Nat) (v1 : Int32) (M : dp_M) : Option dp_Res := dp_lim true xs xl (dp_den true xs xl d) dp_m_X11_cancel (0, [some (.ref 0), some (.int v1)], [], M)
theorem D_X11_cancel_0_den (xs : Nat → Int32) (xl d : Nat) (a0 : Int32) (M : dp_M) : dp_den true xs xl (d + 1) 357 [.ref 0, .int a0] M = D_X11_cancel_0 xs xl d a0 M := rfl
set_option maxRecDepth 20000 in
theorem D_X11_cancel_0_eq (xs : Nat → Int32) (xl d : Nat) (v1 : Int32) (M : dp_M) : D_X11_cancel_0 xs xl d v1 M = dp_bi (dp_den true xs xl d 259 [.ref 0, .int v1] M) (fun r2 M1 => if r2 = 0 then (dp_nk M1 0 (some (.inr 0, dp_new M1 0 0 6))) else (dp_bi (dp_den true xs xl d 24 [.ref 108, .int v1] M1) (fun r4 M3 => if r4 = 0 then (some (.inl (some (.int (0 : Int32))), M3)) else (some (.inl (some (.int (1 : Int32))), M3))))) := by
  have hF := dp_den_grow (md := true) (xs := xs) (xl := xl) d
  unfold D_X11_cancel_0
  refine dp_s1 hF (i := .aload_n 0) rfl (fun _ => rfl) ?_
  refine dp_s1 hF (i := .iload_n 1) rfl (fun _ => rfl) ?_
  refine dp_si (mj := dp_m_X11_isDeclaration) (i := .invokevirtual 119) rfl rfl (Or.inr rfl) rfl (fun _ => rfl) (fun r2 M1 => ?_)
  refine dp_s2 hF (i := .ifCond .ne 14) (a := (8, [some (.ref 0), some (.int v1)], [], M1)) (b := (19, [some (.ref 0), some (.int v1)], [], M1)) rfl (fun _ => rfl) ?_ ?_
  · exact dp_s0 hF (i := .new 141) rfl (fun _ => rfl)
  refine dp_s1 hF (i := .aload_n 0) rfl (fun _ => rfl) ?_
  refine dp_s1 hF (i := .getfield 80) rfl (fun _ => rfl) ?_
  refine dp_s1 hF (i := .iload_n 1) rfl (fun _ => rfl) ?_
  refine dp_si (mj := dp_m_X0_giveUp) (i := .invokevirtual 834) rfl rfl (Or.inr rfl) rfl (fun _ => rfl) (fun r4 M3 => ?_)
  refine dp_s2 hF (i := .ifCond .eq 7) (a := (34, [some (.ref 0), some (.int v1)], [], M3)) (b := (30, [some (.ref 0), some (.int v1)], [], M3)) rfl (fun _ => rfl) ?_ ?_
  · refine dp_s1 hF (i := .iconst 0) rfl (fun _ => rfl) ?_
    exact dp_s0 hF (i := .ireturn) rfl (fun _ => rfl)
  refine dp_s1 hF (i := .iconst 1) rfl (fun _ => rfl) ?_
  refine dp_s1 hF (i := .goto 4) rfl (fun _ => rfl) ?_
  exact dp_s0 hF (i := .ireturn) rfl (fun _ => rfl)
noncomputable def D_X11_declared_0 (xs : Nat → Int32) (xl d : Nat) (v1 : Int32) (v2 : Int32) (M : dp_M) : Option dp_Res := dp_lim true xs xl (dp_den true xs xl d) dp_m_X11_declared (0, [some (.ref 0), some (.int v1), some (.int v2)], [], M)
theorem D_X11_declared_0_den (xs : Nat → Int32) (xl d : Nat) (a0 : Int32) (a1 : Int32) (M : dp_M) : dp_den true xs xl (d + 1) 358 [.ref 0, .int a0, .int a1] M = D_X11_declared_0 xs xl d a0 a1 M := rfl
set_option maxRecDepth 20000 in
theorem D_X11_declared_0_eq (xs : Nat → Int32) (xl d : Nat) (v1 : Int32) (v2 : Int32) (M : dp_M) : D_X11_declared_0 xs xl d v1 v2 M = dp_bi (dp_den true xs xl d 259 [.ref 0, .int v1] M) (fun r2 M1 => if r2 = 0 then (dp_nk M1 0 (some (.inr 2, dp_new M1 0 0 6))) else (dp_bi (dp_den true xs xl d 251 [.long (Int32.toInt64 v2), .long (0 : Int64), .long (22 : Int64)] M1) (fun r4 M3 => if r4 = 0 then (dp_nk M3 0 (some (.inr 2, dp_new M3 0 0 6))) else (dp_bl (dp_den true xs xl d 8 [.ref 108, .int v1, .int v2] M3) (fun r6 M5 => some (.inl (some (.long r6)), M5)))))) := by
  have hF := dp_den_grow (md := true) (xs := xs) (xl := xl) d
  unfold D_X11_declared_0
  refine dp_s1 hF (i := .aload_n 0) rfl (fun _ => rfl) ?_
  refine dp_s1 hF (i := .iload_n 1) rfl (fun _ => rfl) ?_
  refine dp_si (mj := dp_m_X11_isDeclaration) (i := .invokevirtual 119) rfl rfl (Or.inr rfl) rfl (fun _ => rfl) (fun r2 M1 => ?_)
  refine dp_s2 hF (i := .ifCond .eq 15) (a := (20, [some (.ref 0), some (.int v1), some (.int v2)], [], M1)) (b := (8, [some (.ref 0), some (.int v1), some (.int v2)], [], M1)) rfl (fun _ => rfl) ?_ ?_
  · exact dp_s0 hF (i := .new 194) rfl (fun _ => rfl)
  refine dp_s1 hF (i := .iload_n 2) rfl (fun _ => rfl) ?_
  refine dp_s1 hF (i := .i2l) rfl (fun _ => rfl) ?_
  refine dp_s1 hF (i := .lconst 0) rfl (fun _ => rfl) ?_
  refine dp_s1 hF (i := .ldc2_w 837) rfl (fun _ => rfl) ?_
  refine dp_si (mj := dp_m_X11_within) (i := .invokestatic 96) rfl rfl (Or.inr rfl) rfl (fun _ => rfl) (fun r4 M3 => ?_)
  refine dp_s2 hF (i := .ifCond .ne 14) (a := (20, [some (.ref 0), some (.int v1), some (.int v2)], [], M3)) (b := (31, [some (.ref 0), some (.int v1), some (.int v2)], [], M3)) rfl (fun _ => rfl) ?_ ?_
  · exact dp_s0 hF (i := .new 194) rfl (fun _ => rfl)
  refine dp_s1 hF (i := .aload_n 0) rfl (fun _ => rfl) ?_
  refine dp_s1 hF (i := .getfield 80) rfl (fun _ => rfl) ?_
  refine dp_s1 hF (i := .iload_n 1) rfl (fun _ => rfl) ?_
  refine dp_s1 hF (i := .iload_n 2) rfl (fun _ => rfl) ?_
  refine dp_sl9 (mj := dp_m_X0_fact) (i := .invokevirtual 839) rfl rfl rfl rfl (fun _ => rfl) (fun r6 M5 => ?_)
  exact dp_s0 hF (i := .lreturn) rfl (fun _ => rfl)
noncomputable def D_X11_count_0 (xs : Nat → Int32) (xl d : Nat) (v1 : Int32) (M : dp_M) : Option dp_Res := dp_lim true xs xl (dp_den true xs xl d) dp_m_X11_count (0, [some (.ref 0), some (.int v1)], [], M)
theorem D_X11_count_0_den (xs : Nat → Int32) (xl d : Nat) (a0 : Int32) (M : dp_M) : dp_den true xs xl (d + 1) 359 [.ref 0, .int a0] M = D_X11_count_0 xs xl d a0 M := rfl
set_option maxRecDepth 20000 in
theorem D_X11_count_0_eq (xs : Nat → Int32) (xl d : Nat) (v1 : Int32) (M : dp_M) : D_X11_count_0 xs xl d v1 M = dp_bi (dp_den true xs xl d 251 [.long (Int32.toInt64 v1), .long (0 : Int64), .long (10 : Int64)] M) (fun r2 M1 => if r2 = 0 then (dp_bi (dp_den true xs xl d 251 [.long (Int32.toInt64 v1), .long (11 : Int64), .long (19 : Int64)] M1) (fun r4 M3 => if r4 = 0 then (dp_bi (dp_den true xs xl d 251 [.long (Int32.toInt64 v1), .long (20 : Int64), .long (27 : Int64)] M3) (fun r6 M5 => if r6 = 0 then (dp_bi (dp_den true xs xl d 251 [.long (Int32.toInt64 v1), .long (28 : Int64), .long (34 : Int64)] M5) (fun r8 M7 => if r8 = 0 then (dp_bi (dp_den true xs xl d 251 [.long (Int32.toInt64 v1), .long (35 : Int64), .long (40 : Int64)] M7) (fun r10 M9 => if r10 = 0 then (dp_bi (dp_den true xs xl d 364 [.ref 0, .int (v1 / (100 : Int32)), .int (v1 - v1 / (100 : Int32) * (100 : Int32))] M9) (fun r12 M11 => some (.inl (some (.int r12)), M11))) else (if v1 = (35 : Int32) then (some (.inl (some (.int (dp_I M9 108 5))), M9)) else (dp_bi (dp_den true xs xl d 7 [.ref 108, .int (v1 - (36 : Int32))] M9) (fun r14 M13 => some (.inl (some (.int r14)), M13)))))) else (dp_bi (dp_den true xs xl d 363 [.ref 0, .int v1] M7) (fun r16 M15 => some (.inl (some (.int r16)), M15))))) else (dp_bi (dp_den true xs xl d 362 [.ref 0, .int v1] M5) (fun r18 M17 => some (.inl (some (.int r18)), M17))))) else (dp_bi (dp_den true xs xl d 361 [.ref 0, .int v1] M3) (fun r20 M19 => some (.inl (some (.int r20)), M19))))) else (dp_bi (dp_den true xs xl d 360 [.ref 0, .int v1] M1) (fun r22 M21 => some (.inl (some (.int r22)), M21)))) := by
  have hF := dp_den_grow (md := true) (xs := xs) (xl := xl) d
  unfold D_X11_count_0
  refine dp_s1 hF (i := .iload_n 1) rfl (fun _ => rfl) ?_
  refine dp_s1 hF (i := .i2l) rfl (fun _ => rfl) ?_
  refine dp_s1 hF (i := .lconst 0) rfl (fun _ => rfl) ?_
  refine dp_s1 hF (i := .ldc2_w 400) rfl (fun _ => rfl) ?_
  refine dp_si (mj := dp_m_X11_within) (i := .invokestatic 96) rfl rfl (Or.inr rfl) rfl (fun _ => rfl) (fun r2 M1 => ?_)
  refine dp_s2 hF (i := .ifCond .eq 9) (a := (18, [some (.ref 0), some (.int v1)], [], M1)) (b := (12, [some (.ref 0), some (.int v1)], [], M1)) rfl (fun _ => rfl) ?_ ?_
  · refine dp_s1 hF (i := .iload_n 1) rfl (fun _ => rfl) ?_
    refine dp_s1 hF (i := .i2l) rfl (fun _ => rfl) ?_
    refine dp_s1 hF (i := .ldc2_w 679) rfl (fun _ => rfl) ?_
    refine dp_s1 hF (i := .ldc2_w 843) rfl (fun _ => rfl) ?_
    refine dp_si (mj := dp_m_X11_within) (i := .invokestatic 96) rfl rfl (Or.inr rfl) rfl (fun _ => rfl) (fun r4 M3 => ?_)
    refine dp_s2 hF (i := .ifCond .eq 9) (a := (38, [some (.ref 0), some (.int v1)], [], M3)) (b := (32, [some (.ref 0), some (.int v1)], [], M3)) rfl (fun _ => rfl) ?_ ?_
    · refine dp_s1 hF (i := .iload_n 1) rfl (fun _ => rfl) ?_
      refine dp_s1 hF (i := .i2l) rfl (fun _ => rfl) ?_
      refine dp_s1 hF (i := .ldc2_w 848) rfl (fun _ => rfl) ?_
      refine dp_s1 hF (i := .ldc2_w 850) rfl (fun _ => rfl) ?_
      refine dp_si (mj := dp_m_X11_within) (i := .invokestatic 96) rfl rfl (Or.inr rfl) rfl (fun _ => rfl) (fun r6 M5 => ?_)
      refine dp_s2 hF (i := .ifCond .eq 9) (a := (58, [some (.ref 0), some (.int v1)], [], M5)) (b := (52, [some (.ref 0), some (.int v1)], [], M5)) rfl (fun _ => rfl) ?_ ?_
      · refine dp_s1 hF (i := .iload_n 1) rfl (fun _ => rfl) ?_
        refine dp_s1 hF (i := .i2l) rfl (fun _ => rfl) ?_
        refine dp_s1 hF (i := .ldc2_w 855) rfl (fun _ => rfl) ?_
        refine dp_s1 hF (i := .ldc2_w 857) rfl (fun _ => rfl) ?_
        refine dp_si (mj := dp_m_X11_within) (i := .invokestatic 96) rfl rfl (Or.inr rfl) rfl (fun _ => rfl) (fun r8 M7 => ?_)
        refine dp_s2 hF (i := .ifCond .eq 9) (a := (78, [some (.ref 0), some (.int v1)], [], M7)) (b := (72, [some (.ref 0), some (.int v1)], [], M7)) rfl (fun _ => rfl) ?_ ?_
        · refine dp_s1 hF (i := .iload_n 1) rfl (fun _ => rfl) ?_
          refine dp_s1 hF (i := .i2l) rfl (fun _ => rfl) ?_
          refine dp_s1 hF (i := .ldc2_w 862) rfl (fun _ => rfl) ?_
          refine dp_s1 hF (i := .ldc2_w 150) rfl (fun _ => rfl) ?_
          refine dp_si (mj := dp_m_X11_within) (i := .invokestatic 96) rfl rfl (Or.inr rfl) rfl (fun _ => rfl) (fun r10 M9 => ?_)
          refine dp_s2 hF (i := .ifCond .eq 31) (a := (120, [some (.ref 0), some (.int v1)], [], M9)) (b := (92, [some (.ref 0), some (.int v1)], [], M9)) rfl (fun _ => rfl) ?_ ?_
          · refine dp_s1 hF (i := .aload_n 0) rfl (fun _ => rfl) ?_
            refine dp_s1 hF (i := .iload_n 1) rfl (fun _ => rfl) ?_
            refine dp_s1 hF (i := .bipush 100) rfl (fun _ => rfl) ?_
            refine dp_s1 hF (i := .idiv) rfl (fun _ => rfl) ?_
            refine dp_s1 hF (i := .iload_n 1) rfl (fun _ => rfl) ?_
            refine dp_s1 hF (i := .bipush 100) rfl (fun _ => rfl) ?_
            refine dp_s1 hF (i := .irem) rfl (fun _ => rfl) ?_
            refine dp_si (mj := dp_m_X11_countOfOne) (i := .invokevirtual 867) rfl rfl (Or.inl rfl) rfl (fun _ => rfl) (fun r12 M11 => ?_)
            exact dp_s0 hF (i := .ireturn) rfl (fun _ => rfl)
          refine dp_s1 hF (i := .iload_n 1) rfl (fun _ => rfl) ?_
          refine dp_s1 hF (i := .bipush 35) rfl (fun _ => rfl) ?_
          refine dp_s2 hF (i := .if_icmp .ne 13) (a := (98, [some (.ref 0), some (.int v1)], [], M9)) (b := (108, [some (.ref 0), some (.int v1)], [], M9)) rfl (fun _ => rfl) ?_ ?_
          · refine dp_s1 hF (i := .aload_n 0) rfl (fun _ => rfl) ?_
            refine dp_s1 hF (i := .getfield 80) rfl (fun _ => rfl) ?_
            refine dp_s1 hF (i := .getfield 116) rfl (fun _ => rfl) ?_
            refine dp_s1 hF (i := .goto 14) rfl (fun _ => rfl) ?_
            exact dp_s0 hF (i := .ireturn) rfl (fun _ => rfl)
          refine dp_s1 hF (i := .aload_n 0) rfl (fun _ => rfl) ?_
          refine dp_s1 hF (i := .getfield 80) rfl (fun _ => rfl) ?_
          refine dp_s1 hF (i := .iload_n 1) rfl (fun _ => rfl) ?_
          refine dp_s1 hF (i := .bipush 36) rfl (fun _ => rfl) ?_
          refine dp_s1 hF (i := .isub) rfl (fun _ => rfl) ?_
          refine dp_si (mj := dp_m_X0_inState) (i := .invokevirtual 864) rfl rfl (Or.inl rfl) rfl (fun _ => rfl) (fun r14 M13 => ?_)
          exact dp_s0 hF (i := .ireturn) rfl (fun _ => rfl)
        refine dp_s1 hF (i := .aload_n 0) rfl (fun _ => rfl) ?_
        refine dp_s1 hF (i := .iload_n 1) rfl (fun _ => rfl) ?_
        refine dp_si (mj := dp_m_X11_countOfLedger) (i := .invokevirtual 859) rfl rfl (Or.inl rfl) rfl (fun _ => rfl) (fun r16 M15 => ?_)
        exact dp_s0 hF (i := .ireturn) rfl (fun _ => rfl)
      refine dp_s1 hF (i := .aload_n 0) rfl (fun _ => rfl) ?_
      refine dp_s1 hF (i := .iload_n 1) rfl (fun _ => rfl) ?_
      refine dp_si (mj := dp_m_X11_countOfSecurities) (i := .invokevirtual 852) rfl rfl (Or.inl rfl) rfl (fun _ => rfl) (fun r18 M17 => ?_)
      exact dp_s0 hF (i := .ireturn) rfl (fun _ => rfl)
    refine dp_s1 hF (i := .aload_n 0) rfl (fun _ => rfl) ?_
    refine dp_s1 hF (i := .iload_n 1) rfl (fun _ => rfl) ?_
    refine dp_si (mj := dp_m_X11_countOfCustoms) (i := .invokevirtual 845) rfl rfl (Or.inl rfl) rfl (fun _ => rfl) (fun r20 M19 => ?_)
    exact dp_s0 hF (i := .ireturn) rfl (fun _ => rfl)
  refine dp_s1 hF (i := .aload_n 0) rfl (fun _ => rfl) ?_
  refine dp_s1 hF (i := .iload_n 1) rfl (fun _ => rfl) ?_
  refine dp_si (mj := dp_m_X11_countOfPort) (i := .invokevirtual 840) rfl rfl (Or.inl rfl) rfl (fun _ => rfl) (fun r22 M21 => ?_)
  exact dp_s0 hF (i := .ireturn) rfl (fun _ => rfl)
noncomputable def D_X11_countOfPort_0 (xs : Nat → Int32) (xl d : Nat) (v1 : Int32) (M : dp_M) : Option dp_Res := dp_lim true xs xl (dp_den true xs xl d) dp_m_X11_countOfPort (0, [some (.ref 0), some (.int v1)], [], M)
theorem D_X11_countOfPort_0_den (xs : Nat → Int32) (xl d : Nat) (a0 : Int32) (M : dp_M) : dp_den true xs xl (d + 1) 360 [.ref 0, .int a0] M = D_X11_countOfPort_0 xs xl d a0 M := rfl
set_option maxRecDepth 20000 in
theorem D_X11_countOfPort_0_eq (xs : Nat → Int32) (xl d : Nat) (v1 : Int32) (M : dp_M) : D_X11_countOfPort_0 xs xl d v1 M = if v1 = (0 : Int32) then (some (.inl (some (.int (dp_I M 1 2))), M)) else if v1 = (1 : Int32) then (dp_bi (dp_den true xs xl d 55 [.ref 1, .int (3 : Int32)] M) (fun r4 M3 => some (.inl (some (.int r4)), M3))) else if v1 = (2 : Int32) then (dp_bi (dp_den true xs xl d 55 [.ref 1, .int (4 : Int32)] M) (fun r6 M5 => some (.inl (some (.int r6)), M5))) else if v1 = (3 : Int32) then (some (.inl (some (.int (dp_I M 1 3))), M)) else if v1 = (4 : Int32) then (dp_bi (dp_den true xs xl d 237 [.ref 28] M) (fun r8 M7 => some (.inl (some (.int r8)), M7))) else if v1 = (5 : Int32) then (some (.inl (some (.int (dp_I M 28 14))), M)) else if v1 = (6 : Int32) then (some (.inl (some (.int (dp_I M 28 13))), M)) else if v1 = (7 : Int32) then (dp_bi (dp_den true xs xl d 236 [.ref 28] M) (fun r10 M9 => some (.inl (some (.int r10)), M9))) else if v1 = (8 : Int32) then (some (.inl (some (.int (dp_I M 37 2))), M)) else if v1 = (9 : Int32) then (some (.inl (some (.int (dp_I M 37 3))), M)) else (dp_bi (dp_den true xs xl d 56 [.ref 1, .int (1 : Int32)] M) (fun r2 M1 => some (.inl (some (.int r2)), M1))) := by
  have hF := dp_den_grow (md := true) (xs := xs) (xl := xl) d
  unfold D_X11_countOfPort_0
  refine dp_s1 hF (i := .iload_n 1) rfl (fun _ => rfl) ?_
  refine (dp_s (E := fun k => if v1 = (0 : Int32) then k (56, [some (.ref 0), some (.int v1)], [], M) else if v1 = (1 : Int32) then k (64, [some (.ref 0), some (.int v1)], [], M) else if v1 = (2 : Int32) then k (73, [some (.ref 0), some (.int v1)], [], M) else if v1 = (3 : Int32) then k (82, [some (.ref 0), some (.int v1)], [], M) else if v1 = (4 : Int32) then k (90, [some (.ref 0), some (.int v1)], [], M) else if v1 = (5 : Int32) then k (98, [some (.ref 0), some (.int v1)], [], M) else if v1 = (6 : Int32) then k (106, [some (.ref 0), some (.int v1)], [], M) else if v1 = (7 : Int32) then k (114, [some (.ref 0), some (.int v1)], [], M) else if v1 = (8 : Int32) then k (122, [some (.ref 0), some (.int v1)], [], M) else if v1 = (9 : Int32) then k (130, [some (.ref 0), some (.int v1)], [], M) else k (138, [some (.ref 0), some (.int v1)], [], M)) hF (i := .tableswitch 137 0 9 #[55, 63, 72, 81, 89, 97, 105, 113, 121, 129]) rfl (fun _ => rfl)).trans ?_
  refine dp_ifc ?_ ?_
  · refine dp_s1 hF (i := .aload_n 0) rfl (fun _ => rfl) ?_
    refine dp_s1 hF (i := .getfield 18) rfl (fun _ => rfl) ?_
    refine dp_s1 hF (i := .getfield 100) rfl (fun _ => rfl) ?_
    exact dp_s0 hF (i := .ireturn) rfl (fun _ => rfl)
  refine dp_ifc ?_ ?_
  · refine dp_s1 hF (i := .aload_n 0) rfl (fun _ => rfl) ?_
    refine dp_s1 hF (i := .getfield 18) rfl (fun _ => rfl) ?_
    refine dp_s1 hF (i := .iconst 3) rfl (fun _ => rfl) ?_
    refine dp_si (mj := dp_m_X2_countIn) (i := .invokevirtual 870) rfl rfl (Or.inl rfl) rfl (fun _ => rfl) (fun r4 M3 => ?_)
    exact dp_s0 hF (i := .ireturn) rfl (fun _ => rfl)
  refine dp_ifc ?_ ?_
  · refine dp_s1 hF (i := .aload_n 0) rfl (fun _ => rfl) ?_
    refine dp_s1 hF (i := .getfield 18) rfl (fun _ => rfl) ?_
    refine dp_s1 hF (i := .iconst 4) rfl (fun _ => rfl) ?_
    refine dp_si (mj := dp_m_X2_countIn) (i := .invokevirtual 870) rfl rfl (Or.inl rfl) rfl (fun _ => rfl) (fun r6 M5 => ?_)
    exact dp_s0 hF (i := .ireturn) rfl (fun _ => rfl)
  refine dp_ifc ?_ ?_
  · refine dp_s1 hF (i := .aload_n 0) rfl (fun _ => rfl) ?_
    refine dp_s1 hF (i := .getfield 18) rfl (fun _ => rfl) ?_
    refine dp_s1 hF (i := .getfield 873) rfl (fun _ => rfl) ?_
    exact dp_s0 hF (i := .ireturn) rfl (fun _ => rfl)
  refine dp_ifc ?_ ?_
  · refine dp_s1 hF (i := .aload_n 0) rfl (fun _ => rfl) ?_
    refine dp_s1 hF (i := .getfield 27) rfl (fun _ => rfl) ?_
    refine dp_si (mj := dp_m_X10_standing) (i := .invokevirtual 876) rfl rfl (Or.inl rfl) rfl (fun _ => rfl) (fun r8 M7 => ?_)
    exact dp_s0 hF (i := .ireturn) rfl (fun _ => rfl)
  refine dp_ifc ?_ ?_
  · refine dp_s1 hF (i := .aload_n 0) rfl (fun _ => rfl) ?_
    refine dp_s1 hF (i := .getfield 27) rfl (fun _ => rfl) ?_
    refine dp_s1 hF (i := .getfield 879) rfl (fun _ => rfl) ?_
    exact dp_s0 hF (i := .ireturn) rfl (fun _ => rfl)
  refine dp_ifc ?_ ?_
  · refine dp_s1 hF (i := .aload_n 0) rfl (fun _ => rfl) ?_
    refine dp_s1 hF (i := .getfield 27) rfl (fun _ => rfl) ?_
    refine dp_s1 hF (i := .getfield 882) rfl (fun _ => rfl) ?_
    exact dp_s0 hF (i := .ireturn) rfl (fun _ => rfl)
  refine dp_ifc ?_ ?_
  · refine dp_s1 hF (i := .aload_n 0) rfl (fun _ => rfl) ?_
    refine dp_s1 hF (i := .getfield 27) rfl (fun _ => rfl) ?_
    refine dp_si (mj := dp_m_X10_inTheWay) (i := .invokevirtual 885) rfl rfl (Or.inl rfl) rfl (fun _ => rfl) (fun r10 M9 => ?_)
    exact dp_s0 hF (i := .ireturn) rfl (fun _ => rfl)
  refine dp_ifc ?_ ?_
  · refine dp_s1 hF (i := .aload_n 0) rfl (fun _ => rfl) ?_
    refine dp_s1 hF (i := .getfield 36) rfl (fun _ => rfl) ?_
    refine dp_s1 hF (i := .getfield 318) rfl (fun _ => rfl) ?_
    exact dp_s0 hF (i := .ireturn) rfl (fun _ => rfl)
  refine dp_ifc ?_ ?_
  · refine dp_s1 hF (i := .aload_n 0) rfl (fun _ => rfl) ?_
    refine dp_s1 hF (i := .getfield 36) rfl (fun _ => rfl) ?_
    refine dp_s1 hF (i := .getfield 888) rfl (fun _ => rfl) ?_
    exact dp_s0 hF (i := .ireturn) rfl (fun _ => rfl)
  refine dp_s1 hF (i := .aload_n 0) rfl (fun _ => rfl) ?_
  refine dp_s1 hF (i := .getfield 18) rfl (fun _ => rfl) ?_
  refine dp_s1 hF (i := .iconst 1) rfl (fun _ => rfl) ?_
  refine dp_si (mj := dp_m_X2_countStaying) (i := .invokevirtual 891) rfl rfl (Or.inl rfl) rfl (fun _ => rfl) (fun r2 M1 => ?_)
  exact dp_s0 hF (i := .ireturn) rfl (fun _ => rfl)
noncomputable def D_X11_countOfCustoms_0 (xs : Nat → Int32) (xl d : Nat) (v1 : Int32) (M : dp_M) : Option dp_Res := dp_lim true xs xl (dp_den true xs xl d) dp_m_X11_countOfCustoms (0, [some (.ref 0), some (.int v1)], [], M)
theorem D_X11_countOfCustoms_0_den (xs : Nat → Int32) (xl d : Nat) (a0 : Int32) (M : dp_M) : dp_den true xs xl (d + 1) 361 [.ref 0, .int a0] M = D_X11_countOfCustoms_0 xs xl d a0 M := rfl
set_option maxRecDepth 20000 in
theorem D_X11_countOfCustoms_0_eq (xs : Nat → Int32) (xl d : Nat) (v1 : Int32) (M : dp_M) : D_X11_countOfCustoms_0 xs xl d v1 M = if v1 = (15 : Int32) then (some (.inl (some (.int (dp_I M 51 0))), M)) else if v1 = (16 : Int32) then (some (.inl (some (.int (dp_I M 51 2))), M)) else if v1 = (17 : Int32) then (some (.inl (some (.int (dp_I M 68 0))), M)) else if v1 = (18 : Int32) then (some (.inl (some (.int (dp_I M 68 1))), M)) else if v1 = (19 : Int32) then (some (.inl (some (.int (dp_I M 75 0))), M)) else (if (v1 - (11 : Int32)) < 0 ∨ 4 ≤ Int32.toNatClampNeg (v1 - (11 : Int32)) then none else (some (.inl (some (.int (dp_I M 40 (Int32.toNatClampNeg (v1 - (11 : Int32)))))), M))) := by
  have hF := dp_den_grow (md := true) (xs := xs) (xl := xl) d
  unfold D_X11_countOfCustoms_0
  refine dp_s1 hF (i := .iload_n 1) rfl (fun _ => rfl) ?_
  refine (dp_s (E := fun k => if v1 = (15 : Int32) then k (36, [some (.ref 0), some (.int v1)], [], M) else if v1 = (16 : Int32) then k (44, [some (.ref 0), some (.int v1)], [], M) else if v1 = (17 : Int32) then k (52, [some (.ref 0), some (.int v1)], [], M) else if v1 = (18 : Int32) then k (60, [some (.ref 0), some (.int v1)], [], M) else if v1 = (19 : Int32) then k (68, [some (.ref 0), some (.int v1)], [], M) else k (76, [some (.ref 0), some (.int v1)], [], M)) hF (i := .tableswitch 75 15 19 #[35, 43, 51, 59, 67]) rfl (fun _ => rfl)).trans ?_
  refine dp_ifc ?_ ?_
  · refine dp_s1 hF (i := .aload_n 0) rfl (fun _ => rfl) ?_
    refine dp_s1 hF (i := .getfield 43) rfl (fun _ => rfl) ?_
    refine dp_s1 hF (i := .getfield 106) rfl (fun _ => rfl) ?_
    exact dp_s0 hF (i := .ireturn) rfl (fun _ => rfl)
  refine dp_ifc ?_ ?_
  · refine dp_s1 hF (i := .aload_n 0) rfl (fun _ => rfl) ?_
    refine dp_s1 hF (i := .getfield 43) rfl (fun _ => rfl) ?_
    refine dp_s1 hF (i := .getfield 478) rfl (fun _ => rfl) ?_
    exact dp_s0 hF (i := .ireturn) rfl (fun _ => rfl)
  refine dp_ifc ?_ ?_
  · refine dp_s1 hF (i := .aload_n 0) rfl (fun _ => rfl) ?_
    refine dp_s1 hF (i := .getfield 50) rfl (fun _ => rfl) ?_
    refine dp_s1 hF (i := .getfield 894) rfl (fun _ => rfl) ?_
    exact dp_s0 hF (i := .ireturn) rfl (fun _ => rfl)
  refine dp_ifc ?_ ?_
  · refine dp_s1 hF (i := .aload_n 0) rfl (fun _ => rfl) ?_
    refine dp_s1 hF (i := .getfield 50) rfl (fun _ => rfl) ?_
    refine dp_s1 hF (i := .getfield 522) rfl (fun _ => rfl) ?_
    exact dp_s0 hF (i := .ireturn) rfl (fun _ => rfl)
  refine dp_ifc ?_ ?_
  · refine dp_s1 hF (i := .aload_n 0) rfl (fun _ => rfl) ?_
    refine dp_s1 hF (i := .getfield 57) rfl (fun _ => rfl) ?_
    refine dp_s1 hF (i := .getfield 107) rfl (fun _ => rfl) ?_
    exact dp_s0 hF (i := .ireturn) rfl (fun _ => rfl)
  refine dp_s1 hF (i := .aload_n 0) rfl (fun _ => rfl) ?_
  refine dp_s1 hF (i := .getfield 36) rfl (fun _ => rfl) ?_
  refine dp_s1 hF (i := .getfield 897) rfl (fun _ => rfl) ?_
  refine dp_s1 hF (i := .iload_n 1) rfl (fun _ => rfl) ?_
  refine dp_s1 hF (i := .bipush 11) rfl (fun _ => rfl) ?_
  refine dp_s1 hF (i := .isub) rfl (fun _ => rfl) ?_
  refine dp_s3 hF (i := .iaload) rfl (fun _ => rfl) ?_
  exact dp_s0 hF (i := .ireturn) rfl (fun _ => rfl)
noncomputable def D_X11_countOfSecurities_0 (xs : Nat → Int32) (xl d : Nat) (v1 : Int32) (M : dp_M) : Option dp_Res := dp_lim true xs xl (dp_den true xs xl d) dp_m_X11_countOfSecurities (0, [some (.ref 0), some (.int v1)], [], M)
theorem D_X11_countOfSecurities_0_den (xs : Nat → Int32) (xl d : Nat) (a0 : Int32) (M : dp_M) : dp_den true xs xl (d + 1) 362 [.ref 0, .int a0] M = D_X11_countOfSecurities_0 xs xl d a0 M := rfl
set_option maxRecDepth 20000 in
theorem D_X11_countOfSecurities_0_eq (xs : Nat → Int32) (xl d : Nat) (v1 : Int32) (M : dp_M) : D_X11_countOfSecurities_0 xs xl d v1 M = if v1 = (20 : Int32) then (some (.inl (some (.int (dp_I M 90 0))), M)) else if v1 = (21 : Int32) then (some (.inl (some (.int (dp_I M 90 1))), M)) else if v1 = (22 : Int32) then (some (.inl (some (.int (dp_I M 90 2))), M)) else if v1 = (23 : Int32) then (some (.inl (some (.int (dp_I M 90 3))), M)) else (if (v1 - (24 : Int32)) < 0 ∨ 4 ≤ Int32.toNatClampNeg (v1 - (24 : Int32)) then none else (some (.inl (some (.int (dp_I M 93 (Int32.toNatClampNeg (v1 - (24 : Int32)))))), M))) := by
  have hF := dp_den_grow (md := true) (xs := xs) (xl := xl) d
  unfold D_X11_countOfSecurities_0
  refine dp_s1 hF (i := .iload_n 1) rfl (fun _ => rfl) ?_
  refine (dp_s (E := fun k => if v1 = (20 : Int32) then k (32, [some (.ref 0), some (.int v1)], [], M) else if v1 = (21 : Int32) then k (40, [some (.ref 0), some (.int v1)], [], M) else if v1 = (22 : Int32) then k (48, [some (.ref 0), some (.int v1)], [], M) else if v1 = (23 : Int32) then k (56, [some (.ref 0), some (.int v1)], [], M) else k (64, [some (.ref 0), some (.int v1)], [], M)) hF (i := .tableswitch 63 20 23 #[31, 39, 47, 55]) rfl (fun _ => rfl)).trans ?_
  refine dp_ifc ?_ ?_
  · refine dp_s1 hF (i := .aload_n 0) rfl (fun _ => rfl) ?_
    refine dp_s1 hF (i := .getfield 64) rfl (fun _ => rfl) ?_
    refine dp_s1 hF (i := .getfield 110) rfl (fun _ => rfl) ?_
    exact dp_s0 hF (i := .ireturn) rfl (fun _ => rfl)
  refine dp_ifc ?_ ?_
  · refine dp_s1 hF (i := .aload_n 0) rfl (fun _ => rfl) ?_
    refine dp_s1 hF (i := .getfield 64) rfl (fun _ => rfl) ?_
    refine dp_s1 hF (i := .getfield 656) rfl (fun _ => rfl) ?_
    exact dp_s0 hF (i := .ireturn) rfl (fun _ => rfl)
  refine dp_ifc ?_ ?_
  · refine dp_s1 hF (i := .aload_n 0) rfl (fun _ => rfl) ?_
    refine dp_s1 hF (i := .getfield 64) rfl (fun _ => rfl) ?_
    refine dp_s1 hF (i := .getfield 900) rfl (fun _ => rfl) ?_
    exact dp_s0 hF (i := .ireturn) rfl (fun _ => rfl)
  refine dp_ifc ?_ ?_
  · refine dp_s1 hF (i := .aload_n 0) rfl (fun _ => rfl) ?_
    refine dp_s1 hF (i := .getfield 64) rfl (fun _ => rfl) ?_
    refine dp_s1 hF (i := .getfield 634) rfl (fun _ => rfl) ?_
    exact dp_s0 hF (i := .ireturn) rfl (fun _ => rfl)
  refine dp_s1 hF (i := .aload_n 0) rfl (fun _ => rfl) ?_
  refine dp_s1 hF (i := .getfield 64) rfl (fun _ => rfl) ?_
  refine dp_s1 hF (i := .getfield 903) rfl (fun _ => rfl) ?_
  refine dp_s1 hF (i := .iload_n 1) rfl (fun _ => rfl) ?_
  refine dp_s1 hF (i := .bipush 24) rfl (fun _ => rfl) ?_
  refine dp_s1 hF (i := .isub) rfl (fun _ => rfl) ?_
  refine dp_s3 hF (i := .iaload) rfl (fun _ => rfl) ?_
  exact dp_s0 hF (i := .ireturn) rfl (fun _ => rfl)
noncomputable def D_X11_countOfLedger_0 (xs : Nat → Int32) (xl d : Nat) (v1 : Int32) (M : dp_M) : Option dp_Res := dp_lim true xs xl (dp_den true xs xl d) dp_m_X11_countOfLedger (0, [some (.ref 0), some (.int v1)], [], M)
theorem D_X11_countOfLedger_0_den (xs : Nat → Int32) (xl d : Nat) (a0 : Int32) (M : dp_M) : dp_den true xs xl (d + 1) 363 [.ref 0, .int a0] M = D_X11_countOfLedger_0 xs xl d a0 M := rfl
set_option maxRecDepth 20000 in
theorem D_X11_countOfLedger_0_eq (xs : Nat → Int32) (xl d : Nat) (v1 : Int32) (M : dp_M) : D_X11_countOfLedger_0 xs xl d v1 M = if v1 = (28 : Int32) then (some (.inl (some (.int (dp_I M 97 0))), M)) else if v1 = (29 : Int32) then (some (.inl (some (.int (dp_I M 97 1))), M)) else if v1 = (30 : Int32) then (some (.inl (some (.int (dp_I M 97 2))), M)) else if v1 = (31 : Int32) then (some (.inl (some (.int (dp_I M 97 3))), M)) else if v1 = (32 : Int32) then (some (.inl (some (.int (dp_I M 97 4))), M)) else if v1 = (33 : Int32) then (some (.inl (some (.int (dp_I M 97 5))), M)) else (some (.inl (some (.int (dp_I M 97 6))), M)) := by
  have hF := dp_den_grow (md := true) (xs := xs) (xl := xl) d
  unfold D_X11_countOfLedger_0
  refine dp_s1 hF (i := .iload_n 1) rfl (fun _ => rfl) ?_
  refine (dp_s (E := fun k => if v1 = (28 : Int32) then k (40, [some (.ref 0), some (.int v1)], [], M) else if v1 = (29 : Int32) then k (48, [some (.ref 0), some (.int v1)], [], M) else if v1 = (30 : Int32) then k (56, [some (.ref 0), some (.int v1)], [], M) else if v1 = (31 : Int32) then k (64, [some (.ref 0), some (.int v1)], [], M) else if v1 = (32 : Int32) then k (72, [some (.ref 0), some (.int v1)], [], M) else if v1 = (33 : Int32) then k (80, [some (.ref 0), some (.int v1)], [], M) else k (88, [some (.ref 0), some (.int v1)], [], M)) hF (i := .tableswitch 87 28 33 #[39, 47, 55, 63, 71, 79]) rfl (fun _ => rfl)).trans ?_
  refine dp_ifc ?_ ?_
  · refine dp_s1 hF (i := .aload_n 0) rfl (fun _ => rfl) ?_
    refine dp_s1 hF (i := .getfield 71) rfl (fun _ => rfl) ?_
    refine dp_s1 hF (i := .getfield 113) rfl (fun _ => rfl) ?_
    exact dp_s0 hF (i := .ireturn) rfl (fun _ => rfl)
  refine dp_ifc ?_ ?_
  · refine dp_s1 hF (i := .aload_n 0) rfl (fun _ => rfl) ?_
    refine dp_s1 hF (i := .getfield 71) rfl (fun _ => rfl) ?_
    refine dp_s1 hF (i := .getfield 757) rfl (fun _ => rfl) ?_
    exact dp_s0 hF (i := .ireturn) rfl (fun _ => rfl)
  refine dp_ifc ?_ ?_
  · refine dp_s1 hF (i := .aload_n 0) rfl (fun _ => rfl) ?_
    refine dp_s1 hF (i := .getfield 71) rfl (fun _ => rfl) ?_
    refine dp_s1 hF (i := .getfield 727) rfl (fun _ => rfl) ?_
    exact dp_s0 hF (i := .ireturn) rfl (fun _ => rfl)
  refine dp_ifc ?_ ?_
  · refine dp_s1 hF (i := .aload_n 0) rfl (fun _ => rfl) ?_
    refine dp_s1 hF (i := .getfield 71) rfl (fun _ => rfl) ?_
    refine dp_s1 hF (i := .getfield 904) rfl (fun _ => rfl) ?_
    exact dp_s0 hF (i := .ireturn) rfl (fun _ => rfl)
  refine dp_ifc ?_ ?_
  · refine dp_s1 hF (i := .aload_n 0) rfl (fun _ => rfl) ?_
    refine dp_s1 hF (i := .getfield 71) rfl (fun _ => rfl) ?_
    refine dp_s1 hF (i := .getfield 907) rfl (fun _ => rfl) ?_
    exact dp_s0 hF (i := .ireturn) rfl (fun _ => rfl)
  refine dp_ifc ?_ ?_
  · refine dp_s1 hF (i := .aload_n 0) rfl (fun _ => rfl) ?_
    refine dp_s1 hF (i := .getfield 71) rfl (fun _ => rfl) ?_
    refine dp_s1 hF (i := .getfield 910) rfl (fun _ => rfl) ?_
    exact dp_s0 hF (i := .ireturn) rfl (fun _ => rfl)
  refine dp_s1 hF (i := .aload_n 0) rfl (fun _ => rfl) ?_
  refine dp_s1 hF (i := .getfield 71) rfl (fun _ => rfl) ?_
  refine dp_s1 hF (i := .getfield 913) rfl (fun _ => rfl) ?_
  exact dp_s0 hF (i := .ireturn) rfl (fun _ => rfl)
noncomputable def D_X11_countOfOne_0 (xs : Nat → Int32) (xl d : Nat) (v1 : Int32) (v2 : Int32) (M : dp_M) : Option dp_Res := dp_lim true xs xl (dp_den true xs xl d) dp_m_X11_countOfOne (0, [some (.ref 0), some (.int v1), some (.int v2)], [], M)
theorem D_X11_countOfOne_0_den (xs : Nat → Int32) (xl d : Nat) (a0 : Int32) (a1 : Int32) (M : dp_M) : dp_den true xs xl (d + 1) 364 [.ref 0, .int a0, .int a1] M = D_X11_countOfOne_0 xs xl d a0 a1 M := rfl
set_option maxRecDepth 20000 in
theorem D_X11_countOfOne_0_eq (xs : Nat → Int32) (xl d : Nat) (v1 : Int32) (v2 : Int32) (M : dp_M) : D_X11_countOfOne_0 xs xl d v1 v2 M = if v1 = (1 : Int32) then (dp_bi (dp_den true xs xl d 252 [.ref 0, .int v2] M) (fun r2 M1 => if r2 = 0 then (some (.inl (some (.int (-1 : Int32))), M1)) else (dp_bi (dp_den true xs xl d 69 [.ref 1, .int v2] M1) (fun r4 M3 => some (.inl (some (.int r4)), M3))))) else (if v1 = (6 : Int32) then (dp_bi (dp_den true xs xl d 251 [.long (Int32.toInt64 v2), .long (16 : Int64), .long (23 : Int64)] M) (fun r6 M5 => if r6 = 0 then (some (.inl (some (.int (-1 : Int32))), M5)) else (dp_bi (dp_den true xs xl d 211 [.ref 51, .int v2] M5) (fun r8 M7 => dp_bi (dp_den true xs xl d 591 [.int r8] M7) (fun r10 M9 => some (.inl (some (.int r10)), M9)))))) else (dp_bi (dp_den true xs xl d 254 [.ref 0, .int v2] M) (fun r12 M11 => if r12 = 0 then (some (.inl (some (.int (-1 : Int32))), M11)) else (if v1 = (2 : Int32) then (if v2 < 0 ∨ dp_len M11 33 ≤ Int32.toNatClampNeg v2 then none else (some (.inl (some (.int (dp_I M11 33 (Int32.toNatClampNeg v2)))), M11))) else if v1 = (3 : Int32) then (dp_bi (dp_den true xs xl d 230 [.ref 28, .int v2] M11) (fun r14 M13 => some (.inl (some (.int r14)), M13))) else if v1 = (4 : Int32) then (if v2 < 0 ∨ dp_len M11 34 ≤ Int32.toNatClampNeg v2 then none else (some (.inl (some (.int (dp_I M11 34 (Int32.toNatClampNeg v2)))), M11))) else if v1 = (5 : Int32) then (if v2 < 0 ∨ dp_len M11 35 ≤ Int32.toNatClampNeg v2 then none else (some (.inl (some (.int (dp_I M11 35 (Int32.toNatClampNeg v2)))), M11))) else (some (.inl (some (.int (-1 : Int32))), M11)))))) := by
  have hF := dp_den_grow (md := true) (xs := xs) (xl := xl) d
  unfold D_X11_countOfOne_0
  refine dp_s1 hF (i := .iload_n 1) rfl (fun _ => rfl) ?_
  refine dp_s1 hF (i := .iconst 1) rfl (fun _ => rfl) ?_
  refine dp_s2 hF (i := .if_icmp .ne 24) (a := (5, [some (.ref 0), some (.int v1), some (.int v2)], [], M)) (b := (26, [some (.ref 0), some (.int v1), some (.int v2)], [], M)) rfl (fun _ => rfl) ?_ ?_
  · refine dp_s1 hF (i := .aload_n 0) rfl (fun _ => rfl) ?_
    refine dp_s1 hF (i := .iload_n 2) rfl (fun _ => rfl) ?_
    refine dp_si (mj := dp_m_X11_isBay) (i := .invokevirtual 134) rfl rfl (Or.inr rfl) rfl (fun _ => rfl) (fun r2 M1 => ?_)
    refine dp_s2 hF (i := .ifCond .eq 14) (a := (24, [some (.ref 0), some (.int v1), some (.int v2)], [], M1)) (b := (13, [some (.ref 0), some (.int v1), some (.int v2)], [], M1)) rfl (fun _ => rfl) ?_ ?_
    · refine dp_s1 hF (i := .iconst (-1)) rfl (fun _ => rfl) ?_
      exact dp_s0 hF (i := .ireturn) rfl (fun _ => rfl)
    refine dp_s1 hF (i := .aload_n 0) rfl (fun _ => rfl) ?_
    refine dp_s1 hF (i := .getfield 18) rfl (fun _ => rfl) ?_
    refine dp_s1 hF (i := .iload_n 2) rfl (fun _ => rfl) ?_
    refine dp_si (mj := dp_m_X2_movesLeft) (i := .invokevirtual 203) rfl rfl (Or.inl rfl) rfl (fun _ => rfl) (fun r4 M3 => ?_)
    refine dp_s1 hF (i := .goto 4) rfl (fun _ => rfl) ?_
    exact dp_s0 hF (i := .ireturn) rfl (fun _ => rfl)
  refine dp_s1 hF (i := .iload_n 1) rfl (fun _ => rfl) ?_
  refine dp_s1 hF (i := .bipush 6) rfl (fun _ => rfl) ?_
  refine dp_s2 hF (i := .if_icmp .ne 33) (a := (32, [some (.ref 0), some (.int v1), some (.int v2)], [], M)) (b := (62, [some (.ref 0), some (.int v1), some (.int v2)], [], M)) rfl (fun _ => rfl) ?_ ?_
  · refine dp_s1 hF (i := .iload_n 2) rfl (fun _ => rfl) ?_
    refine dp_s1 hF (i := .i2l) rfl (fun _ => rfl) ?_
    refine dp_s1 hF (i := .ldc2_w 411) rfl (fun _ => rfl) ?_
    refine dp_s1 hF (i := .ldc2_w 413) rfl (fun _ => rfl) ?_
    refine dp_si (mj := dp_m_X11_within) (i := .invokestatic 96) rfl rfl (Or.inr rfl) rfl (fun _ => rfl) (fun r6 M5 => ?_)
    refine dp_s2 hF (i := .ifCond .eq 17) (a := (60, [some (.ref 0), some (.int v1), some (.int v2)], [], M5)) (b := (46, [some (.ref 0), some (.int v1), some (.int v2)], [], M5)) rfl (fun _ => rfl) ?_ ?_
    · refine dp_s1 hF (i := .iconst (-1)) rfl (fun _ => rfl) ?_
      exact dp_s0 hF (i := .ireturn) rfl (fun _ => rfl)
    refine dp_s1 hF (i := .aload_n 0) rfl (fun _ => rfl) ?_
    refine dp_s1 hF (i := .getfield 43) rfl (fun _ => rfl) ?_
    refine dp_s1 hF (i := .iload_n 2) rfl (fun _ => rfl) ?_
    refine dp_si (mj := dp_m_X9_landsIn) (i := .invokevirtual 916) rfl rfl (Or.inl rfl) rfl (fun _ => rfl) (fun r8 M7 => ?_)
    refine dp_si (mj := dp_m_J6_bitCount_0f7a4) (i := .invokestatic 919) rfl rfl (Or.inl rfl) rfl (fun _ => rfl) (fun r10 M9 => ?_)
    refine dp_s1 hF (i := .goto 4) rfl (fun _ => rfl) ?_
    exact dp_s0 hF (i := .ireturn) rfl (fun _ => rfl)
  refine dp_s1 hF (i := .aload_n 0) rfl (fun _ => rfl) ?_
  refine dp_s1 hF (i := .iload_n 2) rfl (fun _ => rfl) ?_
  refine dp_si (mj := dp_m_X11_isYardRow) (i := .invokevirtual 239) rfl rfl (Or.inr rfl) rfl (fun _ => rfl) (fun r12 M11 => ?_)
  refine dp_s2 hF (i := .ifCond .ne 5) (a := (70, [some (.ref 0), some (.int v1), some (.int v2)], [], M11)) (b := (72, [some (.ref 0), some (.int v1), some (.int v2)], [], M11)) rfl (fun _ => rfl) ?_ ?_
  · refine dp_s1 hF (i := .iconst (-1)) rfl (fun _ => rfl) ?_
    exact dp_s0 hF (i := .ireturn) rfl (fun _ => rfl)
  refine dp_s1 hF (i := .iload_n 1) rfl (fun _ => rfl) ?_
  refine (dp_s (E := fun k => if v1 = (2 : Int32) then k (104, [some (.ref 0), some (.int v1), some (.int v2)], [], M11) else if v1 = (3 : Int32) then k (114, [some (.ref 0), some (.int v1), some (.int v2)], [], M11) else if v1 = (4 : Int32) then k (123, [some (.ref 0), some (.int v1), some (.int v2)], [], M11) else if v1 = (5 : Int32) then k (133, [some (.ref 0), some (.int v1), some (.int v2)], [], M11) else k (143, [some (.ref 0), some (.int v1), some (.int v2)], [], M11)) hF (i := .tableswitch 70 2 5 #[31, 41, 50, 60]) rfl (fun _ => rfl)).trans ?_
  refine dp_ifc ?_ ?_
  · refine dp_s1 hF (i := .aload_n 0) rfl (fun _ => rfl) ?_
    refine dp_s1 hF (i := .getfield 27) rfl (fun _ => rfl) ?_
    refine dp_s1 hF (i := .getfield 242) rfl (fun _ => rfl) ?_
    refine dp_s1 hF (i := .iload_n 2) rfl (fun _ => rfl) ?_
    refine dp_s3 hF (i := .iaload) rfl (fun _ => rfl) ?_
    exact dp_s0 hF (i := .ireturn) rfl (fun _ => rfl)
  refine dp_ifc ?_ ?_
  · refine dp_s1 hF (i := .aload_n 0) rfl (fun _ => rfl) ?_
    refine dp_s1 hF (i := .getfield 27) rfl (fun _ => rfl) ?_
    refine dp_s1 hF (i := .iload_n 2) rfl (fun _ => rfl) ?_
    refine dp_si (mj := dp_m_X10_weightOf) (i := .invokevirtual 924) rfl rfl (Or.inl rfl) rfl (fun _ => rfl) (fun r14 M13 => ?_)
    exact dp_s0 hF (i := .ireturn) rfl (fun _ => rfl)
  refine dp_ifc ?_ ?_
  · refine dp_s1 hF (i := .aload_n 0) rfl (fun _ => rfl) ?_
    refine dp_s1 hF (i := .getfield 27) rfl (fun _ => rfl) ?_
    refine dp_s1 hF (i := .getfield 245) rfl (fun _ => rfl) ?_
    refine dp_s1 hF (i := .iload_n 2) rfl (fun _ => rfl) ?_
    refine dp_s3 hF (i := .iaload) rfl (fun _ => rfl) ?_
    exact dp_s0 hF (i := .ireturn) rfl (fun _ => rfl)
  refine dp_ifc ?_ ?_
  · refine dp_s1 hF (i := .aload_n 0) rfl (fun _ => rfl) ?_
    refine dp_s1 hF (i := .getfield 27) rfl (fun _ => rfl) ?_
    refine dp_s1 hF (i := .getfield 251) rfl (fun _ => rfl) ?_
    refine dp_s1 hF (i := .iload_n 2) rfl (fun _ => rfl) ?_
    refine dp_s3 hF (i := .iaload) rfl (fun _ => rfl) ?_
    exact dp_s0 hF (i := .ireturn) rfl (fun _ => rfl)
  refine dp_s1 hF (i := .iconst (-1)) rfl (fun _ => rfl) ?_
  exact dp_s0 hF (i := .ireturn) rfl (fun _ => rfl)
