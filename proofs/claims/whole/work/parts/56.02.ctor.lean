set_option maxRecDepth 100000 in
set_option maxHeartbeats 4000000 in
theorem dqc_X4_init (xs : Nat → Int32) (xl d : Nat) (v : Nat → Int32) : dp_den false xs xl (d + 1) 103 [.ref 14] (dq_27 v) = some (.inl none, dq_47 v) := by
  have hF := dp_den_grow (md := false) (xs := xs) (xl := xl) d
  show dp_lim false xs xl (dp_den false xs xl d) dp_m_X4_init (0, [some (.ref 14)], [], dq_27 v) = _
  refine dp_s1 hF (i := .aload_n 0) rfl (fun _ => rfl) ?_
  refine dp_s1 hF (i := .invokespecial 3) rfl (fun _ => rfl) ?_
  refine dp_s1 hF (i := .aload_n 0) rfl (fun _ => rfl) ?_
  refine dp_s1 hF (i := .bipush 16) rfl (fun _ => rfl) ?_
  refine dq_na hF (at_ := .int) (p := 15) (t := 1) (N := 16) (M' := dq_28 v) rfl (Or.inl ⟨rfl, rfl⟩) (by decide) rfl (dqn_27 v) rfl rfl ?_
  refine dq_if hF (i := .putfield 11) (c := (dp_t false (dq_28 v) 14 = 4 + 10 ∧ dp_fk 4 0 = 2) ∧ (false = false ∨ dp_K0 ≤ 14)) (cf := (12, [some (.ref 14)], [], dq_29 v)) rfl (fun _ => rfl) ⟨⟨dq_t (dqn_28 v) (by decide), rfl⟩, Or.inl rfl⟩ ?_
  refine dp_s1 hF (i := .aload_n 0) rfl (fun _ => rfl) ?_
  refine dp_s1 hF (i := .ldc 15) rfl (fun _ => rfl) ?_
  refine dq_na hF (at_ := .int) (p := 16) (t := 1) (N := 65536) (M' := dq_30 v) rfl (Or.inl ⟨rfl, rfl⟩) (by decide) rfl (dqn_29 v) rfl rfl ?_
  refine dq_if hF (i := .putfield 16) (c := (dp_t false (dq_30 v) 14 = 4 + 10 ∧ dp_fk 4 1 = 2) ∧ (false = false ∨ dp_K0 ≤ 14)) (cf := (20, [some (.ref 14)], [], dq_31 v)) rfl (fun _ => rfl) ⟨⟨dq_t (dqn_30 v) (by decide), rfl⟩, Or.inl rfl⟩ ?_
  refine dp_s1 hF (i := .aload_n 0) rfl (fun _ => rfl) ?_
  refine dp_s1 hF (i := .sipush 1300) rfl (fun _ => rfl) ?_
  refine dq_na hF (at_ := .int) (p := 17) (t := 1) (N := 1300) (M' := dq_32 v) rfl (Or.inl ⟨rfl, rfl⟩) (by decide) rfl (dqn_31 v) rfl rfl ?_
  refine dq_if hF (i := .putfield 19) (c := (dp_t false (dq_32 v) 14 = 4 + 10 ∧ dp_fk 4 2 = 2) ∧ (false = false ∨ dp_K0 ≤ 14)) (cf := (29, [some (.ref 14)], [], dq_33 v)) rfl (fun _ => rfl) ⟨⟨dq_t (dqn_32 v) (by decide), rfl⟩, Or.inl rfl⟩ ?_
  refine dp_s1 hF (i := .aload_n 0) rfl (fun _ => rfl) ?_
  refine dp_s1 hF (i := .sipush 1300) rfl (fun _ => rfl) ?_
  refine dq_na hF (at_ := .int) (p := 18) (t := 1) (N := 1300) (M' := dq_34 v) rfl (Or.inl ⟨rfl, rfl⟩) (by decide) rfl (dqn_33 v) rfl rfl ?_
  refine dq_if hF (i := .putfield 22) (c := (dp_t false (dq_34 v) 14 = 4 + 10 ∧ dp_fk 4 3 = 2) ∧ (false = false ∨ dp_K0 ≤ 14)) (cf := (38, [some (.ref 14)], [], dq_35 v)) rfl (fun _ => rfl) ⟨⟨dq_t (dqn_34 v) (by decide), rfl⟩, Or.inl rfl⟩ ?_
  refine dp_s1 hF (i := .aload_n 0) rfl (fun _ => rfl) ?_
  refine dp_s1 hF (i := .sipush 1300) rfl (fun _ => rfl) ?_
  refine dq_na hF (at_ := .int) (p := 19) (t := 1) (N := 1300) (M' := dq_36 v) rfl (Or.inl ⟨rfl, rfl⟩) (by decide) rfl (dqn_35 v) rfl rfl ?_
  refine dq_if hF (i := .putfield 25) (c := (dp_t false (dq_36 v) 14 = 4 + 10 ∧ dp_fk 4 4 = 2) ∧ (false = false ∨ dp_K0 ≤ 14)) (cf := (47, [some (.ref 14)], [], dq_37 v)) rfl (fun _ => rfl) ⟨⟨dq_t (dqn_36 v) (by decide), rfl⟩, Or.inl rfl⟩ ?_
  refine dp_s1 hF (i := .aload_n 0) rfl (fun _ => rfl) ?_
  refine dp_s1 hF (i := .iconst 4) rfl (fun _ => rfl) ?_
  refine dq_na hF (at_ := .int) (p := 20) (t := 1) (N := 4) (M' := dq_38 v) rfl (Or.inl ⟨rfl, rfl⟩) (by decide) rfl (dqn_37 v) rfl rfl ?_
  refine dq_if hF (i := .putfield 30) (c := (dp_t false (dq_38 v) 14 = 4 + 10 ∧ dp_fk 4 5 = 2) ∧ (false = false ∨ dp_K0 ≤ 14)) (cf := (54, [some (.ref 14)], [], dq_39 v)) rfl (fun _ => rfl) ⟨⟨dq_t (dqn_38 v) (by decide), rfl⟩, Or.inl rfl⟩ ?_
  refine dp_s1 hF (i := .aload_n 0) rfl (fun _ => rfl) ?_
  refine dp_s1 hF (i := .iconst 4) rfl (fun _ => rfl) ?_
  refine dq_na hF (at_ := .boolean) (p := 21) (t := 3) (N := 4) (M' := dq_40 v) rfl (Or.inr (Or.inr (Or.inl ⟨rfl, rfl⟩))) (by decide) rfl (dqn_39 v) rfl rfl ?_
  refine dq_if hF (i := .putfield 33) (c := (dp_t false (dq_40 v) 14 = 4 + 10 ∧ dp_fk 4 6 = 2) ∧ (false = false ∨ dp_K0 ≤ 14)) (cf := (61, [some (.ref 14)], [], dq_41 v)) rfl (fun _ => rfl) ⟨⟨dq_t (dqn_40 v) (by decide), rfl⟩, Or.inl rfl⟩ ?_
  refine dp_s1 hF (i := .aload_n 0) rfl (fun _ => rfl) ?_
  refine dp_s1 hF (i := .iconst 4) rfl (fun _ => rfl) ?_
  refine dq_na hF (at_ := .int) (p := 22) (t := 1) (N := 4) (M' := dq_42 v) rfl (Or.inl ⟨rfl, rfl⟩) (by decide) rfl (dqn_41 v) rfl rfl ?_
  refine dq_if hF (i := .putfield 37) (c := (dp_t false (dq_42 v) 14 = 4 + 10 ∧ dp_fk 4 7 = 2) ∧ (false = false ∨ dp_K0 ≤ 14)) (cf := (68, [some (.ref 14)], [], dq_43 v)) rfl (fun _ => rfl) ⟨⟨dq_t (dqn_42 v) (by decide), rfl⟩, Or.inl rfl⟩ ?_
  refine dp_s1 hF (i := .aload_n 0) rfl (fun _ => rfl) ?_
  refine dp_s1 hF (i := .iconst 3) rfl (fun _ => rfl) ?_
  refine dq_na hF (at_ := .int) (p := 23) (t := 1) (N := 3) (M' := dq_44 v) rfl (Or.inl ⟨rfl, rfl⟩) (by decide) rfl (dqn_43 v) rfl rfl ?_
  refine dq_if hF (i := .putfield 40) (c := (dp_t false (dq_44 v) 14 = 4 + 10 ∧ dp_fk 4 8 = 2) ∧ (false = false ∨ dp_K0 ≤ 14)) (cf := (75, [some (.ref 14)], [], dq_45 v)) rfl (fun _ => rfl) ⟨⟨dq_t (dqn_44 v) (by decide), rfl⟩, Or.inl rfl⟩ ?_
  refine dp_s1 hF (i := .aload_n 0) rfl (fun _ => rfl) ?_
  refine dp_s1 hF (i := .iconst 3) rfl (fun _ => rfl) ?_
  refine dq_na hF (at_ := .int) (p := 24) (t := 1) (N := 3) (M' := dq_46 v) rfl (Or.inl ⟨rfl, rfl⟩) (by decide) rfl (dqn_45 v) rfl rfl ?_
  refine dq_if hF (i := .putfield 43) (c := (dp_t false (dq_46 v) 14 = 4 + 10 ∧ dp_fk 4 9 = 2) ∧ (false = false ∨ dp_K0 ≤ 14)) (cf := (82, [some (.ref 14)], [], dq_47 v)) rfl (fun _ => rfl) ⟨⟨dq_t (dqn_46 v) (by decide), rfl⟩, Or.inl rfl⟩ ?_
  exact dp_s0 hF (i := .return_) rfl (fun _ => rfl)
set_option maxRecDepth 100000 in
set_option maxHeartbeats 4000000 in
theorem dqc_X2_init (xs : Nat → Int32) (xl d : Nat) (v : Nat → Int32) : dp_den false xs xl ((d + 1) + 1) 52 [.ref 1, .int (dq_h (v 0) (12 : Int32)), .int (dq_h (v 1) (4 : Int32))] (dq_2 v) = some (.inl none, dq_57 v) := by
  have hF := dp_den_grow (md := false) (xs := xs) (xl := xl) (d + 1)
  show dp_lim false xs xl (dp_den false xs xl (d + 1)) dp_m_X2_init (0, [some (.ref 1), some (.int (dq_h (v 0) (12 : Int32))), some (.int (dq_h (v 1) (4 : Int32)))], [], dq_2 v) = _
  refine dp_s1 hF (i := .aload_n 0) rfl (fun _ => rfl) ?_
  refine dp_s1 hF (i := .invokespecial 3) rfl (fun _ => rfl) ?_
  refine dp_s1 hF (i := .aload_n 0) rfl (fun _ => rfl) ?_
  refine dp_s1 hF (i := .bipush 100) rfl (fun _ => rfl) ?_
  refine dq_na hF (at_ := .int) (p := 2) (t := 1) (N := 100) (M' := dq_3 v) rfl (Or.inl ⟨rfl, rfl⟩) (by decide) rfl (dqn_2 v) rfl rfl ?_
  refine dq_if hF (i := .putfield 11) (c := (dp_t false (dq_3 v) 1 = 2 + 10 ∧ dp_fk 2 4 = 2) ∧ (false = false ∨ dp_K0 ≤ 1)) (cf := (12, [some (.ref 1), some (.int (dq_h (v 0) (12 : Int32))), some (.int (dq_h (v 1) (4 : Int32)))], [], dq_4 v)) rfl (fun _ => rfl) ⟨⟨dq_t (dqn_3 v) (by decide), rfl⟩, Or.inl rfl⟩ ?_
  refine dp_s1 hF (i := .aload_n 0) rfl (fun _ => rfl) ?_
  refine dp_s1 hF (i := .bipush 100) rfl (fun _ => rfl) ?_
  refine dq_na hF (at_ := .int) (p := 3) (t := 1) (N := 100) (M' := dq_5 v) rfl (Or.inl ⟨rfl, rfl⟩) (by decide) rfl (dqn_4 v) rfl rfl ?_
  refine dq_if hF (i := .putfield 15) (c := (dp_t false (dq_5 v) 1 = 2 + 10 ∧ dp_fk 2 5 = 2) ∧ (false = false ∨ dp_K0 ≤ 1)) (cf := (20, [some (.ref 1), some (.int (dq_h (v 0) (12 : Int32))), some (.int (dq_h (v 1) (4 : Int32)))], [], dq_6 v)) rfl (fun _ => rfl) ⟨⟨dq_t (dqn_5 v) (by decide), rfl⟩, Or.inl rfl⟩ ?_
  refine dp_s1 hF (i := .aload_n 0) rfl (fun _ => rfl) ?_
  refine dp_s1 hF (i := .bipush 100) rfl (fun _ => rfl) ?_
  refine dq_na hF (at_ := .int) (p := 4) (t := 1) (N := 100) (M' := dq_7 v) rfl (Or.inl ⟨rfl, rfl⟩) (by decide) rfl (dqn_6 v) rfl rfl ?_
  refine dq_if hF (i := .putfield 18) (c := (dp_t false (dq_7 v) 1 = 2 + 10 ∧ dp_fk 2 6 = 2) ∧ (false = false ∨ dp_K0 ≤ 1)) (cf := (28, [some (.ref 1), some (.int (dq_h (v 0) (12 : Int32))), some (.int (dq_h (v 1) (4 : Int32)))], [], dq_8 v)) rfl (fun _ => rfl) ⟨⟨dq_t (dqn_7 v) (by decide), rfl⟩, Or.inl rfl⟩ ?_
  refine dp_s1 hF (i := .aload_n 0) rfl (fun _ => rfl) ?_
  refine dp_s1 hF (i := .bipush 100) rfl (fun _ => rfl) ?_
  refine dq_na hF (at_ := .int) (p := 5) (t := 1) (N := 100) (M' := dq_9 v) rfl (Or.inl ⟨rfl, rfl⟩) (by decide) rfl (dqn_8 v) rfl rfl ?_
  refine dq_if hF (i := .putfield 21) (c := (dp_t false (dq_9 v) 1 = 2 + 10 ∧ dp_fk 2 7 = 2) ∧ (false = false ∨ dp_K0 ≤ 1)) (cf := (36, [some (.ref 1), some (.int (dq_h (v 0) (12 : Int32))), some (.int (dq_h (v 1) (4 : Int32)))], [], dq_10 v)) rfl (fun _ => rfl) ⟨⟨dq_t (dqn_9 v) (by decide), rfl⟩, Or.inl rfl⟩ ?_
  refine dp_s1 hF (i := .aload_n 0) rfl (fun _ => rfl) ?_
  refine dp_s1 hF (i := .bipush 100) rfl (fun _ => rfl) ?_
  refine dq_na hF (at_ := .int) (p := 6) (t := 1) (N := 100) (M' := dq_11 v) rfl (Or.inl ⟨rfl, rfl⟩) (by decide) rfl (dqn_10 v) rfl rfl ?_
  refine dq_if hF (i := .putfield 24) (c := (dp_t false (dq_11 v) 1 = 2 + 10 ∧ dp_fk 2 8 = 2) ∧ (false = false ∨ dp_K0 ≤ 1)) (cf := (44, [some (.ref 1), some (.int (dq_h (v 0) (12 : Int32))), some (.int (dq_h (v 1) (4 : Int32)))], [], dq_12 v)) rfl (fun _ => rfl) ⟨⟨dq_t (dqn_11 v) (by decide), rfl⟩, Or.inl rfl⟩ ?_
  refine dp_s1 hF (i := .aload_n 0) rfl (fun _ => rfl) ?_
  refine dp_s1 hF (i := .bipush 100) rfl (fun _ => rfl) ?_
  refine dq_na hF (at_ := .int) (p := 7) (t := 1) (N := 100) (M' := dq_13 v) rfl (Or.inl ⟨rfl, rfl⟩) (by decide) rfl (dqn_12 v) rfl rfl ?_
  refine dq_if hF (i := .putfield 27) (c := (dp_t false (dq_13 v) 1 = 2 + 10 ∧ dp_fk 2 9 = 2) ∧ (false = false ∨ dp_K0 ≤ 1)) (cf := (52, [some (.ref 1), some (.int (dq_h (v 0) (12 : Int32))), some (.int (dq_h (v 1) (4 : Int32)))], [], dq_14 v)) rfl (fun _ => rfl) ⟨⟨dq_t (dqn_13 v) (by decide), rfl⟩, Or.inl rfl⟩ ?_
  refine dp_s1 hF (i := .aload_n 0) rfl (fun _ => rfl) ?_
  refine dp_s1 hF (i := .bipush 100) rfl (fun _ => rfl) ?_
  refine dq_na hF (at_ := .int) (p := 8) (t := 1) (N := 100) (M' := dq_15 v) rfl (Or.inl ⟨rfl, rfl⟩) (by decide) rfl (dqn_14 v) rfl rfl ?_
  refine dq_if hF (i := .putfield 30) (c := (dp_t false (dq_15 v) 1 = 2 + 10 ∧ dp_fk 2 10 = 2) ∧ (false = false ∨ dp_K0 ≤ 1)) (cf := (60, [some (.ref 1), some (.int (dq_h (v 0) (12 : Int32))), some (.int (dq_h (v 1) (4 : Int32)))], [], dq_16 v)) rfl (fun _ => rfl) ⟨⟨dq_t (dqn_15 v) (by decide), rfl⟩, Or.inl rfl⟩ ?_
  refine dp_s1 hF (i := .aload_n 0) rfl (fun _ => rfl) ?_
  refine dp_s1 hF (i := .bipush 100) rfl (fun _ => rfl) ?_
  refine dq_na hF (at_ := .int) (p := 9) (t := 1) (N := 100) (M' := dq_17 v) rfl (Or.inl ⟨rfl, rfl⟩) (by decide) rfl (dqn_16 v) rfl rfl ?_
  refine dq_if hF (i := .putfield 33) (c := (dp_t false (dq_17 v) 1 = 2 + 10 ∧ dp_fk 2 11 = 2) ∧ (false = false ∨ dp_K0 ≤ 1)) (cf := (68, [some (.ref 1), some (.int (dq_h (v 0) (12 : Int32))), some (.int (dq_h (v 1) (4 : Int32)))], [], dq_18 v)) rfl (fun _ => rfl) ⟨⟨dq_t (dqn_17 v) (by decide), rfl⟩, Or.inl rfl⟩ ?_
  refine dp_s1 hF (i := .aload_n 0) rfl (fun _ => rfl) ?_
  refine dp_s1 hF (i := .bipush 100) rfl (fun _ => rfl) ?_
  refine dq_na hF (at_ := .int) (p := 10) (t := 1) (N := 100) (M' := dq_19 v) rfl (Or.inl ⟨rfl, rfl⟩) (by decide) rfl (dqn_18 v) rfl rfl ?_
  refine dq_if hF (i := .putfield 36) (c := (dp_t false (dq_19 v) 1 = 2 + 10 ∧ dp_fk 2 12 = 2) ∧ (false = false ∨ dp_K0 ≤ 1)) (cf := (76, [some (.ref 1), some (.int (dq_h (v 0) (12 : Int32))), some (.int (dq_h (v 1) (4 : Int32)))], [], dq_20 v)) rfl (fun _ => rfl) ⟨⟨dq_t (dqn_19 v) (by decide), rfl⟩, Or.inl rfl⟩ ?_
  refine dp_s1 hF (i := .aload_n 0) rfl (fun _ => rfl) ?_
  refine dp_s1 hF (i := .bipush 100) rfl (fun _ => rfl) ?_
  refine dq_na hF (at_ := .int) (p := 11) (t := 1) (N := 100) (M' := dq_21 v) rfl (Or.inl ⟨rfl, rfl⟩) (by decide) rfl (dqn_20 v) rfl rfl ?_
  refine dq_if hF (i := .putfield 39) (c := (dp_t false (dq_21 v) 1 = 2 + 10 ∧ dp_fk 2 13 = 2) ∧ (false = false ∨ dp_K0 ≤ 1)) (cf := (84, [some (.ref 1), some (.int (dq_h (v 0) (12 : Int32))), some (.int (dq_h (v 1) (4 : Int32)))], [], dq_22 v)) rfl (fun _ => rfl) ⟨⟨dq_t (dqn_21 v) (by decide), rfl⟩, Or.inl rfl⟩ ?_
  refine dp_s1 hF (i := .aload_n 0) rfl (fun _ => rfl) ?_
  refine dp_s1 hF (i := .sipush 10000) rfl (fun _ => rfl) ?_
  refine dq_na hF (at_ := .boolean) (p := 12) (t := 3) (N := 10000) (M' := dq_23 v) rfl (Or.inr (Or.inr (Or.inl ⟨rfl, rfl⟩))) (by decide) rfl (dqn_22 v) rfl rfl ?_
  refine dq_if hF (i := .putfield 42) (c := (dp_t false (dq_23 v) 1 = 2 + 10 ∧ dp_fk 2 17 = 2) ∧ (false = false ∨ dp_K0 ≤ 1)) (cf := (93, [some (.ref 1), some (.int (dq_h (v 0) (12 : Int32))), some (.int (dq_h (v 1) (4 : Int32)))], [], dq_24 v)) rfl (fun _ => rfl) ⟨⟨dq_t (dqn_23 v) (by decide), rfl⟩, Or.inl rfl⟩ ?_
  refine dp_s1 hF (i := .aload_n 0) rfl (fun _ => rfl) ?_
  refine dp_s1 hF (i := .iconst 4) rfl (fun _ => rfl) ?_
  refine dq_na hF (at_ := .int) (p := 13) (t := 1) (N := 4) (M' := dq_25 v) rfl (Or.inl ⟨rfl, rfl⟩) (by decide) rfl (dqn_24 v) rfl rfl ?_
  refine dq_if hF (i := .putfield 46) (c := (dp_t false (dq_25 v) 1 = 2 + 10 ∧ dp_fk 2 18 = 2) ∧ (false = false ∨ dp_K0 ≤ 1)) (cf := (100, [some (.ref 1), some (.int (dq_h (v 0) (12 : Int32))), some (.int (dq_h (v 1) (4 : Int32)))], [], dq_26 v)) rfl (fun _ => rfl) ⟨⟨dq_t (dqn_25 v) (by decide), rfl⟩, Or.inl rfl⟩ ?_
  refine dp_s1 hF (i := .aload_n 0) rfl (fun _ => rfl) ?_
  refine dq_nw hF (ix := 49) (ci := 4) (p := 14) (M' := dq_27 v) rfl rfl (dqn_26 v) rfl rfl ?_
  refine dp_s1 hF (i := .dup) rfl (fun _ => rfl) ?_
  refine dq_ct hF (i := .invokespecial 51) (j := 103) rfl (fun _ => rfl) (dqc_X4_init xs xl d v) ?_
  refine dq_if hF (i := .putfield 52) (c := (dp_t false (dq_47 v) 1 = 2 + 10 ∧ dp_fk 2 19 = 2) ∧ (false = false ∨ dp_K0 ≤ 1)) (cf := (111, [some (.ref 1), some (.int (dq_h (v 0) (12 : Int32))), some (.int (dq_h (v 1) (4 : Int32)))], [], dq_48 v)) rfl (fun _ => rfl) ⟨⟨dq_t (dqn_47 v) (by decide), rfl⟩, Or.inl rfl⟩ ?_
  refine dp_s1 hF (i := .aload_n 0) rfl (fun _ => rfl) ?_
  refine dp_s1 hF (i := .iload_n 1) rfl (fun _ => rfl) ?_
  refine dq_if hF (i := .putfield 56) (c := dp_t false (dq_48 v) 1 = 2 + 10 ∧ dp_fk 2 0 = 0) (cf := (116, [some (.ref 1), some (.int (dq_h (v 0) (12 : Int32))), some (.int (dq_h (v 1) (4 : Int32)))], [], dq_49 v)) rfl (fun _ => rfl) ⟨dq_t (dqn_48 v) (by decide), rfl⟩ ?_
  refine dp_s1 hF (i := .aload_n 0) rfl (fun _ => rfl) ?_
  refine dp_s1 hF (i := .iload_n 2) rfl (fun _ => rfl) ?_
  refine dq_if hF (i := .putfield 60) (c := dp_t false (dq_49 v) 1 = 2 + 10 ∧ dp_fk 2 1 = 0) (cf := (121, [some (.ref 1), some (.int (dq_h (v 0) (12 : Int32))), some (.int (dq_h (v 1) (4 : Int32)))], [], dq_50 v)) rfl (fun _ => rfl) ⟨dq_t (dqn_49 v) (by decide), rfl⟩ ?_
  refine dp_s1 hF (i := .aload_n 0) rfl (fun _ => rfl) ?_
  refine dp_s1 hF (i := .iload_n 1) rfl (fun _ => rfl) ?_
  refine dq_na hF (at_ := .int) (p := 25) (t := 1) (N := (Int32.toNatClampNeg (dq_h (v 0) (12 : Int32)))) (M' := dq_51 v) rfl (Or.inl ⟨rfl, rfl⟩) (dqs_0 v) rfl (dqn_50 v) rfl rfl ?_
  refine dq_if hF (i := .putfield 63) (c := (dp_t false (dq_51 v) 1 = 2 + 10 ∧ dp_fk 2 14 = 2) ∧ (false = false ∨ dp_K0 ≤ 1)) (cf := (128, [some (.ref 1), some (.int (dq_h (v 0) (12 : Int32))), some (.int (dq_h (v 1) (4 : Int32)))], [], dq_52 v)) rfl (fun _ => rfl) ⟨⟨dq_t (dqn_51 v) (by decide), rfl⟩, Or.inl rfl⟩ ?_
  refine dp_s1 hF (i := .aload_n 0) rfl (fun _ => rfl) ?_
  refine dp_s1 hF (i := .iload_n 1) rfl (fun _ => rfl) ?_
  refine dq_na hF (at_ := .int) (p := 26) (t := 1) (N := (Int32.toNatClampNeg (dq_h (v 0) (12 : Int32)))) (M' := dq_53 v) rfl (Or.inl ⟨rfl, rfl⟩) (dqs_0 v) rfl (dqn_52 v) rfl rfl ?_
  refine dq_if hF (i := .putfield 66) (c := (dp_t false (dq_53 v) 1 = 2 + 10 ∧ dp_fk 2 15 = 2) ∧ (false = false ∨ dp_K0 ≤ 1)) (cf := (135, [some (.ref 1), some (.int (dq_h (v 0) (12 : Int32))), some (.int (dq_h (v 1) (4 : Int32)))], [], dq_54 v)) rfl (fun _ => rfl) ⟨⟨dq_t (dqn_53 v) (by decide), rfl⟩, Or.inl rfl⟩ ?_
  refine dp_s1 hF (i := .aload_n 0) rfl (fun _ => rfl) ?_
  refine dp_s1 hF (i := .iload_n 1) rfl (fun _ => rfl) ?_
  refine dp_s1 hF (i := .bipush 16) rfl (fun _ => rfl) ?_
  refine dp_s1 hF (i := .imul) rfl (fun _ => rfl) ?_
  refine dq_na hF (at_ := .int) (p := 27) (t := 1) (N := (Int32.toNatClampNeg ((dq_h (v 0) (12 : Int32)) * (16 : Int32)))) (M' := dq_55 v) rfl (Or.inl ⟨rfl, rfl⟩) (dqs_1 v) rfl (dqn_54 v) rfl rfl ?_
  refine dq_if hF (i := .putfield 69) (c := (dp_t false (dq_55 v) 1 = 2 + 10 ∧ dp_fk 2 16 = 2) ∧ (false = false ∨ dp_K0 ≤ 1)) (cf := (145, [some (.ref 1), some (.int (dq_h (v 0) (12 : Int32))), some (.int (dq_h (v 1) (4 : Int32)))], [], dq_56 v)) rfl (fun _ => rfl) ⟨⟨dq_t (dqn_55 v) (by decide), rfl⟩, Or.inl rfl⟩ ?_
  refine dp_s1 hF (i := .aload_n 0) rfl (fun _ => rfl) ?_
  refine dq_if hF (i := .getfield 63) (c := dp_t false (dq_56 v) 1 = 2 + 10) (cf := (149, [some (.ref 1), some (.int (dq_h (v 0) (12 : Int32))), some (.int (dq_h (v 1) (4 : Int32)))], [.ref 25], dq_56 v)) rfl (fun _ => rfl) (dq_t (dqn_56 v) (by decide)) ?_
  refine dp_s1 hF (i := .iconst (-1)) rfl (fun _ => rfl) ?_
  refine dq_cv hF (i := .invokestatic 72) (j := 593) rfl rfl (fun _ => rfl) (dq_fill xs xl d (M := dq_56 v) (p := 25) (x := (-1 : Int32)) (N := (Int32.toNatClampNeg (dq_h (v 0) (12 : Int32)))) (dq_t (dqn_56 v) (by decide)) rfl (dqz_0 v)) ?_
  exact dp_s0 hF (i := .return_) rfl (fun _ => rfl)
set_option maxRecDepth 100000 in
set_option maxHeartbeats 4000000 in
theorem dqc_X10_init (xs : Nat → Int32) (xl d : Nat) (v : Nat → Int32) : dp_den false xs xl ((d + 1) + 1) 225 [.ref 28, .ref 1, .int (dq_h (v 2) (20 : Int32)), .int (dq_h (v 3) (8 : Int32)), .int (dq_h (v 4) (400 : Int32))] (dq_59 v) = some (.inl none, dq_81 v) := by
  have hF := dp_den_grow (md := false) (xs := xs) (xl := xl) (d + 1)
  show dp_lim false xs xl (dp_den false xs xl (d + 1)) dp_m_X10_init (0, [some (.ref 28), some (.ref 1), some (.int (dq_h (v 2) (20 : Int32))), some (.int (dq_h (v 3) (8 : Int32))), some (.int (dq_h (v 4) (400 : Int32)))], [], dq_59 v) = _
  refine dp_s1 hF (i := .aload_n 0) rfl (fun _ => rfl) ?_
  refine dp_s1 hF (i := .invokespecial 3) rfl (fun _ => rfl) ?_
  refine dp_s1 hF (i := .aload_n 0) rfl (fun _ => rfl) ?_
  refine dp_s1 hF (i := .bipush 100) rfl (fun _ => rfl) ?_
  refine dq_na hF (at_ := .int) (p := 29) (t := 1) (N := 100) (M' := dq_60 v) rfl (Or.inl ⟨rfl, rfl⟩) (by decide) rfl (dqn_59 v) rfl rfl ?_
  refine dq_if hF (i := .putfield 11) (c := (dp_t false (dq_60 v) 28 = 10 + 10 ∧ dp_fk 10 8 = 2) ∧ (false = false ∨ dp_K0 ≤ 28)) (cf := (12, [some (.ref 28), some (.ref 1), some (.int (dq_h (v 2) (20 : Int32))), some (.int (dq_h (v 3) (8 : Int32))), some (.int (dq_h (v 4) (400 : Int32)))], [], dq_61 v)) rfl (fun _ => rfl) ⟨⟨dq_t (dqn_60 v) (by decide), rfl⟩, Or.inl rfl⟩ ?_
  refine dp_s1 hF (i := .aload_n 0) rfl (fun _ => rfl) ?_
  refine dp_s1 hF (i := .bipush 100) rfl (fun _ => rfl) ?_
  refine dq_na hF (at_ := .int) (p := 30) (t := 1) (N := 100) (M' := dq_62 v) rfl (Or.inl ⟨rfl, rfl⟩) (by decide) rfl (dqn_61 v) rfl rfl ?_
  refine dq_if hF (i := .putfield 17) (c := (dp_t false (dq_62 v) 28 = 10 + 10 ∧ dp_fk 10 9 = 2) ∧ (false = false ∨ dp_K0 ≤ 28)) (cf := (20, [some (.ref 28), some (.ref 1), some (.int (dq_h (v 2) (20 : Int32))), some (.int (dq_h (v 3) (8 : Int32))), some (.int (dq_h (v 4) (400 : Int32)))], [], dq_63 v)) rfl (fun _ => rfl) ⟨⟨dq_t (dqn_62 v) (by decide), rfl⟩, Or.inl rfl⟩ ?_
  refine dp_s1 hF (i := .aload_n 0) rfl (fun _ => rfl) ?_
  refine dp_s1 hF (i := .bipush 100) rfl (fun _ => rfl) ?_
  refine dq_na hF (at_ := .int) (p := 31) (t := 1) (N := 100) (M' := dq_64 v) rfl (Or.inl ⟨rfl, rfl⟩) (by decide) rfl (dqn_63 v) rfl rfl ?_
  refine dq_if hF (i := .putfield 20) (c := (dp_t false (dq_64 v) 28 = 10 + 10 ∧ dp_fk 10 10 = 2) ∧ (false = false ∨ dp_K0 ≤ 28)) (cf := (28, [some (.ref 28), some (.ref 1), some (.int (dq_h (v 2) (20 : Int32))), some (.int (dq_h (v 3) (8 : Int32))), some (.int (dq_h (v 4) (400 : Int32)))], [], dq_65 v)) rfl (fun _ => rfl) ⟨⟨dq_t (dqn_64 v) (by decide), rfl⟩, Or.inl rfl⟩ ?_
  refine dp_s1 hF (i := .aload_n 0) rfl (fun _ => rfl) ?_
  refine dp_s1 hF (i := .bipush 100) rfl (fun _ => rfl) ?_
  refine dq_na hF (at_ := .int) (p := 32) (t := 1) (N := 100) (M' := dq_66 v) rfl (Or.inl ⟨rfl, rfl⟩) (by decide) rfl (dqn_65 v) rfl rfl ?_
  refine dq_if hF (i := .putfield 23) (c := (dp_t false (dq_66 v) 28 = 10 + 10 ∧ dp_fk 10 11 = 2) ∧ (false = false ∨ dp_K0 ≤ 28)) (cf := (36, [some (.ref 28), some (.ref 1), some (.int (dq_h (v 2) (20 : Int32))), some (.int (dq_h (v 3) (8 : Int32))), some (.int (dq_h (v 4) (400 : Int32)))], [], dq_67 v)) rfl (fun _ => rfl) ⟨⟨dq_t (dqn_66 v) (by decide), rfl⟩, Or.inl rfl⟩ ?_
  refine dp_s1 hF (i := .aload_n 0) rfl (fun _ => rfl) ?_
  refine dp_s1 hF (i := .aload_n 1) rfl (fun _ => rfl) ?_
  refine dq_if hF (i := .putfield 26) (c := (dp_t false (dq_67 v) 28 = 10 + 10 ∧ dp_fk 10 0 = 2) ∧ (false = false ∨ dp_K0 ≤ 28)) (cf := (41, [some (.ref 28), some (.ref 1), some (.int (dq_h (v 2) (20 : Int32))), some (.int (dq_h (v 3) (8 : Int32))), some (.int (dq_h (v 4) (400 : Int32)))], [], dq_68 v)) rfl (fun _ => rfl) ⟨⟨dq_t (dqn_67 v) (by decide), rfl⟩, Or.inl rfl⟩ ?_
  refine dp_s1 hF (i := .aload_n 0) rfl (fun _ => rfl) ?_
  refine dp_s1 hF (i := .iload_n 2) rfl (fun _ => rfl) ?_
  refine dq_if hF (i := .putfield 30) (c := dp_t false (dq_68 v) 28 = 10 + 10 ∧ dp_fk 10 1 = 0) (cf := (46, [some (.ref 28), some (.ref 1), some (.int (dq_h (v 2) (20 : Int32))), some (.int (dq_h (v 3) (8 : Int32))), some (.int (dq_h (v 4) (400 : Int32)))], [], dq_69 v)) rfl (fun _ => rfl) ⟨dq_t (dqn_68 v) (by decide), rfl⟩ ?_
  refine dp_s1 hF (i := .aload_n 0) rfl (fun _ => rfl) ?_
  refine dp_s1 hF (i := .iload_n 3) rfl (fun _ => rfl) ?_
  refine dq_if hF (i := .putfield 34) (c := dp_t false (dq_69 v) 28 = 10 + 10 ∧ dp_fk 10 2 = 0) (cf := (51, [some (.ref 28), some (.ref 1), some (.int (dq_h (v 2) (20 : Int32))), some (.int (dq_h (v 3) (8 : Int32))), some (.int (dq_h (v 4) (400 : Int32)))], [], dq_70 v)) rfl (fun _ => rfl) ⟨dq_t (dqn_69 v) (by decide), rfl⟩ ?_
  refine dp_s1 hF (i := .aload_n 0) rfl (fun _ => rfl) ?_
  refine dp_s1 hF (i := .iload 4) rfl (fun _ => rfl) ?_
  refine dq_if hF (i := .putfield 37) (c := dp_t false (dq_70 v) 28 = 10 + 10 ∧ dp_fk 10 3 = 0) (cf := (57, [some (.ref 28), some (.ref 1), some (.int (dq_h (v 2) (20 : Int32))), some (.int (dq_h (v 3) (8 : Int32))), some (.int (dq_h (v 4) (400 : Int32)))], [], dq_71 v)) rfl (fun _ => rfl) ⟨dq_t (dqn_70 v) (by decide), rfl⟩ ?_
  refine dp_s1 hF (i := .aload_n 0) rfl (fun _ => rfl) ?_
  refine dp_s1 hF (i := .iload_n 2) rfl (fun _ => rfl) ?_
  refine dq_na hF (at_ := .int) (p := 33) (t := 1) (N := (Int32.toNatClampNeg (dq_h (v 2) (20 : Int32)))) (M' := dq_72 v) rfl (Or.inl ⟨rfl, rfl⟩) (dqs_2 v) rfl (dqn_71 v) rfl rfl ?_
  refine dq_if hF (i := .putfield 40) (c := (dp_t false (dq_72 v) 28 = 10 + 10 ∧ dp_fk 10 4 = 2) ∧ (false = false ∨ dp_K0 ≤ 28)) (cf := (64, [some (.ref 28), some (.ref 1), some (.int (dq_h (v 2) (20 : Int32))), some (.int (dq_h (v 3) (8 : Int32))), some (.int (dq_h (v 4) (400 : Int32)))], [], dq_73 v)) rfl (fun _ => rfl) ⟨⟨dq_t (dqn_72 v) (by decide), rfl⟩, Or.inl rfl⟩ ?_
  refine dp_s1 hF (i := .aload_n 0) rfl (fun _ => rfl) ?_
  refine dp_s1 hF (i := .iload_n 2) rfl (fun _ => rfl) ?_
  refine dq_na hF (at_ := .int) (p := 34) (t := 1) (N := (Int32.toNatClampNeg (dq_h (v 2) (20 : Int32)))) (M' := dq_74 v) rfl (Or.inl ⟨rfl, rfl⟩) (dqs_2 v) rfl (dqn_73 v) rfl rfl ?_
  refine dq_if hF (i := .putfield 43) (c := (dp_t false (dq_74 v) 28 = 10 + 10 ∧ dp_fk 10 5 = 2) ∧ (false = false ∨ dp_K0 ≤ 28)) (cf := (71, [some (.ref 28), some (.ref 1), some (.int (dq_h (v 2) (20 : Int32))), some (.int (dq_h (v 3) (8 : Int32))), some (.int (dq_h (v 4) (400 : Int32)))], [], dq_75 v)) rfl (fun _ => rfl) ⟨⟨dq_t (dqn_74 v) (by decide), rfl⟩, Or.inl rfl⟩ ?_
  refine dp_s1 hF (i := .aload_n 0) rfl (fun _ => rfl) ?_
  refine dp_s1 hF (i := .iload_n 2) rfl (fun _ => rfl) ?_
  refine dq_na hF (at_ := .int) (p := 35) (t := 1) (N := (Int32.toNatClampNeg (dq_h (v 2) (20 : Int32)))) (M' := dq_76 v) rfl (Or.inl ⟨rfl, rfl⟩) (dqs_2 v) rfl (dqn_75 v) rfl rfl ?_
  refine dq_if hF (i := .putfield 46) (c := (dp_t false (dq_76 v) 28 = 10 + 10 ∧ dp_fk 10 6 = 2) ∧ (false = false ∨ dp_K0 ≤ 28)) (cf := (78, [some (.ref 28), some (.ref 1), some (.int (dq_h (v 2) (20 : Int32))), some (.int (dq_h (v 3) (8 : Int32))), some (.int (dq_h (v 4) (400 : Int32)))], [], dq_77 v)) rfl (fun _ => rfl) ⟨⟨dq_t (dqn_76 v) (by decide), rfl⟩, Or.inl rfl⟩ ?_
  refine dp_s1 hF (i := .aload_n 0) rfl (fun _ => rfl) ?_
  refine dp_s1 hF (i := .iload_n 2) rfl (fun _ => rfl) ?_
  refine dp_s1 hF (i := .iload_n 3) rfl (fun _ => rfl) ?_
  refine dp_s1 hF (i := .imul) rfl (fun _ => rfl) ?_
  refine dq_na hF (at_ := .int) (p := 36) (t := 1) (N := (Int32.toNatClampNeg ((dq_h (v 2) (20 : Int32)) * (dq_h (v 3) (8 : Int32))))) (M' := dq_78 v) rfl (Or.inl ⟨rfl, rfl⟩) (dqs_3 v) rfl (dqn_77 v) rfl rfl ?_
  refine dq_if hF (i := .putfield 49) (c := (dp_t false (dq_78 v) 28 = 10 + 10 ∧ dp_fk 10 7 = 2) ∧ (false = false ∨ dp_K0 ≤ 28)) (cf := (87, [some (.ref 28), some (.ref 1), some (.int (dq_h (v 2) (20 : Int32))), some (.int (dq_h (v 3) (8 : Int32))), some (.int (dq_h (v 4) (400 : Int32)))], [], dq_79 v)) rfl (fun _ => rfl) ⟨⟨dq_t (dqn_78 v) (by decide), rfl⟩, Or.inl rfl⟩ ?_
  refine dp_s1 hF (i := .aload_n 0) rfl (fun _ => rfl) ?_
  refine dq_if hF (i := .getfield 11) (c := dp_t false (dq_79 v) 28 = 10 + 10) (cf := (91, [some (.ref 28), some (.ref 1), some (.int (dq_h (v 2) (20 : Int32))), some (.int (dq_h (v 3) (8 : Int32))), some (.int (dq_h (v 4) (400 : Int32)))], [.ref 29], dq_79 v)) rfl (fun _ => rfl) (dq_t (dqn_79 v) (by decide)) ?_
  refine dp_s1 hF (i := .iconst (-1)) rfl (fun _ => rfl) ?_
  refine dq_cv hF (i := .invokestatic 52) (j := 593) rfl rfl (fun _ => rfl) (dq_fill xs xl d (M := dq_79 v) (p := 29) (x := (-1 : Int32)) (N := 100) (dq_t (dqn_79 v) (by decide)) rfl (dqz_1 v)) ?_
  refine dp_s1 hF (i := .aload_n 0) rfl (fun _ => rfl) ?_
  refine dq_if hF (i := .getfield 17) (c := dp_t false (dq_80 v) 28 = 10 + 10) (cf := (99, [some (.ref 28), some (.ref 1), some (.int (dq_h (v 2) (20 : Int32))), some (.int (dq_h (v 3) (8 : Int32))), some (.int (dq_h (v 4) (400 : Int32)))], [.ref 30], dq_80 v)) rfl (fun _ => rfl) (dq_t (dqn_80 v) (by decide)) ?_
  refine dp_s1 hF (i := .iconst (-1)) rfl (fun _ => rfl) ?_
  refine dq_cv hF (i := .invokestatic 52) (j := 593) rfl rfl (fun _ => rfl) (dq_fill xs xl d (M := dq_80 v) (p := 30) (x := (-1 : Int32)) (N := 100) (dq_t (dqn_80 v) (by decide)) rfl (dqz_1 v)) ?_
  exact dp_s0 hF (i := .return_) rfl (fun _ => rfl)
set_option maxRecDepth 100000 in
set_option maxHeartbeats 4000000 in
theorem dqc_X1_init (xs : Nat → Int32) (xl d : Nat) (v : Nat → Int32) : dp_den false xs xl ((d + 1) + 1) 25 [.ref 37, .ref 1, .ref 28] (dq_83 v) = some (.inl none, dq_112 v) := by
  have hF := dp_den_grow (md := false) (xs := xs) (xl := xl) (d + 1)
  show dp_lim false xs xl (dp_den false xs xl (d + 1)) dp_m_X1_init (0, [some (.ref 37), some (.ref 1), some (.ref 28), none], [], dq_83 v) = _
  refine dp_s1 hF (i := .aload_n 0) rfl (fun _ => rfl) ?_
  refine dp_s1 hF (i := .invokespecial 3) rfl (fun _ => rfl) ?_
  refine dp_s1 hF (i := .aload_n 0) rfl (fun _ => rfl) ?_
  refine dp_s1 hF (i := .iconst 4) rfl (fun _ => rfl) ?_
  refine dq_na hF (at_ := .int) (p := 38) (t := 1) (N := 4) (M' := dq_84 v) rfl (Or.inl ⟨rfl, rfl⟩) (by decide) rfl (dqn_83 v) rfl rfl ?_
  refine dq_if hF (i := .putfield 11) (c := (dp_t false (dq_84 v) 37 = 1 + 10 ∧ dp_fk 1 4 = 2) ∧ (false = false ∨ dp_K0 ≤ 37)) (cf := (11, [some (.ref 37), some (.ref 1), some (.ref 28), none], [], dq_85 v)) rfl (fun _ => rfl) ⟨⟨dq_t (dqn_84 v) (by decide), rfl⟩, Or.inl rfl⟩ ?_
  refine dp_s1 hF (i := .aload_n 0) rfl (fun _ => rfl) ?_
  refine dp_s1 hF (i := .iconst 4) rfl (fun _ => rfl) ?_
  refine dq_na hF (at_ := .int) (p := 39) (t := 1) (N := 4) (M' := dq_86 v) rfl (Or.inl ⟨rfl, rfl⟩) (by decide) rfl (dqn_85 v) rfl rfl ?_
  refine dq_if hF (i := .putfield 15) (c := (dp_t false (dq_86 v) 37 = 1 + 10 ∧ dp_fk 1 5 = 2) ∧ (false = false ∨ dp_K0 ≤ 37)) (cf := (18, [some (.ref 37), some (.ref 1), some (.ref 28), none], [], dq_87 v)) rfl (fun _ => rfl) ⟨⟨dq_t (dqn_86 v) (by decide), rfl⟩, Or.inl rfl⟩ ?_
  refine dp_s1 hF (i := .aload_n 0) rfl (fun _ => rfl) ?_
  refine dp_s1 hF (i := .iconst 4) rfl (fun _ => rfl) ?_
  refine dq_na hF (at_ := .int) (p := 40) (t := 1) (N := 4) (M' := dq_88 v) rfl (Or.inl ⟨rfl, rfl⟩) (by decide) rfl (dqn_87 v) rfl rfl ?_
  refine dq_if hF (i := .putfield 18) (c := (dp_t false (dq_88 v) 37 = 1 + 10 ∧ dp_fk 1 6 = 2) ∧ (false = false ∨ dp_K0 ≤ 37)) (cf := (25, [some (.ref 37), some (.ref 1), some (.ref 28), none], [], dq_89 v)) rfl (fun _ => rfl) ⟨⟨dq_t (dqn_88 v) (by decide), rfl⟩, Or.inl rfl⟩ ?_
  refine dp_s1 hF (i := .aload_n 0) rfl (fun _ => rfl) ?_
  refine dp_s1 hF (i := .bipush 100) rfl (fun _ => rfl) ?_
  refine dq_na hF (at_ := .int) (p := 41) (t := 1) (N := 100) (M' := dq_90 v) rfl (Or.inl ⟨rfl, rfl⟩) (by decide) rfl (dqn_89 v) rfl rfl ?_
  refine dq_if hF (i := .putfield 23) (c := (dp_t false (dq_90 v) 37 = 1 + 10 ∧ dp_fk 1 7 = 2) ∧ (false = false ∨ dp_K0 ≤ 37)) (cf := (33, [some (.ref 37), some (.ref 1), some (.ref 28), none], [], dq_91 v)) rfl (fun _ => rfl) ⟨⟨dq_t (dqn_90 v) (by decide), rfl⟩, Or.inl rfl⟩ ?_
  refine dp_s1 hF (i := .aload_n 0) rfl (fun _ => rfl) ?_
  refine dp_s1 hF (i := .bipush 100) rfl (fun _ => rfl) ?_
  refine dq_na hF (at_ := .int) (p := 42) (t := 1) (N := 100) (M' := dq_92 v) rfl (Or.inl ⟨rfl, rfl⟩) (by decide) rfl (dqn_91 v) rfl rfl ?_
  refine dq_if hF (i := .putfield 26) (c := (dp_t false (dq_92 v) 37 = 1 + 10 ∧ dp_fk 1 8 = 2) ∧ (false = false ∨ dp_K0 ≤ 37)) (cf := (41, [some (.ref 37), some (.ref 1), some (.ref 28), none], [], dq_93 v)) rfl (fun _ => rfl) ⟨⟨dq_t (dqn_92 v) (by decide), rfl⟩, Or.inl rfl⟩ ?_
  refine dp_s1 hF (i := .aload_n 0) rfl (fun _ => rfl) ?_
  refine dp_s1 hF (i := .bipush 100) rfl (fun _ => rfl) ?_
  refine dq_na hF (at_ := .int) (p := 43) (t := 1) (N := 100) (M' := dq_94 v) rfl (Or.inl ⟨rfl, rfl⟩) (by decide) rfl (dqn_93 v) rfl rfl ?_
  refine dq_if hF (i := .putfield 29) (c := (dp_t false (dq_94 v) 37 = 1 + 10 ∧ dp_fk 1 9 = 2) ∧ (false = false ∨ dp_K0 ≤ 37)) (cf := (49, [some (.ref 37), some (.ref 1), some (.ref 28), none], [], dq_95 v)) rfl (fun _ => rfl) ⟨⟨dq_t (dqn_94 v) (by decide), rfl⟩, Or.inl rfl⟩ ?_
  refine dp_s1 hF (i := .aload_n 0) rfl (fun _ => rfl) ?_
  refine dp_s1 hF (i := .bipush 100) rfl (fun _ => rfl) ?_
  refine dq_na hF (at_ := .int) (p := 44) (t := 1) (N := 100) (M' := dq_96 v) rfl (Or.inl ⟨rfl, rfl⟩) (by decide) rfl (dqn_95 v) rfl rfl ?_
  refine dq_if hF (i := .putfield 32) (c := (dp_t false (dq_96 v) 37 = 1 + 10 ∧ dp_fk 1 10 = 2) ∧ (false = false ∨ dp_K0 ≤ 37)) (cf := (57, [some (.ref 37), some (.ref 1), some (.ref 28), none], [], dq_97 v)) rfl (fun _ => rfl) ⟨⟨dq_t (dqn_96 v) (by decide), rfl⟩, Or.inl rfl⟩ ?_
  refine dp_s1 hF (i := .aload_n 0) rfl (fun _ => rfl) ?_
  refine dp_s1 hF (i := .bipush 100) rfl (fun _ => rfl) ?_
  refine dq_na hF (at_ := .int) (p := 45) (t := 1) (N := 100) (M' := dq_98 v) rfl (Or.inl ⟨rfl, rfl⟩) (by decide) rfl (dqn_97 v) rfl rfl ?_
  refine dq_if hF (i := .putfield 35) (c := (dp_t false (dq_98 v) 37 = 1 + 10 ∧ dp_fk 1 11 = 2) ∧ (false = false ∨ dp_K0 ≤ 37)) (cf := (65, [some (.ref 37), some (.ref 1), some (.ref 28), none], [], dq_99 v)) rfl (fun _ => rfl) ⟨⟨dq_t (dqn_98 v) (by decide), rfl⟩, Or.inl rfl⟩ ?_
  refine dp_s1 hF (i := .aload_n 0) rfl (fun _ => rfl) ?_
  refine dp_s1 hF (i := .sipush 300) rfl (fun _ => rfl) ?_
  refine dq_na hF (at_ := .int) (p := 46) (t := 1) (N := 300) (M' := dq_100 v) rfl (Or.inl ⟨rfl, rfl⟩) (by decide) rfl (dqn_99 v) rfl rfl ?_
  refine dq_if hF (i := .putfield 38) (c := (dp_t false (dq_100 v) 37 = 1 + 10 ∧ dp_fk 1 12 = 2) ∧ (false = false ∨ dp_K0 ≤ 37)) (cf := (74, [some (.ref 37), some (.ref 1), some (.ref 28), none], [], dq_101 v)) rfl (fun _ => rfl) ⟨⟨dq_t (dqn_100 v) (by decide), rfl⟩, Or.inl rfl⟩ ?_
  refine dp_s1 hF (i := .aload_n 0) rfl (fun _ => rfl) ?_
  refine dp_s1 hF (i := .sipush 300) rfl (fun _ => rfl) ?_
  refine dq_na hF (at_ := .boolean) (p := 47) (t := 3) (N := 300) (M' := dq_102 v) rfl (Or.inr (Or.inr (Or.inl ⟨rfl, rfl⟩))) (by decide) rfl (dqn_101 v) rfl rfl ?_
  refine dq_if hF (i := .putfield 41) (c := (dp_t false (dq_102 v) 37 = 1 + 10 ∧ dp_fk 1 13 = 2) ∧ (false = false ∨ dp_K0 ≤ 37)) (cf := (83, [some (.ref 37), some (.ref 1), some (.ref 28), none], [], dq_103 v)) rfl (fun _ => rfl) ⟨⟨dq_t (dqn_102 v) (by decide), rfl⟩, Or.inl rfl⟩ ?_
  refine dp_s1 hF (i := .aload_n 0) rfl (fun _ => rfl) ?_
  refine dp_s1 hF (i := .sipush 4000) rfl (fun _ => rfl) ?_
  refine dq_na hF (at_ := .int) (p := 48) (t := 1) (N := 4000) (M' := dq_104 v) rfl (Or.inl ⟨rfl, rfl⟩) (by decide) rfl (dqn_103 v) rfl rfl ?_
  refine dq_if hF (i := .putfield 45) (c := (dp_t false (dq_104 v) 37 = 1 + 10 ∧ dp_fk 1 14 = 2) ∧ (false = false ∨ dp_K0 ≤ 37)) (cf := (92, [some (.ref 37), some (.ref 1), some (.ref 28), none], [], dq_105 v)) rfl (fun _ => rfl) ⟨⟨dq_t (dqn_104 v) (by decide), rfl⟩, Or.inl rfl⟩ ?_
  refine dp_s1 hF (i := .aload_n 0) rfl (fun _ => rfl) ?_
  refine dp_s1 hF (i := .sipush 4000) rfl (fun _ => rfl) ?_
  refine dq_na hF (at_ := .int) (p := 49) (t := 1) (N := 4000) (M' := dq_106 v) rfl (Or.inl ⟨rfl, rfl⟩) (by decide) rfl (dqn_105 v) rfl rfl ?_
  refine dq_if hF (i := .putfield 48) (c := (dp_t false (dq_106 v) 37 = 1 + 10 ∧ dp_fk 1 15 = 2) ∧ (false = false ∨ dp_K0 ≤ 37)) (cf := (101, [some (.ref 37), some (.ref 1), some (.ref 28), none], [], dq_107 v)) rfl (fun _ => rfl) ⟨⟨dq_t (dqn_106 v) (by decide), rfl⟩, Or.inl rfl⟩ ?_
  refine dp_s1 hF (i := .aload_n 0) rfl (fun _ => rfl) ?_
  refine dp_s1 hF (i := .bipush 64) rfl (fun _ => rfl) ?_
  refine dq_na hF (at_ := .int) (p := 50) (t := 1) (N := 64) (M' := dq_108 v) rfl (Or.inl ⟨rfl, rfl⟩) (by decide) rfl (dqn_107 v) rfl rfl ?_
  refine dq_if hF (i := .putfield 51) (c := (dp_t false (dq_108 v) 37 = 1 + 10 ∧ dp_fk 1 16 = 2) ∧ (false = false ∨ dp_K0 ≤ 37)) (cf := (109, [some (.ref 37), some (.ref 1), some (.ref 28), none], [], dq_109 v)) rfl (fun _ => rfl) ⟨⟨dq_t (dqn_108 v) (by decide), rfl⟩, Or.inl rfl⟩ ?_
  refine dp_s1 hF (i := .aload_n 0) rfl (fun _ => rfl) ?_
  refine dp_s1 hF (i := .aload_n 1) rfl (fun _ => rfl) ?_
  refine dq_if hF (i := .putfield 54) (c := (dp_t false (dq_109 v) 37 = 1 + 10 ∧ dp_fk 1 0 = 2) ∧ (false = false ∨ dp_K0 ≤ 37)) (cf := (114, [some (.ref 37), some (.ref 1), some (.ref 28), none], [], dq_110 v)) rfl (fun _ => rfl) ⟨⟨dq_t (dqn_109 v) (by decide), rfl⟩, Or.inl rfl⟩ ?_
  refine dp_s1 hF (i := .aload_n 0) rfl (fun _ => rfl) ?_
  refine dp_s1 hF (i := .aload_n 2) rfl (fun _ => rfl) ?_
  refine dq_if hF (i := .putfield 58) (c := (dp_t false (dq_110 v) 37 = 1 + 10 ∧ dp_fk 1 1 = 2) ∧ (false = false ∨ dp_K0 ≤ 37)) (cf := (119, [some (.ref 37), some (.ref 1), some (.ref 28), none], [], dq_111 v)) rfl (fun _ => rfl) ⟨⟨dq_t (dqn_110 v) (by decide), rfl⟩, Or.inl rfl⟩ ?_
  refine dp_s1 hF (i := .iconst 0) rfl (fun _ => rfl) ?_
  refine dp_s1 hF (i := .istore_n 3) rfl (fun _ => rfl) ?_
  exact dq_gate xs xl (d + 1) (dq_111 v) (dq_t (dqn_111 v) (by decide)) (dq_t (dqn_111 v) (by decide)) rfl rfl
set_option maxRecDepth 100000 in
set_option maxHeartbeats 4000000 in
theorem dqc_X9_init (xs : Nat → Int32) (xl d : Nat) (v : Nat → Int32) : dp_den false xs xl ((d + 1) + 1) 208 [.ref 51] (dq_114 v) = some (.inl none, dq_146 v) := by
  have hF := dp_den_grow (md := false) (xs := xs) (xl := xl) (d + 1)
  show dp_lim false xs xl (dp_den false xs xl (d + 1)) dp_m_X9_init (0, [some (.ref 51)], [], dq_114 v) = _
  refine dp_s1 hF (i := .aload_n 0) rfl (fun _ => rfl) ?_
  refine dp_s1 hF (i := .invokespecial 3) rfl (fun _ => rfl) ?_
  refine dp_s1 hF (i := .aload_n 0) rfl (fun _ => rfl) ?_
  refine dp_s1 hF (i := .sipush 301) rfl (fun _ => rfl) ?_
  refine dq_na hF (at_ := .int) (p := 52) (t := 1) (N := 301) (M' := dq_115 v) rfl (Or.inl ⟨rfl, rfl⟩) (by decide) rfl (dqn_114 v) rfl rfl ?_
  refine dq_if hF (i := .putfield 11) (c := (dp_t false (dq_115 v) 51 = 9 + 10 ∧ dp_fk 9 4 = 2) ∧ (false = false ∨ dp_K0 ≤ 51)) (cf := (13, [some (.ref 51)], [], dq_116 v)) rfl (fun _ => rfl) ⟨⟨dq_t (dqn_115 v) (by decide), rfl⟩, Or.inl rfl⟩ ?_
  refine dp_s1 hF (i := .aload_n 0) rfl (fun _ => rfl) ?_
  refine dp_s1 hF (i := .sipush 301) rfl (fun _ => rfl) ?_
  refine dq_na hF (at_ := .int) (p := 53) (t := 1) (N := 301) (M' := dq_117 v) rfl (Or.inl ⟨rfl, rfl⟩) (by decide) rfl (dqn_116 v) rfl rfl ?_
  refine dq_if hF (i := .putfield 15) (c := (dp_t false (dq_117 v) 51 = 9 + 10 ∧ dp_fk 9 5 = 2) ∧ (false = false ∨ dp_K0 ≤ 51)) (cf := (22, [some (.ref 51)], [], dq_118 v)) rfl (fun _ => rfl) ⟨⟨dq_t (dqn_117 v) (by decide), rfl⟩, Or.inl rfl⟩ ?_
  refine dp_s1 hF (i := .aload_n 0) rfl (fun _ => rfl) ?_
  refine dp_s1 hF (i := .sipush 301) rfl (fun _ => rfl) ?_
  refine dq_na hF (at_ := .int) (p := 54) (t := 1) (N := 301) (M' := dq_119 v) rfl (Or.inl ⟨rfl, rfl⟩) (by decide) rfl (dqn_118 v) rfl rfl ?_
  refine dq_if hF (i := .putfield 18) (c := (dp_t false (dq_119 v) 51 = 9 + 10 ∧ dp_fk 9 6 = 2) ∧ (false = false ∨ dp_K0 ≤ 51)) (cf := (31, [some (.ref 51)], [], dq_120 v)) rfl (fun _ => rfl) ⟨⟨dq_t (dqn_119 v) (by decide), rfl⟩, Or.inl rfl⟩ ?_
  refine dp_s1 hF (i := .aload_n 0) rfl (fun _ => rfl) ?_
  refine dp_s1 hF (i := .sipush 301) rfl (fun _ => rfl) ?_
  refine dq_na hF (at_ := .int) (p := 55) (t := 1) (N := 301) (M' := dq_121 v) rfl (Or.inl ⟨rfl, rfl⟩) (by decide) rfl (dqn_120 v) rfl rfl ?_
  refine dq_if hF (i := .putfield 21) (c := (dp_t false (dq_121 v) 51 = 9 + 10 ∧ dp_fk 9 7 = 2) ∧ (false = false ∨ dp_K0 ≤ 51)) (cf := (40, [some (.ref 51)], [], dq_122 v)) rfl (fun _ => rfl) ⟨⟨dq_t (dqn_121 v) (by decide), rfl⟩, Or.inl rfl⟩ ?_
  refine dp_s1 hF (i := .aload_n 0) rfl (fun _ => rfl) ?_
  refine dp_s1 hF (i := .sipush 301) rfl (fun _ => rfl) ?_
  refine dq_na hF (at_ := .int) (p := 56) (t := 1) (N := 301) (M' := dq_123 v) rfl (Or.inl ⟨rfl, rfl⟩) (by decide) rfl (dqn_122 v) rfl rfl ?_
  refine dq_if hF (i := .putfield 24) (c := (dp_t false (dq_123 v) 51 = 9 + 10 ∧ dp_fk 9 8 = 2) ∧ (false = false ∨ dp_K0 ≤ 51)) (cf := (49, [some (.ref 51)], [], dq_124 v)) rfl (fun _ => rfl) ⟨⟨dq_t (dqn_123 v) (by decide), rfl⟩, Or.inl rfl⟩ ?_
  refine dp_s1 hF (i := .aload_n 0) rfl (fun _ => rfl) ?_
  refine dp_s1 hF (i := .sipush 300) rfl (fun _ => rfl) ?_
  refine dq_na hF (at_ := .int) (p := 57) (t := 1) (N := 300) (M' := dq_125 v) rfl (Or.inl ⟨rfl, rfl⟩) (by decide) rfl (dqn_124 v) rfl rfl ?_
  refine dq_if hF (i := .putfield 27) (c := (dp_t false (dq_125 v) 51 = 9 + 10 ∧ dp_fk 9 9 = 2) ∧ (false = false ∨ dp_K0 ≤ 51)) (cf := (58, [some (.ref 51)], [], dq_126 v)) rfl (fun _ => rfl) ⟨⟨dq_t (dqn_125 v) (by decide), rfl⟩, Or.inl rfl⟩ ?_
  refine dp_s1 hF (i := .aload_n 0) rfl (fun _ => rfl) ?_
  refine dp_s1 hF (i := .sipush 300) rfl (fun _ => rfl) ?_
  refine dq_na hF (at_ := .int) (p := 58) (t := 1) (N := 300) (M' := dq_127 v) rfl (Or.inl ⟨rfl, rfl⟩) (by decide) rfl (dqn_126 v) rfl rfl ?_
  refine dq_if hF (i := .putfield 30) (c := (dp_t false (dq_127 v) 51 = 9 + 10 ∧ dp_fk 9 10 = 2) ∧ (false = false ∨ dp_K0 ≤ 51)) (cf := (67, [some (.ref 51)], [], dq_128 v)) rfl (fun _ => rfl) ⟨⟨dq_t (dqn_127 v) (by decide), rfl⟩, Or.inl rfl⟩ ?_
  refine dp_s1 hF (i := .aload_n 0) rfl (fun _ => rfl) ?_
  refine dp_s1 hF (i := .sipush 301) rfl (fun _ => rfl) ?_
  refine dq_nr hF (ix := 33) (p := 59) (N := 301) (M' := dq_129 v) rfl rfl (by decide) rfl (dqn_128 v) rfl rfl ?_
  refine dq_if hF (i := .putfield 35) (c := (dp_t false (dq_129 v) 51 = 9 + 10 ∧ dp_fk 9 11 = 2) ∧ (false = false ∨ dp_K0 ≤ 51)) (cf := (77, [some (.ref 51)], [], dq_130 v)) rfl (fun _ => rfl) ⟨⟨dq_t (dqn_129 v) (by decide), rfl⟩, Or.inl rfl⟩ ?_
  refine dp_s1 hF (i := .aload_n 0) rfl (fun _ => rfl) ?_
  refine dp_s1 hF (i := .sipush 301) rfl (fun _ => rfl) ?_
  refine dq_na hF (at_ := .int) (p := 60) (t := 1) (N := 301) (M' := dq_131 v) rfl (Or.inl ⟨rfl, rfl⟩) (by decide) rfl (dqn_130 v) rfl rfl ?_
  refine dq_if hF (i := .putfield 39) (c := (dp_t false (dq_131 v) 51 = 9 + 10 ∧ dp_fk 9 12 = 2) ∧ (false = false ∨ dp_K0 ≤ 51)) (cf := (86, [some (.ref 51)], [], dq_132 v)) rfl (fun _ => rfl) ⟨⟨dq_t (dqn_131 v) (by decide), rfl⟩, Or.inl rfl⟩ ?_
  refine dp_s1 hF (i := .aload_n 0) rfl (fun _ => rfl) ?_
  refine dp_s1 hF (i := .sipush 301) rfl (fun _ => rfl) ?_
  refine dq_na hF (at_ := .int) (p := 61) (t := 1) (N := 301) (M' := dq_133 v) rfl (Or.inl ⟨rfl, rfl⟩) (by decide) rfl (dqn_132 v) rfl rfl ?_
  refine dq_if hF (i := .putfield 42) (c := (dp_t false (dq_133 v) 51 = 9 + 10 ∧ dp_fk 9 13 = 2) ∧ (false = false ∨ dp_K0 ≤ 51)) (cf := (95, [some (.ref 51)], [], dq_134 v)) rfl (fun _ => rfl) ⟨⟨dq_t (dqn_133 v) (by decide), rfl⟩, Or.inl rfl⟩ ?_
  refine dp_s1 hF (i := .aload_n 0) rfl (fun _ => rfl) ?_
  refine dp_s1 hF (i := .sipush 301) rfl (fun _ => rfl) ?_
  refine dq_na hF (at_ := .int) (p := 62) (t := 1) (N := 301) (M' := dq_135 v) rfl (Or.inl ⟨rfl, rfl⟩) (by decide) rfl (dqn_134 v) rfl rfl ?_
  refine dq_if hF (i := .putfield 45) (c := (dp_t false (dq_135 v) 51 = 9 + 10 ∧ dp_fk 9 14 = 2) ∧ (false = false ∨ dp_K0 ≤ 51)) (cf := (104, [some (.ref 51)], [], dq_136 v)) rfl (fun _ => rfl) ⟨⟨dq_t (dqn_135 v) (by decide), rfl⟩, Or.inl rfl⟩ ?_
  refine dp_s1 hF (i := .aload_n 0) rfl (fun _ => rfl) ?_
  refine dp_s1 hF (i := .sipush 2408) rfl (fun _ => rfl) ?_
  refine dq_na hF (at_ := .int) (p := 63) (t := 1) (N := 2408) (M' := dq_137 v) rfl (Or.inl ⟨rfl, rfl⟩) (by decide) rfl (dqn_136 v) rfl rfl ?_
  refine dq_if hF (i := .putfield 48) (c := (dp_t false (dq_137 v) 51 = 9 + 10 ∧ dp_fk 9 15 = 2) ∧ (false = false ∨ dp_K0 ≤ 51)) (cf := (113, [some (.ref 51)], [], dq_138 v)) rfl (fun _ => rfl) ⟨⟨dq_t (dqn_137 v) (by decide), rfl⟩, Or.inl rfl⟩ ?_
  refine dp_s1 hF (i := .aload_n 0) rfl (fun _ => rfl) ?_
  refine dp_s1 hF (i := .sipush 2408) rfl (fun _ => rfl) ?_
  refine dq_na hF (at_ := .int) (p := 64) (t := 1) (N := 2408) (M' := dq_139 v) rfl (Or.inl ⟨rfl, rfl⟩) (by decide) rfl (dqn_138 v) rfl rfl ?_
  refine dq_if hF (i := .putfield 51) (c := (dp_t false (dq_139 v) 51 = 9 + 10 ∧ dp_fk 9 16 = 2) ∧ (false = false ∨ dp_K0 ≤ 51)) (cf := (122, [some (.ref 51)], [], dq_140 v)) rfl (fun _ => rfl) ⟨⟨dq_t (dqn_139 v) (by decide), rfl⟩, Or.inl rfl⟩ ?_
  refine dp_s1 hF (i := .aload_n 0) rfl (fun _ => rfl) ?_
  refine dp_s1 hF (i := .bipush 24) rfl (fun _ => rfl) ?_
  refine dq_na hF (at_ := .int) (p := 65) (t := 1) (N := 24) (M' := dq_141 v) rfl (Or.inl ⟨rfl, rfl⟩) (by decide) rfl (dqn_140 v) rfl rfl ?_
  refine dq_if hF (i := .putfield 54) (c := (dp_t false (dq_141 v) 51 = 9 + 10 ∧ dp_fk 9 17 = 2) ∧ (false = false ∨ dp_K0 ≤ 51)) (cf := (130, [some (.ref 51)], [], dq_142 v)) rfl (fun _ => rfl) ⟨⟨dq_t (dqn_141 v) (by decide), rfl⟩, Or.inl rfl⟩ ?_
  refine dp_s1 hF (i := .aload_n 0) rfl (fun _ => rfl) ?_
  refine dp_s1 hF (i := .bipush 8) rfl (fun _ => rfl) ?_
  refine dq_na hF (at_ := .int) (p := 66) (t := 1) (N := 8) (M' := dq_143 v) rfl (Or.inl ⟨rfl, rfl⟩) (by decide) rfl (dqn_142 v) rfl rfl ?_
  refine dq_if hF (i := .putfield 57) (c := (dp_t false (dq_143 v) 51 = 9 + 10 ∧ dp_fk 9 18 = 2) ∧ (false = false ∨ dp_K0 ≤ 51)) (cf := (138, [some (.ref 51)], [], dq_144 v)) rfl (fun _ => rfl) ⟨⟨dq_t (dqn_143 v) (by decide), rfl⟩, Or.inl rfl⟩ ?_
  refine dp_s1 hF (i := .aload_n 0) rfl (fun _ => rfl) ?_
  refine dp_s1 hF (i := .sipush 301) rfl (fun _ => rfl) ?_
  refine dq_na hF (at_ := .boolean) (p := 67) (t := 3) (N := 301) (M' := dq_145 v) rfl (Or.inr (Or.inr (Or.inl ⟨rfl, rfl⟩))) (by decide) rfl (dqn_144 v) rfl rfl ?_
  refine dq_if hF (i := .putfield 60) (c := (dp_t false (dq_145 v) 51 = 9 + 10 ∧ dp_fk 9 19 = 2) ∧ (false = false ∨ dp_K0 ≤ 51)) (cf := (147, [some (.ref 51)], [], dq_146 v)) rfl (fun _ => rfl) ⟨⟨dq_t (dqn_145 v) (by decide), rfl⟩, Or.inl rfl⟩ ?_
  exact dp_s0 hF (i := .return_) rfl (fun _ => rfl)
set_option maxRecDepth 100000 in
set_option maxHeartbeats 4000000 in
theorem dqc_X7_init (xs : Nat → Int32) (xl d : Nat) (v : Nat → Int32) : dp_den false xs xl ((d + 1) + 1) 142 [.ref 68] (dq_148 v) = some (.inl none, dq_161 v) := by
  have hF := dp_den_grow (md := false) (xs := xs) (xl := xl) (d + 1)
  show dp_lim false xs xl (dp_den false xs xl (d + 1)) dp_m_X7_init (0, [some (.ref 68)], [], dq_148 v) = _
  refine dp_s1 hF (i := .aload_n 0) rfl (fun _ => rfl) ?_
  refine dp_s1 hF (i := .invokespecial 5) rfl (fun _ => rfl) ?_
  refine dp_s1 hF (i := .aload_n 0) rfl (fun _ => rfl) ?_
  refine dp_s1 hF (i := .iconst (-1)) rfl (fun _ => rfl) ?_
  refine dq_if hF (i := .putfield 11) (c := dp_t false (dq_148 v) 68 = 7 + 10 ∧ dp_fk 7 2 = 0) (cf := (9, [some (.ref 68)], [], dq_149 v)) rfl (fun _ => rfl) ⟨dq_t (dqn_148 v) (by decide), rfl⟩ ?_
  refine dp_s1 hF (i := .aload_n 0) rfl (fun _ => rfl) ?_
  refine dp_s1 hF (i := .sipush 1024) rfl (fun _ => rfl) ?_
  refine dq_na hF (at_ := .char) (p := 69) (t := 4) (N := 1024) (M' := dq_150 v) rfl (Or.inr (Or.inr (Or.inr ⟨rfl, rfl⟩))) (by decide) rfl (dqn_149 v) rfl rfl ?_
  refine dq_if hF (i := .putfield 15) (c := (dp_t false (dq_150 v) 68 = 7 + 10 ∧ dp_fk 7 3 = 2) ∧ (false = false ∨ dp_K0 ≤ 68)) (cf := (18, [some (.ref 68)], [], dq_151 v)) rfl (fun _ => rfl) ⟨⟨dq_t (dqn_150 v) (by decide), rfl⟩, Or.inl rfl⟩ ?_
  refine dp_s1 hF (i := .aload_n 0) rfl (fun _ => rfl) ?_
  refine dp_s1 hF (i := .sipush 400) rfl (fun _ => rfl) ?_
  refine dq_na hF (at_ := .char) (p := 70) (t := 4) (N := 400) (M' := dq_152 v) rfl (Or.inr (Or.inr (Or.inr ⟨rfl, rfl⟩))) (by decide) rfl (dqn_151 v) rfl rfl ?_
  refine dq_if hF (i := .putfield 19) (c := (dp_t false (dq_152 v) 68 = 7 + 10 ∧ dp_fk 7 4 = 2) ∧ (false = false ∨ dp_K0 ≤ 68)) (cf := (27, [some (.ref 68)], [], dq_153 v)) rfl (fun _ => rfl) ⟨⟨dq_t (dqn_152 v) (by decide), rfl⟩, Or.inl rfl⟩ ?_
  refine dp_s1 hF (i := .aload_n 0) rfl (fun _ => rfl) ?_
  refine dp_s1 hF (i := .sipush 420) rfl (fun _ => rfl) ?_
  refine dq_na hF (at_ := .int) (p := 71) (t := 1) (N := 420) (M' := dq_154 v) rfl (Or.inl ⟨rfl, rfl⟩) (by decide) rfl (dqn_153 v) rfl rfl ?_
  refine dq_if hF (i := .putfield 24) (c := (dp_t false (dq_154 v) 68 = 7 + 10 ∧ dp_fk 7 5 = 2) ∧ (false = false ∨ dp_K0 ≤ 68)) (cf := (36, [some (.ref 68)], [], dq_155 v)) rfl (fun _ => rfl) ⟨⟨dq_t (dqn_154 v) (by decide), rfl⟩, Or.inl rfl⟩ ?_
  refine dp_s1 hF (i := .aload_n 0) rfl (fun _ => rfl) ?_
  refine dp_s1 hF (i := .sipush 400) rfl (fun _ => rfl) ?_
  refine dq_na hF (at_ := .int) (p := 72) (t := 1) (N := 400) (M' := dq_156 v) rfl (Or.inl ⟨rfl, rfl⟩) (by decide) rfl (dqn_155 v) rfl rfl ?_
  refine dq_if hF (i := .putfield 28) (c := (dp_t false (dq_156 v) 68 = 7 + 10 ∧ dp_fk 7 6 = 2) ∧ (false = false ∨ dp_K0 ≤ 68)) (cf := (45, [some (.ref 68)], [], dq_157 v)) rfl (fun _ => rfl) ⟨⟨dq_t (dqn_156 v) (by decide), rfl⟩, Or.inl rfl⟩ ?_
  refine dp_s1 hF (i := .aload_n 0) rfl (fun _ => rfl) ?_
  refine dp_s1 hF (i := .bipush 60) rfl (fun _ => rfl) ?_
  refine dq_na hF (at_ := .int) (p := 73) (t := 1) (N := 60) (M' := dq_158 v) rfl (Or.inl ⟨rfl, rfl⟩) (by decide) rfl (dqn_157 v) rfl rfl ?_
  refine dq_if hF (i := .putfield 31) (c := (dp_t false (dq_158 v) 68 = 7 + 10 ∧ dp_fk 7 7 = 2) ∧ (false = false ∨ dp_K0 ≤ 68)) (cf := (53, [some (.ref 68)], [], dq_159 v)) rfl (fun _ => rfl) ⟨⟨dq_t (dqn_158 v) (by decide), rfl⟩, Or.inl rfl⟩ ?_
  refine dp_s1 hF (i := .aload_n 0) rfl (fun _ => rfl) ?_
  refine dp_s1 hF (i := .sipush 840) rfl (fun _ => rfl) ?_
  refine dq_na hF (at_ := .int) (p := 74) (t := 1) (N := 840) (M' := dq_160 v) rfl (Or.inl ⟨rfl, rfl⟩) (by decide) rfl (dqn_159 v) rfl rfl ?_
  refine dq_if hF (i := .putfield 34) (c := (dp_t false (dq_160 v) 68 = 7 + 10 ∧ dp_fk 7 8 = 2) ∧ (false = false ∨ dp_K0 ≤ 68)) (cf := (62, [some (.ref 68)], [], dq_161 v)) rfl (fun _ => rfl) ⟨⟨dq_t (dqn_160 v) (by decide), rfl⟩, Or.inl rfl⟩ ?_
  exact dp_s0 hF (i := .return_) rfl (fun _ => rfl)
set_option maxRecDepth 100000 in
set_option maxHeartbeats 4000000 in
theorem dqc_X5_init (xs : Nat → Int32) (xl d : Nat) (v : Nat → Int32) : dp_den false xs xl ((d + 1) + 1) 115 [.ref 75] (dq_163 v) = some (.inl none, dq_191 v) := by
  have hF := dp_den_grow (md := false) (xs := xs) (xl := xl) (d + 1)
  show dp_lim false xs xl (dp_den false xs xl (d + 1)) dp_m_X5_init (0, [some (.ref 75)], [], dq_163 v) = _
  refine dp_s1 hF (i := .aload_n 0) rfl (fun _ => rfl) ?_
  refine dp_s1 hF (i := .invokespecial 5) rfl (fun _ => rfl) ?_
  refine dp_s1 hF (i := .aload_n 0) rfl (fun _ => rfl) ?_
  refine dp_s1 hF (i := .bipush 16) rfl (fun _ => rfl) ?_
  refine dq_na hF (at_ := .long) (p := 76) (t := 2) (N := 16) (M' := dq_164 v) rfl (Or.inr (Or.inl ⟨rfl, rfl⟩)) (by decide) rfl (dqn_163 v) rfl rfl ?_
  refine dq_if hF (i := .putfield 11) (c := (dp_t false (dq_164 v) 75 = 5 + 10 ∧ dp_fk 5 2 = 2) ∧ (false = false ∨ dp_K0 ≤ 75)) (cf := (12, [some (.ref 75)], [], dq_165 v)) rfl (fun _ => rfl) ⟨⟨dq_t (dqn_164 v) (by decide), rfl⟩, Or.inl rfl⟩ ?_
  refine dp_s1 hF (i := .aload_n 0) rfl (fun _ => rfl) ?_
  refine dp_s1 hF (i := .bipush 16) rfl (fun _ => rfl) ?_
  refine dq_na hF (at_ := .int) (p := 77) (t := 1) (N := 16) (M' := dq_166 v) rfl (Or.inl ⟨rfl, rfl⟩) (by decide) rfl (dqn_165 v) rfl rfl ?_
  refine dq_if hF (i := .putfield 15) (c := (dp_t false (dq_166 v) 75 = 5 + 10 ∧ dp_fk 5 3 = 2) ∧ (false = false ∨ dp_K0 ≤ 75)) (cf := (20, [some (.ref 75)], [], dq_167 v)) rfl (fun _ => rfl) ⟨⟨dq_t (dqn_166 v) (by decide), rfl⟩, Or.inl rfl⟩ ?_
  refine dp_s1 hF (i := .aload_n 0) rfl (fun _ => rfl) ?_
  refine dp_s1 hF (i := .bipush 16) rfl (fun _ => rfl) ?_
  refine dq_na hF (at_ := .int) (p := 78) (t := 1) (N := 16) (M' := dq_168 v) rfl (Or.inl ⟨rfl, rfl⟩) (by decide) rfl (dqn_167 v) rfl rfl ?_
  refine dq_if hF (i := .putfield 19) (c := (dp_t false (dq_168 v) 75 = 5 + 10 ∧ dp_fk 5 4 = 2) ∧ (false = false ∨ dp_K0 ≤ 75)) (cf := (28, [some (.ref 75)], [], dq_169 v)) rfl (fun _ => rfl) ⟨⟨dq_t (dqn_168 v) (by decide), rfl⟩, Or.inl rfl⟩ ?_
  refine dp_s1 hF (i := .aload_n 0) rfl (fun _ => rfl) ?_
  refine dp_s1 hF (i := .bipush 16) rfl (fun _ => rfl) ?_
  refine dq_na hF (at_ := .int) (p := 79) (t := 1) (N := 16) (M' := dq_170 v) rfl (Or.inl ⟨rfl, rfl⟩) (by decide) rfl (dqn_169 v) rfl rfl ?_
  refine dq_if hF (i := .putfield 22) (c := (dp_t false (dq_170 v) 75 = 5 + 10 ∧ dp_fk 5 5 = 2) ∧ (false = false ∨ dp_K0 ≤ 75)) (cf := (36, [some (.ref 75)], [], dq_171 v)) rfl (fun _ => rfl) ⟨⟨dq_t (dqn_170 v) (by decide), rfl⟩, Or.inl rfl⟩ ?_
  refine dp_s1 hF (i := .aload_n 0) rfl (fun _ => rfl) ?_
  refine dp_s1 hF (i := .sipush 6416) rfl (fun _ => rfl) ?_
  refine dq_na hF (at_ := .boolean) (p := 80) (t := 3) (N := 6416) (M' := dq_172 v) rfl (Or.inr (Or.inr (Or.inl ⟨rfl, rfl⟩))) (by decide) rfl (dqn_171 v) rfl rfl ?_
  refine dq_if hF (i := .putfield 25) (c := (dp_t false (dq_172 v) 75 = 5 + 10 ∧ dp_fk 5 6 = 2) ∧ (false = false ∨ dp_K0 ≤ 75)) (cf := (45, [some (.ref 75)], [], dq_173 v)) rfl (fun _ => rfl) ⟨⟨dq_t (dqn_172 v) (by decide), rfl⟩, Or.inl rfl⟩ ?_
  refine dp_s1 hF (i := .aload_n 0) rfl (fun _ => rfl) ?_
  refine dp_s1 hF (i := .sipush 6416) rfl (fun _ => rfl) ?_
  refine dq_na hF (at_ := .long) (p := 81) (t := 2) (N := 6416) (M' := dq_174 v) rfl (Or.inr (Or.inl ⟨rfl, rfl⟩)) (by decide) rfl (dqn_173 v) rfl rfl ?_
  refine dq_if hF (i := .putfield 29) (c := (dp_t false (dq_174 v) 75 = 5 + 10 ∧ dp_fk 5 7 = 2) ∧ (false = false ∨ dp_K0 ≤ 75)) (cf := (54, [some (.ref 75)], [], dq_175 v)) rfl (fun _ => rfl) ⟨⟨dq_t (dqn_174 v) (by decide), rfl⟩, Or.inl rfl⟩ ?_
  refine dp_s1 hF (i := .aload_n 0) rfl (fun _ => rfl) ?_
  refine dp_s1 hF (i := .sipush 400) rfl (fun _ => rfl) ?_
  refine dq_na hF (at_ := .int) (p := 82) (t := 1) (N := 400) (M' := dq_176 v) rfl (Or.inl ⟨rfl, rfl⟩) (by decide) rfl (dqn_175 v) rfl rfl ?_
  refine dq_if hF (i := .putfield 34) (c := (dp_t false (dq_176 v) 75 = 5 + 10 ∧ dp_fk 5 8 = 2) ∧ (false = false ∨ dp_K0 ≤ 75)) (cf := (63, [some (.ref 75)], [], dq_177 v)) rfl (fun _ => rfl) ⟨⟨dq_t (dqn_176 v) (by decide), rfl⟩, Or.inl rfl⟩ ?_
  refine dp_s1 hF (i := .aload_n 0) rfl (fun _ => rfl) ?_
  refine dp_s1 hF (i := .sipush 400) rfl (fun _ => rfl) ?_
  refine dq_na hF (at_ := .int) (p := 83) (t := 1) (N := 400) (M' := dq_178 v) rfl (Or.inl ⟨rfl, rfl⟩) (by decide) rfl (dqn_177 v) rfl rfl ?_
  refine dq_if hF (i := .putfield 37) (c := (dp_t false (dq_178 v) 75 = 5 + 10 ∧ dp_fk 5 9 = 2) ∧ (false = false ∨ dp_K0 ≤ 75)) (cf := (72, [some (.ref 75)], [], dq_179 v)) rfl (fun _ => rfl) ⟨⟨dq_t (dqn_178 v) (by decide), rfl⟩, Or.inl rfl⟩ ?_
  refine dp_s1 hF (i := .aload_n 0) rfl (fun _ => rfl) ?_
  refine dp_s1 hF (i := .sipush 400) rfl (fun _ => rfl) ?_
  refine dq_na hF (at_ := .int) (p := 84) (t := 1) (N := 400) (M' := dq_180 v) rfl (Or.inl ⟨rfl, rfl⟩) (by decide) rfl (dqn_179 v) rfl rfl ?_
  refine dq_if hF (i := .putfield 40) (c := (dp_t false (dq_180 v) 75 = 5 + 10 ∧ dp_fk 5 10 = 2) ∧ (false = false ∨ dp_K0 ≤ 75)) (cf := (81, [some (.ref 75)], [], dq_181 v)) rfl (fun _ => rfl) ⟨⟨dq_t (dqn_180 v) (by decide), rfl⟩, Or.inl rfl⟩ ?_
  refine dp_s1 hF (i := .aload_n 0) rfl (fun _ => rfl) ?_
  refine dp_s1 hF (i := .sipush 400) rfl (fun _ => rfl) ?_
  refine dq_na hF (at_ := .long) (p := 85) (t := 2) (N := 400) (M' := dq_182 v) rfl (Or.inr (Or.inl ⟨rfl, rfl⟩)) (by decide) rfl (dqn_181 v) rfl rfl ?_
  refine dq_if hF (i := .putfield 43) (c := (dp_t false (dq_182 v) 75 = 5 + 10 ∧ dp_fk 5 11 = 2) ∧ (false = false ∨ dp_K0 ≤ 75)) (cf := (90, [some (.ref 75)], [], dq_183 v)) rfl (fun _ => rfl) ⟨⟨dq_t (dqn_182 v) (by decide), rfl⟩, Or.inl rfl⟩ ?_
  refine dp_s1 hF (i := .aload_n 0) rfl (fun _ => rfl) ?_
  refine dp_s1 hF (i := .sipush 400) rfl (fun _ => rfl) ?_
  refine dq_na hF (at_ := .long) (p := 86) (t := 2) (N := 400) (M' := dq_184 v) rfl (Or.inr (Or.inl ⟨rfl, rfl⟩)) (by decide) rfl (dqn_183 v) rfl rfl ?_
  refine dq_if hF (i := .putfield 46) (c := (dp_t false (dq_184 v) 75 = 5 + 10 ∧ dp_fk 5 12 = 2) ∧ (false = false ∨ dp_K0 ≤ 75)) (cf := (99, [some (.ref 75)], [], dq_185 v)) rfl (fun _ => rfl) ⟨⟨dq_t (dqn_184 v) (by decide), rfl⟩, Or.inl rfl⟩ ?_
  refine dp_s1 hF (i := .aload_n 0) rfl (fun _ => rfl) ?_
  refine dp_s1 hF (i := .sipush 400) rfl (fun _ => rfl) ?_
  refine dq_na hF (at_ := .int) (p := 87) (t := 1) (N := 400) (M' := dq_186 v) rfl (Or.inl ⟨rfl, rfl⟩) (by decide) rfl (dqn_185 v) rfl rfl ?_
  refine dq_if hF (i := .putfield 49) (c := (dp_t false (dq_186 v) 75 = 5 + 10 ∧ dp_fk 5 13 = 2) ∧ (false = false ∨ dp_K0 ≤ 75)) (cf := (108, [some (.ref 75)], [], dq_187 v)) rfl (fun _ => rfl) ⟨⟨dq_t (dqn_186 v) (by decide), rfl⟩, Or.inl rfl⟩ ?_
  refine dp_s1 hF (i := .aload_n 0) rfl (fun _ => rfl) ?_
  refine dp_s1 hF (i := .sipush 400) rfl (fun _ => rfl) ?_
  refine dq_na hF (at_ := .long) (p := 88) (t := 2) (N := 400) (M' := dq_188 v) rfl (Or.inr (Or.inl ⟨rfl, rfl⟩)) (by decide) rfl (dqn_187 v) rfl rfl ?_
  refine dq_if hF (i := .putfield 52) (c := (dp_t false (dq_188 v) 75 = 5 + 10 ∧ dp_fk 5 14 = 2) ∧ (false = false ∨ dp_K0 ≤ 75)) (cf := (117, [some (.ref 75)], [], dq_189 v)) rfl (fun _ => rfl) ⟨⟨dq_t (dqn_188 v) (by decide), rfl⟩, Or.inl rfl⟩ ?_
  refine dp_s1 hF (i := .aload_n 0) rfl (fun _ => rfl) ?_
  refine dp_s1 hF (i := .sipush 400) rfl (fun _ => rfl) ?_
  refine dq_na hF (at_ := .int) (p := 89) (t := 1) (N := 400) (M' := dq_190 v) rfl (Or.inl ⟨rfl, rfl⟩) (by decide) rfl (dqn_189 v) rfl rfl ?_
  refine dq_if hF (i := .putfield 55) (c := (dp_t false (dq_190 v) 75 = 5 + 10 ∧ dp_fk 5 15 = 2) ∧ (false = false ∨ dp_K0 ≤ 75)) (cf := (126, [some (.ref 75)], [], dq_191 v)) rfl (fun _ => rfl) ⟨⟨dq_t (dqn_190 v) (by decide), rfl⟩, Or.inl rfl⟩ ?_
  exact dp_s0 hF (i := .return_) rfl (fun _ => rfl)
set_option maxRecDepth 100000 in
set_option maxHeartbeats 4000000 in
theorem dqc_X8_init (xs : Nat → Int32) (xl d : Nat) (v : Nat → Int32) : dp_den false xs xl ((d + 1) + 1) 182 [.ref 90] (dq_193 v) = some (.inl none, dq_205 v) := by
  have hF := dp_den_grow (md := false) (xs := xs) (xl := xl) (d + 1)
  show dp_lim false xs xl (dp_den false xs xl (d + 1)) dp_m_X8_init (0, [some (.ref 90)], [], dq_193 v) = _
  refine dp_s1 hF (i := .aload_n 0) rfl (fun _ => rfl) ?_
  refine dp_s1 hF (i := .invokespecial 3) rfl (fun _ => rfl) ?_
  refine dp_s1 hF (i := .aload_n 0) rfl (fun _ => rfl) ?_
  refine dp_s1 hF (i := .bipush 8) rfl (fun _ => rfl) ?_
  refine dq_na hF (at_ := .int) (p := 91) (t := 1) (N := 8) (M' := dq_194 v) rfl (Or.inl ⟨rfl, rfl⟩) (by decide) rfl (dqn_193 v) rfl rfl ?_
  refine dq_if hF (i := .putfield 11) (c := (dp_t false (dq_194 v) 90 = 8 + 10 ∧ dp_fk 8 4 = 2) ∧ (false = false ∨ dp_K0 ≤ 90)) (cf := (12, [some (.ref 90)], [], dq_195 v)) rfl (fun _ => rfl) ⟨⟨dq_t (dqn_194 v) (by decide), rfl⟩, Or.inl rfl⟩ ?_
  refine dp_s1 hF (i := .aload_n 0) rfl (fun _ => rfl) ?_
  refine dp_s1 hF (i := .iconst 4) rfl (fun _ => rfl) ?_
  refine dq_na hF (at_ := .boolean) (p := 92) (t := 3) (N := 4) (M' := dq_196 v) rfl (Or.inr (Or.inr (Or.inl ⟨rfl, rfl⟩))) (by decide) rfl (dqn_195 v) rfl rfl ?_
  refine dq_if hF (i := .putfield 15) (c := (dp_t false (dq_196 v) 90 = 8 + 10 ∧ dp_fk 8 5 = 2) ∧ (false = false ∨ dp_K0 ≤ 90)) (cf := (19, [some (.ref 90)], [], dq_197 v)) rfl (fun _ => rfl) ⟨⟨dq_t (dqn_196 v) (by decide), rfl⟩, Or.inl rfl⟩ ?_
  refine dp_s1 hF (i := .aload_n 0) rfl (fun _ => rfl) ?_
  refine dp_s1 hF (i := .iconst 4) rfl (fun _ => rfl) ?_
  refine dq_na hF (at_ := .int) (p := 93) (t := 1) (N := 4) (M' := dq_198 v) rfl (Or.inl ⟨rfl, rfl⟩) (by decide) rfl (dqn_197 v) rfl rfl ?_
  refine dq_if hF (i := .putfield 19) (c := (dp_t false (dq_198 v) 90 = 8 + 10 ∧ dp_fk 8 6 = 2) ∧ (false = false ∨ dp_K0 ≤ 90)) (cf := (26, [some (.ref 90)], [], dq_199 v)) rfl (fun _ => rfl) ⟨⟨dq_t (dqn_198 v) (by decide), rfl⟩, Or.inl rfl⟩ ?_
  refine dp_s1 hF (i := .aload_n 0) rfl (fun _ => rfl) ?_
  refine dp_s1 hF (i := .sipush 320) rfl (fun _ => rfl) ?_
  refine dq_na hF (at_ := .int) (p := 94) (t := 1) (N := 320) (M' := dq_200 v) rfl (Or.inl ⟨rfl, rfl⟩) (by decide) rfl (dqn_199 v) rfl rfl ?_
  refine dq_if hF (i := .putfield 22) (c := (dp_t false (dq_200 v) 90 = 8 + 10 ∧ dp_fk 8 7 = 2) ∧ (false = false ∨ dp_K0 ≤ 90)) (cf := (35, [some (.ref 90)], [], dq_201 v)) rfl (fun _ => rfl) ⟨⟨dq_t (dqn_200 v) (by decide), rfl⟩, Or.inl rfl⟩ ?_
  refine dp_s1 hF (i := .aload_n 0) rfl (fun _ => rfl) ?_
  refine dp_s1 hF (i := .sipush 656) rfl (fun _ => rfl) ?_
  refine dq_na hF (at_ := .long) (p := 95) (t := 2) (N := 656) (M' := dq_202 v) rfl (Or.inr (Or.inl ⟨rfl, rfl⟩)) (by decide) rfl (dqn_201 v) rfl rfl ?_
  refine dq_if hF (i := .putfield 25) (c := (dp_t false (dq_202 v) 90 = 8 + 10 ∧ dp_fk 8 8 = 2) ∧ (false = false ∨ dp_K0 ≤ 90)) (cf := (44, [some (.ref 90)], [], dq_203 v)) rfl (fun _ => rfl) ⟨⟨dq_t (dqn_202 v) (by decide), rfl⟩, Or.inl rfl⟩ ?_
  refine dp_s1 hF (i := .aload_n 0) rfl (fun _ => rfl) ?_
  refine dp_s1 hF (i := .sipush 4812) rfl (fun _ => rfl) ?_
  refine dq_na hF (at_ := .long) (p := 96) (t := 2) (N := 4812) (M' := dq_204 v) rfl (Or.inr (Or.inl ⟨rfl, rfl⟩)) (by decide) rfl (dqn_203 v) rfl rfl ?_
  refine dq_if hF (i := .putfield 31) (c := (dp_t false (dq_204 v) 90 = 8 + 10 ∧ dp_fk 8 9 = 2) ∧ (false = false ∨ dp_K0 ≤ 90)) (cf := (53, [some (.ref 90)], [], dq_205 v)) rfl (fun _ => rfl) ⟨⟨dq_t (dqn_204 v) (by decide), rfl⟩, Or.inl rfl⟩ ?_
  exact dp_s0 hF (i := .return_) rfl (fun _ => rfl)
set_option maxRecDepth 100000 in
set_option maxHeartbeats 4000000 in
theorem dqc_X3_init (xs : Nat → Int32) (xl d : Nat) (v : Nat → Int32) : dp_den false xs xl ((d + 1) + 1) 77 [.ref 97] (dq_207 v) = some (.inl none, dq_230 v) := by
  have hF := dp_den_grow (md := false) (xs := xs) (xl := xl) (d + 1)
  show dp_lim false xs xl (dp_den false xs xl (d + 1)) dp_m_X3_init (0, [some (.ref 97)], [], dq_207 v) = _
  refine dp_s1 hF (i := .aload_n 0) rfl (fun _ => rfl) ?_
  refine dp_s1 hF (i := .invokespecial 3) rfl (fun _ => rfl) ?_
  refine dp_s1 hF (i := .aload_n 0) rfl (fun _ => rfl) ?_
  refine dp_s1 hF (i := .iconst (-1)) rfl (fun _ => rfl) ?_
  refine dq_if hF (i := .putfield 9) (c := dp_t false (dq_207 v) 97 = 3 + 10 ∧ dp_fk 3 2 = 0) (cf := (9, [some (.ref 97)], [], dq_208 v)) rfl (fun _ => rfl) ⟨dq_t (dqn_207 v) (by decide), rfl⟩ ?_
  refine dp_s1 hF (i := .aload_n 0) rfl (fun _ => rfl) ?_
  refine dp_s1 hF (i := .iconst (-1)) rfl (fun _ => rfl) ?_
  refine dq_if hF (i := .putfield 15) (c := dp_t false (dq_208 v) 97 = 3 + 10 ∧ dp_fk 3 3 = 0) (cf := (14, [some (.ref 97)], [], dq_209 v)) rfl (fun _ => rfl) ⟨dq_t (dqn_208 v) (by decide), rfl⟩ ?_
  refine dp_s1 hF (i := .aload_n 0) rfl (fun _ => rfl) ?_
  refine dp_s1 hF (i := .iconst (-1)) rfl (fun _ => rfl) ?_
  refine dq_if hF (i := .putfield 18) (c := dp_t false (dq_209 v) 97 = 3 + 10 ∧ dp_fk 3 5 = 0) (cf := (19, [some (.ref 97)], [], dq_210 v)) rfl (fun _ => rfl) ⟨dq_t (dqn_209 v) (by decide), rfl⟩ ?_
  refine dp_s1 hF (i := .aload_n 0) rfl (fun _ => rfl) ?_
  refine dp_s1 hF (i := .bipush 16) rfl (fun _ => rfl) ?_
  refine dq_na hF (at_ := .int) (p := 98) (t := 1) (N := 16) (M' := dq_211 v) rfl (Or.inl ⟨rfl, rfl⟩) (by decide) rfl (dqn_210 v) rfl rfl ?_
  refine dq_if hF (i := .putfield 21) (c := (dp_t false (dq_211 v) 97 = 3 + 10 ∧ dp_fk 3 7 = 2) ∧ (false = false ∨ dp_K0 ≤ 97)) (cf := (27, [some (.ref 97)], [], dq_212 v)) rfl (fun _ => rfl) ⟨⟨dq_t (dqn_211 v) (by decide), rfl⟩, Or.inl rfl⟩ ?_
  refine dp_s1 hF (i := .aload_n 0) rfl (fun _ => rfl) ?_
  refine dp_s1 hF (i := .iconst 4) rfl (fun _ => rfl) ?_
  refine dq_na hF (at_ := .int) (p := 99) (t := 1) (N := 4) (M' := dq_213 v) rfl (Or.inl ⟨rfl, rfl⟩) (by decide) rfl (dqn_212 v) rfl rfl ?_
  refine dq_if hF (i := .putfield 25) (c := (dp_t false (dq_213 v) 97 = 3 + 10 ∧ dp_fk 3 8 = 2) ∧ (false = false ∨ dp_K0 ≤ 97)) (cf := (34, [some (.ref 97)], [], dq_214 v)) rfl (fun _ => rfl) ⟨⟨dq_t (dqn_213 v) (by decide), rfl⟩, Or.inl rfl⟩ ?_
  refine dp_s1 hF (i := .aload_n 0) rfl (fun _ => rfl) ?_
  refine dp_s1 hF (i := .sipush 5600) rfl (fun _ => rfl) ?_
  refine dq_na hF (at_ := .int) (p := 100) (t := 1) (N := 5600) (M' := dq_215 v) rfl (Or.inl ⟨rfl, rfl⟩) (by decide) rfl (dqn_214 v) rfl rfl ?_
  refine dq_if hF (i := .putfield 28) (c := (dp_t false (dq_215 v) 97 = 3 + 10 ∧ dp_fk 3 9 = 2) ∧ (false = false ∨ dp_K0 ≤ 97)) (cf := (43, [some (.ref 97)], [], dq_216 v)) rfl (fun _ => rfl) ⟨⟨dq_t (dqn_215 v) (by decide), rfl⟩, Or.inl rfl⟩ ?_
  refine dp_s1 hF (i := .aload_n 0) rfl (fun _ => rfl) ?_
  refine dp_s1 hF (i := .sipush 16000) rfl (fun _ => rfl) ?_
  refine dq_na hF (at_ := .int) (p := 101) (t := 1) (N := 16000) (M' := dq_217 v) rfl (Or.inl ⟨rfl, rfl⟩) (by decide) rfl (dqn_216 v) rfl rfl ?_
  refine dq_if hF (i := .putfield 31) (c := (dp_t false (dq_217 v) 97 = 3 + 10 ∧ dp_fk 3 10 = 2) ∧ (false = false ∨ dp_K0 ≤ 97)) (cf := (52, [some (.ref 97)], [], dq_218 v)) rfl (fun _ => rfl) ⟨⟨dq_t (dqn_217 v) (by decide), rfl⟩, Or.inl rfl⟩ ?_
  refine dp_s1 hF (i := .aload_n 0) rfl (fun _ => rfl) ?_
  refine dp_s1 hF (i := .sipush 16000) rfl (fun _ => rfl) ?_
  refine dq_na hF (at_ := .int) (p := 102) (t := 1) (N := 16000) (M' := dq_219 v) rfl (Or.inl ⟨rfl, rfl⟩) (by decide) rfl (dqn_218 v) rfl rfl ?_
  refine dq_if hF (i := .putfield 34) (c := (dp_t false (dq_219 v) 97 = 3 + 10 ∧ dp_fk 3 11 = 2) ∧ (false = false ∨ dp_K0 ≤ 97)) (cf := (61, [some (.ref 97)], [], dq_220 v)) rfl (fun _ => rfl) ⟨⟨dq_t (dqn_219 v) (by decide), rfl⟩, Or.inl rfl⟩ ?_
  refine dp_s1 hF (i := .aload_n 0) rfl (fun _ => rfl) ?_
  refine dp_s1 hF (i := .sipush 4000) rfl (fun _ => rfl) ?_
  refine dq_na hF (at_ := .int) (p := 103) (t := 1) (N := 4000) (M' := dq_221 v) rfl (Or.inl ⟨rfl, rfl⟩) (by decide) rfl (dqn_220 v) rfl rfl ?_
  refine dq_if hF (i := .putfield 37) (c := (dp_t false (dq_221 v) 97 = 3 + 10 ∧ dp_fk 3 12 = 2) ∧ (false = false ∨ dp_K0 ≤ 97)) (cf := (70, [some (.ref 97)], [], dq_222 v)) rfl (fun _ => rfl) ⟨⟨dq_t (dqn_221 v) (by decide), rfl⟩, Or.inl rfl⟩ ?_
  refine dp_s1 hF (i := .aload_n 0) rfl (fun _ => rfl) ?_
  refine dp_s1 hF (i := .sipush 4000) rfl (fun _ => rfl) ?_
  refine dq_na hF (at_ := .int) (p := 104) (t := 1) (N := 4000) (M' := dq_223 v) rfl (Or.inl ⟨rfl, rfl⟩) (by decide) rfl (dqn_222 v) rfl rfl ?_
  refine dq_if hF (i := .putfield 40) (c := (dp_t false (dq_223 v) 97 = 3 + 10 ∧ dp_fk 3 13 = 2) ∧ (false = false ∨ dp_K0 ≤ 97)) (cf := (79, [some (.ref 97)], [], dq_224 v)) rfl (fun _ => rfl) ⟨⟨dq_t (dqn_223 v) (by decide), rfl⟩, Or.inl rfl⟩ ?_
  refine dp_s1 hF (i := .aload_n 0) rfl (fun _ => rfl) ?_
  refine dp_s1 hF (i := .bipush 12) rfl (fun _ => rfl) ?_
  refine dq_na hF (at_ := .long) (p := 105) (t := 2) (N := 12) (M' := dq_225 v) rfl (Or.inr (Or.inl ⟨rfl, rfl⟩)) (by decide) rfl (dqn_224 v) rfl rfl ?_
  refine dq_if hF (i := .putfield 43) (c := (dp_t false (dq_225 v) 97 = 3 + 10 ∧ dp_fk 3 14 = 2) ∧ (false = false ∨ dp_K0 ≤ 97)) (cf := (87, [some (.ref 97)], [], dq_226 v)) rfl (fun _ => rfl) ⟨⟨dq_t (dqn_225 v) (by decide), rfl⟩, Or.inl rfl⟩ ?_
  refine dp_s1 hF (i := .aload_n 0) rfl (fun _ => rfl) ?_
  refine dp_s1 hF (i := .iconst 4) rfl (fun _ => rfl) ?_
  refine dq_na hF (at_ := .long) (p := 106) (t := 2) (N := 4) (M' := dq_227 v) rfl (Or.inr (Or.inl ⟨rfl, rfl⟩)) (by decide) rfl (dqn_226 v) rfl rfl ?_
  refine dq_if hF (i := .putfield 47) (c := (dp_t false (dq_227 v) 97 = 3 + 10 ∧ dp_fk 3 15 = 2) ∧ (false = false ∨ dp_K0 ≤ 97)) (cf := (94, [some (.ref 97)], [], dq_228 v)) rfl (fun _ => rfl) ⟨⟨dq_t (dqn_227 v) (by decide), rfl⟩, Or.inl rfl⟩ ?_
  refine dp_s1 hF (i := .aload_n 0) rfl (fun _ => rfl) ?_
  refine dp_s1 hF (i := .iconst 4) rfl (fun _ => rfl) ?_
  refine dq_na hF (at_ := .long) (p := 107) (t := 2) (N := 4) (M' := dq_229 v) rfl (Or.inr (Or.inl ⟨rfl, rfl⟩)) (by decide) rfl (dqn_228 v) rfl rfl ?_
  refine dq_if hF (i := .putfield 50) (c := (dp_t false (dq_229 v) 97 = 3 + 10 ∧ dp_fk 3 16 = 2) ∧ (false = false ∨ dp_K0 ≤ 97)) (cf := (101, [some (.ref 97)], [], dq_230 v)) rfl (fun _ => rfl) ⟨⟨dq_t (dqn_229 v) (by decide), rfl⟩, Or.inl rfl⟩ ?_
  exact dp_s0 hF (i := .return_) rfl (fun _ => rfl)
set_option maxRecDepth 100000 in
set_option maxHeartbeats 4000000 in
theorem dqc_X0_init (xs : Nat → Int32) (xl d : Nat) (v : Nat → Int32) : dp_den false xs xl ((d + 1) + 1) 0 [.ref 108, .ref 51, .ref 75, .ref 90, .ref 97, .ref 37] (dq_232 v) = some (.inl none, dq_247 v) := by
  have hF := dp_den_grow (md := false) (xs := xs) (xl := xl) (d + 1)
  show dp_lim false xs xl (dp_den false xs xl (d + 1)) dp_m_X0_init (0, [some (.ref 108), some (.ref 51), some (.ref 75), some (.ref 90), some (.ref 97), some (.ref 37)], [], dq_232 v) = _
  refine dp_s1 hF (i := .aload_n 0) rfl (fun _ => rfl) ?_
  refine dp_s1 hF (i := .invokespecial 3) rfl (fun _ => rfl) ?_
  refine dp_s1 hF (i := .aload_n 0) rfl (fun _ => rfl) ?_
  refine dp_s1 hF (i := .sipush 400) rfl (fun _ => rfl) ?_
  refine dq_na hF (at_ := .int) (p := 109) (t := 1) (N := 400) (M' := dq_233 v) rfl (Or.inl ⟨rfl, rfl⟩) (by decide) rfl (dqn_232 v) rfl rfl ?_
  refine dq_if hF (i := .putfield 11) (c := (dp_t false (dq_233 v) 108 = 0 + 10 ∧ dp_fk 0 6 = 2) ∧ (false = false ∨ dp_K0 ≤ 108)) (cf := (13, [some (.ref 108), some (.ref 51), some (.ref 75), some (.ref 90), some (.ref 97), some (.ref 37)], [], dq_234 v)) rfl (fun _ => rfl) ⟨⟨dq_t (dqn_233 v) (by decide), rfl⟩, Or.inl rfl⟩ ?_
  refine dp_s1 hF (i := .aload_n 0) rfl (fun _ => rfl) ?_
  refine dp_s1 hF (i := .sipush 300) rfl (fun _ => rfl) ?_
  refine dq_na hF (at_ := .boolean) (p := 110) (t := 3) (N := 300) (M' := dq_235 v) rfl (Or.inr (Or.inr (Or.inl ⟨rfl, rfl⟩))) (by decide) rfl (dqn_234 v) rfl rfl ?_
  refine dq_if hF (i := .putfield 17) (c := (dp_t false (dq_235 v) 108 = 0 + 10 ∧ dp_fk 0 7 = 2) ∧ (false = false ∨ dp_K0 ≤ 108)) (cf := (22, [some (.ref 108), some (.ref 51), some (.ref 75), some (.ref 90), some (.ref 97), some (.ref 37)], [], dq_236 v)) rfl (fun _ => rfl) ⟨⟨dq_t (dqn_235 v) (by decide), rfl⟩, Or.inl rfl⟩ ?_
  refine dp_s1 hF (i := .aload_n 0) rfl (fun _ => rfl) ?_
  refine dp_s1 hF (i := .sipush 9200) rfl (fun _ => rfl) ?_
  refine dq_na hF (at_ := .long) (p := 111) (t := 2) (N := 9200) (M' := dq_237 v) rfl (Or.inr (Or.inl ⟨rfl, rfl⟩)) (by decide) rfl (dqn_236 v) rfl rfl ?_
  refine dq_if hF (i := .putfield 21) (c := (dp_t false (dq_237 v) 108 = 0 + 10 ∧ dp_fk 0 8 = 2) ∧ (false = false ∨ dp_K0 ≤ 108)) (cf := (31, [some (.ref 108), some (.ref 51), some (.ref 75), some (.ref 90), some (.ref 97), some (.ref 37)], [], dq_238 v)) rfl (fun _ => rfl) ⟨⟨dq_t (dqn_237 v) (by decide), rfl⟩, Or.inl rfl⟩ ?_
  refine dp_s1 hF (i := .aload_n 0) rfl (fun _ => rfl) ?_
  refine dp_s1 hF (i := .bipush 8) rfl (fun _ => rfl) ?_
  refine dq_na hF (at_ := .long) (p := 112) (t := 2) (N := 8) (M' := dq_239 v) rfl (Or.inr (Or.inl ⟨rfl, rfl⟩)) (by decide) rfl (dqn_238 v) rfl rfl ?_
  refine dq_if hF (i := .putfield 27) (c := (dp_t false (dq_239 v) 108 = 0 + 10 ∧ dp_fk 0 9 = 2) ∧ (false = false ∨ dp_K0 ≤ 108)) (cf := (39, [some (.ref 108), some (.ref 51), some (.ref 75), some (.ref 90), some (.ref 97), some (.ref 37)], [], dq_240 v)) rfl (fun _ => rfl) ⟨⟨dq_t (dqn_239 v) (by decide), rfl⟩, Or.inl rfl⟩ ?_
  refine dp_s1 hF (i := .aload_n 0) rfl (fun _ => rfl) ?_
  refine dp_s1 hF (i := .bipush 60) rfl (fun _ => rfl) ?_
  refine dq_na hF (at_ := .long) (p := 113) (t := 2) (N := 60) (M' := dq_241 v) rfl (Or.inr (Or.inl ⟨rfl, rfl⟩)) (by decide) rfl (dqn_240 v) rfl rfl ?_
  refine dq_if hF (i := .putfield 30) (c := (dp_t false (dq_241 v) 108 = 0 + 10 ∧ dp_fk 0 10 = 2) ∧ (false = false ∨ dp_K0 ≤ 108)) (cf := (47, [some (.ref 108), some (.ref 51), some (.ref 75), some (.ref 90), some (.ref 97), some (.ref 37)], [], dq_242 v)) rfl (fun _ => rfl) ⟨⟨dq_t (dqn_241 v) (by decide), rfl⟩, Or.inl rfl⟩ ?_
  refine dp_s1 hF (i := .aload_n 0) rfl (fun _ => rfl) ?_
  refine dp_s1 hF (i := .aload_n 1) rfl (fun _ => rfl) ?_
  refine dq_if hF (i := .putfield 33) (c := (dp_t false (dq_242 v) 108 = 0 + 10 ∧ dp_fk 0 0 = 2) ∧ (false = false ∨ dp_K0 ≤ 108)) (cf := (52, [some (.ref 108), some (.ref 51), some (.ref 75), some (.ref 90), some (.ref 97), some (.ref 37)], [], dq_243 v)) rfl (fun _ => rfl) ⟨⟨dq_t (dqn_242 v) (by decide), rfl⟩, Or.inl rfl⟩ ?_
  refine dp_s1 hF (i := .aload_n 0) rfl (fun _ => rfl) ?_
  refine dp_s1 hF (i := .aload_n 2) rfl (fun _ => rfl) ?_
  refine dq_if hF (i := .putfield 37) (c := (dp_t false (dq_243 v) 108 = 0 + 10 ∧ dp_fk 0 1 = 2) ∧ (false = false ∨ dp_K0 ≤ 108)) (cf := (57, [some (.ref 108), some (.ref 51), some (.ref 75), some (.ref 90), some (.ref 97), some (.ref 37)], [], dq_244 v)) rfl (fun _ => rfl) ⟨⟨dq_t (dqn_243 v) (by decide), rfl⟩, Or.inl rfl⟩ ?_
  refine dp_s1 hF (i := .aload_n 0) rfl (fun _ => rfl) ?_
  refine dp_s1 hF (i := .aload_n 3) rfl (fun _ => rfl) ?_
  refine dq_if hF (i := .putfield 41) (c := (dp_t false (dq_244 v) 108 = 0 + 10 ∧ dp_fk 0 2 = 2) ∧ (false = false ∨ dp_K0 ≤ 108)) (cf := (62, [some (.ref 108), some (.ref 51), some (.ref 75), some (.ref 90), some (.ref 97), some (.ref 37)], [], dq_245 v)) rfl (fun _ => rfl) ⟨⟨dq_t (dqn_244 v) (by decide), rfl⟩, Or.inl rfl⟩ ?_
  refine dp_s1 hF (i := .aload_n 0) rfl (fun _ => rfl) ?_
  refine dp_s1 hF (i := .aload 4) rfl (fun _ => rfl) ?_
  refine dq_if hF (i := .putfield 45) (c := (dp_t false (dq_245 v) 108 = 0 + 10 ∧ dp_fk 0 3 = 2) ∧ (false = false ∨ dp_K0 ≤ 108)) (cf := (68, [some (.ref 108), some (.ref 51), some (.ref 75), some (.ref 90), some (.ref 97), some (.ref 37)], [], dq_246 v)) rfl (fun _ => rfl) ⟨⟨dq_t (dqn_245 v) (by decide), rfl⟩, Or.inl rfl⟩ ?_
  refine dp_s1 hF (i := .aload_n 0) rfl (fun _ => rfl) ?_
  refine dp_s1 hF (i := .aload 5) rfl (fun _ => rfl) ?_
  refine dq_if hF (i := .putfield 49) (c := (dp_t false (dq_246 v) 108 = 0 + 10 ∧ dp_fk 0 4 = 2) ∧ (false = false ∨ dp_K0 ≤ 108)) (cf := (74, [some (.ref 108), some (.ref 51), some (.ref 75), some (.ref 90), some (.ref 97), some (.ref 37)], [], dq_247 v)) rfl (fun _ => rfl) ⟨⟨dq_t (dqn_246 v) (by decide), rfl⟩, Or.inl rfl⟩ ?_
  exact dp_s0 hF (i := .return_) rfl (fun _ => rfl)
set_option maxRecDepth 100000 in
set_option maxHeartbeats 4000000 in
theorem dqc_X11_init (xs : Nat → Int32) (xl d : Nat) (v : Nat → Int32) : dp_den false xs xl ((d + 2) + 1) 249 [.ref 0, .int (v 0), .int (v 1), .int (v 2), .int (v 3), .int (v 4)] (dq_1 v) = some (.inl none, dq_248 v) := by
  have hF := dp_den_grow (md := false) (xs := xs) (xl := xl) (d + 2)
  show dp_lim false xs xl (dp_den false xs xl (d + 2)) dp_m_X11_init (0, [some (.ref 0), some (.int (v 0)), some (.int (v 1)), some (.int (v 2)), some (.int (v 3)), some (.int (v 4))], [], dq_1 v) = _
  refine dp_s1 hF (i := .aload_n 0) rfl (fun _ => rfl) ?_
  refine dp_s1 hF (i := .invokespecial 1) rfl (fun _ => rfl) ?_
  refine dp_s1 hF (i := .aload_n 0) rfl (fun _ => rfl) ?_
  refine dq_nw hF (ix := 7) (ci := 2) (p := 1) (M' := dq_2 v) rfl rfl (dqn_1 v) rfl rfl ?_
  refine dp_s1 hF (i := .dup) rfl (fun _ => rfl) ?_
  refine dp_s1 hF (i := .iload_n 1) rfl (fun _ => rfl) ?_
  refine dp_s1 hF (i := .bipush 12) rfl (fun _ => rfl) ?_
  refine dq_ci hF (i := .invokestatic 9) (j := 250) rfl rfl (fun _ => rfl) (dq_h_den xs xl (d + 1) _ _ _) ?_
  refine dp_s1 hF (i := .iload_n 2) rfl (fun _ => rfl) ?_
  refine dp_s1 hF (i := .iconst 4) rfl (fun _ => rfl) ?_
  refine dq_ci hF (i := .invokestatic 9) (j := 250) rfl rfl (fun _ => rfl) (dq_h_den xs xl (d + 1) _ _ _) ?_
  refine dq_ct hF (i := .invokespecial 15) (j := 52) rfl (fun _ => rfl) (dqc_X2_init xs xl d v) ?_
  refine dq_if hF (i := .putfield 18) (c := (dp_t false (dq_57 v) 0 = 11 + 10 ∧ dp_fk 11 0 = 2) ∧ (false = false ∨ dp_K0 ≤ 0)) (cf := (26, [some (.ref 0), some (.int (v 0)), some (.int (v 1)), some (.int (v 2)), some (.int (v 3)), some (.int (v 4))], [], dq_58 v)) rfl (fun _ => rfl) ⟨⟨dq_t (dqn_57 v) (by decide), rfl⟩, Or.inl rfl⟩ ?_
  refine dp_s1 hF (i := .aload_n 0) rfl (fun _ => rfl) ?_
  refine dq_nw hF (ix := 22) (ci := 10) (p := 28) (M' := dq_59 v) rfl rfl (dqn_58 v) rfl rfl ?_
  refine dp_s1 hF (i := .dup) rfl (fun _ => rfl) ?_
  refine dp_s1 hF (i := .aload_n 0) rfl (fun _ => rfl) ?_
  refine dq_if hF (i := .getfield 18) (c := dp_t false (dq_59 v) 0 = 11 + 10) (cf := (35, [some (.ref 0), some (.int (v 0)), some (.int (v 1)), some (.int (v 2)), some (.int (v 3)), some (.int (v 4))], [.ref 1, .ref 28, .ref 28, .ref 0], dq_59 v)) rfl (fun _ => rfl) (dq_t (dqn_59 v) (by decide)) ?_
  refine dp_s1 hF (i := .iload_n 3) rfl (fun _ => rfl) ?_
  refine dp_s1 hF (i := .bipush 20) rfl (fun _ => rfl) ?_
  refine dq_ci hF (i := .invokestatic 9) (j := 250) rfl rfl (fun _ => rfl) (dq_h_den xs xl (d + 1) _ _ _) ?_
  refine dp_s1 hF (i := .iload 4) rfl (fun _ => rfl) ?_
  refine dp_s1 hF (i := .bipush 8) rfl (fun _ => rfl) ?_
  refine dq_ci hF (i := .invokestatic 9) (j := 250) rfl rfl (fun _ => rfl) (dq_h_den xs xl (d + 1) _ _ _) ?_
  refine dp_s1 hF (i := .iload 5) rfl (fun _ => rfl) ?_
  refine dp_s1 hF (i := .sipush 400) rfl (fun _ => rfl) ?_
  refine dq_ci hF (i := .invokestatic 9) (j := 250) rfl rfl (fun _ => rfl) (dq_h_den xs xl (d + 1) _ _ _) ?_
  refine dq_ct hF (i := .invokespecial 24) (j := 225) rfl (fun _ => rfl) (dqc_X10_init xs xl d v) ?_
  refine dq_if hF (i := .putfield 27) (c := (dp_t false (dq_81 v) 0 = 11 + 10 ∧ dp_fk 11 1 = 2) ∧ (false = false ∨ dp_K0 ≤ 0)) (cf := (62, [some (.ref 0), some (.int (v 0)), some (.int (v 1)), some (.int (v 2)), some (.int (v 3)), some (.int (v 4))], [], dq_82 v)) rfl (fun _ => rfl) ⟨⟨dq_t (dqn_81 v) (by decide), rfl⟩, Or.inl rfl⟩ ?_
  refine dp_s1 hF (i := .aload_n 0) rfl (fun _ => rfl) ?_
  refine dq_nw hF (ix := 31) (ci := 1) (p := 37) (M' := dq_83 v) rfl rfl (dqn_82 v) rfl rfl ?_
  refine dp_s1 hF (i := .dup) rfl (fun _ => rfl) ?_
  refine dp_s1 hF (i := .aload_n 0) rfl (fun _ => rfl) ?_
  refine dq_if hF (i := .getfield 18) (c := dp_t false (dq_83 v) 0 = 11 + 10) (cf := (71, [some (.ref 0), some (.int (v 0)), some (.int (v 1)), some (.int (v 2)), some (.int (v 3)), some (.int (v 4))], [.ref 1, .ref 37, .ref 37, .ref 0], dq_83 v)) rfl (fun _ => rfl) (dq_t (dqn_83 v) (by decide)) ?_
  refine dp_s1 hF (i := .aload_n 0) rfl (fun _ => rfl) ?_
  refine dq_if hF (i := .getfield 27) (c := dp_t false (dq_83 v) 0 = 11 + 10) (cf := (75, [some (.ref 0), some (.int (v 0)), some (.int (v 1)), some (.int (v 2)), some (.int (v 3)), some (.int (v 4))], [.ref 28, .ref 1, .ref 37, .ref 37, .ref 0], dq_83 v)) rfl (fun _ => rfl) (dq_t (dqn_83 v) (by decide)) ?_
  refine dq_ct hF (i := .invokespecial 33) (j := 25) rfl (fun _ => rfl) (dqc_X1_init xs xl d v) ?_
  refine dq_if hF (i := .putfield 36) (c := (dp_t false (dq_112 v) 0 = 11 + 10 ∧ dp_fk 11 2 = 2) ∧ (false = false ∨ dp_K0 ≤ 0)) (cf := (81, [some (.ref 0), some (.int (v 0)), some (.int (v 1)), some (.int (v 2)), some (.int (v 3)), some (.int (v 4))], [], dq_113 v)) rfl (fun _ => rfl) ⟨⟨dq_t (dqn_112 v) (by decide), rfl⟩, Or.inl rfl⟩ ?_
  refine dp_s1 hF (i := .aload_n 0) rfl (fun _ => rfl) ?_
  refine dq_nw hF (ix := 40) (ci := 9) (p := 51) (M' := dq_114 v) rfl rfl (dqn_113 v) rfl rfl ?_
  refine dp_s1 hF (i := .dup) rfl (fun _ => rfl) ?_
  refine dq_ct hF (i := .invokespecial 42) (j := 208) rfl (fun _ => rfl) (dqc_X9_init xs xl d v) ?_
  refine dq_if hF (i := .putfield 43) (c := (dp_t false (dq_146 v) 0 = 11 + 10 ∧ dp_fk 11 3 = 2) ∧ (false = false ∨ dp_K0 ≤ 0)) (cf := (92, [some (.ref 0), some (.int (v 0)), some (.int (v 1)), some (.int (v 2)), some (.int (v 3)), some (.int (v 4))], [], dq_147 v)) rfl (fun _ => rfl) ⟨⟨dq_t (dqn_146 v) (by decide), rfl⟩, Or.inl rfl⟩ ?_
  refine dp_s1 hF (i := .aload_n 0) rfl (fun _ => rfl) ?_
  refine dq_nw hF (ix := 47) (ci := 7) (p := 68) (M' := dq_148 v) rfl rfl (dqn_147 v) rfl rfl ?_
  refine dp_s1 hF (i := .dup) rfl (fun _ => rfl) ?_
  refine dq_ct hF (i := .invokespecial 49) (j := 142) rfl (fun _ => rfl) (dqc_X7_init xs xl d v) ?_
  refine dq_if hF (i := .putfield 50) (c := (dp_t false (dq_161 v) 0 = 11 + 10 ∧ dp_fk 11 4 = 2) ∧ (false = false ∨ dp_K0 ≤ 0)) (cf := (103, [some (.ref 0), some (.int (v 0)), some (.int (v 1)), some (.int (v 2)), some (.int (v 3)), some (.int (v 4))], [], dq_162 v)) rfl (fun _ => rfl) ⟨⟨dq_t (dqn_161 v) (by decide), rfl⟩, Or.inl rfl⟩ ?_
  refine dp_s1 hF (i := .aload_n 0) rfl (fun _ => rfl) ?_
  refine dq_nw hF (ix := 54) (ci := 5) (p := 75) (M' := dq_163 v) rfl rfl (dqn_162 v) rfl rfl ?_
  refine dp_s1 hF (i := .dup) rfl (fun _ => rfl) ?_
  refine dq_ct hF (i := .invokespecial 56) (j := 115) rfl (fun _ => rfl) (dqc_X5_init xs xl d v) ?_
  refine dq_if hF (i := .putfield 57) (c := (dp_t false (dq_191 v) 0 = 11 + 10 ∧ dp_fk 11 5 = 2) ∧ (false = false ∨ dp_K0 ≤ 0)) (cf := (114, [some (.ref 0), some (.int (v 0)), some (.int (v 1)), some (.int (v 2)), some (.int (v 3)), some (.int (v 4))], [], dq_192 v)) rfl (fun _ => rfl) ⟨⟨dq_t (dqn_191 v) (by decide), rfl⟩, Or.inl rfl⟩ ?_
  refine dp_s1 hF (i := .aload_n 0) rfl (fun _ => rfl) ?_
  refine dq_nw hF (ix := 61) (ci := 8) (p := 90) (M' := dq_193 v) rfl rfl (dqn_192 v) rfl rfl ?_
  refine dp_s1 hF (i := .dup) rfl (fun _ => rfl) ?_
  refine dq_ct hF (i := .invokespecial 63) (j := 182) rfl (fun _ => rfl) (dqc_X8_init xs xl d v) ?_
  refine dq_if hF (i := .putfield 64) (c := (dp_t false (dq_205 v) 0 = 11 + 10 ∧ dp_fk 11 6 = 2) ∧ (false = false ∨ dp_K0 ≤ 0)) (cf := (125, [some (.ref 0), some (.int (v 0)), some (.int (v 1)), some (.int (v 2)), some (.int (v 3)), some (.int (v 4))], [], dq_206 v)) rfl (fun _ => rfl) ⟨⟨dq_t (dqn_205 v) (by decide), rfl⟩, Or.inl rfl⟩ ?_
  refine dp_s1 hF (i := .aload_n 0) rfl (fun _ => rfl) ?_
  refine dq_nw hF (ix := 68) (ci := 3) (p := 97) (M' := dq_207 v) rfl rfl (dqn_206 v) rfl rfl ?_
  refine dp_s1 hF (i := .dup) rfl (fun _ => rfl) ?_
  refine dq_ct hF (i := .invokespecial 70) (j := 77) rfl (fun _ => rfl) (dqc_X3_init xs xl d v) ?_
  refine dq_if hF (i := .putfield 71) (c := (dp_t false (dq_230 v) 0 = 11 + 10 ∧ dp_fk 11 7 = 2) ∧ (false = false ∨ dp_K0 ≤ 0)) (cf := (136, [some (.ref 0), some (.int (v 0)), some (.int (v 1)), some (.int (v 2)), some (.int (v 3)), some (.int (v 4))], [], dq_231 v)) rfl (fun _ => rfl) ⟨⟨dq_t (dqn_230 v) (by decide), rfl⟩, Or.inl rfl⟩ ?_
  refine dp_s1 hF (i := .aload_n 0) rfl (fun _ => rfl) ?_
  refine dq_nw hF (ix := 75) (ci := 0) (p := 108) (M' := dq_232 v) rfl rfl (dqn_231 v) rfl rfl ?_
  refine dp_s1 hF (i := .dup) rfl (fun _ => rfl) ?_
  refine dp_s1 hF (i := .aload_n 0) rfl (fun _ => rfl) ?_
  refine dq_if hF (i := .getfield 43) (c := dp_t false (dq_232 v) 0 = 11 + 10) (cf := (145, [some (.ref 0), some (.int (v 0)), some (.int (v 1)), some (.int (v 2)), some (.int (v 3)), some (.int (v 4))], [.ref 51, .ref 108, .ref 108, .ref 0], dq_232 v)) rfl (fun _ => rfl) (dq_t (dqn_232 v) (by decide)) ?_
  refine dp_s1 hF (i := .aload_n 0) rfl (fun _ => rfl) ?_
  refine dq_if hF (i := .getfield 57) (c := dp_t false (dq_232 v) 0 = 11 + 10) (cf := (149, [some (.ref 0), some (.int (v 0)), some (.int (v 1)), some (.int (v 2)), some (.int (v 3)), some (.int (v 4))], [.ref 75, .ref 51, .ref 108, .ref 108, .ref 0], dq_232 v)) rfl (fun _ => rfl) (dq_t (dqn_232 v) (by decide)) ?_
  refine dp_s1 hF (i := .aload_n 0) rfl (fun _ => rfl) ?_
  refine dq_if hF (i := .getfield 64) (c := dp_t false (dq_232 v) 0 = 11 + 10) (cf := (153, [some (.ref 0), some (.int (v 0)), some (.int (v 1)), some (.int (v 2)), some (.int (v 3)), some (.int (v 4))], [.ref 90, .ref 75, .ref 51, .ref 108, .ref 108, .ref 0], dq_232 v)) rfl (fun _ => rfl) (dq_t (dqn_232 v) (by decide)) ?_
  refine dp_s1 hF (i := .aload_n 0) rfl (fun _ => rfl) ?_
  refine dq_if hF (i := .getfield 71) (c := dp_t false (dq_232 v) 0 = 11 + 10) (cf := (157, [some (.ref 0), some (.int (v 0)), some (.int (v 1)), some (.int (v 2)), some (.int (v 3)), some (.int (v 4))], [.ref 97, .ref 90, .ref 75, .ref 51, .ref 108, .ref 108, .ref 0], dq_232 v)) rfl (fun _ => rfl) (dq_t (dqn_232 v) (by decide)) ?_
  refine dp_s1 hF (i := .aload_n 0) rfl (fun _ => rfl) ?_
  refine dq_if hF (i := .getfield 36) (c := dp_t false (dq_232 v) 0 = 11 + 10) (cf := (161, [some (.ref 0), some (.int (v 0)), some (.int (v 1)), some (.int (v 2)), some (.int (v 3)), some (.int (v 4))], [.ref 37, .ref 97, .ref 90, .ref 75, .ref 51, .ref 108, .ref 108, .ref 0], dq_232 v)) rfl (fun _ => rfl) (dq_t (dqn_232 v) (by decide)) ?_
  refine dq_ct hF (i := .invokespecial 77) (j := 0) rfl (fun _ => rfl) (dqc_X0_init xs xl d v) ?_
  refine dq_if hF (i := .putfield 80) (c := (dp_t false (dq_247 v) 0 = 11 + 10 ∧ dp_fk 11 8 = 2) ∧ (false = false ∨ dp_K0 ≤ 0)) (cf := (167, [some (.ref 0), some (.int (v 0)), some (.int (v 1)), some (.int (v 2)), some (.int (v 3)), some (.int (v 4))], [], dq_248 v)) rfl (fun _ => rfl) ⟨⟨dq_t (dqn_247 v) (by decide), rfl⟩, Or.inl rfl⟩ ?_
  exact dp_s0 hF (i := .return_) rfl (fun _ => rfl)
set_option maxRecDepth 100000 in
set_option maxHeartbeats 4000000 in
theorem dqc_X12_init (xs : Nat → Int32) (xl d : Nat) (v : Nat → Int32) : dp_den false xs xl ((d + 2) + 1) 369 [.ref 114, .int (v 0), .int (v 1), .int (v 2), .int (v 3), .int (v 4)] (dq_249 v) = some (.inl none, dq_518 v) := by
  have hF := dp_den_grow (md := false) (xs := xs) (xl := xl) (d + 2)
  show dp_lim false xs xl (dp_den false xs xl (d + 2)) dp_m_X12_init (0, [some (.ref 114), some (.int (v 0)), some (.int (v 1)), some (.int (v 2)), some (.int (v 3)), some (.int (v 4)), none], [], dq_249 v) = _
  refine dp_s1 hF (i := .aload_n 0) rfl (fun _ => rfl) ?_
  refine dp_s1 hF (i := .invokespecial 7) rfl (fun _ => rfl) ?_
  refine dp_s1 hF (i := .aload_n 0) rfl (fun _ => rfl) ?_
  refine dp_s1 hF (i := .bipush 100) rfl (fun _ => rfl) ?_
  refine dq_na hF (at_ := .int) (p := 115) (t := 1) (N := 100) (M' := dq_250 v) rfl (Or.inl ⟨rfl, rfl⟩) (by decide) rfl (dqn_249 v) rfl rfl ?_
  refine dq_if hF (i := .putfield 13) (c := (dp_t false (dq_250 v) 114 = 12 + 10 ∧ dp_fk 12 4 = 2) ∧ (false = false ∨ dp_K0 ≤ 114)) (cf := (12, [some (.ref 114), some (.int (v 0)), some (.int (v 1)), some (.int (v 2)), some (.int (v 3)), some (.int (v 4)), none], [], dq_251 v)) rfl (fun _ => rfl) ⟨⟨dq_t (dqn_250 v) (by decide), rfl⟩, Or.inl rfl⟩ ?_
  refine dp_s1 hF (i := .aload_n 0) rfl (fun _ => rfl) ?_
  refine dp_s1 hF (i := .bipush 100) rfl (fun _ => rfl) ?_
  refine dq_na hF (at_ := .int) (p := 116) (t := 1) (N := 100) (M' := dq_252 v) rfl (Or.inl ⟨rfl, rfl⟩) (by decide) rfl (dqn_251 v) rfl rfl ?_
  refine dq_if hF (i := .putfield 17) (c := (dp_t false (dq_252 v) 114 = 12 + 10 ∧ dp_fk 12 5 = 2) ∧ (false = false ∨ dp_K0 ≤ 114)) (cf := (20, [some (.ref 114), some (.int (v 0)), some (.int (v 1)), some (.int (v 2)), some (.int (v 3)), some (.int (v 4)), none], [], dq_253 v)) rfl (fun _ => rfl) ⟨⟨dq_t (dqn_252 v) (by decide), rfl⟩, Or.inl rfl⟩ ?_
  refine dp_s1 hF (i := .aload_n 0) rfl (fun _ => rfl) ?_
  refine dp_s1 hF (i := .bipush 100) rfl (fun _ => rfl) ?_
  refine dq_na hF (at_ := .int) (p := 117) (t := 1) (N := 100) (M' := dq_254 v) rfl (Or.inl ⟨rfl, rfl⟩) (by decide) rfl (dqn_253 v) rfl rfl ?_
  refine dq_if hF (i := .putfield 20) (c := (dp_t false (dq_254 v) 114 = 12 + 10 ∧ dp_fk 12 6 = 2) ∧ (false = false ∨ dp_K0 ≤ 114)) (cf := (28, [some (.ref 114), some (.int (v 0)), some (.int (v 1)), some (.int (v 2)), some (.int (v 3)), some (.int (v 4)), none], [], dq_255 v)) rfl (fun _ => rfl) ⟨⟨dq_t (dqn_254 v) (by decide), rfl⟩, Or.inl rfl⟩ ?_
  refine dp_s1 hF (i := .aload_n 0) rfl (fun _ => rfl) ?_
  refine dp_s1 hF (i := .bipush 100) rfl (fun _ => rfl) ?_
  refine dq_na hF (at_ := .int) (p := 118) (t := 1) (N := 100) (M' := dq_256 v) rfl (Or.inl ⟨rfl, rfl⟩) (by decide) rfl (dqn_255 v) rfl rfl ?_
  refine dq_if hF (i := .putfield 23) (c := (dp_t false (dq_256 v) 114 = 12 + 10 ∧ dp_fk 12 7 = 2) ∧ (false = false ∨ dp_K0 ≤ 114)) (cf := (36, [some (.ref 114), some (.int (v 0)), some (.int (v 1)), some (.int (v 2)), some (.int (v 3)), some (.int (v 4)), none], [], dq_257 v)) rfl (fun _ => rfl) ⟨⟨dq_t (dqn_256 v) (by decide), rfl⟩, Or.inl rfl⟩ ?_
  refine dp_s1 hF (i := .aload_n 0) rfl (fun _ => rfl) ?_
  refine dp_s1 hF (i := .sipush 10000) rfl (fun _ => rfl) ?_
  refine dq_na hF (at_ := .boolean) (p := 119) (t := 3) (N := 10000) (M' := dq_258 v) rfl (Or.inr (Or.inr (Or.inl ⟨rfl, rfl⟩))) (by decide) rfl (dqn_257 v) rfl rfl ?_
  refine dq_if hF (i := .putfield 26) (c := (dp_t false (dq_258 v) 114 = 12 + 10 ∧ dp_fk 12 8 = 2) ∧ (false = false ∨ dp_K0 ≤ 114)) (cf := (45, [some (.ref 114), some (.int (v 0)), some (.int (v 1)), some (.int (v 2)), some (.int (v 3)), some (.int (v 4)), none], [], dq_259 v)) rfl (fun _ => rfl) ⟨⟨dq_t (dqn_258 v) (by decide), rfl⟩, Or.inl rfl⟩ ?_
  refine dp_s1 hF (i := .aload_n 0) rfl (fun _ => rfl) ?_
  refine dp_s1 hF (i := .bipush 12) rfl (fun _ => rfl) ?_
  refine dq_na hF (at_ := .boolean) (p := 120) (t := 3) (N := 12) (M' := dq_260 v) rfl (Or.inr (Or.inr (Or.inl ⟨rfl, rfl⟩))) (by decide) rfl (dqn_259 v) rfl rfl ?_
  refine dq_if hF (i := .putfield 30) (c := (dp_t false (dq_260 v) 114 = 12 + 10 ∧ dp_fk 12 10 = 2) ∧ (false = false ∨ dp_K0 ≤ 114)) (cf := (53, [some (.ref 114), some (.int (v 0)), some (.int (v 1)), some (.int (v 2)), some (.int (v 3)), some (.int (v 4)), none], [], dq_261 v)) rfl (fun _ => rfl) ⟨⟨dq_t (dqn_260 v) (by decide), rfl⟩, Or.inl rfl⟩ ?_
  refine dp_s1 hF (i := .aload_n 0) rfl (fun _ => rfl) ?_
  refine dp_s1 hF (i := .bipush 12) rfl (fun _ => rfl) ?_
  refine dq_na hF (at_ := .int) (p := 121) (t := 1) (N := 12) (M' := dq_262 v) rfl (Or.inl ⟨rfl, rfl⟩) (by decide) rfl (dqn_261 v) rfl rfl ?_
  refine dq_if hF (i := .putfield 33) (c := (dp_t false (dq_262 v) 114 = 12 + 10 ∧ dp_fk 12 11 = 2) ∧ (false = false ∨ dp_K0 ≤ 114)) (cf := (61, [some (.ref 114), some (.int (v 0)), some (.int (v 1)), some (.int (v 2)), some (.int (v 3)), some (.int (v 4)), none], [], dq_263 v)) rfl (fun _ => rfl) ⟨⟨dq_t (dqn_262 v) (by decide), rfl⟩, Or.inl rfl⟩ ?_
  refine dp_s1 hF (i := .aload_n 0) rfl (fun _ => rfl) ?_
  refine dp_s1 hF (i := .bipush 12) rfl (fun _ => rfl) ?_
  refine dq_na hF (at_ := .int) (p := 122) (t := 1) (N := 12) (M' := dq_264 v) rfl (Or.inl ⟨rfl, rfl⟩) (by decide) rfl (dqn_263 v) rfl rfl ?_
  refine dq_if hF (i := .putfield 36) (c := (dp_t false (dq_264 v) 114 = 12 + 10 ∧ dp_fk 12 12 = 2) ∧ (false = false ∨ dp_K0 ≤ 114)) (cf := (69, [some (.ref 114), some (.int (v 0)), some (.int (v 1)), some (.int (v 2)), some (.int (v 3)), some (.int (v 4)), none], [], dq_265 v)) rfl (fun _ => rfl) ⟨⟨dq_t (dqn_264 v) (by decide), rfl⟩, Or.inl rfl⟩ ?_
  refine dp_s1 hF (i := .aload_n 0) rfl (fun _ => rfl) ?_
  refine dp_s1 hF (i := .sipush 480) rfl (fun _ => rfl) ?_
  refine dq_na hF (at_ := .int) (p := 123) (t := 1) (N := 480) (M' := dq_266 v) rfl (Or.inl ⟨rfl, rfl⟩) (by decide) rfl (dqn_265 v) rfl rfl ?_
  refine dq_if hF (i := .putfield 39) (c := (dp_t false (dq_266 v) 114 = 12 + 10 ∧ dp_fk 12 13 = 2) ∧ (false = false ∨ dp_K0 ≤ 114)) (cf := (78, [some (.ref 114), some (.int (v 0)), some (.int (v 1)), some (.int (v 2)), some (.int (v 3)), some (.int (v 4)), none], [], dq_267 v)) rfl (fun _ => rfl) ⟨⟨dq_t (dqn_266 v) (by decide), rfl⟩, Or.inl rfl⟩ ?_
  refine dp_s1 hF (i := .aload_n 0) rfl (fun _ => rfl) ?_
  refine dp_s1 hF (i := .sipush 480) rfl (fun _ => rfl) ?_
  refine dq_na hF (at_ := .int) (p := 124) (t := 1) (N := 480) (M' := dq_268 v) rfl (Or.inl ⟨rfl, rfl⟩) (by decide) rfl (dqn_267 v) rfl rfl ?_
  refine dq_if hF (i := .putfield 42) (c := (dp_t false (dq_268 v) 114 = 12 + 10 ∧ dp_fk 12 14 = 2) ∧ (false = false ∨ dp_K0 ≤ 114)) (cf := (87, [some (.ref 114), some (.int (v 0)), some (.int (v 1)), some (.int (v 2)), some (.int (v 3)), some (.int (v 4)), none], [], dq_269 v)) rfl (fun _ => rfl) ⟨⟨dq_t (dqn_268 v) (by decide), rfl⟩, Or.inl rfl⟩ ?_
  refine dp_s1 hF (i := .aload_n 0) rfl (fun _ => rfl) ?_
  refine dp_s1 hF (i := .sipush 480) rfl (fun _ => rfl) ?_
  refine dq_na hF (at_ := .int) (p := 125) (t := 1) (N := 480) (M' := dq_270 v) rfl (Or.inl ⟨rfl, rfl⟩) (by decide) rfl (dqn_269 v) rfl rfl ?_
  refine dq_if hF (i := .putfield 45) (c := (dp_t false (dq_270 v) 114 = 12 + 10 ∧ dp_fk 12 15 = 2) ∧ (false = false ∨ dp_K0 ≤ 114)) (cf := (96, [some (.ref 114), some (.int (v 0)), some (.int (v 1)), some (.int (v 2)), some (.int (v 3)), some (.int (v 4)), none], [], dq_271 v)) rfl (fun _ => rfl) ⟨⟨dq_t (dqn_270 v) (by decide), rfl⟩, Or.inl rfl⟩ ?_
  refine dp_s1 hF (i := .aload_n 0) rfl (fun _ => rfl) ?_
  refine dp_s1 hF (i := .sipush 2048) rfl (fun _ => rfl) ?_
  refine dq_na hF (at_ := .long) (p := 126) (t := 2) (N := 2048) (M' := dq_272 v) rfl (Or.inr (Or.inl ⟨rfl, rfl⟩)) (by decide) rfl (dqn_271 v) rfl rfl ?_
  refine dq_if hF (i := .putfield 48) (c := (dp_t false (dq_272 v) 114 = 12 + 10 ∧ dp_fk 12 16 = 2) ∧ (false = false ∨ dp_K0 ≤ 114)) (cf := (105, [some (.ref 114), some (.int (v 0)), some (.int (v 1)), some (.int (v 2)), some (.int (v 3)), some (.int (v 4)), none], [], dq_273 v)) rfl (fun _ => rfl) ⟨⟨dq_t (dqn_272 v) (by decide), rfl⟩, Or.inl rfl⟩ ?_
  refine dp_s1 hF (i := .aload_n 0) rfl (fun _ => rfl) ?_
  refine dp_s1 hF (i := .sipush 2048) rfl (fun _ => rfl) ?_
  refine dq_na hF (at_ := .int) (p := 127) (t := 1) (N := 2048) (M' := dq_274 v) rfl (Or.inl ⟨rfl, rfl⟩) (by decide) rfl (dqn_273 v) rfl rfl ?_
  refine dq_if hF (i := .putfield 52) (c := (dp_t false (dq_274 v) 114 = 12 + 10 ∧ dp_fk 12 17 = 2) ∧ (false = false ∨ dp_K0 ≤ 114)) (cf := (114, [some (.ref 114), some (.int (v 0)), some (.int (v 1)), some (.int (v 2)), some (.int (v 3)), some (.int (v 4)), none], [], dq_275 v)) rfl (fun _ => rfl) ⟨⟨dq_t (dqn_274 v) (by decide), rfl⟩, Or.inl rfl⟩ ?_
  refine dp_s1 hF (i := .aload_n 0) rfl (fun _ => rfl) ?_
  refine dp_s1 hF (i := .sipush 2048) rfl (fun _ => rfl) ?_
  refine dq_na hF (at_ := .int) (p := 128) (t := 1) (N := 2048) (M' := dq_276 v) rfl (Or.inl ⟨rfl, rfl⟩) (by decide) rfl (dqn_275 v) rfl rfl ?_
  refine dq_if hF (i := .putfield 55) (c := (dp_t false (dq_276 v) 114 = 12 + 10 ∧ dp_fk 12 18 = 2) ∧ (false = false ∨ dp_K0 ≤ 114)) (cf := (123, [some (.ref 114), some (.int (v 0)), some (.int (v 1)), some (.int (v 2)), some (.int (v 3)), some (.int (v 4)), none], [], dq_277 v)) rfl (fun _ => rfl) ⟨⟨dq_t (dqn_276 v) (by decide), rfl⟩, Or.inl rfl⟩ ?_
  refine dp_s1 hF (i := .aload_n 0) rfl (fun _ => rfl) ?_
  refine dp_s1 hF (i := .sipush 4096) rfl (fun _ => rfl) ?_
  refine dq_na hF (at_ := .int) (p := 129) (t := 1) (N := 4096) (M' := dq_278 v) rfl (Or.inl ⟨rfl, rfl⟩) (by decide) rfl (dqn_277 v) rfl rfl ?_
  refine dq_if hF (i := .putfield 58) (c := (dp_t false (dq_278 v) 114 = 12 + 10 ∧ dp_fk 12 20 = 2) ∧ (false = false ∨ dp_K0 ≤ 114)) (cf := (132, [some (.ref 114), some (.int (v 0)), some (.int (v 1)), some (.int (v 2)), some (.int (v 3)), some (.int (v 4)), none], [], dq_279 v)) rfl (fun _ => rfl) ⟨⟨dq_t (dqn_278 v) (by decide), rfl⟩, Or.inl rfl⟩ ?_
  refine dp_s1 hF (i := .aload_n 0) rfl (fun _ => rfl) ?_
  refine dp_s1 hF (i := .iconst 4) rfl (fun _ => rfl) ?_
  refine dq_na hF (at_ := .int) (p := 130) (t := 1) (N := 4) (M' := dq_280 v) rfl (Or.inl ⟨rfl, rfl⟩) (by decide) rfl (dqn_279 v) rfl rfl ?_
  refine dq_if hF (i := .putfield 61) (c := (dp_t false (dq_280 v) 114 = 12 + 10 ∧ dp_fk 12 21 = 2) ∧ (false = false ∨ dp_K0 ≤ 114)) (cf := (139, [some (.ref 114), some (.int (v 0)), some (.int (v 1)), some (.int (v 2)), some (.int (v 3)), some (.int (v 4)), none], [], dq_281 v)) rfl (fun _ => rfl) ⟨⟨dq_t (dqn_280 v) (by decide), rfl⟩, Or.inl rfl⟩ ?_
  refine dp_s1 hF (i := .aload_n 0) rfl (fun _ => rfl) ?_
  refine dp_s1 hF (i := .iconst 4) rfl (fun _ => rfl) ?_
  refine dq_na hF (at_ := .int) (p := 131) (t := 1) (N := 4) (M' := dq_282 v) rfl (Or.inl ⟨rfl, rfl⟩) (by decide) rfl (dqn_281 v) rfl rfl ?_
  refine dq_if hF (i := .putfield 64) (c := (dp_t false (dq_282 v) 114 = 12 + 10 ∧ dp_fk 12 22 = 2) ∧ (false = false ∨ dp_K0 ≤ 114)) (cf := (146, [some (.ref 114), some (.int (v 0)), some (.int (v 1)), some (.int (v 2)), some (.int (v 3)), some (.int (v 4)), none], [], dq_283 v)) rfl (fun _ => rfl) ⟨⟨dq_t (dqn_282 v) (by decide), rfl⟩, Or.inl rfl⟩ ?_
  refine dp_s1 hF (i := .aload_n 0) rfl (fun _ => rfl) ?_
  refine dp_s1 hF (i := .bipush 100) rfl (fun _ => rfl) ?_
  refine dq_na hF (at_ := .boolean) (p := 132) (t := 3) (N := 100) (M' := dq_284 v) rfl (Or.inr (Or.inr (Or.inl ⟨rfl, rfl⟩))) (by decide) rfl (dqn_283 v) rfl rfl ?_
  refine dq_if hF (i := .putfield 67) (c := (dp_t false (dq_284 v) 114 = 12 + 10 ∧ dp_fk 12 24 = 2) ∧ (false = false ∨ dp_K0 ≤ 114)) (cf := (154, [some (.ref 114), some (.int (v 0)), some (.int (v 1)), some (.int (v 2)), some (.int (v 3)), some (.int (v 4)), none], [], dq_285 v)) rfl (fun _ => rfl) ⟨⟨dq_t (dqn_284 v) (by decide), rfl⟩, Or.inl rfl⟩ ?_
  refine dp_s1 hF (i := .aload_n 0) rfl (fun _ => rfl) ?_
  refine dp_s1 hF (i := .bipush 20) rfl (fun _ => rfl) ?_
  refine dq_na hF (at_ := .int) (p := 133) (t := 1) (N := 20) (M' := dq_286 v) rfl (Or.inl ⟨rfl, rfl⟩) (by decide) rfl (dqn_285 v) rfl rfl ?_
  refine dq_if hF (i := .putfield 70) (c := (dp_t false (dq_286 v) 114 = 12 + 10 ∧ dp_fk 12 28 = 2) ∧ (false = false ∨ dp_K0 ≤ 114)) (cf := (162, [some (.ref 114), some (.int (v 0)), some (.int (v 1)), some (.int (v 2)), some (.int (v 3)), some (.int (v 4)), none], [], dq_287 v)) rfl (fun _ => rfl) ⟨⟨dq_t (dqn_286 v) (by decide), rfl⟩, Or.inl rfl⟩ ?_
  refine dp_s1 hF (i := .aload_n 0) rfl (fun _ => rfl) ?_
  refine dp_s1 hF (i := .bipush 20) rfl (fun _ => rfl) ?_
  refine dq_na hF (at_ := .int) (p := 134) (t := 1) (N := 20) (M' := dq_288 v) rfl (Or.inl ⟨rfl, rfl⟩) (by decide) rfl (dqn_287 v) rfl rfl ?_
  refine dq_if hF (i := .putfield 73) (c := (dp_t false (dq_288 v) 114 = 12 + 10 ∧ dp_fk 12 29 = 2) ∧ (false = false ∨ dp_K0 ≤ 114)) (cf := (170, [some (.ref 114), some (.int (v 0)), some (.int (v 1)), some (.int (v 2)), some (.int (v 3)), some (.int (v 4)), none], [], dq_289 v)) rfl (fun _ => rfl) ⟨⟨dq_t (dqn_288 v) (by decide), rfl⟩, Or.inl rfl⟩ ?_
  refine dp_s1 hF (i := .aload_n 0) rfl (fun _ => rfl) ?_
  refine dp_s1 hF (i := .bipush 100) rfl (fun _ => rfl) ?_
  refine dq_na hF (at_ := .int) (p := 135) (t := 1) (N := 100) (M' := dq_290 v) rfl (Or.inl ⟨rfl, rfl⟩) (by decide) rfl (dqn_289 v) rfl rfl ?_
  refine dq_if hF (i := .putfield 76) (c := (dp_t false (dq_290 v) 114 = 12 + 10 ∧ dp_fk 12 30 = 2) ∧ (false = false ∨ dp_K0 ≤ 114)) (cf := (178, [some (.ref 114), some (.int (v 0)), some (.int (v 1)), some (.int (v 2)), some (.int (v 3)), some (.int (v 4)), none], [], dq_291 v)) rfl (fun _ => rfl) ⟨⟨dq_t (dqn_290 v) (by decide), rfl⟩, Or.inl rfl⟩ ?_
  refine dp_s1 hF (i := .aload_n 0) rfl (fun _ => rfl) ?_
  refine dp_s1 hF (i := .bipush 100) rfl (fun _ => rfl) ?_
  refine dq_na hF (at_ := .int) (p := 136) (t := 1) (N := 100) (M' := dq_292 v) rfl (Or.inl ⟨rfl, rfl⟩) (by decide) rfl (dqn_291 v) rfl rfl ?_
  refine dq_if hF (i := .putfield 79) (c := (dp_t false (dq_292 v) 114 = 12 + 10 ∧ dp_fk 12 31 = 2) ∧ (false = false ∨ dp_K0 ≤ 114)) (cf := (186, [some (.ref 114), some (.int (v 0)), some (.int (v 1)), some (.int (v 2)), some (.int (v 3)), some (.int (v 4)), none], [], dq_293 v)) rfl (fun _ => rfl) ⟨⟨dq_t (dqn_292 v) (by decide), rfl⟩, Or.inl rfl⟩ ?_
  refine dp_s1 hF (i := .aload_n 0) rfl (fun _ => rfl) ?_
  refine dp_s1 hF (i := .bipush 100) rfl (fun _ => rfl) ?_
  refine dq_na hF (at_ := .int) (p := 137) (t := 1) (N := 100) (M' := dq_294 v) rfl (Or.inl ⟨rfl, rfl⟩) (by decide) rfl (dqn_293 v) rfl rfl ?_
  refine dq_if hF (i := .putfield 82) (c := (dp_t false (dq_294 v) 114 = 12 + 10 ∧ dp_fk 12 32 = 2) ∧ (false = false ∨ dp_K0 ≤ 114)) (cf := (194, [some (.ref 114), some (.int (v 0)), some (.int (v 1)), some (.int (v 2)), some (.int (v 3)), some (.int (v 4)), none], [], dq_295 v)) rfl (fun _ => rfl) ⟨⟨dq_t (dqn_294 v) (by decide), rfl⟩, Or.inl rfl⟩ ?_
  refine dp_s1 hF (i := .aload_n 0) rfl (fun _ => rfl) ?_
  refine dp_s1 hF (i := .bipush 100) rfl (fun _ => rfl) ?_
  refine dq_na hF (at_ := .int) (p := 138) (t := 1) (N := 100) (M' := dq_296 v) rfl (Or.inl ⟨rfl, rfl⟩) (by decide) rfl (dqn_295 v) rfl rfl ?_
  refine dq_if hF (i := .putfield 85) (c := (dp_t false (dq_296 v) 114 = 12 + 10 ∧ dp_fk 12 33 = 2) ∧ (false = false ∨ dp_K0 ≤ 114)) (cf := (202, [some (.ref 114), some (.int (v 0)), some (.int (v 1)), some (.int (v 2)), some (.int (v 3)), some (.int (v 4)), none], [], dq_297 v)) rfl (fun _ => rfl) ⟨⟨dq_t (dqn_296 v) (by decide), rfl⟩, Or.inl rfl⟩ ?_
  refine dp_s1 hF (i := .aload_n 0) rfl (fun _ => rfl) ?_
  refine dp_s1 hF (i := .bipush 100) rfl (fun _ => rfl) ?_
  refine dq_na hF (at_ := .int) (p := 139) (t := 1) (N := 100) (M' := dq_298 v) rfl (Or.inl ⟨rfl, rfl⟩) (by decide) rfl (dqn_297 v) rfl rfl ?_
  refine dq_if hF (i := .putfield 88) (c := (dp_t false (dq_298 v) 114 = 12 + 10 ∧ dp_fk 12 34 = 2) ∧ (false = false ∨ dp_K0 ≤ 114)) (cf := (210, [some (.ref 114), some (.int (v 0)), some (.int (v 1)), some (.int (v 2)), some (.int (v 3)), some (.int (v 4)), none], [], dq_299 v)) rfl (fun _ => rfl) ⟨⟨dq_t (dqn_298 v) (by decide), rfl⟩, Or.inl rfl⟩ ?_
  refine dp_s1 hF (i := .aload_n 0) rfl (fun _ => rfl) ?_
  refine dp_s1 hF (i := .bipush 100) rfl (fun _ => rfl) ?_
  refine dq_na hF (at_ := .int) (p := 140) (t := 1) (N := 100) (M' := dq_300 v) rfl (Or.inl ⟨rfl, rfl⟩) (by decide) rfl (dqn_299 v) rfl rfl ?_
  refine dq_if hF (i := .putfield 91) (c := (dp_t false (dq_300 v) 114 = 12 + 10 ∧ dp_fk 12 35 = 2) ∧ (false = false ∨ dp_K0 ≤ 114)) (cf := (218, [some (.ref 114), some (.int (v 0)), some (.int (v 1)), some (.int (v 2)), some (.int (v 3)), some (.int (v 4)), none], [], dq_301 v)) rfl (fun _ => rfl) ⟨⟨dq_t (dqn_300 v) (by decide), rfl⟩, Or.inl rfl⟩ ?_
  refine dp_s1 hF (i := .aload_n 0) rfl (fun _ => rfl) ?_
  refine dp_s1 hF (i := .bipush 100) rfl (fun _ => rfl) ?_
  refine dq_na hF (at_ := .int) (p := 141) (t := 1) (N := 100) (M' := dq_302 v) rfl (Or.inl ⟨rfl, rfl⟩) (by decide) rfl (dqn_301 v) rfl rfl ?_
  refine dq_if hF (i := .putfield 94) (c := (dp_t false (dq_302 v) 114 = 12 + 10 ∧ dp_fk 12 36 = 2) ∧ (false = false ∨ dp_K0 ≤ 114)) (cf := (226, [some (.ref 114), some (.int (v 0)), some (.int (v 1)), some (.int (v 2)), some (.int (v 3)), some (.int (v 4)), none], [], dq_303 v)) rfl (fun _ => rfl) ⟨⟨dq_t (dqn_302 v) (by decide), rfl⟩, Or.inl rfl⟩ ?_
  refine dp_s1 hF (i := .aload_n 0) rfl (fun _ => rfl) ?_
  refine dp_s1 hF (i := .bipush 100) rfl (fun _ => rfl) ?_
  refine dq_na hF (at_ := .int) (p := 142) (t := 1) (N := 100) (M' := dq_304 v) rfl (Or.inl ⟨rfl, rfl⟩) (by decide) rfl (dqn_303 v) rfl rfl ?_
  refine dq_if hF (i := .putfield 97) (c := (dp_t false (dq_304 v) 114 = 12 + 10 ∧ dp_fk 12 39 = 2) ∧ (false = false ∨ dp_K0 ≤ 114)) (cf := (234, [some (.ref 114), some (.int (v 0)), some (.int (v 1)), some (.int (v 2)), some (.int (v 3)), some (.int (v 4)), none], [], dq_305 v)) rfl (fun _ => rfl) ⟨⟨dq_t (dqn_304 v) (by decide), rfl⟩, Or.inl rfl⟩ ?_
  refine dp_s1 hF (i := .aload_n 0) rfl (fun _ => rfl) ?_
  refine dp_s1 hF (i := .bipush 100) rfl (fun _ => rfl) ?_
  refine dq_na hF (at_ := .int) (p := 143) (t := 1) (N := 100) (M' := dq_306 v) rfl (Or.inl ⟨rfl, rfl⟩) (by decide) rfl (dqn_305 v) rfl rfl ?_
  refine dq_if hF (i := .putfield 100) (c := (dp_t false (dq_306 v) 114 = 12 + 10 ∧ dp_fk 12 40 = 2) ∧ (false = false ∨ dp_K0 ≤ 114)) (cf := (242, [some (.ref 114), some (.int (v 0)), some (.int (v 1)), some (.int (v 2)), some (.int (v 3)), some (.int (v 4)), none], [], dq_307 v)) rfl (fun _ => rfl) ⟨⟨dq_t (dqn_306 v) (by decide), rfl⟩, Or.inl rfl⟩ ?_
  refine dp_s1 hF (i := .aload_n 0) rfl (fun _ => rfl) ?_
  refine dp_s1 hF (i := .bipush 100) rfl (fun _ => rfl) ?_
  refine dq_na hF (at_ := .int) (p := 144) (t := 1) (N := 100) (M' := dq_308 v) rfl (Or.inl ⟨rfl, rfl⟩) (by decide) rfl (dqn_307 v) rfl rfl ?_
  refine dq_if hF (i := .putfield 103) (c := (dp_t false (dq_308 v) 114 = 12 + 10 ∧ dp_fk 12 41 = 2) ∧ (false = false ∨ dp_K0 ≤ 114)) (cf := (250, [some (.ref 114), some (.int (v 0)), some (.int (v 1)), some (.int (v 2)), some (.int (v 3)), some (.int (v 4)), none], [], dq_309 v)) rfl (fun _ => rfl) ⟨⟨dq_t (dqn_308 v) (by decide), rfl⟩, Or.inl rfl⟩ ?_
  refine dp_s1 hF (i := .aload_n 0) rfl (fun _ => rfl) ?_
  refine dp_s1 hF (i := .bipush 100) rfl (fun _ => rfl) ?_
  refine dq_na hF (at_ := .int) (p := 145) (t := 1) (N := 100) (M' := dq_310 v) rfl (Or.inl ⟨rfl, rfl⟩) (by decide) rfl (dqn_309 v) rfl rfl ?_
  refine dq_if hF (i := .putfield 106) (c := (dp_t false (dq_310 v) 114 = 12 + 10 ∧ dp_fk 12 42 = 2) ∧ (false = false ∨ dp_K0 ≤ 114)) (cf := (258, [some (.ref 114), some (.int (v 0)), some (.int (v 1)), some (.int (v 2)), some (.int (v 3)), some (.int (v 4)), none], [], dq_311 v)) rfl (fun _ => rfl) ⟨⟨dq_t (dqn_310 v) (by decide), rfl⟩, Or.inl rfl⟩ ?_
  refine dp_s1 hF (i := .aload_n 0) rfl (fun _ => rfl) ?_
  refine dp_s1 hF (i := .bipush 100) rfl (fun _ => rfl) ?_
  refine dq_na hF (at_ := .int) (p := 146) (t := 1) (N := 100) (M' := dq_312 v) rfl (Or.inl ⟨rfl, rfl⟩) (by decide) rfl (dqn_311 v) rfl rfl ?_
  refine dq_if hF (i := .putfield 109) (c := (dp_t false (dq_312 v) 114 = 12 + 10 ∧ dp_fk 12 43 = 2) ∧ (false = false ∨ dp_K0 ≤ 114)) (cf := (266, [some (.ref 114), some (.int (v 0)), some (.int (v 1)), some (.int (v 2)), some (.int (v 3)), some (.int (v 4)), none], [], dq_313 v)) rfl (fun _ => rfl) ⟨⟨dq_t (dqn_312 v) (by decide), rfl⟩, Or.inl rfl⟩ ?_
  refine dp_s1 hF (i := .aload_n 0) rfl (fun _ => rfl) ?_
  refine dp_s1 hF (i := .sipush 300) rfl (fun _ => rfl) ?_
  refine dq_na hF (at_ := .int) (p := 147) (t := 1) (N := 300) (M' := dq_314 v) rfl (Or.inl ⟨rfl, rfl⟩) (by decide) rfl (dqn_313 v) rfl rfl ?_
  refine dq_if hF (i := .putfield 112) (c := (dp_t false (dq_314 v) 114 = 12 + 10 ∧ dp_fk 12 45 = 2) ∧ (false = false ∨ dp_K0 ≤ 114)) (cf := (275, [some (.ref 114), some (.int (v 0)), some (.int (v 1)), some (.int (v 2)), some (.int (v 3)), some (.int (v 4)), none], [], dq_315 v)) rfl (fun _ => rfl) ⟨⟨dq_t (dqn_314 v) (by decide), rfl⟩, Or.inl rfl⟩ ?_
  refine dp_s1 hF (i := .aload_n 0) rfl (fun _ => rfl) ?_
  refine dp_s1 hF (i := .sipush 300) rfl (fun _ => rfl) ?_
  refine dq_na hF (at_ := .int) (p := 148) (t := 1) (N := 300) (M' := dq_316 v) rfl (Or.inl ⟨rfl, rfl⟩) (by decide) rfl (dqn_315 v) rfl rfl ?_
  refine dq_if hF (i := .putfield 115) (c := (dp_t false (dq_316 v) 114 = 12 + 10 ∧ dp_fk 12 46 = 2) ∧ (false = false ∨ dp_K0 ≤ 114)) (cf := (284, [some (.ref 114), some (.int (v 0)), some (.int (v 1)), some (.int (v 2)), some (.int (v 3)), some (.int (v 4)), none], [], dq_317 v)) rfl (fun _ => rfl) ⟨⟨dq_t (dqn_316 v) (by decide), rfl⟩, Or.inl rfl⟩ ?_
  refine dp_s1 hF (i := .aload_n 0) rfl (fun _ => rfl) ?_
  refine dp_s1 hF (i := .sipush 4000) rfl (fun _ => rfl) ?_
  refine dq_na hF (at_ := .int) (p := 149) (t := 1) (N := 4000) (M' := dq_318 v) rfl (Or.inl ⟨rfl, rfl⟩) (by decide) rfl (dqn_317 v) rfl rfl ?_
  refine dq_if hF (i := .putfield 118) (c := (dp_t false (dq_318 v) 114 = 12 + 10 ∧ dp_fk 12 47 = 2) ∧ (false = false ∨ dp_K0 ≤ 114)) (cf := (293, [some (.ref 114), some (.int (v 0)), some (.int (v 1)), some (.int (v 2)), some (.int (v 3)), some (.int (v 4)), none], [], dq_319 v)) rfl (fun _ => rfl) ⟨⟨dq_t (dqn_318 v) (by decide), rfl⟩, Or.inl rfl⟩ ?_
  refine dp_s1 hF (i := .aload_n 0) rfl (fun _ => rfl) ?_
  refine dp_s1 hF (i := .sipush 4000) rfl (fun _ => rfl) ?_
  refine dq_na hF (at_ := .int) (p := 150) (t := 1) (N := 4000) (M' := dq_320 v) rfl (Or.inl ⟨rfl, rfl⟩) (by decide) rfl (dqn_319 v) rfl rfl ?_
  refine dq_if hF (i := .putfield 121) (c := (dp_t false (dq_320 v) 114 = 12 + 10 ∧ dp_fk 12 48 = 2) ∧ (false = false ∨ dp_K0 ≤ 114)) (cf := (302, [some (.ref 114), some (.int (v 0)), some (.int (v 1)), some (.int (v 2)), some (.int (v 3)), some (.int (v 4)), none], [], dq_321 v)) rfl (fun _ => rfl) ⟨⟨dq_t (dqn_320 v) (by decide), rfl⟩, Or.inl rfl⟩ ?_
  refine dp_s1 hF (i := .aload_n 0) rfl (fun _ => rfl) ?_
  refine dp_s1 hF (i := .iconst 4) rfl (fun _ => rfl) ?_
  refine dq_na hF (at_ := .int) (p := 151) (t := 1) (N := 4) (M' := dq_322 v) rfl (Or.inl ⟨rfl, rfl⟩) (by decide) rfl (dqn_321 v) rfl rfl ?_
  refine dq_if hF (i := .putfield 124) (c := (dp_t false (dq_322 v) 114 = 12 + 10 ∧ dp_fk 12 49 = 2) ∧ (false = false ∨ dp_K0 ≤ 114)) (cf := (309, [some (.ref 114), some (.int (v 0)), some (.int (v 1)), some (.int (v 2)), some (.int (v 3)), some (.int (v 4)), none], [], dq_323 v)) rfl (fun _ => rfl) ⟨⟨dq_t (dqn_322 v) (by decide), rfl⟩, Or.inl rfl⟩ ?_
  refine dp_s1 hF (i := .aload_n 0) rfl (fun _ => rfl) ?_
  refine dp_s1 hF (i := .iconst 4) rfl (fun _ => rfl) ?_
  refine dq_na hF (at_ := .int) (p := 152) (t := 1) (N := 4) (M' := dq_324 v) rfl (Or.inl ⟨rfl, rfl⟩) (by decide) rfl (dqn_323 v) rfl rfl ?_
  refine dq_if hF (i := .putfield 127) (c := (dp_t false (dq_324 v) 114 = 12 + 10 ∧ dp_fk 12 50 = 2) ∧ (false = false ∨ dp_K0 ≤ 114)) (cf := (316, [some (.ref 114), some (.int (v 0)), some (.int (v 1)), some (.int (v 2)), some (.int (v 3)), some (.int (v 4)), none], [], dq_325 v)) rfl (fun _ => rfl) ⟨⟨dq_t (dqn_324 v) (by decide), rfl⟩, Or.inl rfl⟩ ?_
  refine dp_s1 hF (i := .aload_n 0) rfl (fun _ => rfl) ?_
  refine dp_s1 hF (i := .iconst 4) rfl (fun _ => rfl) ?_
  refine dq_na hF (at_ := .int) (p := 153) (t := 1) (N := 4) (M' := dq_326 v) rfl (Or.inl ⟨rfl, rfl⟩) (by decide) rfl (dqn_325 v) rfl rfl ?_
  refine dq_if hF (i := .putfield 130) (c := (dp_t false (dq_326 v) 114 = 12 + 10 ∧ dp_fk 12 51 = 2) ∧ (false = false ∨ dp_K0 ≤ 114)) (cf := (323, [some (.ref 114), some (.int (v 0)), some (.int (v 1)), some (.int (v 2)), some (.int (v 3)), some (.int (v 4)), none], [], dq_327 v)) rfl (fun _ => rfl) ⟨⟨dq_t (dqn_326 v) (by decide), rfl⟩, Or.inl rfl⟩ ?_
  refine dp_s1 hF (i := .aload_n 0) rfl (fun _ => rfl) ?_
  refine dp_s1 hF (i := .bipush 64) rfl (fun _ => rfl) ?_
  refine dq_na hF (at_ := .int) (p := 154) (t := 1) (N := 64) (M' := dq_328 v) rfl (Or.inl ⟨rfl, rfl⟩) (by decide) rfl (dqn_327 v) rfl rfl ?_
  refine dq_if hF (i := .putfield 133) (c := (dp_t false (dq_328 v) 114 = 12 + 10 ∧ dp_fk 12 53 = 2) ∧ (false = false ∨ dp_K0 ≤ 114)) (cf := (331, [some (.ref 114), some (.int (v 0)), some (.int (v 1)), some (.int (v 2)), some (.int (v 3)), some (.int (v 4)), none], [], dq_329 v)) rfl (fun _ => rfl) ⟨⟨dq_t (dqn_328 v) (by decide), rfl⟩, Or.inl rfl⟩ ?_
  refine dp_s1 hF (i := .aload_n 0) rfl (fun _ => rfl) ?_
  refine dp_s1 hF (i := .bipush 8) rfl (fun _ => rfl) ?_
  refine dq_na hF (at_ := .int) (p := 155) (t := 1) (N := 8) (M' := dq_330 v) rfl (Or.inl ⟨rfl, rfl⟩) (by decide) rfl (dqn_329 v) rfl rfl ?_
  refine dq_if hF (i := .putfield 136) (c := (dp_t false (dq_330 v) 114 = 12 + 10 ∧ dp_fk 12 54 = 2) ∧ (false = false ∨ dp_K0 ≤ 114)) (cf := (339, [some (.ref 114), some (.int (v 0)), some (.int (v 1)), some (.int (v 2)), some (.int (v 3)), some (.int (v 4)), none], [], dq_331 v)) rfl (fun _ => rfl) ⟨⟨dq_t (dqn_330 v) (by decide), rfl⟩, Or.inl rfl⟩ ?_
  refine dp_s1 hF (i := .aload_n 0) rfl (fun _ => rfl) ?_
  refine dp_s1 hF (i := .sipush 301) rfl (fun _ => rfl) ?_
  refine dq_na hF (at_ := .int) (p := 156) (t := 1) (N := 301) (M' := dq_332 v) rfl (Or.inl ⟨rfl, rfl⟩) (by decide) rfl (dqn_331 v) rfl rfl ?_
  refine dq_if hF (i := .putfield 139) (c := (dp_t false (dq_332 v) 114 = 12 + 10 ∧ dp_fk 12 56 = 2) ∧ (false = false ∨ dp_K0 ≤ 114)) (cf := (348, [some (.ref 114), some (.int (v 0)), some (.int (v 1)), some (.int (v 2)), some (.int (v 3)), some (.int (v 4)), none], [], dq_333 v)) rfl (fun _ => rfl) ⟨⟨dq_t (dqn_332 v) (by decide), rfl⟩, Or.inl rfl⟩ ?_
  refine dp_s1 hF (i := .aload_n 0) rfl (fun _ => rfl) ?_
  refine dp_s1 hF (i := .sipush 301) rfl (fun _ => rfl) ?_
  refine dq_na hF (at_ := .int) (p := 157) (t := 1) (N := 301) (M' := dq_334 v) rfl (Or.inl ⟨rfl, rfl⟩) (by decide) rfl (dqn_333 v) rfl rfl ?_
  refine dq_if hF (i := .putfield 142) (c := (dp_t false (dq_334 v) 114 = 12 + 10 ∧ dp_fk 12 57 = 2) ∧ (false = false ∨ dp_K0 ≤ 114)) (cf := (357, [some (.ref 114), some (.int (v 0)), some (.int (v 1)), some (.int (v 2)), some (.int (v 3)), some (.int (v 4)), none], [], dq_335 v)) rfl (fun _ => rfl) ⟨⟨dq_t (dqn_334 v) (by decide), rfl⟩, Or.inl rfl⟩ ?_
  refine dp_s1 hF (i := .aload_n 0) rfl (fun _ => rfl) ?_
  refine dp_s1 hF (i := .sipush 301) rfl (fun _ => rfl) ?_
  refine dq_na hF (at_ := .int) (p := 158) (t := 1) (N := 301) (M' := dq_336 v) rfl (Or.inl ⟨rfl, rfl⟩) (by decide) rfl (dqn_335 v) rfl rfl ?_
  refine dq_if hF (i := .putfield 145) (c := (dp_t false (dq_336 v) 114 = 12 + 10 ∧ dp_fk 12 58 = 2) ∧ (false = false ∨ dp_K0 ≤ 114)) (cf := (366, [some (.ref 114), some (.int (v 0)), some (.int (v 1)), some (.int (v 2)), some (.int (v 3)), some (.int (v 4)), none], [], dq_337 v)) rfl (fun _ => rfl) ⟨⟨dq_t (dqn_336 v) (by decide), rfl⟩, Or.inl rfl⟩ ?_
  refine dp_s1 hF (i := .aload_n 0) rfl (fun _ => rfl) ?_
  refine dp_s1 hF (i := .sipush 301) rfl (fun _ => rfl) ?_
  refine dq_na hF (at_ := .int) (p := 159) (t := 1) (N := 301) (M' := dq_338 v) rfl (Or.inl ⟨rfl, rfl⟩) (by decide) rfl (dqn_337 v) rfl rfl ?_
  refine dq_if hF (i := .putfield 148) (c := (dp_t false (dq_338 v) 114 = 12 + 10 ∧ dp_fk 12 59 = 2) ∧ (false = false ∨ dp_K0 ≤ 114)) (cf := (375, [some (.ref 114), some (.int (v 0)), some (.int (v 1)), some (.int (v 2)), some (.int (v 3)), some (.int (v 4)), none], [], dq_339 v)) rfl (fun _ => rfl) ⟨⟨dq_t (dqn_338 v) (by decide), rfl⟩, Or.inl rfl⟩ ?_
  refine dp_s1 hF (i := .aload_n 0) rfl (fun _ => rfl) ?_
  refine dp_s1 hF (i := .sipush 301) rfl (fun _ => rfl) ?_
  refine dq_na hF (at_ := .int) (p := 160) (t := 1) (N := 301) (M' := dq_340 v) rfl (Or.inl ⟨rfl, rfl⟩) (by decide) rfl (dqn_339 v) rfl rfl ?_
  refine dq_if hF (i := .putfield 151) (c := (dp_t false (dq_340 v) 114 = 12 + 10 ∧ dp_fk 12 60 = 2) ∧ (false = false ∨ dp_K0 ≤ 114)) (cf := (384, [some (.ref 114), some (.int (v 0)), some (.int (v 1)), some (.int (v 2)), some (.int (v 3)), some (.int (v 4)), none], [], dq_341 v)) rfl (fun _ => rfl) ⟨⟨dq_t (dqn_340 v) (by decide), rfl⟩, Or.inl rfl⟩ ?_
  refine dp_s1 hF (i := .aload_n 0) rfl (fun _ => rfl) ?_
  refine dp_s1 hF (i := .sipush 301) rfl (fun _ => rfl) ?_
  refine dq_na hF (at_ := .int) (p := 161) (t := 1) (N := 301) (M' := dq_342 v) rfl (Or.inl ⟨rfl, rfl⟩) (by decide) rfl (dqn_341 v) rfl rfl ?_
  refine dq_if hF (i := .putfield 154) (c := (dp_t false (dq_342 v) 114 = 12 + 10 ∧ dp_fk 12 61 = 2) ∧ (false = false ∨ dp_K0 ≤ 114)) (cf := (393, [some (.ref 114), some (.int (v 0)), some (.int (v 1)), some (.int (v 2)), some (.int (v 3)), some (.int (v 4)), none], [], dq_343 v)) rfl (fun _ => rfl) ⟨⟨dq_t (dqn_342 v) (by decide), rfl⟩, Or.inl rfl⟩ ?_
  refine dp_s1 hF (i := .aload_n 0) rfl (fun _ => rfl) ?_
  refine dp_s1 hF (i := .sipush 301) rfl (fun _ => rfl) ?_
  refine dq_na hF (at_ := .int) (p := 162) (t := 1) (N := 301) (M' := dq_344 v) rfl (Or.inl ⟨rfl, rfl⟩) (by decide) rfl (dqn_343 v) rfl rfl ?_
  refine dq_if hF (i := .putfield 157) (c := (dp_t false (dq_344 v) 114 = 12 + 10 ∧ dp_fk 12 62 = 2) ∧ (false = false ∨ dp_K0 ≤ 114)) (cf := (402, [some (.ref 114), some (.int (v 0)), some (.int (v 1)), some (.int (v 2)), some (.int (v 3)), some (.int (v 4)), none], [], dq_345 v)) rfl (fun _ => rfl) ⟨⟨dq_t (dqn_344 v) (by decide), rfl⟩, Or.inl rfl⟩ ?_
  refine dp_s1 hF (i := .aload_n 0) rfl (fun _ => rfl) ?_
  refine dp_s1 hF (i := .sipush 301) rfl (fun _ => rfl) ?_
  refine dq_na hF (at_ := .int) (p := 163) (t := 1) (N := 301) (M' := dq_346 v) rfl (Or.inl ⟨rfl, rfl⟩) (by decide) rfl (dqn_345 v) rfl rfl ?_
  refine dq_if hF (i := .putfield 160) (c := (dp_t false (dq_346 v) 114 = 12 + 10 ∧ dp_fk 12 63 = 2) ∧ (false = false ∨ dp_K0 ≤ 114)) (cf := (411, [some (.ref 114), some (.int (v 0)), some (.int (v 1)), some (.int (v 2)), some (.int (v 3)), some (.int (v 4)), none], [], dq_347 v)) rfl (fun _ => rfl) ⟨⟨dq_t (dqn_346 v) (by decide), rfl⟩, Or.inl rfl⟩ ?_
  refine dp_s1 hF (i := .aload_n 0) rfl (fun _ => rfl) ?_
  refine dp_s1 hF (i := .sipush 301) rfl (fun _ => rfl) ?_
  refine dq_na hF (at_ := .int) (p := 164) (t := 1) (N := 301) (M' := dq_348 v) rfl (Or.inl ⟨rfl, rfl⟩) (by decide) rfl (dqn_347 v) rfl rfl ?_
  refine dq_if hF (i := .putfield 163) (c := (dp_t false (dq_348 v) 114 = 12 + 10 ∧ dp_fk 12 64 = 2) ∧ (false = false ∨ dp_K0 ≤ 114)) (cf := (420, [some (.ref 114), some (.int (v 0)), some (.int (v 1)), some (.int (v 2)), some (.int (v 3)), some (.int (v 4)), none], [], dq_349 v)) rfl (fun _ => rfl) ⟨⟨dq_t (dqn_348 v) (by decide), rfl⟩, Or.inl rfl⟩ ?_
  refine dp_s1 hF (i := .aload_n 0) rfl (fun _ => rfl) ?_
  refine dp_s1 hF (i := .sipush 2408) rfl (fun _ => rfl) ?_
  refine dq_na hF (at_ := .int) (p := 165) (t := 1) (N := 2408) (M' := dq_350 v) rfl (Or.inl ⟨rfl, rfl⟩) (by decide) rfl (dqn_349 v) rfl rfl ?_
  refine dq_if hF (i := .putfield 166) (c := (dp_t false (dq_350 v) 114 = 12 + 10 ∧ dp_fk 12 65 = 2) ∧ (false = false ∨ dp_K0 ≤ 114)) (cf := (429, [some (.ref 114), some (.int (v 0)), some (.int (v 1)), some (.int (v 2)), some (.int (v 3)), some (.int (v 4)), none], [], dq_351 v)) rfl (fun _ => rfl) ⟨⟨dq_t (dqn_350 v) (by decide), rfl⟩, Or.inl rfl⟩ ?_
  refine dp_s1 hF (i := .aload_n 0) rfl (fun _ => rfl) ?_
  refine dp_s1 hF (i := .sipush 2408) rfl (fun _ => rfl) ?_
  refine dq_na hF (at_ := .int) (p := 166) (t := 1) (N := 2408) (M' := dq_352 v) rfl (Or.inl ⟨rfl, rfl⟩) (by decide) rfl (dqn_351 v) rfl rfl ?_
  refine dq_if hF (i := .putfield 169) (c := (dp_t false (dq_352 v) 114 = 12 + 10 ∧ dp_fk 12 66 = 2) ∧ (false = false ∨ dp_K0 ≤ 114)) (cf := (438, [some (.ref 114), some (.int (v 0)), some (.int (v 1)), some (.int (v 2)), some (.int (v 3)), some (.int (v 4)), none], [], dq_353 v)) rfl (fun _ => rfl) ⟨⟨dq_t (dqn_352 v) (by decide), rfl⟩, Or.inl rfl⟩ ?_
  refine dp_s1 hF (i := .aload_n 0) rfl (fun _ => rfl) ?_
  refine dp_s1 hF (i := .sipush 300) rfl (fun _ => rfl) ?_
  refine dq_na hF (at_ := .int) (p := 167) (t := 1) (N := 300) (M' := dq_354 v) rfl (Or.inl ⟨rfl, rfl⟩) (by decide) rfl (dqn_353 v) rfl rfl ?_
  refine dq_if hF (i := .putfield 172) (c := (dp_t false (dq_354 v) 114 = 12 + 10 ∧ dp_fk 12 69 = 2) ∧ (false = false ∨ dp_K0 ≤ 114)) (cf := (447, [some (.ref 114), some (.int (v 0)), some (.int (v 1)), some (.int (v 2)), some (.int (v 3)), some (.int (v 4)), none], [], dq_355 v)) rfl (fun _ => rfl) ⟨⟨dq_t (dqn_354 v) (by decide), rfl⟩, Or.inl rfl⟩ ?_
  refine dp_s1 hF (i := .aload_n 0) rfl (fun _ => rfl) ?_
  refine dp_s1 hF (i := .sipush 300) rfl (fun _ => rfl) ?_
  refine dq_na hF (at_ := .int) (p := 168) (t := 1) (N := 300) (M' := dq_356 v) rfl (Or.inl ⟨rfl, rfl⟩) (by decide) rfl (dqn_355 v) rfl rfl ?_
  refine dq_if hF (i := .putfield 175) (c := (dp_t false (dq_356 v) 114 = 12 + 10 ∧ dp_fk 12 71 = 2) ∧ (false = false ∨ dp_K0 ≤ 114)) (cf := (456, [some (.ref 114), some (.int (v 0)), some (.int (v 1)), some (.int (v 2)), some (.int (v 3)), some (.int (v 4)), none], [], dq_357 v)) rfl (fun _ => rfl) ⟨⟨dq_t (dqn_356 v) (by decide), rfl⟩, Or.inl rfl⟩ ?_
  refine dp_s1 hF (i := .aload_n 0) rfl (fun _ => rfl) ?_
  refine dp_s1 hF (i := .sipush 301) rfl (fun _ => rfl) ?_
  refine dq_na hF (at_ := .boolean) (p := 169) (t := 3) (N := 301) (M' := dq_358 v) rfl (Or.inr (Or.inr (Or.inl ⟨rfl, rfl⟩))) (by decide) rfl (dqn_357 v) rfl rfl ?_
  refine dq_if hF (i := .putfield 178) (c := (dp_t false (dq_358 v) 114 = 12 + 10 ∧ dp_fk 12 73 = 2) ∧ (false = false ∨ dp_K0 ≤ 114)) (cf := (465, [some (.ref 114), some (.int (v 0)), some (.int (v 1)), some (.int (v 2)), some (.int (v 3)), some (.int (v 4)), none], [], dq_359 v)) rfl (fun _ => rfl) ⟨⟨dq_t (dqn_358 v) (by decide), rfl⟩, Or.inl rfl⟩ ?_
  refine dp_s1 hF (i := .aload_n 0) rfl (fun _ => rfl) ?_
  refine dp_s1 hF (i := .sipush 400) rfl (fun _ => rfl) ?_
  refine dq_na hF (at_ := .int) (p := 170) (t := 1) (N := 400) (M' := dq_360 v) rfl (Or.inl ⟨rfl, rfl⟩) (by decide) rfl (dqn_359 v) rfl rfl ?_
  refine dq_if hF (i := .putfield 181) (c := (dp_t false (dq_360 v) 114 = 12 + 10 ∧ dp_fk 12 74 = 2) ∧ (false = false ∨ dp_K0 ≤ 114)) (cf := (474, [some (.ref 114), some (.int (v 0)), some (.int (v 1)), some (.int (v 2)), some (.int (v 3)), some (.int (v 4)), none], [], dq_361 v)) rfl (fun _ => rfl) ⟨⟨dq_t (dqn_360 v) (by decide), rfl⟩, Or.inl rfl⟩ ?_
  refine dp_s1 hF (i := .aload_n 0) rfl (fun _ => rfl) ?_
  refine dp_s1 hF (i := .ldc 184) rfl (fun _ => rfl) ?_
  refine dq_na hF (at_ := .int) (p := 171) (t := 1) (N := 120400) (M' := dq_362 v) rfl (Or.inl ⟨rfl, rfl⟩) (by decide) rfl (dqn_361 v) rfl rfl ?_
  refine dq_if hF (i := .putfield 185) (c := (dp_t false (dq_362 v) 114 = 12 + 10 ∧ dp_fk 12 76 = 2) ∧ (false = false ∨ dp_K0 ≤ 114)) (cf := (482, [some (.ref 114), some (.int (v 0)), some (.int (v 1)), some (.int (v 2)), some (.int (v 3)), some (.int (v 4)), none], [], dq_363 v)) rfl (fun _ => rfl) ⟨⟨dq_t (dqn_362 v) (by decide), rfl⟩, Or.inl rfl⟩ ?_
  refine dp_s1 hF (i := .aload_n 0) rfl (fun _ => rfl) ?_
  refine dp_s1 hF (i := .sipush 301) rfl (fun _ => rfl) ?_
  refine dq_na hF (at_ := .int) (p := 172) (t := 1) (N := 301) (M' := dq_364 v) rfl (Or.inl ⟨rfl, rfl⟩) (by decide) rfl (dqn_363 v) rfl rfl ?_
  refine dq_if hF (i := .putfield 188) (c := (dp_t false (dq_364 v) 114 = 12 + 10 ∧ dp_fk 12 77 = 2) ∧ (false = false ∨ dp_K0 ≤ 114)) (cf := (491, [some (.ref 114), some (.int (v 0)), some (.int (v 1)), some (.int (v 2)), some (.int (v 3)), some (.int (v 4)), none], [], dq_365 v)) rfl (fun _ => rfl) ⟨⟨dq_t (dqn_364 v) (by decide), rfl⟩, Or.inl rfl⟩ ?_
  refine dp_s1 hF (i := .aload_n 0) rfl (fun _ => rfl) ?_
  refine dp_s1 hF (i := .sipush 400) rfl (fun _ => rfl) ?_
  refine dq_na hF (at_ := .int) (p := 173) (t := 1) (N := 400) (M' := dq_366 v) rfl (Or.inl ⟨rfl, rfl⟩) (by decide) rfl (dqn_365 v) rfl rfl ?_
  refine dq_if hF (i := .putfield 191) (c := (dp_t false (dq_366 v) 114 = 12 + 10 ∧ dp_fk 12 78 = 2) ∧ (false = false ∨ dp_K0 ≤ 114)) (cf := (500, [some (.ref 114), some (.int (v 0)), some (.int (v 1)), some (.int (v 2)), some (.int (v 3)), some (.int (v 4)), none], [], dq_367 v)) rfl (fun _ => rfl) ⟨⟨dq_t (dqn_366 v) (by decide), rfl⟩, Or.inl rfl⟩ ?_
  refine dp_s1 hF (i := .aload_n 0) rfl (fun _ => rfl) ?_
  refine dp_s1 hF (i := .bipush 120) rfl (fun _ => rfl) ?_
  refine dq_na hF (at_ := .int) (p := 174) (t := 1) (N := 120) (M' := dq_368 v) rfl (Or.inl ⟨rfl, rfl⟩) (by decide) rfl (dqn_367 v) rfl rfl ?_
  refine dq_if hF (i := .putfield 194) (c := (dp_t false (dq_368 v) 114 = 12 + 10 ∧ dp_fk 12 82 = 2) ∧ (false = false ∨ dp_K0 ≤ 114)) (cf := (508, [some (.ref 114), some (.int (v 0)), some (.int (v 1)), some (.int (v 2)), some (.int (v 3)), some (.int (v 4)), none], [], dq_369 v)) rfl (fun _ => rfl) ⟨⟨dq_t (dqn_368 v) (by decide), rfl⟩, Or.inl rfl⟩ ?_
  refine dp_s1 hF (i := .aload_n 0) rfl (fun _ => rfl) ?_
  refine dp_s1 hF (i := .bipush 120) rfl (fun _ => rfl) ?_
  refine dq_na hF (at_ := .int) (p := 175) (t := 1) (N := 120) (M' := dq_370 v) rfl (Or.inl ⟨rfl, rfl⟩) (by decide) rfl (dqn_369 v) rfl rfl ?_
  refine dq_if hF (i := .putfield 197) (c := (dp_t false (dq_370 v) 114 = 12 + 10 ∧ dp_fk 12 83 = 2) ∧ (false = false ∨ dp_K0 ≤ 114)) (cf := (516, [some (.ref 114), some (.int (v 0)), some (.int (v 1)), some (.int (v 2)), some (.int (v 3)), some (.int (v 4)), none], [], dq_371 v)) rfl (fun _ => rfl) ⟨⟨dq_t (dqn_370 v) (by decide), rfl⟩, Or.inl rfl⟩ ?_
  refine dp_s1 hF (i := .aload_n 0) rfl (fun _ => rfl) ?_
  refine dp_s1 hF (i := .bipush 120) rfl (fun _ => rfl) ?_
  refine dq_na hF (at_ := .int) (p := 176) (t := 1) (N := 120) (M' := dq_372 v) rfl (Or.inl ⟨rfl, rfl⟩) (by decide) rfl (dqn_371 v) rfl rfl ?_
  refine dq_if hF (i := .putfield 200) (c := (dp_t false (dq_372 v) 114 = 12 + 10 ∧ dp_fk 12 84 = 2) ∧ (false = false ∨ dp_K0 ≤ 114)) (cf := (524, [some (.ref 114), some (.int (v 0)), some (.int (v 1)), some (.int (v 2)), some (.int (v 3)), some (.int (v 4)), none], [], dq_373 v)) rfl (fun _ => rfl) ⟨⟨dq_t (dqn_372 v) (by decide), rfl⟩, Or.inl rfl⟩ ?_
  refine dp_s1 hF (i := .aload_n 0) rfl (fun _ => rfl) ?_
  refine dp_s1 hF (i := .bipush 120) rfl (fun _ => rfl) ?_
  refine dq_na hF (at_ := .int) (p := 177) (t := 1) (N := 120) (M' := dq_374 v) rfl (Or.inl ⟨rfl, rfl⟩) (by decide) rfl (dqn_373 v) rfl rfl ?_
  refine dq_if hF (i := .putfield 203) (c := (dp_t false (dq_374 v) 114 = 12 + 10 ∧ dp_fk 12 85 = 2) ∧ (false = false ∨ dp_K0 ≤ 114)) (cf := (532, [some (.ref 114), some (.int (v 0)), some (.int (v 1)), some (.int (v 2)), some (.int (v 3)), some (.int (v 4)), none], [], dq_375 v)) rfl (fun _ => rfl) ⟨⟨dq_t (dqn_374 v) (by decide), rfl⟩, Or.inl rfl⟩ ?_
  refine dp_s1 hF (i := .aload_n 0) rfl (fun _ => rfl) ?_
  refine dp_s1 hF (i := .bipush 120) rfl (fun _ => rfl) ?_
  refine dq_na hF (at_ := .int) (p := 178) (t := 1) (N := 120) (M' := dq_376 v) rfl (Or.inl ⟨rfl, rfl⟩) (by decide) rfl (dqn_375 v) rfl rfl ?_
  refine dq_if hF (i := .putfield 206) (c := (dp_t false (dq_376 v) 114 = 12 + 10 ∧ dp_fk 12 86 = 2) ∧ (false = false ∨ dp_K0 ≤ 114)) (cf := (540, [some (.ref 114), some (.int (v 0)), some (.int (v 1)), some (.int (v 2)), some (.int (v 3)), some (.int (v 4)), none], [], dq_377 v)) rfl (fun _ => rfl) ⟨⟨dq_t (dqn_376 v) (by decide), rfl⟩, Or.inl rfl⟩ ?_
  refine dp_s1 hF (i := .aload_n 0) rfl (fun _ => rfl) ?_
  refine dp_s1 hF (i := .bipush 120) rfl (fun _ => rfl) ?_
  refine dq_na hF (at_ := .int) (p := 179) (t := 1) (N := 120) (M' := dq_378 v) rfl (Or.inl ⟨rfl, rfl⟩) (by decide) rfl (dqn_377 v) rfl rfl ?_
  refine dq_if hF (i := .putfield 209) (c := (dp_t false (dq_378 v) 114 = 12 + 10 ∧ dp_fk 12 87 = 2) ∧ (false = false ∨ dp_K0 ≤ 114)) (cf := (548, [some (.ref 114), some (.int (v 0)), some (.int (v 1)), some (.int (v 2)), some (.int (v 3)), some (.int (v 4)), none], [], dq_379 v)) rfl (fun _ => rfl) ⟨⟨dq_t (dqn_378 v) (by decide), rfl⟩, Or.inl rfl⟩ ?_
  refine dp_s1 hF (i := .aload_n 0) rfl (fun _ => rfl) ?_
  refine dp_s1 hF (i := .sipush 720) rfl (fun _ => rfl) ?_
  refine dq_na hF (at_ := .int) (p := 180) (t := 1) (N := 720) (M' := dq_380 v) rfl (Or.inl ⟨rfl, rfl⟩) (by decide) rfl (dqn_379 v) rfl rfl ?_
  refine dq_if hF (i := .putfield 212) (c := (dp_t false (dq_380 v) 114 = 12 + 10 ∧ dp_fk 12 88 = 2) ∧ (false = false ∨ dp_K0 ≤ 114)) (cf := (557, [some (.ref 114), some (.int (v 0)), some (.int (v 1)), some (.int (v 2)), some (.int (v 3)), some (.int (v 4)), none], [], dq_381 v)) rfl (fun _ => rfl) ⟨⟨dq_t (dqn_380 v) (by decide), rfl⟩, Or.inl rfl⟩ ?_
  refine dp_s1 hF (i := .aload_n 0) rfl (fun _ => rfl) ?_
  refine dp_s1 hF (i := .sipush 720) rfl (fun _ => rfl) ?_
  refine dq_na hF (at_ := .int) (p := 181) (t := 1) (N := 720) (M' := dq_382 v) rfl (Or.inl ⟨rfl, rfl⟩) (by decide) rfl (dqn_381 v) rfl rfl ?_
  refine dq_if hF (i := .putfield 215) (c := (dp_t false (dq_382 v) 114 = 12 + 10 ∧ dp_fk 12 89 = 2) ∧ (false = false ∨ dp_K0 ≤ 114)) (cf := (566, [some (.ref 114), some (.int (v 0)), some (.int (v 1)), some (.int (v 2)), some (.int (v 3)), some (.int (v 4)), none], [], dq_383 v)) rfl (fun _ => rfl) ⟨⟨dq_t (dqn_382 v) (by decide), rfl⟩, Or.inl rfl⟩ ?_
  refine dp_s1 hF (i := .aload_n 0) rfl (fun _ => rfl) ?_
  refine dp_s1 hF (i := .bipush 14) rfl (fun _ => rfl) ?_
  refine dq_na hF (at_ := .int) (p := 182) (t := 1) (N := 14) (M' := dq_384 v) rfl (Or.inl ⟨rfl, rfl⟩) (by decide) rfl (dqn_383 v) rfl rfl ?_
  refine dq_if hF (i := .putfield 218) (c := (dp_t false (dq_384 v) 114 = 12 + 10 ∧ dp_fk 12 93 = 2) ∧ (false = false ∨ dp_K0 ≤ 114)) (cf := (574, [some (.ref 114), some (.int (v 0)), some (.int (v 1)), some (.int (v 2)), some (.int (v 3)), some (.int (v 4)), none], [], dq_385 v)) rfl (fun _ => rfl) ⟨⟨dq_t (dqn_384 v) (by decide), rfl⟩, Or.inl rfl⟩ ?_
  refine dp_s1 hF (i := .aload_n 0) rfl (fun _ => rfl) ?_
  refine dp_s1 hF (i := .bipush 14) rfl (fun _ => rfl) ?_
  refine dq_na hF (at_ := .int) (p := 183) (t := 1) (N := 14) (M' := dq_386 v) rfl (Or.inl ⟨rfl, rfl⟩) (by decide) rfl (dqn_385 v) rfl rfl ?_
  refine dq_if hF (i := .putfield 221) (c := (dp_t false (dq_386 v) 114 = 12 + 10 ∧ dp_fk 12 94 = 2) ∧ (false = false ∨ dp_K0 ≤ 114)) (cf := (582, [some (.ref 114), some (.int (v 0)), some (.int (v 1)), some (.int (v 2)), some (.int (v 3)), some (.int (v 4)), none], [], dq_387 v)) rfl (fun _ => rfl) ⟨⟨dq_t (dqn_386 v) (by decide), rfl⟩, Or.inl rfl⟩ ?_
  refine dp_s1 hF (i := .aload_n 0) rfl (fun _ => rfl) ?_
  refine dp_s1 hF (i := .bipush 14) rfl (fun _ => rfl) ?_
  refine dq_na hF (at_ := .int) (p := 184) (t := 1) (N := 14) (M' := dq_388 v) rfl (Or.inl ⟨rfl, rfl⟩) (by decide) rfl (dqn_387 v) rfl rfl ?_
  refine dq_if hF (i := .putfield 224) (c := (dp_t false (dq_388 v) 114 = 12 + 10 ∧ dp_fk 12 95 = 2) ∧ (false = false ∨ dp_K0 ≤ 114)) (cf := (590, [some (.ref 114), some (.int (v 0)), some (.int (v 1)), some (.int (v 2)), some (.int (v 3)), some (.int (v 4)), none], [], dq_389 v)) rfl (fun _ => rfl) ⟨⟨dq_t (dqn_388 v) (by decide), rfl⟩, Or.inl rfl⟩ ?_
  refine dp_s1 hF (i := .aload_n 0) rfl (fun _ => rfl) ?_
  refine dp_s1 hF (i := .bipush 14) rfl (fun _ => rfl) ?_
  refine dq_na hF (at_ := .int) (p := 185) (t := 1) (N := 14) (M' := dq_390 v) rfl (Or.inl ⟨rfl, rfl⟩) (by decide) rfl (dqn_389 v) rfl rfl ?_
  refine dq_if hF (i := .putfield 227) (c := (dp_t false (dq_390 v) 114 = 12 + 10 ∧ dp_fk 12 96 = 2) ∧ (false = false ∨ dp_K0 ≤ 114)) (cf := (598, [some (.ref 114), some (.int (v 0)), some (.int (v 1)), some (.int (v 2)), some (.int (v 3)), some (.int (v 4)), none], [], dq_391 v)) rfl (fun _ => rfl) ⟨⟨dq_t (dqn_390 v) (by decide), rfl⟩, Or.inl rfl⟩ ?_
  refine dp_s1 hF (i := .aload_n 0) rfl (fun _ => rfl) ?_
  refine dp_s1 hF (i := .sipush 400) rfl (fun _ => rfl) ?_
  refine dq_na hF (at_ := .int) (p := 186) (t := 1) (N := 400) (M' := dq_392 v) rfl (Or.inl ⟨rfl, rfl⟩) (by decide) rfl (dqn_391 v) rfl rfl ?_
  refine dq_if hF (i := .putfield 230) (c := (dp_t false (dq_392 v) 114 = 12 + 10 ∧ dp_fk 12 98 = 2) ∧ (false = false ∨ dp_K0 ≤ 114)) (cf := (607, [some (.ref 114), some (.int (v 0)), some (.int (v 1)), some (.int (v 2)), some (.int (v 3)), some (.int (v 4)), none], [], dq_393 v)) rfl (fun _ => rfl) ⟨⟨dq_t (dqn_392 v) (by decide), rfl⟩, Or.inl rfl⟩ ?_
  refine dp_s1 hF (i := .aload_n 0) rfl (fun _ => rfl) ?_
  refine dp_s1 hF (i := .bipush 60) rfl (fun _ => rfl) ?_
  refine dq_na hF (at_ := .int) (p := 187) (t := 1) (N := 60) (M' := dq_394 v) rfl (Or.inl ⟨rfl, rfl⟩) (by decide) rfl (dqn_393 v) rfl rfl ?_
  refine dq_if hF (i := .putfield 233) (c := (dp_t false (dq_394 v) 114 = 12 + 10 ∧ dp_fk 12 99 = 2) ∧ (false = false ∨ dp_K0 ≤ 114)) (cf := (615, [some (.ref 114), some (.int (v 0)), some (.int (v 1)), some (.int (v 2)), some (.int (v 3)), some (.int (v 4)), none], [], dq_395 v)) rfl (fun _ => rfl) ⟨⟨dq_t (dqn_394 v) (by decide), rfl⟩, Or.inl rfl⟩ ?_
  refine dp_s1 hF (i := .aload_n 0) rfl (fun _ => rfl) ?_
  refine dp_s1 hF (i := .bipush 8) rfl (fun _ => rfl) ?_
  refine dq_na hF (at_ := .long) (p := 188) (t := 2) (N := 8) (M' := dq_396 v) rfl (Or.inr (Or.inl ⟨rfl, rfl⟩)) (by decide) rfl (dqn_395 v) rfl rfl ?_
  refine dq_if hF (i := .putfield 236) (c := (dp_t false (dq_396 v) 114 = 12 + 10 ∧ dp_fk 12 101 = 2) ∧ (false = false ∨ dp_K0 ≤ 114)) (cf := (623, [some (.ref 114), some (.int (v 0)), some (.int (v 1)), some (.int (v 2)), some (.int (v 3)), some (.int (v 4)), none], [], dq_397 v)) rfl (fun _ => rfl) ⟨⟨dq_t (dqn_396 v) (by decide), rfl⟩, Or.inl rfl⟩ ?_
  refine dp_s1 hF (i := .aload_n 0) rfl (fun _ => rfl) ?_
  refine dp_s1 hF (i := .bipush 60) rfl (fun _ => rfl) ?_
  refine dq_na hF (at_ := .long) (p := 189) (t := 2) (N := 60) (M' := dq_398 v) rfl (Or.inr (Or.inl ⟨rfl, rfl⟩)) (by decide) rfl (dqn_397 v) rfl rfl ?_
  refine dq_if hF (i := .putfield 239) (c := (dp_t false (dq_398 v) 114 = 12 + 10 ∧ dp_fk 12 102 = 2) ∧ (false = false ∨ dp_K0 ≤ 114)) (cf := (631, [some (.ref 114), some (.int (v 0)), some (.int (v 1)), some (.int (v 2)), some (.int (v 3)), some (.int (v 4)), none], [], dq_399 v)) rfl (fun _ => rfl) ⟨⟨dq_t (dqn_398 v) (by decide), rfl⟩, Or.inl rfl⟩ ?_
  refine dp_s1 hF (i := .aload_n 0) rfl (fun _ => rfl) ?_
  refine dp_s1 hF (i := .sipush 4000) rfl (fun _ => rfl) ?_
  refine dq_na hF (at_ := .int) (p := 190) (t := 1) (N := 4000) (M' := dq_400 v) rfl (Or.inl ⟨rfl, rfl⟩) (by decide) rfl (dqn_399 v) rfl rfl ?_
  refine dq_if hF (i := .putfield 242) (c := (dp_t false (dq_400 v) 114 = 12 + 10 ∧ dp_fk 12 103 = 2) ∧ (false = false ∨ dp_K0 ≤ 114)) (cf := (640, [some (.ref 114), some (.int (v 0)), some (.int (v 1)), some (.int (v 2)), some (.int (v 3)), some (.int (v 4)), none], [], dq_401 v)) rfl (fun _ => rfl) ⟨⟨dq_t (dqn_400 v) (by decide), rfl⟩, Or.inl rfl⟩ ?_
  refine dp_s1 hF (i := .aload_n 0) rfl (fun _ => rfl) ?_
  refine dp_s1 hF (i := .bipush 16) rfl (fun _ => rfl) ?_
  refine dq_na hF (at_ := .long) (p := 191) (t := 2) (N := 16) (M' := dq_402 v) rfl (Or.inr (Or.inl ⟨rfl, rfl⟩)) (by decide) rfl (dqn_401 v) rfl rfl ?_
  refine dq_if hF (i := .putfield 245) (c := (dp_t false (dq_402 v) 114 = 12 + 10 ∧ dp_fk 12 106 = 2) ∧ (false = false ∨ dp_K0 ≤ 114)) (cf := (648, [some (.ref 114), some (.int (v 0)), some (.int (v 1)), some (.int (v 2)), some (.int (v 3)), some (.int (v 4)), none], [], dq_403 v)) rfl (fun _ => rfl) ⟨⟨dq_t (dqn_402 v) (by decide), rfl⟩, Or.inl rfl⟩ ?_
  refine dp_s1 hF (i := .aload_n 0) rfl (fun _ => rfl) ?_
  refine dp_s1 hF (i := .bipush 16) rfl (fun _ => rfl) ?_
  refine dq_na hF (at_ := .int) (p := 192) (t := 1) (N := 16) (M' := dq_404 v) rfl (Or.inl ⟨rfl, rfl⟩) (by decide) rfl (dqn_403 v) rfl rfl ?_
  refine dq_if hF (i := .putfield 248) (c := (dp_t false (dq_404 v) 114 = 12 + 10 ∧ dp_fk 12 107 = 2) ∧ (false = false ∨ dp_K0 ≤ 114)) (cf := (656, [some (.ref 114), some (.int (v 0)), some (.int (v 1)), some (.int (v 2)), some (.int (v 3)), some (.int (v 4)), none], [], dq_405 v)) rfl (fun _ => rfl) ⟨⟨dq_t (dqn_404 v) (by decide), rfl⟩, Or.inl rfl⟩ ?_
  refine dp_s1 hF (i := .aload_n 0) rfl (fun _ => rfl) ?_
  refine dp_s1 hF (i := .bipush 16) rfl (fun _ => rfl) ?_
  refine dq_na hF (at_ := .int) (p := 193) (t := 1) (N := 16) (M' := dq_406 v) rfl (Or.inl ⟨rfl, rfl⟩) (by decide) rfl (dqn_405 v) rfl rfl ?_
  refine dq_if hF (i := .putfield 251) (c := (dp_t false (dq_406 v) 114 = 12 + 10 ∧ dp_fk 12 108 = 2) ∧ (false = false ∨ dp_K0 ≤ 114)) (cf := (664, [some (.ref 114), some (.int (v 0)), some (.int (v 1)), some (.int (v 2)), some (.int (v 3)), some (.int (v 4)), none], [], dq_407 v)) rfl (fun _ => rfl) ⟨⟨dq_t (dqn_406 v) (by decide), rfl⟩, Or.inl rfl⟩ ?_
  refine dp_s1 hF (i := .aload_n 0) rfl (fun _ => rfl) ?_
  refine dp_s1 hF (i := .bipush 16) rfl (fun _ => rfl) ?_
  refine dq_na hF (at_ := .int) (p := 194) (t := 1) (N := 16) (M' := dq_408 v) rfl (Or.inl ⟨rfl, rfl⟩) (by decide) rfl (dqn_407 v) rfl rfl ?_
  refine dq_if hF (i := .putfield 254) (c := (dp_t false (dq_408 v) 114 = 12 + 10 ∧ dp_fk 12 109 = 2) ∧ (false = false ∨ dp_K0 ≤ 114)) (cf := (672, [some (.ref 114), some (.int (v 0)), some (.int (v 1)), some (.int (v 2)), some (.int (v 3)), some (.int (v 4)), none], [], dq_409 v)) rfl (fun _ => rfl) ⟨⟨dq_t (dqn_408 v) (by decide), rfl⟩, Or.inl rfl⟩ ?_
  refine dp_s1 hF (i := .aload_n 0) rfl (fun _ => rfl) ?_
  refine dp_s1 hF (i := .sipush 6416) rfl (fun _ => rfl) ?_
  refine dq_na hF (at_ := .boolean) (p := 195) (t := 3) (N := 6416) (M' := dq_410 v) rfl (Or.inr (Or.inr (Or.inl ⟨rfl, rfl⟩))) (by decide) rfl (dqn_409 v) rfl rfl ?_
  refine dq_if hF (i := .putfield 257) (c := (dp_t false (dq_410 v) 114 = 12 + 10 ∧ dp_fk 12 110 = 2) ∧ (false = false ∨ dp_K0 ≤ 114)) (cf := (681, [some (.ref 114), some (.int (v 0)), some (.int (v 1)), some (.int (v 2)), some (.int (v 3)), some (.int (v 4)), none], [], dq_411 v)) rfl (fun _ => rfl) ⟨⟨dq_t (dqn_410 v) (by decide), rfl⟩, Or.inl rfl⟩ ?_
  refine dp_s1 hF (i := .aload_n 0) rfl (fun _ => rfl) ?_
  refine dp_s1 hF (i := .sipush 400) rfl (fun _ => rfl) ?_
  refine dq_na hF (at_ := .int) (p := 196) (t := 1) (N := 400) (M' := dq_412 v) rfl (Or.inl ⟨rfl, rfl⟩) (by decide) rfl (dqn_411 v) rfl rfl ?_
  refine dq_if hF (i := .putfield 260) (c := (dp_t false (dq_412 v) 114 = 12 + 10 ∧ dp_fk 12 112 = 2) ∧ (false = false ∨ dp_K0 ≤ 114)) (cf := (690, [some (.ref 114), some (.int (v 0)), some (.int (v 1)), some (.int (v 2)), some (.int (v 3)), some (.int (v 4)), none], [], dq_413 v)) rfl (fun _ => rfl) ⟨⟨dq_t (dqn_412 v) (by decide), rfl⟩, Or.inl rfl⟩ ?_
  refine dp_s1 hF (i := .aload_n 0) rfl (fun _ => rfl) ?_
  refine dp_s1 hF (i := .sipush 400) rfl (fun _ => rfl) ?_
  refine dq_na hF (at_ := .int) (p := 197) (t := 1) (N := 400) (M' := dq_414 v) rfl (Or.inl ⟨rfl, rfl⟩) (by decide) rfl (dqn_413 v) rfl rfl ?_
  refine dq_if hF (i := .putfield 263) (c := (dp_t false (dq_414 v) 114 = 12 + 10 ∧ dp_fk 12 113 = 2) ∧ (false = false ∨ dp_K0 ≤ 114)) (cf := (699, [some (.ref 114), some (.int (v 0)), some (.int (v 1)), some (.int (v 2)), some (.int (v 3)), some (.int (v 4)), none], [], dq_415 v)) rfl (fun _ => rfl) ⟨⟨dq_t (dqn_414 v) (by decide), rfl⟩, Or.inl rfl⟩ ?_
  refine dp_s1 hF (i := .aload_n 0) rfl (fun _ => rfl) ?_
  refine dp_s1 hF (i := .sipush 400) rfl (fun _ => rfl) ?_
  refine dq_na hF (at_ := .long) (p := 198) (t := 2) (N := 400) (M' := dq_416 v) rfl (Or.inr (Or.inl ⟨rfl, rfl⟩)) (by decide) rfl (dqn_415 v) rfl rfl ?_
  refine dq_if hF (i := .putfield 266) (c := (dp_t false (dq_416 v) 114 = 12 + 10 ∧ dp_fk 12 114 = 2) ∧ (false = false ∨ dp_K0 ≤ 114)) (cf := (708, [some (.ref 114), some (.int (v 0)), some (.int (v 1)), some (.int (v 2)), some (.int (v 3)), some (.int (v 4)), none], [], dq_417 v)) rfl (fun _ => rfl) ⟨⟨dq_t (dqn_416 v) (by decide), rfl⟩, Or.inl rfl⟩ ?_
  refine dp_s1 hF (i := .aload_n 0) rfl (fun _ => rfl) ?_
  refine dp_s1 hF (i := .sipush 400) rfl (fun _ => rfl) ?_
  refine dq_na hF (at_ := .int) (p := 199) (t := 1) (N := 400) (M' := dq_418 v) rfl (Or.inl ⟨rfl, rfl⟩) (by decide) rfl (dqn_417 v) rfl rfl ?_
  refine dq_if hF (i := .putfield 269) (c := (dp_t false (dq_418 v) 114 = 12 + 10 ∧ dp_fk 12 115 = 2) ∧ (false = false ∨ dp_K0 ≤ 114)) (cf := (717, [some (.ref 114), some (.int (v 0)), some (.int (v 1)), some (.int (v 2)), some (.int (v 3)), some (.int (v 4)), none], [], dq_419 v)) rfl (fun _ => rfl) ⟨⟨dq_t (dqn_418 v) (by decide), rfl⟩, Or.inl rfl⟩ ?_
  refine dp_s1 hF (i := .aload_n 0) rfl (fun _ => rfl) ?_
  refine dp_s1 hF (i := .sipush 400) rfl (fun _ => rfl) ?_
  refine dq_na hF (at_ := .long) (p := 200) (t := 2) (N := 400) (M' := dq_420 v) rfl (Or.inr (Or.inl ⟨rfl, rfl⟩)) (by decide) rfl (dqn_419 v) rfl rfl ?_
  refine dq_if hF (i := .putfield 272) (c := (dp_t false (dq_420 v) 114 = 12 + 10 ∧ dp_fk 12 116 = 2) ∧ (false = false ∨ dp_K0 ≤ 114)) (cf := (726, [some (.ref 114), some (.int (v 0)), some (.int (v 1)), some (.int (v 2)), some (.int (v 3)), some (.int (v 4)), none], [], dq_421 v)) rfl (fun _ => rfl) ⟨⟨dq_t (dqn_420 v) (by decide), rfl⟩, Or.inl rfl⟩ ?_
  refine dp_s1 hF (i := .aload_n 0) rfl (fun _ => rfl) ?_
  refine dp_s1 hF (i := .sipush 400) rfl (fun _ => rfl) ?_
  refine dq_na hF (at_ := .long) (p := 201) (t := 2) (N := 400) (M' := dq_422 v) rfl (Or.inr (Or.inl ⟨rfl, rfl⟩)) (by decide) rfl (dqn_421 v) rfl rfl ?_
  refine dq_if hF (i := .putfield 275) (c := (dp_t false (dq_422 v) 114 = 12 + 10 ∧ dp_fk 12 117 = 2) ∧ (false = false ∨ dp_K0 ≤ 114)) (cf := (735, [some (.ref 114), some (.int (v 0)), some (.int (v 1)), some (.int (v 2)), some (.int (v 3)), some (.int (v 4)), none], [], dq_423 v)) rfl (fun _ => rfl) ⟨⟨dq_t (dqn_422 v) (by decide), rfl⟩, Or.inl rfl⟩ ?_
  refine dp_s1 hF (i := .aload_n 0) rfl (fun _ => rfl) ?_
  refine dp_s1 hF (i := .bipush 41) rfl (fun _ => rfl) ?_
  refine dq_na hF (at_ := .int) (p := 202) (t := 1) (N := 41) (M' := dq_424 v) rfl (Or.inl ⟨rfl, rfl⟩) (by decide) rfl (dqn_423 v) rfl rfl ?_
  refine dq_if hF (i := .putfield 278) (c := (dp_t false (dq_424 v) 114 = 12 + 10 ∧ dp_fk 12 121 = 2) ∧ (false = false ∨ dp_K0 ≤ 114)) (cf := (743, [some (.ref 114), some (.int (v 0)), some (.int (v 1)), some (.int (v 2)), some (.int (v 3)), some (.int (v 4)), none], [], dq_425 v)) rfl (fun _ => rfl) ⟨⟨dq_t (dqn_424 v) (by decide), rfl⟩, Or.inl rfl⟩ ?_
  refine dp_s1 hF (i := .aload_n 0) rfl (fun _ => rfl) ?_
  refine dp_s1 hF (i := .bipush 41) rfl (fun _ => rfl) ?_
  refine dq_na hF (at_ := .long) (p := 203) (t := 2) (N := 41) (M' := dq_426 v) rfl (Or.inr (Or.inl ⟨rfl, rfl⟩)) (by decide) rfl (dqn_425 v) rfl rfl ?_
  refine dq_if hF (i := .putfield 281) (c := (dp_t false (dq_426 v) 114 = 12 + 10 ∧ dp_fk 12 122 = 2) ∧ (false = false ∨ dp_K0 ≤ 114)) (cf := (751, [some (.ref 114), some (.int (v 0)), some (.int (v 1)), some (.int (v 2)), some (.int (v 3)), some (.int (v 4)), none], [], dq_427 v)) rfl (fun _ => rfl) ⟨⟨dq_t (dqn_426 v) (by decide), rfl⟩, Or.inl rfl⟩ ?_
  refine dp_s1 hF (i := .aload_n 0) rfl (fun _ => rfl) ?_
  refine dp_s1 hF (i := .bipush 41) rfl (fun _ => rfl) ?_
  refine dq_na hF (at_ := .int) (p := 204) (t := 1) (N := 41) (M' := dq_428 v) rfl (Or.inl ⟨rfl, rfl⟩) (by decide) rfl (dqn_427 v) rfl rfl ?_
  refine dq_if hF (i := .putfield 284) (c := (dp_t false (dq_428 v) 114 = 12 + 10 ∧ dp_fk 12 123 = 2) ∧ (false = false ∨ dp_K0 ≤ 114)) (cf := (759, [some (.ref 114), some (.int (v 0)), some (.int (v 1)), some (.int (v 2)), some (.int (v 3)), some (.int (v 4)), none], [], dq_429 v)) rfl (fun _ => rfl) ⟨⟨dq_t (dqn_428 v) (by decide), rfl⟩, Or.inl rfl⟩ ?_
  refine dp_s1 hF (i := .aload_n 0) rfl (fun _ => rfl) ?_
  refine dp_s1 hF (i := .bipush 41) rfl (fun _ => rfl) ?_
  refine dq_na hF (at_ := .int) (p := 205) (t := 1) (N := 41) (M' := dq_430 v) rfl (Or.inl ⟨rfl, rfl⟩) (by decide) rfl (dqn_429 v) rfl rfl ?_
  refine dq_if hF (i := .putfield 287) (c := (dp_t false (dq_430 v) 114 = 12 + 10 ∧ dp_fk 12 124 = 2) ∧ (false = false ∨ dp_K0 ≤ 114)) (cf := (767, [some (.ref 114), some (.int (v 0)), some (.int (v 1)), some (.int (v 2)), some (.int (v 3)), some (.int (v 4)), none], [], dq_431 v)) rfl (fun _ => rfl) ⟨⟨dq_t (dqn_430 v) (by decide), rfl⟩, Or.inl rfl⟩ ?_
  refine dp_s1 hF (i := .aload_n 0) rfl (fun _ => rfl) ?_
  refine dp_s1 hF (i := .bipush 41) rfl (fun _ => rfl) ?_
  refine dq_na hF (at_ := .boolean) (p := 206) (t := 3) (N := 41) (M' := dq_432 v) rfl (Or.inr (Or.inr (Or.inl ⟨rfl, rfl⟩))) (by decide) rfl (dqn_431 v) rfl rfl ?_
  refine dq_if hF (i := .putfield 290) (c := (dp_t false (dq_432 v) 114 = 12 + 10 ∧ dp_fk 12 125 = 2) ∧ (false = false ∨ dp_K0 ≤ 114)) (cf := (775, [some (.ref 114), some (.int (v 0)), some (.int (v 1)), some (.int (v 2)), some (.int (v 3)), some (.int (v 4)), none], [], dq_433 v)) rfl (fun _ => rfl) ⟨⟨dq_t (dqn_432 v) (by decide), rfl⟩, Or.inl rfl⟩ ?_
  refine dp_s1 hF (i := .aload_n 0) rfl (fun _ => rfl) ?_
  refine dp_s1 hF (i := .bipush 41) rfl (fun _ => rfl) ?_
  refine dq_na hF (at_ := .int) (p := 207) (t := 1) (N := 41) (M' := dq_434 v) rfl (Or.inl ⟨rfl, rfl⟩) (by decide) rfl (dqn_433 v) rfl rfl ?_
  refine dq_if hF (i := .putfield 293) (c := (dp_t false (dq_434 v) 114 = 12 + 10 ∧ dp_fk 12 126 = 2) ∧ (false = false ∨ dp_K0 ≤ 114)) (cf := (783, [some (.ref 114), some (.int (v 0)), some (.int (v 1)), some (.int (v 2)), some (.int (v 3)), some (.int (v 4)), none], [], dq_435 v)) rfl (fun _ => rfl) ⟨⟨dq_t (dqn_434 v) (by decide), rfl⟩, Or.inl rfl⟩ ?_
  refine dp_s1 hF (i := .aload_n 0) rfl (fun _ => rfl) ?_
  refine dp_s1 hF (i := .bipush 41) rfl (fun _ => rfl) ?_
  refine dq_na hF (at_ := .boolean) (p := 208) (t := 3) (N := 41) (M' := dq_436 v) rfl (Or.inr (Or.inr (Or.inl ⟨rfl, rfl⟩))) (by decide) rfl (dqn_435 v) rfl rfl ?_
  refine dq_if hF (i := .putfield 296) (c := (dp_t false (dq_436 v) 114 = 12 + 10 ∧ dp_fk 12 127 = 2) ∧ (false = false ∨ dp_K0 ≤ 114)) (cf := (791, [some (.ref 114), some (.int (v 0)), some (.int (v 1)), some (.int (v 2)), some (.int (v 3)), some (.int (v 4)), none], [], dq_437 v)) rfl (fun _ => rfl) ⟨⟨dq_t (dqn_436 v) (by decide), rfl⟩, Or.inl rfl⟩ ?_
  refine dp_s1 hF (i := .aload_n 0) rfl (fun _ => rfl) ?_
  refine dp_s1 hF (i := .bipush 41) rfl (fun _ => rfl) ?_
  refine dq_na hF (at_ := .int) (p := 209) (t := 1) (N := 41) (M' := dq_438 v) rfl (Or.inl ⟨rfl, rfl⟩) (by decide) rfl (dqn_437 v) rfl rfl ?_
  refine dq_if hF (i := .putfield 299) (c := (dp_t false (dq_438 v) 114 = 12 + 10 ∧ dp_fk 12 128 = 2) ∧ (false = false ∨ dp_K0 ≤ 114)) (cf := (799, [some (.ref 114), some (.int (v 0)), some (.int (v 1)), some (.int (v 2)), some (.int (v 3)), some (.int (v 4)), none], [], dq_439 v)) rfl (fun _ => rfl) ⟨⟨dq_t (dqn_438 v) (by decide), rfl⟩, Or.inl rfl⟩ ?_
  refine dp_s1 hF (i := .aload_n 0) rfl (fun _ => rfl) ?_
  refine dp_s1 hF (i := .bipush 41) rfl (fun _ => rfl) ?_
  refine dq_na hF (at_ := .long) (p := 210) (t := 2) (N := 41) (M' := dq_440 v) rfl (Or.inr (Or.inl ⟨rfl, rfl⟩)) (by decide) rfl (dqn_439 v) rfl rfl ?_
  refine dq_if hF (i := .putfield 302) (c := (dp_t false (dq_440 v) 114 = 12 + 10 ∧ dp_fk 12 129 = 2) ∧ (false = false ∨ dp_K0 ≤ 114)) (cf := (807, [some (.ref 114), some (.int (v 0)), some (.int (v 1)), some (.int (v 2)), some (.int (v 3)), some (.int (v 4)), none], [], dq_441 v)) rfl (fun _ => rfl) ⟨⟨dq_t (dqn_440 v) (by decide), rfl⟩, Or.inl rfl⟩ ?_
  refine dp_s1 hF (i := .aload_n 0) rfl (fun _ => rfl) ?_
  refine dp_s1 hF (i := .bipush 41) rfl (fun _ => rfl) ?_
  refine dq_na hF (at_ := .long) (p := 211) (t := 2) (N := 41) (M' := dq_442 v) rfl (Or.inr (Or.inl ⟨rfl, rfl⟩)) (by decide) rfl (dqn_441 v) rfl rfl ?_
  refine dq_if hF (i := .putfield 305) (c := (dp_t false (dq_442 v) 114 = 12 + 10 ∧ dp_fk 12 130 = 2) ∧ (false = false ∨ dp_K0 ≤ 114)) (cf := (815, [some (.ref 114), some (.int (v 0)), some (.int (v 1)), some (.int (v 2)), some (.int (v 3)), some (.int (v 4)), none], [], dq_443 v)) rfl (fun _ => rfl) ⟨⟨dq_t (dqn_442 v) (by decide), rfl⟩, Or.inl rfl⟩ ?_
  refine dp_s1 hF (i := .aload_n 0) rfl (fun _ => rfl) ?_
  refine dp_s1 hF (i := .bipush 41) rfl (fun _ => rfl) ?_
  refine dq_na hF (at_ := .int) (p := 212) (t := 1) (N := 41) (M' := dq_444 v) rfl (Or.inl ⟨rfl, rfl⟩) (by decide) rfl (dqn_443 v) rfl rfl ?_
  refine dq_if hF (i := .putfield 308) (c := (dp_t false (dq_444 v) 114 = 12 + 10 ∧ dp_fk 12 131 = 2) ∧ (false = false ∨ dp_K0 ≤ 114)) (cf := (823, [some (.ref 114), some (.int (v 0)), some (.int (v 1)), some (.int (v 2)), some (.int (v 3)), some (.int (v 4)), none], [], dq_445 v)) rfl (fun _ => rfl) ⟨⟨dq_t (dqn_444 v) (by decide), rfl⟩, Or.inl rfl⟩ ?_
  refine dp_s1 hF (i := .aload_n 0) rfl (fun _ => rfl) ?_
  refine dp_s1 hF (i := .bipush 40) rfl (fun _ => rfl) ?_
  refine dq_na hF (at_ := .int) (p := 213) (t := 1) (N := 40) (M' := dq_446 v) rfl (Or.inl ⟨rfl, rfl⟩) (by decide) rfl (dqn_445 v) rfl rfl ?_
  refine dq_if hF (i := .putfield 311) (c := (dp_t false (dq_446 v) 114 = 12 + 10 ∧ dp_fk 12 132 = 2) ∧ (false = false ∨ dp_K0 ≤ 114)) (cf := (831, [some (.ref 114), some (.int (v 0)), some (.int (v 1)), some (.int (v 2)), some (.int (v 3)), some (.int (v 4)), none], [], dq_447 v)) rfl (fun _ => rfl) ⟨⟨dq_t (dqn_446 v) (by decide), rfl⟩, Or.inl rfl⟩ ?_
  refine dp_s1 hF (i := .aload_n 0) rfl (fun _ => rfl) ?_
  refine dp_s1 hF (i := .sipush 402) rfl (fun _ => rfl) ?_
  refine dq_na hF (at_ := .int) (p := 214) (t := 1) (N := 402) (M' := dq_448 v) rfl (Or.inl ⟨rfl, rfl⟩) (by decide) rfl (dqn_447 v) rfl rfl ?_
  refine dq_if hF (i := .putfield 314) (c := (dp_t false (dq_448 v) 114 = 12 + 10 ∧ dp_fk 12 134 = 2) ∧ (false = false ∨ dp_K0 ≤ 114)) (cf := (840, [some (.ref 114), some (.int (v 0)), some (.int (v 1)), some (.int (v 2)), some (.int (v 3)), some (.int (v 4)), none], [], dq_449 v)) rfl (fun _ => rfl) ⟨⟨dq_t (dqn_448 v) (by decide), rfl⟩, Or.inl rfl⟩ ?_
  refine dp_s1 hF (i := .aload_n 0) rfl (fun _ => rfl) ?_
  refine dp_s1 hF (i := .sipush 402) rfl (fun _ => rfl) ?_
  refine dq_na hF (at_ := .int) (p := 215) (t := 1) (N := 402) (M' := dq_450 v) rfl (Or.inl ⟨rfl, rfl⟩) (by decide) rfl (dqn_449 v) rfl rfl ?_
  refine dq_if hF (i := .putfield 317) (c := (dp_t false (dq_450 v) 114 = 12 + 10 ∧ dp_fk 12 135 = 2) ∧ (false = false ∨ dp_K0 ≤ 114)) (cf := (849, [some (.ref 114), some (.int (v 0)), some (.int (v 1)), some (.int (v 2)), some (.int (v 3)), some (.int (v 4)), none], [], dq_451 v)) rfl (fun _ => rfl) ⟨⟨dq_t (dqn_450 v) (by decide), rfl⟩, Or.inl rfl⟩ ?_
  refine dp_s1 hF (i := .aload_n 0) rfl (fun _ => rfl) ?_
  refine dp_s1 hF (i := .sipush 402) rfl (fun _ => rfl) ?_
  refine dq_na hF (at_ := .int) (p := 216) (t := 1) (N := 402) (M' := dq_452 v) rfl (Or.inl ⟨rfl, rfl⟩) (by decide) rfl (dqn_451 v) rfl rfl ?_
  refine dq_if hF (i := .putfield 320) (c := (dp_t false (dq_452 v) 114 = 12 + 10 ∧ dp_fk 12 136 = 2) ∧ (false = false ∨ dp_K0 ≤ 114)) (cf := (858, [some (.ref 114), some (.int (v 0)), some (.int (v 1)), some (.int (v 2)), some (.int (v 3)), some (.int (v 4)), none], [], dq_453 v)) rfl (fun _ => rfl) ⟨⟨dq_t (dqn_452 v) (by decide), rfl⟩, Or.inl rfl⟩ ?_
  refine dp_s1 hF (i := .aload_n 0) rfl (fun _ => rfl) ?_
  refine dp_s1 hF (i := .sipush 1608) rfl (fun _ => rfl) ?_
  refine dq_na hF (at_ := .int) (p := 217) (t := 1) (N := 1608) (M' := dq_454 v) rfl (Or.inl ⟨rfl, rfl⟩) (by decide) rfl (dqn_453 v) rfl rfl ?_
  refine dq_if hF (i := .putfield 323) (c := (dp_t false (dq_454 v) 114 = 12 + 10 ∧ dp_fk 12 137 = 2) ∧ (false = false ∨ dp_K0 ≤ 114)) (cf := (867, [some (.ref 114), some (.int (v 0)), some (.int (v 1)), some (.int (v 2)), some (.int (v 3)), some (.int (v 4)), none], [], dq_455 v)) rfl (fun _ => rfl) ⟨⟨dq_t (dqn_454 v) (by decide), rfl⟩, Or.inl rfl⟩ ?_
  refine dp_s1 hF (i := .aload_n 0) rfl (fun _ => rfl) ?_
  refine dp_s1 hF (i := .sipush 1608) rfl (fun _ => rfl) ?_
  refine dq_na hF (at_ := .long) (p := 218) (t := 2) (N := 1608) (M' := dq_456 v) rfl (Or.inr (Or.inl ⟨rfl, rfl⟩)) (by decide) rfl (dqn_455 v) rfl rfl ?_
  refine dq_if hF (i := .putfield 326) (c := (dp_t false (dq_456 v) 114 = 12 + 10 ∧ dp_fk 12 138 = 2) ∧ (false = false ∨ dp_K0 ≤ 114)) (cf := (876, [some (.ref 114), some (.int (v 0)), some (.int (v 1)), some (.int (v 2)), some (.int (v 3)), some (.int (v 4)), none], [], dq_457 v)) rfl (fun _ => rfl) ⟨⟨dq_t (dqn_456 v) (by decide), rfl⟩, Or.inl rfl⟩ ?_
  refine dp_s1 hF (i := .aload_n 0) rfl (fun _ => rfl) ?_
  refine dp_s1 hF (i := .iconst 4) rfl (fun _ => rfl) ?_
  refine dq_na hF (at_ := .boolean) (p := 219) (t := 3) (N := 4) (M' := dq_458 v) rfl (Or.inr (Or.inr (Or.inl ⟨rfl, rfl⟩))) (by decide) rfl (dqn_457 v) rfl rfl ?_
  refine dq_if hF (i := .putfield 329) (c := (dp_t false (dq_458 v) 114 = 12 + 10 ∧ dp_fk 12 139 = 2) ∧ (false = false ∨ dp_K0 ≤ 114)) (cf := (883, [some (.ref 114), some (.int (v 0)), some (.int (v 1)), some (.int (v 2)), some (.int (v 3)), some (.int (v 4)), none], [], dq_459 v)) rfl (fun _ => rfl) ⟨⟨dq_t (dqn_458 v) (by decide), rfl⟩, Or.inl rfl⟩ ?_
  refine dp_s1 hF (i := .aload_n 0) rfl (fun _ => rfl) ?_
  refine dp_s1 hF (i := .iconst 4) rfl (fun _ => rfl) ?_
  refine dq_na hF (at_ := .int) (p := 220) (t := 1) (N := 4) (M' := dq_460 v) rfl (Or.inl ⟨rfl, rfl⟩) (by decide) rfl (dqn_459 v) rfl rfl ?_
  refine dq_if hF (i := .putfield 332) (c := (dp_t false (dq_460 v) 114 = 12 + 10 ∧ dp_fk 12 140 = 2) ∧ (false = false ∨ dp_K0 ≤ 114)) (cf := (890, [some (.ref 114), some (.int (v 0)), some (.int (v 1)), some (.int (v 2)), some (.int (v 3)), some (.int (v 4)), none], [], dq_461 v)) rfl (fun _ => rfl) ⟨⟨dq_t (dqn_460 v) (by decide), rfl⟩, Or.inl rfl⟩ ?_
  refine dp_s1 hF (i := .aload_n 0) rfl (fun _ => rfl) ?_
  refine dp_s1 hF (i := .iconst (-1)) rfl (fun _ => rfl) ?_
  refine dq_if hF (i := .putfield 335) (c := dp_t false (dq_461 v) 114 = 12 + 10 ∧ dp_fk 12 143 = 0) (cf := (895, [some (.ref 114), some (.int (v 0)), some (.int (v 1)), some (.int (v 2)), some (.int (v 3)), some (.int (v 4)), none], [], dq_462 v)) rfl (fun _ => rfl) ⟨dq_t (dqn_461 v) (by decide), rfl⟩ ?_
  refine dp_s1 hF (i := .aload_n 0) rfl (fun _ => rfl) ?_
  refine dp_s1 hF (i := .iconst (-1)) rfl (fun _ => rfl) ?_
  refine dq_if hF (i := .putfield 338) (c := dp_t false (dq_462 v) 114 = 12 + 10 ∧ dp_fk 12 144 = 0) (cf := (900, [some (.ref 114), some (.int (v 0)), some (.int (v 1)), some (.int (v 2)), some (.int (v 3)), some (.int (v 4)), none], [], dq_463 v)) rfl (fun _ => rfl) ⟨dq_t (dqn_462 v) (by decide), rfl⟩ ?_
  refine dp_s1 hF (i := .aload_n 0) rfl (fun _ => rfl) ?_
  refine dp_s1 hF (i := .iconst (-1)) rfl (fun _ => rfl) ?_
  refine dq_if hF (i := .putfield 341) (c := dp_t false (dq_463 v) 114 = 12 + 10 ∧ dp_fk 12 146 = 0) (cf := (905, [some (.ref 114), some (.int (v 0)), some (.int (v 1)), some (.int (v 2)), some (.int (v 3)), some (.int (v 4)), none], [], dq_464 v)) rfl (fun _ => rfl) ⟨dq_t (dqn_463 v) (by decide), rfl⟩ ?_
  refine dp_s1 hF (i := .aload_n 0) rfl (fun _ => rfl) ?_
  refine dp_s1 hF (i := .sipush 801) rfl (fun _ => rfl) ?_
  refine dq_na hF (at_ := .int) (p := 221) (t := 1) (N := 801) (M' := dq_465 v) rfl (Or.inl ⟨rfl, rfl⟩) (by decide) rfl (dqn_464 v) rfl rfl ?_
  refine dq_if hF (i := .putfield 344) (c := (dp_t false (dq_465 v) 114 = 12 + 10 ∧ dp_fk 12 148 = 2) ∧ (false = false ∨ dp_K0 ≤ 114)) (cf := (914, [some (.ref 114), some (.int (v 0)), some (.int (v 1)), some (.int (v 2)), some (.int (v 3)), some (.int (v 4)), none], [], dq_466 v)) rfl (fun _ => rfl) ⟨⟨dq_t (dqn_465 v) (by decide), rfl⟩, Or.inl rfl⟩ ?_
  refine dp_s1 hF (i := .aload_n 0) rfl (fun _ => rfl) ?_
  refine dp_s1 hF (i := .sipush 801) rfl (fun _ => rfl) ?_
  refine dq_na hF (at_ := .int) (p := 222) (t := 1) (N := 801) (M' := dq_467 v) rfl (Or.inl ⟨rfl, rfl⟩) (by decide) rfl (dqn_466 v) rfl rfl ?_
  refine dq_if hF (i := .putfield 347) (c := (dp_t false (dq_467 v) 114 = 12 + 10 ∧ dp_fk 12 149 = 2) ∧ (false = false ∨ dp_K0 ≤ 114)) (cf := (923, [some (.ref 114), some (.int (v 0)), some (.int (v 1)), some (.int (v 2)), some (.int (v 3)), some (.int (v 4)), none], [], dq_468 v)) rfl (fun _ => rfl) ⟨⟨dq_t (dqn_467 v) (by decide), rfl⟩, Or.inl rfl⟩ ?_
  refine dp_s1 hF (i := .aload_n 0) rfl (fun _ => rfl) ?_
  refine dp_s1 hF (i := .sipush 801) rfl (fun _ => rfl) ?_
  refine dq_na hF (at_ := .int) (p := 223) (t := 1) (N := 801) (M' := dq_469 v) rfl (Or.inl ⟨rfl, rfl⟩) (by decide) rfl (dqn_468 v) rfl rfl ?_
  refine dq_if hF (i := .putfield 350) (c := (dp_t false (dq_469 v) 114 = 12 + 10 ∧ dp_fk 12 150 = 2) ∧ (false = false ∨ dp_K0 ≤ 114)) (cf := (932, [some (.ref 114), some (.int (v 0)), some (.int (v 1)), some (.int (v 2)), some (.int (v 3)), some (.int (v 4)), none], [], dq_470 v)) rfl (fun _ => rfl) ⟨⟨dq_t (dqn_469 v) (by decide), rfl⟩, Or.inl rfl⟩ ?_
  refine dp_s1 hF (i := .aload_n 0) rfl (fun _ => rfl) ?_
  refine dp_s1 hF (i := .sipush 801) rfl (fun _ => rfl) ?_
  refine dq_na hF (at_ := .int) (p := 224) (t := 1) (N := 801) (M' := dq_471 v) rfl (Or.inl ⟨rfl, rfl⟩) (by decide) rfl (dqn_470 v) rfl rfl ?_
  refine dq_if hF (i := .putfield 353) (c := (dp_t false (dq_471 v) 114 = 12 + 10 ∧ dp_fk 12 151 = 2) ∧ (false = false ∨ dp_K0 ≤ 114)) (cf := (941, [some (.ref 114), some (.int (v 0)), some (.int (v 1)), some (.int (v 2)), some (.int (v 3)), some (.int (v 4)), none], [], dq_472 v)) rfl (fun _ => rfl) ⟨⟨dq_t (dqn_471 v) (by decide), rfl⟩, Or.inl rfl⟩ ?_
  refine dp_s1 hF (i := .aload_n 0) rfl (fun _ => rfl) ?_
  refine dp_s1 hF (i := .sipush 801) rfl (fun _ => rfl) ?_
  refine dq_na hF (at_ := .int) (p := 225) (t := 1) (N := 801) (M' := dq_473 v) rfl (Or.inl ⟨rfl, rfl⟩) (by decide) rfl (dqn_472 v) rfl rfl ?_
  refine dq_if hF (i := .putfield 356) (c := (dp_t false (dq_473 v) 114 = 12 + 10 ∧ dp_fk 12 152 = 2) ∧ (false = false ∨ dp_K0 ≤ 114)) (cf := (950, [some (.ref 114), some (.int (v 0)), some (.int (v 1)), some (.int (v 2)), some (.int (v 3)), some (.int (v 4)), none], [], dq_474 v)) rfl (fun _ => rfl) ⟨⟨dq_t (dqn_473 v) (by decide), rfl⟩, Or.inl rfl⟩ ?_
  refine dp_s1 hF (i := .aload_n 0) rfl (fun _ => rfl) ?_
  refine dp_s1 hF (i := .sipush 801) rfl (fun _ => rfl) ?_
  refine dq_na hF (at_ := .boolean) (p := 226) (t := 3) (N := 801) (M' := dq_475 v) rfl (Or.inr (Or.inr (Or.inl ⟨rfl, rfl⟩))) (by decide) rfl (dqn_474 v) rfl rfl ?_
  refine dq_if hF (i := .putfield 359) (c := (dp_t false (dq_475 v) 114 = 12 + 10 ∧ dp_fk 12 153 = 2) ∧ (false = false ∨ dp_K0 ≤ 114)) (cf := (959, [some (.ref 114), some (.int (v 0)), some (.int (v 1)), some (.int (v 2)), some (.int (v 3)), some (.int (v 4)), none], [], dq_476 v)) rfl (fun _ => rfl) ⟨⟨dq_t (dqn_475 v) (by decide), rfl⟩, Or.inl rfl⟩ ?_
  refine dp_s1 hF (i := .aload_n 0) rfl (fun _ => rfl) ?_
  refine dp_s1 hF (i := .sipush 801) rfl (fun _ => rfl) ?_
  refine dq_na hF (at_ := .int) (p := 227) (t := 1) (N := 801) (M' := dq_477 v) rfl (Or.inl ⟨rfl, rfl⟩) (by decide) rfl (dqn_476 v) rfl rfl ?_
  refine dq_if hF (i := .putfield 362) (c := (dp_t false (dq_477 v) 114 = 12 + 10 ∧ dp_fk 12 154 = 2) ∧ (false = false ∨ dp_K0 ≤ 114)) (cf := (968, [some (.ref 114), some (.int (v 0)), some (.int (v 1)), some (.int (v 2)), some (.int (v 3)), some (.int (v 4)), none], [], dq_478 v)) rfl (fun _ => rfl) ⟨⟨dq_t (dqn_477 v) (by decide), rfl⟩, Or.inl rfl⟩ ?_
  refine dp_s1 hF (i := .aload_n 0) rfl (fun _ => rfl) ?_
  refine dp_s1 hF (i := .sipush 16020) rfl (fun _ => rfl) ?_
  refine dq_na hF (at_ := .int) (p := 228) (t := 1) (N := 16020) (M' := dq_479 v) rfl (Or.inl ⟨rfl, rfl⟩) (by decide) rfl (dqn_478 v) rfl rfl ?_
  refine dq_if hF (i := .putfield 365) (c := (dp_t false (dq_479 v) 114 = 12 + 10 ∧ dp_fk 12 155 = 2) ∧ (false = false ∨ dp_K0 ≤ 114)) (cf := (977, [some (.ref 114), some (.int (v 0)), some (.int (v 1)), some (.int (v 2)), some (.int (v 3)), some (.int (v 4)), none], [], dq_480 v)) rfl (fun _ => rfl) ⟨⟨dq_t (dqn_479 v) (by decide), rfl⟩, Or.inl rfl⟩ ?_
  refine dp_s1 hF (i := .aload_n 0) rfl (fun _ => rfl) ?_
  refine dp_s1 hF (i := .sipush 16020) rfl (fun _ => rfl) ?_
  refine dq_na hF (at_ := .long) (p := 229) (t := 2) (N := 16020) (M' := dq_481 v) rfl (Or.inr (Or.inl ⟨rfl, rfl⟩)) (by decide) rfl (dqn_480 v) rfl rfl ?_
  refine dq_if hF (i := .putfield 368) (c := (dp_t false (dq_481 v) 114 = 12 + 10 ∧ dp_fk 12 156 = 2) ∧ (false = false ∨ dp_K0 ≤ 114)) (cf := (986, [some (.ref 114), some (.int (v 0)), some (.int (v 1)), some (.int (v 2)), some (.int (v 3)), some (.int (v 4)), none], [], dq_482 v)) rfl (fun _ => rfl) ⟨⟨dq_t (dqn_481 v) (by decide), rfl⟩, Or.inl rfl⟩ ?_
  refine dp_s1 hF (i := .aload_n 0) rfl (fun _ => rfl) ?_
  refine dp_s1 hF (i := .sipush 4000) rfl (fun _ => rfl) ?_
  refine dq_na hF (at_ := .int) (p := 230) (t := 1) (N := 4000) (M' := dq_483 v) rfl (Or.inl ⟨rfl, rfl⟩) (by decide) rfl (dqn_482 v) rfl rfl ?_
  refine dq_if hF (i := .putfield 371) (c := (dp_t false (dq_483 v) 114 = 12 + 10 ∧ dp_fk 12 157 = 2) ∧ (false = false ∨ dp_K0 ≤ 114)) (cf := (995, [some (.ref 114), some (.int (v 0)), some (.int (v 1)), some (.int (v 2)), some (.int (v 3)), some (.int (v 4)), none], [], dq_484 v)) rfl (fun _ => rfl) ⟨⟨dq_t (dqn_483 v) (by decide), rfl⟩, Or.inl rfl⟩ ?_
  refine dp_s1 hF (i := .aload_n 0) rfl (fun _ => rfl) ?_
  refine dp_s1 hF (i := .bipush 16) rfl (fun _ => rfl) ?_
  refine dq_na hF (at_ := .int) (p := 231) (t := 1) (N := 16) (M' := dq_485 v) rfl (Or.inl ⟨rfl, rfl⟩) (by decide) rfl (dqn_484 v) rfl rfl ?_
  refine dq_if hF (i := .putfield 374) (c := (dp_t false (dq_485 v) 114 = 12 + 10 ∧ dp_fk 12 158 = 2) ∧ (false = false ∨ dp_K0 ≤ 114)) (cf := (1003, [some (.ref 114), some (.int (v 0)), some (.int (v 1)), some (.int (v 2)), some (.int (v 3)), some (.int (v 4)), none], [], dq_486 v)) rfl (fun _ => rfl) ⟨⟨dq_t (dqn_485 v) (by decide), rfl⟩, Or.inl rfl⟩ ?_
  refine dp_s1 hF (i := .aload_n 0) rfl (fun _ => rfl) ?_
  refine dp_s1 hF (i := .iconst 4) rfl (fun _ => rfl) ?_
  refine dq_na hF (at_ := .int) (p := 232) (t := 1) (N := 4) (M' := dq_487 v) rfl (Or.inl ⟨rfl, rfl⟩) (by decide) rfl (dqn_486 v) rfl rfl ?_
  refine dq_if hF (i := .putfield 377) (c := (dp_t false (dq_487 v) 114 = 12 + 10 ∧ dp_fk 12 159 = 2) ∧ (false = false ∨ dp_K0 ≤ 114)) (cf := (1010, [some (.ref 114), some (.int (v 0)), some (.int (v 1)), some (.int (v 2)), some (.int (v 3)), some (.int (v 4)), none], [], dq_488 v)) rfl (fun _ => rfl) ⟨⟨dq_t (dqn_487 v) (by decide), rfl⟩, Or.inl rfl⟩ ?_
  refine dp_s1 hF (i := .aload_n 0) rfl (fun _ => rfl) ?_
  refine dp_s1 hF (i := .sipush 400) rfl (fun _ => rfl) ?_
  refine dq_na hF (at_ := .int) (p := 233) (t := 1) (N := 400) (M' := dq_489 v) rfl (Or.inl ⟨rfl, rfl⟩) (by decide) rfl (dqn_488 v) rfl rfl ?_
  refine dq_if hF (i := .putfield 380) (c := (dp_t false (dq_489 v) 114 = 12 + 10 ∧ dp_fk 12 161 = 2) ∧ (false = false ∨ dp_K0 ≤ 114)) (cf := (1019, [some (.ref 114), some (.int (v 0)), some (.int (v 1)), some (.int (v 2)), some (.int (v 3)), some (.int (v 4)), none], [], dq_490 v)) rfl (fun _ => rfl) ⟨⟨dq_t (dqn_489 v) (by decide), rfl⟩, Or.inl rfl⟩ ?_
  refine dp_s1 hF (i := .aload_n 0) rfl (fun _ => rfl) ?_
  refine dp_s1 hF (i := .sipush 400) rfl (fun _ => rfl) ?_
  refine dq_na hF (at_ := .int) (p := 234) (t := 1) (N := 400) (M' := dq_491 v) rfl (Or.inl ⟨rfl, rfl⟩) (by decide) rfl (dqn_490 v) rfl rfl ?_
  refine dq_if hF (i := .putfield 383) (c := (dp_t false (dq_491 v) 114 = 12 + 10 ∧ dp_fk 12 162 = 2) ∧ (false = false ∨ dp_K0 ≤ 114)) (cf := (1028, [some (.ref 114), some (.int (v 0)), some (.int (v 1)), some (.int (v 2)), some (.int (v 3)), some (.int (v 4)), none], [], dq_492 v)) rfl (fun _ => rfl) ⟨⟨dq_t (dqn_491 v) (by decide), rfl⟩, Or.inl rfl⟩ ?_
  refine dp_s1 hF (i := .aload_n 0) rfl (fun _ => rfl) ?_
  refine dp_s1 hF (i := .sipush 400) rfl (fun _ => rfl) ?_
  refine dq_na hF (at_ := .int) (p := 235) (t := 1) (N := 400) (M' := dq_493 v) rfl (Or.inl ⟨rfl, rfl⟩) (by decide) rfl (dqn_492 v) rfl rfl ?_
  refine dq_if hF (i := .putfield 386) (c := (dp_t false (dq_493 v) 114 = 12 + 10 ∧ dp_fk 12 163 = 2) ∧ (false = false ∨ dp_K0 ≤ 114)) (cf := (1037, [some (.ref 114), some (.int (v 0)), some (.int (v 1)), some (.int (v 2)), some (.int (v 3)), some (.int (v 4)), none], [], dq_494 v)) rfl (fun _ => rfl) ⟨⟨dq_t (dqn_493 v) (by decide), rfl⟩, Or.inl rfl⟩ ?_
  refine dp_s1 hF (i := .aload_n 0) rfl (fun _ => rfl) ?_
  refine dp_s1 hF (i := .sipush 400) rfl (fun _ => rfl) ?_
  refine dq_na hF (at_ := .int) (p := 236) (t := 1) (N := 400) (M' := dq_495 v) rfl (Or.inl ⟨rfl, rfl⟩) (by decide) rfl (dqn_494 v) rfl rfl ?_
  refine dq_if hF (i := .putfield 389) (c := (dp_t false (dq_495 v) 114 = 12 + 10 ∧ dp_fk 12 164 = 2) ∧ (false = false ∨ dp_K0 ≤ 114)) (cf := (1046, [some (.ref 114), some (.int (v 0)), some (.int (v 1)), some (.int (v 2)), some (.int (v 3)), some (.int (v 4)), none], [], dq_496 v)) rfl (fun _ => rfl) ⟨⟨dq_t (dqn_495 v) (by decide), rfl⟩, Or.inl rfl⟩ ?_
  refine dp_s1 hF (i := .aload_n 0) rfl (fun _ => rfl) ?_
  refine dp_s1 hF (i := .sipush 400) rfl (fun _ => rfl) ?_
  refine dq_na hF (at_ := .int) (p := 237) (t := 1) (N := 400) (M' := dq_497 v) rfl (Or.inl ⟨rfl, rfl⟩) (by decide) rfl (dqn_496 v) rfl rfl ?_
  refine dq_if hF (i := .putfield 392) (c := (dp_t false (dq_497 v) 114 = 12 + 10 ∧ dp_fk 12 165 = 2) ∧ (false = false ∨ dp_K0 ≤ 114)) (cf := (1055, [some (.ref 114), some (.int (v 0)), some (.int (v 1)), some (.int (v 2)), some (.int (v 3)), some (.int (v 4)), none], [], dq_498 v)) rfl (fun _ => rfl) ⟨⟨dq_t (dqn_497 v) (by decide), rfl⟩, Or.inl rfl⟩ ?_
  refine dp_s1 hF (i := .aload_n 0) rfl (fun _ => rfl) ?_
  refine dp_s1 hF (i := .sipush 400) rfl (fun _ => rfl) ?_
  refine dq_na hF (at_ := .int) (p := 238) (t := 1) (N := 400) (M' := dq_499 v) rfl (Or.inl ⟨rfl, rfl⟩) (by decide) rfl (dqn_498 v) rfl rfl ?_
  refine dq_if hF (i := .putfield 395) (c := (dp_t false (dq_499 v) 114 = 12 + 10 ∧ dp_fk 12 166 = 2) ∧ (false = false ∨ dp_K0 ≤ 114)) (cf := (1064, [some (.ref 114), some (.int (v 0)), some (.int (v 1)), some (.int (v 2)), some (.int (v 3)), some (.int (v 4)), none], [], dq_500 v)) rfl (fun _ => rfl) ⟨⟨dq_t (dqn_499 v) (by decide), rfl⟩, Or.inl rfl⟩ ?_
  refine dp_s1 hF (i := .aload_n 0) rfl (fun _ => rfl) ?_
  refine dp_s1 hF (i := .sipush 400) rfl (fun _ => rfl) ?_
  refine dq_na hF (at_ := .long) (p := 239) (t := 2) (N := 400) (M' := dq_501 v) rfl (Or.inr (Or.inl ⟨rfl, rfl⟩)) (by decide) rfl (dqn_500 v) rfl rfl ?_
  refine dq_if hF (i := .putfield 398) (c := (dp_t false (dq_501 v) 114 = 12 + 10 ∧ dp_fk 12 167 = 2) ∧ (false = false ∨ dp_K0 ≤ 114)) (cf := (1073, [some (.ref 114), some (.int (v 0)), some (.int (v 1)), some (.int (v 2)), some (.int (v 3)), some (.int (v 4)), none], [], dq_502 v)) rfl (fun _ => rfl) ⟨⟨dq_t (dqn_501 v) (by decide), rfl⟩, Or.inl rfl⟩ ?_
  refine dp_s1 hF (i := .aload_n 0) rfl (fun _ => rfl) ?_
  refine dp_s1 hF (i := .sipush 3200) rfl (fun _ => rfl) ?_
  refine dq_na hF (at_ := .long) (p := 240) (t := 2) (N := 3200) (M' := dq_503 v) rfl (Or.inr (Or.inl ⟨rfl, rfl⟩)) (by decide) rfl (dqn_502 v) rfl rfl ?_
  refine dq_if hF (i := .putfield 401) (c := (dp_t false (dq_503 v) 114 = 12 + 10 ∧ dp_fk 12 168 = 2) ∧ (false = false ∨ dp_K0 ≤ 114)) (cf := (1082, [some (.ref 114), some (.int (v 0)), some (.int (v 1)), some (.int (v 2)), some (.int (v 3)), some (.int (v 4)), none], [], dq_504 v)) rfl (fun _ => rfl) ⟨⟨dq_t (dqn_503 v) (by decide), rfl⟩, Or.inl rfl⟩ ?_
  refine dp_s1 hF (i := .aload_n 0) rfl (fun _ => rfl) ?_
  refine dp_s1 hF (i := .sipush 400) rfl (fun _ => rfl) ?_
  refine dq_na hF (at_ := .int) (p := 241) (t := 1) (N := 400) (M' := dq_505 v) rfl (Or.inl ⟨rfl, rfl⟩) (by decide) rfl (dqn_504 v) rfl rfl ?_
  refine dq_if hF (i := .putfield 404) (c := (dp_t false (dq_505 v) 114 = 12 + 10 ∧ dp_fk 12 169 = 2) ∧ (false = false ∨ dp_K0 ≤ 114)) (cf := (1091, [some (.ref 114), some (.int (v 0)), some (.int (v 1)), some (.int (v 2)), some (.int (v 3)), some (.int (v 4)), none], [], dq_506 v)) rfl (fun _ => rfl) ⟨⟨dq_t (dqn_505 v) (by decide), rfl⟩, Or.inl rfl⟩ ?_
  refine dp_s1 hF (i := .aload_n 0) rfl (fun _ => rfl) ?_
  refine dp_s1 hF (i := .sipush 400) rfl (fun _ => rfl) ?_
  refine dq_na hF (at_ := .long) (p := 242) (t := 2) (N := 400) (M' := dq_507 v) rfl (Or.inr (Or.inl ⟨rfl, rfl⟩)) (by decide) rfl (dqn_506 v) rfl rfl ?_
  refine dq_if hF (i := .putfield 407) (c := (dp_t false (dq_507 v) 114 = 12 + 10 ∧ dp_fk 12 170 = 2) ∧ (false = false ∨ dp_K0 ≤ 114)) (cf := (1100, [some (.ref 114), some (.int (v 0)), some (.int (v 1)), some (.int (v 2)), some (.int (v 3)), some (.int (v 4)), none], [], dq_508 v)) rfl (fun _ => rfl) ⟨⟨dq_t (dqn_507 v) (by decide), rfl⟩, Or.inl rfl⟩ ?_
  refine dp_s1 hF (i := .aload_n 0) rfl (fun _ => rfl) ?_
  refine dp_s1 hF (i := .sipush 400) rfl (fun _ => rfl) ?_
  refine dq_na hF (at_ := .int) (p := 243) (t := 1) (N := 400) (M' := dq_509 v) rfl (Or.inl ⟨rfl, rfl⟩) (by decide) rfl (dqn_508 v) rfl rfl ?_
  refine dq_if hF (i := .putfield 410) (c := (dp_t false (dq_509 v) 114 = 12 + 10 ∧ dp_fk 12 171 = 2) ∧ (false = false ∨ dp_K0 ≤ 114)) (cf := (1109, [some (.ref 114), some (.int (v 0)), some (.int (v 1)), some (.int (v 2)), some (.int (v 3)), some (.int (v 4)), none], [], dq_510 v)) rfl (fun _ => rfl) ⟨⟨dq_t (dqn_509 v) (by decide), rfl⟩, Or.inl rfl⟩ ?_
  refine dp_s1 hF (i := .aload_n 0) rfl (fun _ => rfl) ?_
  refine dp_s1 hF (i := .sipush 400) rfl (fun _ => rfl) ?_
  refine dq_na hF (at_ := .int) (p := 244) (t := 1) (N := 400) (M' := dq_511 v) rfl (Or.inl ⟨rfl, rfl⟩) (by decide) rfl (dqn_510 v) rfl rfl ?_
  refine dq_if hF (i := .putfield 413) (c := (dp_t false (dq_511 v) 114 = 12 + 10 ∧ dp_fk 12 172 = 2) ∧ (false = false ∨ dp_K0 ≤ 114)) (cf := (1118, [some (.ref 114), some (.int (v 0)), some (.int (v 1)), some (.int (v 2)), some (.int (v 3)), some (.int (v 4)), none], [], dq_512 v)) rfl (fun _ => rfl) ⟨⟨dq_t (dqn_511 v) (by decide), rfl⟩, Or.inl rfl⟩ ?_
  refine dp_s1 hF (i := .aload_n 0) rfl (fun _ => rfl) ?_
  refine dp_s1 hF (i := .iload_n 1) rfl (fun _ => rfl) ?_
  refine dp_s1 hF (i := .bipush 12) rfl (fun _ => rfl) ?_
  refine dq_ci hF (i := .invokestatic 416) (j := 368) rfl rfl (fun _ => rfl) (dq_g_den xs xl (d + 1) _ _ _) ?_
  refine dq_if hF (i := .putfield 420) (c := dp_t false (dq_512 v) 114 = 12 + 10 ∧ dp_fk 12 1 = 0) (cf := (1128, [some (.ref 114), some (.int (v 0)), some (.int (v 1)), some (.int (v 2)), some (.int (v 3)), some (.int (v 4)), none], [], dq_513 v)) rfl (fun _ => rfl) ⟨dq_t (dqn_512 v) (by decide), rfl⟩ ?_
  refine dp_s1 hF (i := .aload_n 0) rfl (fun _ => rfl) ?_
  refine dp_s1 hF (i := .iload_n 2) rfl (fun _ => rfl) ?_
  refine dp_s1 hF (i := .iconst 4) rfl (fun _ => rfl) ?_
  refine dq_ci hF (i := .invokestatic 416) (j := 368) rfl rfl (fun _ => rfl) (dq_g_den xs xl (d + 1) _ _ _) ?_
  refine dq_if hF (i := .putfield 423) (c := dp_t false (dq_513 v) 114 = 12 + 10 ∧ dp_fk 12 2 = 0) (cf := (1137, [some (.ref 114), some (.int (v 0)), some (.int (v 1)), some (.int (v 2)), some (.int (v 3)), some (.int (v 4)), none], [], dq_514 v)) rfl (fun _ => rfl) ⟨dq_t (dqn_513 v) (by decide), rfl⟩ ?_
  refine dp_s1 hF (i := .aload_n 0) rfl (fun _ => rfl) ?_
  refine dp_s1 hF (i := .iload_n 3) rfl (fun _ => rfl) ?_
  refine dp_s1 hF (i := .bipush 20) rfl (fun _ => rfl) ?_
  refine dq_ci hF (i := .invokestatic 416) (j := 368) rfl rfl (fun _ => rfl) (dq_g_den xs xl (d + 1) _ _ _) ?_
  refine dq_if hF (i := .putfield 426) (c := dp_t false (dq_514 v) 114 = 12 + 10 ∧ dp_fk 12 25 = 0) (cf := (1147, [some (.ref 114), some (.int (v 0)), some (.int (v 1)), some (.int (v 2)), some (.int (v 3)), some (.int (v 4)), none], [], dq_515 v)) rfl (fun _ => rfl) ⟨dq_t (dqn_514 v) (by decide), rfl⟩ ?_
  refine dp_s1 hF (i := .aload_n 0) rfl (fun _ => rfl) ?_
  refine dp_s1 hF (i := .iload 4) rfl (fun _ => rfl) ?_
  refine dp_s1 hF (i := .bipush 8) rfl (fun _ => rfl) ?_
  refine dq_ci hF (i := .invokestatic 416) (j := 368) rfl rfl (fun _ => rfl) (dq_g_den xs xl (d + 1) _ _ _) ?_
  refine dq_if hF (i := .putfield 429) (c := dp_t false (dq_515 v) 114 = 12 + 10 ∧ dp_fk 12 26 = 0) (cf := (1158, [some (.ref 114), some (.int (v 0)), some (.int (v 1)), some (.int (v 2)), some (.int (v 3)), some (.int (v 4)), none], [], dq_516 v)) rfl (fun _ => rfl) ⟨dq_t (dqn_515 v) (by decide), rfl⟩ ?_
  refine dp_s1 hF (i := .aload_n 0) rfl (fun _ => rfl) ?_
  refine dp_s1 hF (i := .iload 5) rfl (fun _ => rfl) ?_
  refine dp_s1 hF (i := .sipush 400) rfl (fun _ => rfl) ?_
  refine dq_ci hF (i := .invokestatic 416) (j := 368) rfl rfl (fun _ => rfl) (dq_g_den xs xl (d + 1) _ _ _) ?_
  refine dq_if hF (i := .putfield 432) (c := dp_t false (dq_516 v) 114 = 12 + 10 ∧ dp_fk 12 27 = 0) (cf := (1170, [some (.ref 114), some (.int (v 0)), some (.int (v 1)), some (.int (v 2)), some (.int (v 3)), some (.int (v 4)), none], [], dq_517 v)) rfl (fun _ => rfl) ⟨dq_t (dqn_516 v) (by decide), rfl⟩ ?_
  refine dp_s1 hF (i := .iconst 0) rfl (fun _ => rfl) ?_
  refine dp_s1 hF (i := .istore 6) rfl (fun _ => rfl) ?_
  exact dq_model xs xl (d + 2) _ _ _ _ _ (dq_517 v) (dq_t (dqn_517 v) (by decide)) (dq_t (dqn_517 v) (by decide)) rfl rfl
