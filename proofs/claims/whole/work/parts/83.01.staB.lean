-- needs: 71 72 73 74 75 76 77 78 79 80 81
/-! THE START: all agrees behind the constructors -/
section StB
theorem z_I {v : Nat → Int32} {k : Nat} (h : k ∉ [1, 25, 28, 29, 30, 43, 68, 97, 114]) (i : Nat) : dp_I (dq_519 v) k i = 0 := by
  rw [zi_519]
  rw [sF_21, if_neg (fun w => h (by rw [w.1]; decide))]
  rw [sF_20, if_neg (fun w => h (by rw [w.1]; decide))]
  rw [sF_19, if_neg (fun w => h (by rw [w.1]; decide))]
  rw [sF_18, if_neg (fun w => h (by rw [w.1]; decide))]
  rw [sF_17, if_neg (fun w => h (by rw [w.1]; decide))]
  rw [sF_16, if_neg (fun w => h (by rw [w.1]; decide))]
  rw [sF_15, if_neg (fun w => h (by rw [w.1]; decide))]
  rw [sF_14, if_neg (fun w => h (by rw [w.1]; decide))]
  rw [sF_13, if_neg (fun w => h (by rw [w.1]; decide))]
  rw [sF_12, if_neg (fun w => h (by rw [w.1]; decide))]
  rw [sF_11, if_neg (fun w => h (by rw [w.1]; decide))]
  rw [sF_10, if_neg (fun w => h (by rw [w.1]; decide))]
  rw [sF_9, if_neg (fun w => h (by rw [w.1]; decide))]
  rw [sF_8, if_neg (fun w => h (by rw [w.1]; decide))]
  rw [sF_7, if_neg (fun w => h (by rw [w.1]; decide))]
  rw [sF_6, if_neg (fun w => h (by rw [w.1]; decide))]
  rw [sF_5, if_neg (fun w => h (by rw [w.1]; decide))]
  rw [sF_4, if_neg (fun w => h (by rw [w.1]; decide))]
  rw [sF_3, if_neg (fun w => h (by rw [w.1]; decide))]
  rw [sF_2, if_neg (fun w => h (by rw [w.1]; decide))]
  rw [sF_1, if_neg (fun w => h (by rw [w.1]; decide))]
  rfl
theorem z_J {v : Nat → Int32} {k : Nat} (h : k ≠ 240) (i : Nat) : dp_J (dq_519 v) k i = 0 := by
  rw [zj_519, if_neg (fun w => h w.1)]
theorem z_II {v : Nat → Int32} {k l : Nat} (h : k ∉ [1, 25, 28, 29, 30, 43, 68, 97, 114]) (h2 : l ∉ [1, 25, 28, 29, 30, 43, 68, 97, 114]) : dp_I (dq_519 v) k = dp_I (dq_519 v) l := funext (fun i => by rw [z_I h, z_I h2])
theorem z_JJ {v : Nat → Int32} {k l : Nat} (h : k ≠ 240) (h2 : l ≠ 240) : dp_J (dq_519 v) k = dp_J (dq_519 v) l := funext (fun i => by rw [z_J h, z_J h2])
theorem dqh {x m : Int32} (hm : 1 ≤ m.toInt) : dq_g x m = dq_h x m ∧ ∃ b : Nat, 1 ≤ b ∧ (b : Int) ≤ m.toInt ∧ dq_h x m = nI b := by
  have o1 : (1 : Int32).toInt = 1 := by decide
  have b2 := Int32.toInt_lt m
  have b3 := Int32.toInt_lt x
  unfold dq_h dq_g
  by_cases a : m < x
  · have a' := Int32.lt_iff_toInt_lt.mp a
    rw [if_pos a]
    have e1 : (1 : Int32) ≤ x := Int32.le_iff_toInt_le.mpr (by omega)
    have e2 : ¬ x ≤ m := fun q => by rw [Int32.le_iff_toInt_le] at q; omega
    rw [if_pos e1, if_neg e2]
    by_cases c : (1 : Int32) < m
    · rw [if_pos c]
      exact ⟨rfl, m.toInt.toNat, by omega, by omega, Int32.toInt_inj.mp (by rw [nI_toInt (by omega)]; omega)⟩
    · rw [if_neg c]
      rw [Int32.lt_iff_toInt_lt] at c
      have em : m = 1 := Int32.toInt_inj.mp (by omega)
      exact ⟨em, 1, by omega, by omega, rfl⟩
  · have a' : x.toInt ≤ m.toInt := by rw [Int32.lt_iff_toInt_lt] at a; omega
    rw [if_neg a]
    by_cases c : (1 : Int32) ≤ x
    · have c' := Int32.le_iff_toInt_le.mp c
      rw [if_pos c, if_pos (Int32.le_iff_toInt_le.mpr a')]
      by_cases d : (1 : Int32) < x
      · rw [if_pos d]
        exact ⟨rfl, x.toInt.toNat, by omega, by omega, Int32.toInt_inj.mp (by rw [nI_toInt (by omega)]; omega)⟩
      · rw [if_neg d]
        rw [Int32.lt_iff_toInt_lt] at d
        have em : x = 1 := Int32.toInt_inj.mp (by omega)
        exact ⟨em, 1, by omega, by omega, rfl⟩
    · rw [if_neg c]
      have d : ¬ (1 : Int32) < x := fun q => by rw [Int32.lt_iff_toInt_lt] at q; rw [Int32.le_iff_toInt_le] at c; omega
      rw [if_neg d]
      exact ⟨rfl, 1, by omega, by omega, rfl⟩
theorem ar_start (v : Nat → Int32) : ∃ B T, AR (dq_519 v) 0 B T 0 := by
  obtain ⟨g0, B, B1, B2, eB⟩ := dqh (x := v 0) (m := 12) (by decide)
  obtain ⟨g1, T, T1, T2, eT⟩ := dqh (x := v 1) (m := 4) (by decide)
  obtain ⟨g2, W, W1, W2, eW⟩ := dqh (x := v 2) (m := 20) (by decide)
  obtain ⟨g3, H, H1, H2, eH⟩ := dqh (x := v 3) (m := 8) (by decide)
  obtain ⟨g4, G, G1, G2, eG⟩ := dqh (x := v 4) (m := 400) (by decide)
  have m12 : (12 : Int32).toInt = 12 := by decide
  have m4 : (4 : Int32).toInt = 4 := by decide
  have m20 : (20 : Int32).toInt = 20 := by decide
  have m8 : (8 : Int32).toInt = 8 := by decide
  have m400 : (400 : Int32).toInt = 400 := by decide
  rw [m12] at B2; rw [m4] at T2; rw [m20] at W2; rw [m8] at H2; rw [m400] at G2
  obtain ⟨Z, hZ⟩ : ∃ Z, Z = dq_519 v := ⟨_, rfl⟩
  have zI : ∀ k i, dp_I Z k i = sF_21 v k i := by rw [hZ]; exact zi_519 v
  have z : ∀ k, k ∉ [1, 25, 28, 29, 30, 43, 68, 97, 114] → ∀ i, dp_I Z k i = 0 := fun k h i => by rw [hZ]; exact z_I h i
  have zz : ∀ k l, k ∉ [1, 25, 28, 29, 30, 43, 68, 97, 114] → l ∉ [1, 25, 28, 29, 30, 43, 68, 97, 114] → dp_I Z k = dp_I Z l := fun k l h h2 => by rw [hZ]; exact z_II h h2
  have j : ∀ k, k ≠ 240 → ∀ i, dp_J Z k i = 0 := fun k h i => by rw [hZ]; exact z_J h i
  have jj : ∀ k l, k ≠ 240 → l ≠ 240 → dp_J Z k = dp_J Z l := fun k l h h2 => by rw [hZ]; exact z_JJ h h2
  have cB : Int32.toNatClampNeg (dq_h (v 0) (12 : Int32)) = B := by rw [eB, nI_cl (by omega)]
  have cW : Int32.toNatClampNeg (dq_h (v 2) (20 : Int32)) = W := by rw [eW, nI_cl (by omega)]
  have l25 : dp_len Z 25 = B := by rw [hZ, zl_25_519 v, cB]
  have l26 : dp_len Z 26 = B := by rw [hZ, zl_26_519 v, cB]
  have l27 : dp_len Z 27 = B * 16 := by rw [hZ, zl_27_519 v, eB, show (16 : Int32) = nI 16 from rfl, pk_mul, nI_cl (by omega)]
  have l33 : dp_len Z 33 = W := by rw [hZ, zl_33_519 v, cW]
  have l34 : dp_len Z 34 = W := by rw [hZ, zl_34_519 v, cW]
  have l35 : dp_len Z 35 = W := by rw [hZ, zl_35_519 v, cW]
  have wh : W * H ≤ 160 := by have := Nat.mul_le_mul (show W ≤ 20 by omega) (show H ≤ 8 by omega); omega
  have l36 : dp_len Z 36 = W * H := by rw [hZ, zl_36_519 v, eW, eH, pk_mul, nI_cl (by omega)]
  have r25 : ∀ b, b < B → dp_I Z 25 b = -1 := fun b hb => by
    rw [zI]
    show (if (25 : Nat) = 25 ∧ b < Int32.toNatClampNeg (dq_h (v 0) (12 : Int32)) then (-1 : Int32) else sF_2 v 25 b) = -1
    rw [if_pos ⟨rfl, by rw [cB]; exact hb⟩]
  have r29 : ∀ b, b < 100 → dp_I Z 29 b = -1 := fun b hb => by
    rw [zI]
    show (if (29 : Nat) = 29 ∧ b < 100 then (-1 : Int32) else sF_6 v 29 b) = -1
    rw [if_pos ⟨rfl, hb⟩]
  have r30 : ∀ b, b < 100 → dp_I Z 30 b = -1 := fun b hb => by
    rw [zI]
    show (if (30 : Nat) = 30 ∧ b < 100 then (-1 : Int32) else sF_7 v 30 b) = -1
    rw [if_pos ⟨rfl, hb⟩]
  have r43 : ∀ b, b < 100 → dp_I Z 43 b = nI b := fun b hb => by
    rw [zI]
    show (if (43 : Nat) = 43 ∧ b < 100 then nI b else sF_8 v 43 b) = nI b
    rw [if_pos ⟨rfl, hb⟩]
  have q0 : ∀ n : Nat, 1 ≤ n → n < 1000000 → qin 0 n := fun n h1 h2 => by rw [show (0 : Int32) = nI 0 from rfl]; exact qin_nI (by omega) (by omega)
  have hn : 246 ≤ dp_n Z := by rw [hZ, dqn_519 v]; exact Nat.le_refl _
  have f4 : ∀ v : Int32, v = 0 → four v := fun v e => by
    rw [e]
    refine ⟨fun j _ => tb_0, ?_⟩
    show ct (tb 0) 32 ≤ 4
    have : ct (tb (0 : Int32)) 32 = 0 := by decide
    omega
  refine ⟨B, T, ?_⟩
  rw [← hZ]
  refine ⟨⟨⟨⟨?_, ?_⟩, ?_⟩, ?_, ?_, ?_, ?_, ?_, ?_⟩, ?_, ?_, ?_, ?_, ?_, ?_, ⟨0, Nat.le_refl _, z 14 (by decide) 10, fun i => ⟨0, Nat.le_refl _, z 16 (by decide) i⟩⟩⟩
  · -- hold
    refine ⟨by omega, B1, by omega, T1, by omega, zI 1 2, zI 114 3, (zI 1 0).trans eB, (zI 114 1).trans (g0.trans eB), (zI 1 1).trans eT, (zI 114 2).trans (g1.trans eT), (zI 114 9).trans (zI 1 3).symm, l25, l26, l27, zz _ _ (by decide) (by decide), zz _ _ (by decide) (by decide), zz _ _ (by decide) (by decide), zz _ _ (by decide) (by decide), zz _ _ (by decide) (by decide), zz _ _ (by decide) (by decide), zz _ _ (by decide) (by decide), zz _ _ (by decide) (by decide), zz _ _ (by decide) (by decide), zz _ _ (by decide) (by decide), fun i hi => absurd hi (Nat.not_lt_zero _), ⟨fun i hi => absurd hi (Nat.not_lt_zero _), fun i hi => absurd hi (Nat.not_lt_zero _), fun i _ _ hi => absurd hi (Nat.not_lt_zero _), fun b s _ _ => Nat.zero_le _, fun b _ => Nat.zero_le _, fun k => Or.inl (z 12 (by decide) k), fun x y _ h => ?_⟩, fun b hb => Or.inl ⟨z 120 (by decide) b, r25 b hb⟩⟩
    rw [z _ (by decide)] at h; exact absurd h (by decide)
  · -- yard
    refine ⟨W, H, G, fun _ => -1, fun _ => -1, [], 0, ⟨(zI 28 1).trans eW, (zI 28 2).trans eH, (zI 28 3).trans eG, l33, l34, l35, l36, fun i hi => absurd hi (Nat.not_lt_zero _), fun i _ hi => ⟨r29 i hi, r30 i hi⟩, fun r _ => z 33 (by decide) r, fun r l _ hl => absurd hl (Nat.not_lt_zero _), zI 28 13, zI 28 14, 0, by omega, zI 28 12, fun j hj => absurd hj (Nat.not_lt_zero _)⟩, ⟨(zI 114 25).trans (g2.trans eW), (zI 114 26).trans (g3.trans eH), (zI 114 27).trans (g4.trans eG), fun i hi => absurd hi (Nat.not_lt_zero _), zI 114 38, zI 114 37, fun j hj => absurd hj (Nat.not_lt_zero _)⟩, ⟨W1, by omega, H1, by omega, G1, by omega, by omega, Nat.zero_le _, ⟨fun i hi => absurd hi (Nat.not_lt_zero _), fun i _ _ hi => absurd hi (Nat.not_lt_zero _), fun r _ => Nat.zero_le _⟩, trivial, fun i hi => absurd hi (Nat.not_lt_zero _), fun q hq => (by cases hq)⟩, zz _ _ (by decide) (by decide), fun r _ => ⟨by rw [z _ (by decide), z _ (by decide)], by rw [z _ (by decide), z _ (by decide)], by rw [z _ (by decide)]; exact q0 10 (by omega) (by omega)⟩⟩
  · exact fun i _ _ => z _ (by decide) i
  · exact ⟨by omega, 0, fun _ => 0, Nat.le_refl _, ⟨zI 37 3, fun s _ h => absurd h (Nat.not_lt_zero _)⟩, ⟨zI 114 52, fun s h => absurd h (Nat.not_lt_zero _)⟩⟩
  · refine ⟨0, 0, by omega, by omega, z 37 (by decide) 2, zI 114 44, zI 114 160, fun g hg => absurd hg (Nat.not_lt_zero _), fun x _ => ⟨z _ (by decide) x, z _ (by decide) x, z _ (by decide) x⟩, fun g hg => absurd hg (Nat.not_lt_zero _), fun g _ _ => z _ (by decide) g, fun i hi => absurd hi (Nat.not_lt_zero _)⟩
  · exact ⟨zz _ _ (by decide) (by decide), zz _ _ (by decide) (by decide), fun k => by rw [z _ (by decide)]; decide⟩
  · exact ⟨fun x hx => absurd hx (Nat.not_lt_zero _), fun x _ hx => r43 x hx⟩
  · exact ⟨zz _ _ (by decide) (by decide), fun x hx => absurd hx (Nat.not_lt_zero _), fun x _ _ => z _ (by decide) x⟩
  · exact ⟨zz _ _ (by decide) (by decide), zz _ _ (by decide) (by decide), zz _ _ (by decide) (by decide)⟩
  · -- ledger
    refine ⟨0, 0, by omega, by omega, zI 97 0, zI 114 141, zI 97 1, zI 114 142, (zI 114 143).trans (zI 97 2).symm, (zI 114 144).trans (zI 97 3).symm, (zI 114 145).trans (zI 97 4).symm, (zI 114 146).trans (zI 97 5).symm, (zI 114 147).trans (zI 97 6).symm, zz _ _ (by decide) (by decide), zz _ _ (by decide) (by decide), fun i => by rw [z _ (by decide)]; exact q0 1001 (by omega) (by omega), fun i => by rw [z _ (by decide)]; exact q0 1001 (by omega) (by omega), fun i hi => absurd hi (Nat.not_lt_zero _), fun b k _ _ _ => z _ (by decide) _, fun i hi => absurd hi (Nat.not_lt_zero _)⟩
  · -- quotas
    refine ⟨0, 0, by omega, by omega, z 75 (by decide) _, zI 114 105, z 75 (by decide) _, zI 114 111, jj _ _ (by decide) (by decide), zz _ _ (by decide) (by decide), zz _ _ (by decide) (by decide), zz _ _ (by decide) (by decide), zz _ _ (by decide) (by decide), jj _ _ (by decide) (by decide), fun i => Or.inl (z _ (by decide) i), fun a => by rw [j _ (by decide)]; decide, fun i hi => absurd hi (Nat.not_lt_zero _), fun i hi => absurd hi (Nat.not_lt_zero _)⟩
  · -- tariff
    refine ⟨0, 0, by omega, by omega, z 51 (by decide) _, zI 114 55, (zI 114 68).trans (z 51 (by decide) 1).symm, z 51 (by decide) _, zI 114 72, fun i hi => absurd hi (Nat.not_lt_zero _), fun g _ => by rw [z _ (by decide), z _ (by decide)], zz _ _ (by decide) (by decide), zz _ _ (by decide) (by decide), fun r _ => ⟨z _ (by decide) r, z _ (by decide) r⟩, fun r => ⟨f4 _ (z _ (by decide) r), f4 _ (z _ (by decide) r)⟩, ?_, fun r h1 h2 => by omega⟩
    have e : dp_I Z 114 67 = 0 := zI 114 67
    show qin (dp_I Z 114 67) 10001
    rw [e]; exact q0 10001 (by omega) (by omega)
  · -- rates
    exact ⟨hn, ⟨0, zI 68 0, zI 114 75, by omega, fun i hi => absurd hi (Nat.not_lt_zero _)⟩, fun r _ => Or.inl ⟨by rw [hZ]; exact zr_519 v r, z 172 (by decide) r⟩, 0, by omega, zI 68 1, zI 114 104, fun i hi => absurd hi (Nat.not_lt_zero _)⟩
  · -- securities
    refine ⟨0, 0, by omega, by omega, z 90 (by decide) _, zI 114 119, z 90 (by decide) _, zI 114 133, (zI 114 120).trans (z 90 (by decide) 3).symm, by rw [z _ (by decide)]; exact q0 100001 (by omega) (by omega), zz _ _ (by decide) (by decide), fun i => Or.inl (z _ (by decide) i), zz _ _ (by decide) (by decide), fun g h1 h2 => by omega, fun g k _ _ => j _ (by decide) _, fun g _ => ⟨z _ (by decide) g, j _ (by decide) g, j _ (by decide) g⟩, ⟨fun i hi => absurd hi (Nat.not_lt_zero _), fun k l hk => absurd hk (Nat.not_lt_zero _), fun h _ => ⟨z _ (by decide) h, fun i hi => absurd hi (Nat.not_lt_zero _)⟩⟩, fun r h1 h2 => by omega, fun r _ => z _ (by decide) r, z 90 (by decide) _, fun r h1 h2 => by omega⟩
  · -- declarations
    refine ⟨0, 0, 0, by omega, z 108 (by decide) _, zI 114 160, zI 114 111, by omega, zI 114 133, by omega, fun i hi => absurd hi (Nat.not_lt_zero _), fun i _ hi => ⟨j _ (by decide) _, j _ (by decide) _, j _ (by decide) _, z _ (by decide) _, j _ (by decide) _, z _ (by decide) _, fun u hu => ?_⟩, fun i hi => absurd hi (Nat.not_lt_zero _), fun g _ => z _ (by decide) g, fun i _ hi => absurd hi (Nat.not_lt_zero _), Nat.zero_le _, fun i _ hi => absurd hi (Nat.not_lt_zero _)⟩
    show dp_J Z 240 (i * 8 + u) = -1
    rw [hZ, zj_519, if_pos ⟨rfl, by omega⟩]
end StB
