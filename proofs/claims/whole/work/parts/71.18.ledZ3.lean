/-! THE LEDGER: what is passed on: the model, and both -/
section LEZ3
variable {xs : Nat → Int32} {xl d : Nat} {M : dp_M}
theorem sm_sl {p : Nat → Int32} (h : ∀ i, 0 ≤ (p i).toInt ∧ (p i).toInt ≤ 1000) : ∀ n, n ≤ 4 → (sm p n).toInt64 = sl (fun i => (p i).toInt64) n ∧ 0 ≤ (sm p n).toInt ∧ (sm p n).toInt ≤ 1000 * n
  | 0, _ => ⟨rfl, by rw [sm]; decide, by rw [sm]; decide⟩
  | n + 1, hn => by
    obtain ⟨h1, h2, h3⟩ := sm_sl h n (by omega)
    have hp := h n
    have e : (sm p n + p n).toInt = (sm p n).toInt + (p n).toInt := by
      rw [Int32.toInt_add]
      apply Int.bmod_eq_of_le <;> omega
    rw [sm, sl, ← h1]
    refine ⟨?_, by omega, by omega⟩
    rw [← Int64.toInt_inj, Int32.toInt_toInt64, e, q_addJ (by rw [Int32.toInt_toInt64, Int32.toInt_toInt64]; omega) (by rw [Int32.toInt_toInt64, Int32.toInt_toInt64]; omega), Int32.toInt_toInt64, Int32.toInt_toInt64]
theorem lm_share {k r : Nat} {pot : Int64} (hk : k < 4) (hr4 : r < 4) (h0 : 0 ≤ pot.toInt) (h1 : pot.toInt ≤ 48000000000000) (hP : ∀ i, qin (dp_I M 231 i) 1001) : dp_den true xs xl (d + 1) 562 [.ref 114, .int (nI k), .int (nI r), .long pot] M = lR (shr (fun i => (dp_I M 231 (k * 4 + i)).toInt64) pot r) M := by
  generalize hPP : (fun i => (dp_I M 231 (k * 4 + i)).toInt64) = P
  have hPe : ∀ i, (dp_I M 231 (k * 4 + i)).toInt64 = P i := fun i => by rw [← hPP]
  have hPb : ∀ i, 0 ≤ (P i).toInt ∧ (P i).toInt ≤ 1000 := fun i => by
    rw [← hPe i, Int32.toInt_toInt64]
    have := qin_iff.mp (hP (k * 4 + i))
    omega
  obtain ⟨s1, s2, s3⟩ := sm_sl (p := fun i => dp_I M 231 (k * 4 + i)) (fun i => by
    have := qin_iff.mp (hP (k * 4 + i))
    (try dsimp only); omega) 4 (Nat.le_refl _)
  have eA : (sm (fun i => dp_I M 231 (k * 4 + i)) 4).toInt64 = pA P := by
    rw [s1]; unfold pA; rw [← hPP]
  rw [D_X12_shareOf_0_den, D_X12_shareOf_0_eq]
  simp only [dp_w]
  refine lpb (F := fun a i => D_X12_shareOf_6 xs xl d (nI k) (nI r) pot a (nI i) M) (s := sm (fun i => dp_I M 231 (k * 4 + i))) (N := 4) ?_ (fun i hi hr => ?_)
  · show D_X12_shareOf_6 xs xl d (nI k) (nI r) pot (sm (fun i => dp_I M 231 (k * 4 + i)) 4) (nI 4) M = _
    rw [D_X12_shareOf_6_eq, if_pos (by decide)]
    by_cases c : sm (fun i => dp_I M 231 (k * 4 + i)) 4 = 0
    · rw [if_pos c]
      unfold shr
      rw [if_pos (by rw [← eA, c]; rfl)]
    · have c' : pA P ≠ 0 := fun z => c (by
        rw [← eA] at z
        rw [← Int32.toInt_inj, ← Int32.toInt_toInt64, z]; decide)
      have hA : 0 < (pA P).toInt := by
        have hne : (pA P).toInt ≠ 0 := fun z => c' (by rw [← Int64.toInt_inj, z]; decide)
        rw [← eA, Int32.toInt_toInt64] at hne ⊢
        omega
      obtain ⟨-, w2, w3, w4⟩ := deal_left h0 h1 hPb hA
      rw [if_neg c]
      simp only [dp_w, lm_ix4, nI_cl (show k * 4 + r < 2147483648 by omega), nI_o (show k * 4 + r < 16 by omega) (by omega), if_false, eA, if_neg c', hPe]
      generalize hq : (fun i => pot * P i / pA P) = q
      generalize hm : (fun i => (pot * P i - pot * P i / pA P * pA P).toInt) = m
      have hqe : ∀ i, pot * P i / pA P = q i := fun i => by rw [← hq]
      have hme : ∀ i, (pot * P i - pot * P i / pA P * pA P).toInt = m i := fun i => by rw [← hm]
      have e0 : pot = pot - sl q 0 := by rw [sl, Int64.sub_zero]
      have key := lpb (F := fun (u : Int64 × Int32) i => D_X12_shareOf_69 xs xl d (nI k) (nI r) pot (sm (fun i => dp_I M 231 (k * 4 + i)) 4) u.1 u.2 (pot * P r - pot * P r / pA P * pA P) (nI i) M) (s := fun i => (pot - sl q i, nI (ct (fun s => bf m s r) i))) (N := 4) (r := (.inl (some (.long (shr P pot r))), M)) ?_ (fun i hi hr => ?_)
      · (try dsimp only at key)
        rw [← e0] at key
        exact key
      · try dsimp only
        rw [D_X12_shareOf_69_eq, if_pos (by decide)]
        simp only [lm_ix4, nI_cl (show k * 4 + r < 2147483648 by omega), nI_o (show k * 4 + r < 16 by omega) (by omega), if_false, eA, if_neg c', hPe, lg_cmp_ge]
        have hc4 : ct (fun s => bf m s r) 4 ≤ 4 := ct_le _ _
        rw [nI_l (by omega)]
        have ev : shr P pot r = pot * P r / pA P + (if (cb m r : Int) < (pot - sl q 4).toInt then 1 else 0) := by
          unfold shr; rw [if_neg c', hm, hq]
        rw [ev]
        by_cases z : (cb m r : Int) < (pot - sl q 4).toInt
        · rw [if_pos z, if_neg]
          rw [Int64.le_iff_toInt_le, lN_toInt (by omega)]
          have : cb m r = ct (fun s => bf m s r) 4 := rfl
          omega
        · rw [if_neg z, if_pos]
          rw [Int64.le_iff_toInt_le, lN_toInt (by omega)]
          have : cb m r = ct (fun s => bf m s r) 4 := rfl
          omega
      · (try dsimp only at hr); (try dsimp only)
        have hc4 : ct (fun s => bf m s r) i ≤ i := ct_le _ _
        rw [D_X12_shareOf_69_eq, if_neg (show ¬ (4 : Int32) ≤ nI (i) from nI_ge (a := i) (b := 4) (by omega) (by omega))]
        simp only [lm_ix4, nI_cl (show k * 4 + i < 2147483648 by omega), nI_o (show k * 4 + i < 16 by omega) (by omega), if_false, eA, if_neg c', hPe, lg_cmp_gt, lg_cmp_eq, dp_w, nI_1, hqe]
        have hr2 : ∀ x9, D_X12_shareOf_69_a xs xl d (nI k) (nI r) pot (sm (fun i => dp_I M 231 (k * 4 + i)) 4) (pot - sl q i - q i) (nI (ct (fun s => bf m s r) i + (if bf m i r then 1 else 0))) (pot * P r - pot * P r / pA P * pA P) (nI (i + 1)) x9 M = some (.inl (some (.long (shr P pot r))), M) := fun x9 => by
          apply D_X12_shareOf_69_to_69_a
          rw [q_sub3]; exact hr
        have hlt : (pot * P r - pot * P r / pA P * pA P < pot * P i - pot * P i / pA P * pA P) ↔ m r < m i := by rw [Int64.lt_iff_toInt_lt, hme, hme]
        have heq : (pot * P i - pot * P i / pA P * pA P = pot * P r - pot * P r / pA P * pA P) ↔ m i = m r := by rw [← Int64.toInt_inj, hme, hme]
        simp only [hqe] at hlt heq
        simp only [hqe] at hr2
        by_cases z1 : m r < m i
        · rw [if_pos (hlt.mpr z1)]
          have b : bf m i r = true := by unfold bf; simp; omega
          have := hr2 (pot * P i)
          rw [b] at this
          simpa [nI_1] using this
        · rw [if_neg (fun q => z1 (hlt.mp q))]
          by_cases z2 : m i = m r
          · rw [if_pos (heq.mpr z2)]
            by_cases z3 : r ≤ i
            · rw [if_pos (nI_lle z3 (by omega))]
              have b : bf m i r = false := by unfold bf; simp; omega
              have := hr2 (pot * P i)
              rw [b] at this
              simpa using this
            · rw [if_neg (nI_nge (by omega) (by omega))]
              have b : bf m i r = true := by unfold bf; simp; omega
              have := hr2 (pot * P i)
              rw [b] at this
              simpa [nI_1] using this
          · rw [if_neg (fun q => z2 (heq.mp q))]
            have b : bf m i r = false := by unfold bf; simp; omega
            have := hr2 (pot * P i)
            rw [b] at this
            simpa using this
  · (try dsimp only at hr); (try dsimp only)
    rw [D_X12_shareOf_6_eq, if_neg (show ¬ (4 : Int32) ≤ nI (i) from nI_ge (a := i) (b := 4) (by omega) (by omega))]
    simp only [lm_ix4, nI_cl (show k * 4 + i < 2147483648 by omega), nI_o (show k * 4 + i < 16 by omega) (by omega), if_false, dp_w, nI_1]
    exact hr
end LEZ3
