/-! SECURITIES: what is needed, how often used -/
section SD
variable {xs : Nat → Int32} {xl d : Nat} {M : dp_M}
theorem up_div {v D : Int} (hD : 0 < D) : (v + D - 1) / D = v / D + (if v % D ≤ 0 then 0 else 1) := by
  have h1 := Int.mul_ediv_add_emod v D
  have h2 := Int.emod_nonneg v (show D ≠ 0 by omega)
  have h3 := Int.emod_lt_of_pos v hD
  have e : v + D - 1 = (v % D + D - 1) + D * (v / D) := by omega
  rw [e, Int.add_mul_ediv_left _ _ (show D ≠ 0 by omega), Int.add_comm]
  congr 1
  by_cases z : v % D ≤ 0
  · rw [if_pos z]
    exact Int.ediv_eq_zero_of_lt (by omega) (by omega)
  · rw [if_neg z]
    rw [show v % D + D - 1 = (v % D - 1) + D * 1 by omega, Int.add_mul_ediv_left _ _ (show D ≠ 0 by omega), Int.ediv_eq_zero_of_lt (by omega) (by omega)]
    rfl
theorem sm_ndF {g u n : Nat} {x : Int64} (hg : g < 41) (hu : u ≤ n) (h1 : 1 ≤ n) (h2 : n ≤ 100) (b7 : dp_I M 204 g = nI u) (b9 : dp_I M 205 g = nI n) (x0 : 0 ≤ x.toInt) (x1 : x.toInt ≤ 1000000000) : dp_den true xs xl (d + 1) 520 [.ref 114, .int (nI g), .long x] M = lR (ndF M g x) M := by
  have eU : ((nI u).toInt64).toInt = (u : Int) := by rw [Int32.toInt_toInt64, nI_toInt (by omega)]
  have eD : ((nI n).toInt64).toInt = (n : Int) := by rw [Int32.toInt_toInt64, nI_toInt (by omega)]
  have e0 : (0 : Int64).toInt = 0 := by decide
  have e1 : (1 : Int64).toInt = 1 := by decide
  have m1 : 0 ≤ x.toInt * (u : Int) := Int.mul_nonneg x0 (by omega)
  have m2 : x.toInt * (u : Int) ≤ 1000000000 * 100 := Int.mul_le_mul x1 (by omega) (by omega) (by omega)
  have ev : (x * (nI u).toInt64).toInt = x.toInt * (u : Int) := by rw [q_mulJ (by rw [eU]; omega) (by rw [eU]; omega), eU]
  have hne : ¬ (nI n).toInt64 = 0 := fun q => by
    have := congrArg Int64.toInt q
    rw [eD, e0] at this; omega
  have ed : (x * (nI u).toInt64 / (nI n).toInt64).toInt = x.toInt * (u : Int) / (n : Int) := by rw [q_divJ (by rw [ev]; omega) (by rw [eD]; omega), ev, eD]
  have er : (x * (nI u).toInt64 - x * (nI u).toInt64 / (nI n).toInt64 * (nI n).toInt64).toInt = x.toInt * (u : Int) % (n : Int) := by rw [q_remJ (by rw [ev]; omega) (by rw [eD]; omega), ev, eD]
  have s1 : (x * (nI u).toInt64 + (nI n).toInt64).toInt = x.toInt * (u : Int) + n := by rw [q_addJ (by rw [ev, eD]; omega) (by rw [ev, eD]; omega), ev, eD]
  have s2 : (x * (nI u).toInt64 + (nI n).toInt64 - 1).toInt = x.toInt * (u : Int) + n - 1 := by rw [q_subJ (by rw [s1, e1]; omega) (by rw [s1, e1]; omega), s1, e1]
  have hd0 : 0 ≤ x.toInt * (u : Int) / (n : Int) := Int.ediv_nonneg m1 (by omega)
  have hd1 : x.toInt * (u : Int) / (n : Int) ≤ x.toInt * (u : Int) := Int.ediv_le_self _ m1
  have key : ndF M g x = x * (nI u).toInt64 / (nI n).toInt64 + (if x * (nI u).toInt64 - x * (nI u).toInt64 / (nI n).toInt64 * (nI n).toInt64 ≤ 0 then 0 else 1) := by
    unfold ndF
    rw [b7, b9, ← Int64.toInt_inj, q_divJ (by rw [s2]; omega) (by rw [eD]; omega), s2, eD, up_div (by omega)]
    simp only [Int64.le_iff_toInt_le, er, e0]
    by_cases z : x.toInt * (u : Int) % (n : Int) ≤ 0
    · rw [if_pos z, if_pos z, q_addJ (by rw [ed, e0]; omega) (by rw [ed, e0]; omega), ed, e0]
    · rw [if_neg z, if_neg z, q_addJ (by rw [ed, e1]; omega) (by rw [ed, e1]; omega), ed, e1]
  rw [D_X12_neededFor_0_den, D_X12_neededFor_0_eq, key]
  simp only [nI_cl (show g < 2147483648 by omega), nI_o (show g < 41 by omega) (by omega), if_false, b7, b9, dp_w, if_neg hne, lg_cmp_le]
  by_cases z : x * (nI u).toInt64 - x * (nI u).toInt64 / (nI n).toInt64 * (nI n).toInt64 ≤ 0
  · rw [if_pos z, if_pos z]
  · rw [if_neg z, if_neg z]
theorem t_4' {r : Nat} : (4 : Int32) * nI r = nI (r * 4) := by rw [show (4 : Int32) = nI 4 from rfl, pk_mul, Nat.mul_comm]
theorem t_4'' {r k : Nat} : (4 : Int32) * nI r + nI k = nI (r * 4 + k) := by rw [show (4 : Int32) = nI 4 from rfl, pk_mul, nI_add, Nat.mul_comm]
theorem sm_nO {G R g u n : Nat} (hR : R ≤ 400) (hg : g < 41) (hu : u ≤ n) (h1 : 1 ≤ n) (h2 : n ≤ 100) (b7 : dp_I M 204 g = nI u) (b9 : dp_I M 205 g = nI n) (a4 : dp_I M 114 133 = nI R) (a14 : ∀ r, 1 ≤ r → r ≤ R → SRv M G r) : dp_den true xs xl (d + 2) 521 [.ref 114, .int (nI g)] M = lR (nO M g R) M := by
  rw [D_X12_neededOf_0_den, D_X12_neededOf_0_eq]
  simp only [dp_w]
  refine lpb (F := fun a i => D_X12_neededOf_5 xs xl (d + 1) (nI g) a (nI (i + 1)) M) (s := sl (fun i => ndR M g (i + 1))) (N := R) ?_ (fun i hi hr => ?_)
  · (try dsimp only)
    rw [D_X12_neededOf_5_eq, a4, if_pos (nI_lt (by omega) (by omega))]
    rfl
  · (try dsimp only at hr); (try dsimp only)
    obtain ⟨m, c1, c2, c3, c4, c5, c6, c7⟩ := a14 (i + 1) (by omega) (by omega)
    have ec : (dp_I M 216 (i + 1)).toNatClampNeg = m := by rw [c2, nI_cl (by omega)]
    rw [show sl (fun i => ndR M g (i + 1)) (i + 1) = sl (fun i => ndR M g (i + 1)) i + ndR M g (i + 1) from rfl] at hr
    rw [D_X12_neededOf_5_eq, a4, if_neg (nI_nlt (by omega) (by omega))]
    simp only [dp_w, t_4']
    generalize sl (fun i => ndR M g (i + 1)) i = S at hr
    have key := lpb (F := fun a k => D_X12_neededOf_20 xs xl (d + 1) (nI g) a (nI (i + 1)) (nI ((i + 1) * 4 + k)) M) (s := fun k => S + sl (fun k => if dp_I M 217 ((i + 1) * 4 + k) = nI g then ndF M g (dp_J M 218 ((i + 1) * 4 + k)) else 0) k) (N := m) (r := (.inl (some (.long (nO M g R))), M)) ?_ (fun k hk hr2 => ?_)
    · (try dsimp only at key)
      rw [show S + sl (fun k => if dp_I M 217 ((i + 1) * 4 + k) = nI g then ndF M g (dp_J M 218 ((i + 1) * 4 + k)) else 0) 0 = S by rw [sl, Int64.add_zero]] at key
      exact key
    · (try dsimp only)
      rw [D_X12_neededOf_20_eq]
      simp only [nI_cl (show i + 1 < 2147483648 by omega), nI_o (show i + 1 < 402 by omega) (by omega), if_false, c2, t_4'', dp_w, nI_1]
      rw [if_pos (nI_lle (Nat.le_refl _) (by omega))]
      apply D_X12_neededOf_5_to_5_a
      unfold ndR at hr
      rw [ec] at hr
      exact hr
    · (try dsimp only at hr2); (try dsimp only)
      rw [show sl (fun k => if dp_I M 217 ((i + 1) * 4 + k) = nI g then ndF M g (dp_J M 218 ((i + 1) * 4 + k)) else 0) (k + 1) = sl (fun k => if dp_I M 217 ((i + 1) * 4 + k) = nI g then ndF M g (dp_J M 218 ((i + 1) * 4 + k)) else 0) k + (if dp_I M 217 ((i + 1) * 4 + k) = nI g then ndF M g (dp_J M 218 ((i + 1) * 4 + k)) else 0) from rfl, ← Int64.add_assoc] at hr2
      obtain ⟨d1, d2, d3, d4, d5⟩ := c7 k hk
      rw [D_X12_neededOf_20_eq]
      simp only [nI_cl (show i + 1 < 2147483648 by omega), nI_o (show i + 1 < 402 by omega) (by omega), if_false, c2, t_4'', nI_cl (show (i + 1) * 4 + k < 2147483648 by omega), nI_o (show (i + 1) * 4 + k < 1608 by omega) (by omega), dp_w, nI_1]
      rw [if_neg (nI_nge (show (i + 1) * 4 + k < (i + 1) * 4 + m by omega) (by omega))]
      by_cases z : dp_I M 217 ((i + 1) * 4 + k) = nI g
      · rw [if_pos z] at hr2
        rw [if_pos z, sm_ndF hg hu h1 h2 b7 b9 (by omega) d5, rb_bl]
        exact hr2
      · rw [if_neg z] at hr2
        rw [if_neg z]
        exact hr2
end SD
