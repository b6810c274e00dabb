-- needs: 71 72 73 74
/-! RATES: print: numbers -/
section Rt
variable {xs : Nat → Int32} {xl d : Nat} {M : dp_M}
theorem wU_pow : ∀ k n u, 0 < u → u ≤ wU k n u ∧ wU k n u ≤ u * 10 ^ k
  | 0, n, u, _ => ⟨Nat.le_refl _, by rw [wU]; simp⟩
  | k + 1, n, u, h => by
    unfold wU
    split
    · obtain ⟨h1, h2⟩ := wU_pow k n (u * 10) (by omega)
      refine ⟨by omega, ?_⟩
      rw [Nat.pow_succ, Nat.mul_comm (10 ^ k) 10, ← Nat.mul_assoc]; exact h2
    · refine ⟨Nat.le_refl _, Nat.le_mul_of_pos_right _ (Nat.pos_of_ne_zero (by simp))⟩
theorem c_unt {n : Nat} (hn : n < 1000000) : ∀ k u, k ≤ 9 → 0 < u → u * 10 ^ k ≤ 1000000000 → D_X7_printWhole_4 xs xl d (nI n) (nI u) (nI (9 - k)) M = D_X7_printWhole_31 xs xl d (nI n) (nI (wU k n u)) 0 M
  | 0, u, _, hu, hb => by
    rw [D_X7_printWhole_4_eq, if_pos (show (9 : Int32) ≤ nI (9 - 0) from by decide), dpw]; rfl
  | k + 1, u, hk, hu, hb => by
    have hp : 10 ^ (k + 1) = 10 ^ k * 10 := Nat.pow_succ ..
    have p1 : 1 ≤ 10 ^ k := Nat.pos_of_ne_zero (by simp)
    have hub : u * 10 ≤ 1000000000 := by
      have : u * 10 ≤ u * 10 * 10 ^ k := Nat.le_mul_of_pos_right _ p1
      rw [hp, ← Nat.mul_assoc, Nat.mul_right_comm] at hb
      omega
    have hb' : u * 10 * 10 ^ k ≤ 1000000000 := by
      rw [hp, ← Nat.mul_assoc, Nat.mul_right_comm] at hb
      exact hb
    have hd : n / u ≤ n := Nat.div_le_self _ _
    rw [D_X7_printWhole_4_eq, if_neg (show ¬ (9 : Int32) ≤ nI (9 - (k + 1)) from nI_nge (n := 9) (by omega) (by omega)), if_neg (fun e => by rw [show (0 : Int32) = nI 0 from rfl, nI_eq (by omega) (by omega)] at e; omega), q_dv (by omega) hu (by omega)]
    unfold wU
    by_cases z : 10 ≤ n / u
    · rw [if_neg (show ¬ nI (n / u) < (10 : Int32) from Int32.not_lt.mpr (nI_lle (n := 10) z (by omega))), if_pos z, dpw, dpw, nI_1, show nI u * (10 : Int32) = nI (u * 10) from by rw [show (10 : Int32) = nI 10 from rfl, pk_mul], show 9 - (k + 1) + 1 = 9 - k by omega]
      exact c_unt hn k (u * 10) (by omega) (by omega) hb'
    · rw [if_pos (show nI (n / u) < (10 : Int32) from Int32.not_le.mp (nI_nge (i := n / u) (n := 10) (by omega) (by omega))), if_neg z, dpw]
theorem c_digs {n : Nat} (hn : n < 1000000) : ∀ k u P (N : dp_M), k ≤ 10 → u < 10 ^ k → u < 2147483648 → dp_I N 68 1 = nI P → P + (wD k n u).length ≤ 1024 → D_X7_printWhole_31 xs xl (d + 1) (nI n) (nI u) (nI (10 - k)) N = vR (apd N 69 68 1 P (wD k n u))
  | 0, u, P, N, _, _, _, hP, _ => by
    rw [D_X7_printWhole_31_eq, if_pos (by decide)]
    show vR N = vR (apd N 69 68 1 P [])
    rw [apd_nil hP]
  | k + 1, u, P, N, hk, hu, hu2, hP, hl => by
    rw [D_X7_printWhole_31_eq, if_neg (show ¬ (10 : Int32) ≤ nI (10 - (k + 1)) from nI_nge (n := 10) (by omega) (by omega))]
    unfold wD at hl ⊢
    by_cases z : u = 0
    · subst z
      rw [if_pos (by decide), if_pos rfl, apd_nil hP]
    · rw [if_neg z] at hl
      rw [List.length_cons] at hl
      have hd : n / u ≤ n := Nat.div_le_self _ _
      have hm : n / u % 10 < 10 := Nat.mod_lt _ (by omega)
      have dg : (48 : Int32) + (nI n / nI u - nI n / nI u / (10 : Int32) * (10 : Int32)) = nI (48 + n / u % 10) := by
        rw [q_dv (by omega) (by omega) hu2]
        have r := q_rm (a := n / u) (b := 10) (by omega) (by omega) (by omega)
        rw [show (10 : Int32) = nI 10 from rfl, r, show (48 : Int32) = nI 48 from rfl, nI_add]
      have ud : nI u / (10 : Int32) = nI (u / 10) := q_dv (b := 10) hu2 (by omega) (by omega)
      have u0 : ¬ nI u ≤ (0 : Int32) := nI_nge (i := 0) (n := u) (by omega) hu2
      have u1 : ¬ nI u = (0 : Int32) := fun e => by rw [show (0 : Int32) = nI 0 from rfl, nI_eq hu2 (by omega)] at e; omega
      rw [if_neg u0, if_neg u1, dg, c_sig hP (by omega) (by omega), rb_bv, dpw, dpw, ud, nI_1, show 10 - (k + 1) + 1 = 10 - k by omega, if_neg z]
      have P1 : dp_I (apd N 69 68 1 P [nI (48 + n / u % 10)]) 68 1 = nI (P + 1) := wT_Q
      rw [c_digs hn k (u / 10) (P + 1) _ (by omega) (by rw [Nat.pow_succ] at hu; omega) (by omega) P1 (by omega)]
      have a := apd_apd (M := N) (A := 69) (Q := 68) (f := 1) (P := P) (s := [nI (48 + n / u % 10)]) (s' := wD k n (u / 10)) (by decide)
      exact congrArg vR a
theorem c_whl {n P : Nat} (hn : n < 1000000) (hP : dp_I M 68 1 = nI P) (hl : P + (wS n).length ≤ 1024) : dp_den true xs xl (d + 2) 181 [.ref 68, .int (nI n)] M = vR (apd M 69 68 1 P (wS n)) := by
  have u := c_unt (xs := xs) (xl := xl) (d := d + 1) (M := M) hn 9 1 (by omega) (by omega) (by decide)
  have b := wU_pow 9 n 1 (by omega)
  rw [D_X7_printWhole_0_den, D_X7_printWhole_0_eq, dpw, dpw]
  refine (show _ = _ from u).trans ?_
  exact c_digs hn 10 (wU 9 n 1) P M (by omega) (by omega) (by omega) hP hl
end Rt
