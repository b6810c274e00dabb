/-! SECURITIES: list -/
theorem ct_fd {p : Nat → Bool} : ∀ n i, i < ct p n → ∃ j, j < n ∧ p j = true ∧ ct p j = i
  | 0, i, h => by rw [ct] at h; omega
  | n + 1, i, h => by
    by_cases z : i < ct p n
    · obtain ⟨j, h1, h2, h3⟩ := ct_fd n i z
      exact ⟨j, by omega, h2, h3⟩
    · rw [ct] at h
      by_cases y : p n = true
      · rw [if_pos y] at h
        exact ⟨n, by omega, y, by omega⟩
      · rw [if_neg y] at h; omega
theorem ct_nm2 {p : Nat → Bool} {a : Nat} : ∀ n, a ≤ n → ct p a ≤ ct p n
  | 0, h => by rw [show a = 0 by omega]; exact Nat.le_refl _
  | n + 1, h => by
    by_cases e : a = n + 1
    · rw [e]; exact Nat.le_refl _
    · have := ct_nm2 (p := p) n (show a ≤ n by omega)
      rw [ct]; omega
theorem ct_s2 {p : Nat → Bool} {a : Nat} (h : p a = true) : ct p (a + 1) = ct p a + 1 := by rw [ct, h]; rfl
theorem ct_n2 {p : Nat → Bool} {a : Nat} (h : ¬ p a = true) : ct p (a + 1) = ct p a := by rw [ct, if_neg h]; rfl
section SJ
variable {xs : Nat → Int32} {xl d : Nat} {M : dp_M}
def hp (M : dp_M) (v : Int32) (k : Nat) : Bool := decide (dp_I M 202 (dp_I M 213 k).toNatClampNeg = v)
theorem sub_nI {v : Int32} {n : Nat} : (v - nI n = 0) ↔ v = nI n := by
  constructor
  · intro h
    have : v - nI n + nI n = 0 + nI n := by rw [h]
    rw [Int32.sub_add_cancel, Int32.zero_add] at this; exact this
  · intro h; rw [h, Int32.sub_self]
theorem sm_step {G k : Nat} {v1 v2 : Int32} {r : dp_Res} (hG : G ≤ 40) (a2 : dp_I M 114 119 = nI G) (hk : k < G) (hq : wi (dp_I M 213 k) 1 G) (hne : ¬ (hp M v1 k = true ∧ v2 = nI (ct (hp M v1) k))) (hr : D_X12_list_10 xs xl d v1 v2 (v2 - nI (ct (hp M v1) (k + 1))) (nI (k + 1)) M = some r) : D_X12_list_10 xs xl d v1 v2 (v2 - nI (ct (hp M v1) k)) (nI k) M = some r := by
  obtain ⟨g, g1, g2, eg⟩ := wi_of (a := 1) (b := G) hq (by omega)
  have hg : dp_I M 202 g = v1 ↔ hp M v1 k = true := by unfold hp; rw [eg, nI_cl (by omega), decide_eq_true_eq]
  rw [D_X12_list_10_eq, a2, if_neg (nI_nge hk (by omega))]
  simp only [nI_cl (show k < 2147483648 by omega), nI_o (show k < 40 by omega) (by omega), if_false, eg, nI_cl (show g < 2147483648 by omega), nI_o (show g < 41 by omega) (by omega), D_X12_list_40_eq, dp_w, nI_1, if_true, if_neg (show ¬ (1 : Int32) = 0 by decide), Int32.sub_zero, sub_nI]
  by_cases z : dp_I M 202 g = v1
  · have zp := hg.mp z
    rw [if_pos z, if_neg (fun q => hne ⟨zp, q⟩)]
    apply D_X12_list_10_to_10_a
    rw [ct_s2 zp] at hr
    have e : v2 - nI (ct (hp M v1) k) - 1 = v2 - nI (ct (hp M v1) k + 1) := by
      rw [← nI_1, Int32.sub_eq_add_neg, Int32.sub_eq_add_neg, Int32.sub_eq_add_neg, Int32.neg_add, Int32.sub_eq_add_neg, Int32.add_assoc]
    rw [e]; exact hr
  · have zp : ¬ hp M v1 k = true := fun q => z (hg.mpr q)
    rw [if_neg z]
    apply D_X12_list_10_to_10_a
    rw [ct_n2 zp] at hr
    exact hr
end SJ
