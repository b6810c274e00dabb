-- needs: 71 72 73 74
/-! RATES: print: signs and numbers -/
theorem q_dv {a b : Nat} (ha : a < 2147483648) (hb : 0 < b) (hb2 : b < 2147483648) : nI a / nI b = nI (a / b) := by
  have h : a / b ≤ a := Nat.div_le_self _ _
  rw [← Int32.toInt_inj, Int32.toInt_div, nI_toInt ha, nI_toInt hb2, nI_toInt (by omega), Int.tdiv_eq_ediv_of_nonneg (by omega)]
  have e : (a : Int) / (b : Int) = ((a / b : Nat) : Int) := (Int.natCast_ediv a b).symm
  rw [e]
  generalize a / b = k at h
  apply Int.bmod_eq_of_le <;> omega
theorem q_rm {a b : Nat} (ha : a < 2147483648) (hb : 0 < b) (hb2 : b < 2147483648) : nI a - nI a / nI b * nI b = nI (a % b) := by
  rw [q_dv ha hb hb2, pk_mul]
  have h : a / b * b + a % b = a := by rw [Nat.mul_comm]; exact Nat.div_add_mod a b
  have e : nI a = nI (a % b) + nI (a / b * b) := by rw [nI_add]; congr 1; omega
  rw [e, Int32.add_sub_cancel]
/-- signs s are put behind the first P -/
def apd (M : dp_M) (A Q f P : Nat) (s : List Int32) : dp_M := wT M A Q f P s.length (fun i => s.getD i 0)
theorem apd_nil {M : dp_M} {A Q f P : Nat} (h : dp_I M Q f = nI P) : apd M A Q f P [] = M := wT_0 h
theorem apd_s {M : dp_M} {A Q f P : Nat} {s : List Int32} {c : Int32} (h : A ≠ Q) : dp_setI (dp_setI (apd M A Q f P s) A (P + s.length) c) Q f (nI (P + s.length + 1)) = apd M A Q f P (s ++ [c]) := by
  unfold apd
  have g : wT M A Q f P s.length (fun i => s.getD i 0) = wT M A Q f P s.length (fun i => (s ++ [c]).getD i 0) := by
    unfold wT
    have : fN (dp_I M A) P s.length (fun i => s.getD i 0) = fN (dp_I M A) P s.length (fun i => (s ++ [c]).getD i 0) := by
      funext i
      unfold fN
      by_cases z : P ≤ i ∧ i < P + s.length
      · rw [if_pos z, if_pos z]; exact (gl (by omega)).symm
      · rw [if_neg z, if_neg z]
    rw [this]
  have e : (s ++ [c]).getD s.length 0 = c := by
    rw [gr' (Nat.le_refl _), Nat.sub_self]; rfl
  have key := wT_s (M := M) (P := A) (Q := Q) (f := f) (L := P) (j := s.length) (g := fun i => (s ++ [c]).getD i 0) h
  rw [e] at key
  rw [g, key, List.length_append]
  rfl
theorem apd_apd {M : dp_M} {A Q f P : Nat} {s s' : List Int32} (h : A ≠ Q) : apd (apd M A Q f P s) A Q f (P + s.length) s' = apd M A Q f P (s ++ s') := by
  unfold apd
  refine mext (fun K => ?_) (fun _ => rfl) rfl
  by_cases zq : K = Q
  · subst zq
    funext i
    by_cases y : i = f
    · subst y; rw [wT_Q, wT_Q, List.length_append, Nat.add_assoc]
    · rw [wT_f h y, wT_f h y, wT_f h y]
  · by_cases za : K = A
    · subst za
      rw [wT_P h, wT_P h, wT_P h]
      funext i
      unfold fN
      rw [List.length_append]
      by_cases z2 : P + s.length ≤ i ∧ i < P + s.length + s'.length
      · rw [if_pos z2, if_pos (by omega)]
        show s'.getD (i - (P + s.length)) 0 = (s ++ s').getD (i - P) 0
        rw [gr' (by omega), show i - P - s.length = i - (P + s.length) by omega]
      · rw [if_neg z2]
        by_cases z1 : P ≤ i ∧ i < P + s.length
        · rw [if_pos z1, if_pos (by omega)]
          exact (gl (by omega)).symm
        · rw [if_neg z1, if_neg (by omega)]
    · rw [wT_o za zq, wT_o za zq, wT_o za zq]
section Rs
variable {xs : Nat → Int32} {xl d : Nat} {M : dp_M}
theorem chr_n {n : Nat} (h : n < 127) : (Int32.toUInt32 ((Int32.toUInt32 (nI n) % 65536).toInt32)).toUInt16.toUInt32.toInt32 = nI n := by
  have k : ∀ n, n < 127 → (Int32.toUInt32 ((Int32.toUInt32 (nI n) % 65536).toInt32)).toUInt16.toUInt32.toInt32 = nI n := by decide
  exact k n h
/-- the class prints a sign -/
theorem c_sig {P n : Nat} (h : dp_I M 68 1 = nI P) (hP : P < 1024) (hn : n < 127) : dp_den true xs xl (d + 1) 174 [.ref 68, .int (nI n)] M = vR (apd M 69 68 1 P [nI n]) := by
  have a := apd_s (M := M) (A := 69) (Q := 68) (f := 1) (P := P) (s := []) (c := nI n) (by decide)
  rw [apd_nil h] at a
  rw [D_X7_addSign_0_den, D_X7_addSign_0_eq, h, if_neg (show ¬ (1024 : Int32) ≤ nI P from nI_nge (n := 1024) hP (by omega)), nI_cl (by omega), if_neg (by rw [nI_o hP (by omega)]; exact id), dpw, chr_n hn, gII, if_neg (show ¬ 68 = 69 by decide), h, nI_1, dpw]
  exact congrArg vR a
/-- the model puts a sign -/
theorem m_sig {P : Nat} {c : Int32} (h : dp_I M 114 104 = nI P) (hP : P < 4000) : dp_den true xs xl (d + 1) 495 [.ref 114, .int c] M = vR (apd M 190 114 104 P [c]) := by
  have a := apd_s (M := M) (A := 190) (Q := 114) (f := 104) (P := P) (s := []) (c := c) (by decide)
  rw [apd_nil h] at a
  rw [D_X12_puts_0_den, D_X12_puts_0_eq, h, nI_cl (by omega), if_neg (by rw [nI_o hP (by omega)]; exact id), dpw, gII, if_neg (show ¬ 114 = 190 by decide), h, nI_1, dpw]
  exact congrArg vR a
/-- the greatest unit of a number -/
def wU : Nat → Nat → Nat → Nat
  | 0, _, u => u
  | k + 1, n, u => if 10 ≤ n / u then wU k n (u * 10) else u
/-- its signs from a unit on -/
def wD : Nat → Nat → Nat → List Int32
  | 0, _, _ => []
  | k + 1, n, u => if u = 0 then [] else nI (48 + n / u % 10) :: wD k n (u / 10)
def wS (n : Nat) : List Int32 := wD 10 n (wU 9 n 1)
theorem wD_len : ∀ k n u, u < 10 ^ k → (wD k n u).length ≤ k
  | 0, _, _, _ => Nat.le_refl _
  | k + 1, n, u, h => by
    unfold wD
    split
    · exact Nat.zero_le _
    · have := wD_len k n (u / 10) (by rw [Nat.pow_succ] at h; omega)
      rw [List.length_cons]; omega
end Rs
