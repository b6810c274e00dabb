-- needs: 71 72 73 74
/-! RATES: print: numbers, the model; thousandths -/
section Ru
variable {xs : Nat → Int32} {xl d : Nat} {M : dp_M}
theorem m_unt {n : Nat} (hn : n < 1000000) : ∀ k u, 0 < u → u * 10 ^ k ≤ 1000000000 → n / u < 10 ^ (k + 1) → D_X12_putsWhole_2 xs xl d (nI n) (nI u) M = D_X12_putsWhole_20 xs xl d (nI n) (nI (wU k n u)) (nI (wU k n u)) M := by
  intro k
  induction k with
  | zero =>
    intro u hu hb hq
    have hd : n / u ≤ n := Nat.div_le_self _ _
    have hb' : u ≤ 1000000000 := by simpa using hb
    have hq' : n / u < 10 := by simpa using hq
    rw [D_X12_putsWhole_2_eq, if_neg (fun e => by rw [show (0 : Int32) = nI 0 from rfl, nI_eq (by omega) (by omega)] at e; omega), q_dv (by omega) hu (by omega), if_pos (show nI (n / u) ≤ (9 : Int32) from nI_lle (n := n / u) (i := 9) (by omega) (by omega))]
    rfl
  | succ k ih =>
    intro u hu hb hq
    have hp : 10 ^ (k + 1) = 10 ^ k * 10 := Nat.pow_succ ..
    have p1 : 1 ≤ 10 ^ k := Nat.pos_of_ne_zero (by simp)
    have hb' : u * 10 * 10 ^ k ≤ 1000000000 := by
      rw [hp, ← Nat.mul_assoc, Nat.mul_right_comm] at hb
      exact hb
    have hub : u * 10 ≤ 1000000000 := by
      have : u * 10 ≤ u * 10 * 10 ^ k := Nat.le_mul_of_pos_right _ p1
      omega
    have hd : n / u ≤ n := Nat.div_le_self _ _
    rw [D_X12_putsWhole_2_eq, if_neg (fun e => by rw [show (0 : Int32) = nI 0 from rfl, nI_eq (by omega) (by omega)] at e; omega), q_dv (by omega) hu (by omega)]
    unfold wU
    by_cases z : 10 ≤ n / u
    · rw [if_neg (show ¬ nI (n / u) ≤ (9 : Int32) from nI_nge (i := 9) (n := n / u) (by omega) (by omega)), if_pos z, dpw, show nI u * (10 : Int32) = nI (u * 10) from by rw [show (10 : Int32) = nI 10 from rfl, pk_mul]]
      refine ih (u * 10) (by omega) hb' ?_
      rw [← Nat.div_div_eq_div_mul]
      have e2 : 10 ^ (k + 1 + 1) = 10 ^ (k + 1) * 10 := Nat.pow_succ ..
      omega
    · rw [if_pos (show nI (n / u) ≤ (9 : Int32) from nI_lle (n := n / u) (i := 9) (by omega) (by omega)), if_neg z]
theorem m_digs {n : Nat} {v2 : Int32} (hn : n < 1000000) : ∀ k u P (N : dp_M), u < 10 ^ k → u < 2147483648 → dp_I N 114 104 = nI P → P + (wD k n u).length ≤ 4000 → D_X12_putsWhole_20 xs xl (d + 1) (nI n) v2 (nI u) N = vR (apd N 190 114 104 P (wD k n u))
  | 0, u, P, N, hu, _, hP, _ => by
    have : u = 0 := by simpa using hu
    subst this
    rw [D_X12_putsWhole_20_eq, if_pos (by decide)]
    show vR N = vR (apd N 190 114 104 P [])
    rw [apd_nil hP]
  | k + 1, u, P, N, hu, hu2, hP, hl => by
    rw [D_X12_putsWhole_20_eq]
    unfold wD at hl ⊢
    by_cases z : u = 0
    · subst z
      rw [if_pos (by decide), if_pos rfl, apd_nil hP]
    · rw [if_neg z] at hl
      rw [List.length_cons] at hl
      have hd : n / u ≤ n := Nat.div_le_self _ _
      have hm : n / u % 10 < 10 := Nat.mod_lt _ (by omega)
      have dg : (48 : Int32) + (nI n / nI u - nI n / nI u / (10 : Int32) * (10 : Int32)) = nI (48 + n / u % 10) := by
        rw [q_dv (by omega) (by omega) hu2]
        have r := q_rm (a := n / u) (b := 10) (by omega) (by omega) (by omega)
        rw [show (10 : Int32) = nI 10 from rfl, r, show (48 : Int32) = nI 48 from rfl, nI_add]
      have ud : nI u / (10 : Int32) = nI (u / 10) := q_dv (b := 10) hu2 (by omega) (by omega)
      have u0 : ¬ nI u ≤ (0 : Int32) := nI_nge (i := 0) (n := u) (by omega) hu2
      have u1 : ¬ nI u = (0 : Int32) := fun e => by rw [show (0 : Int32) = nI 0 from rfl, nI_eq hu2 (by omega)] at e; omega
      rw [if_neg u0, if_neg u1, dg, m_sig hP (by omega), rb_bv, dpw, ud, if_neg z]
      have P1 : dp_I (apd N 190 114 104 P [nI (48 + n / u % 10)]) 114 104 = nI (P + 1) := wT_Q
      rw [m_digs hn k (u / 10) (P + 1) _ (by rw [Nat.pow_succ] at hu; omega) (by omega) P1 (by omega)]
      have a := apd_apd (M := N) (A := 190) (Q := 114) (f := 104) (P := P) (s := [nI (48 + n / u % 10)]) (s' := wD k n (u / 10)) (by decide)
      exact congrArg vR a
theorem m_whl {n P : Nat} (hn : n < 1000000) (hP : dp_I M 114 104 = nI P) (hl : P + (wS n).length ≤ 4000) : dp_den true xs xl (d + 2) 496 [.ref 114, .int (nI n)] M = vR (apd M 190 114 104 P (wS n)) := by
  have u := m_unt (xs := xs) (xl := xl) (d := d + 1) (M := M) hn 9 1 (by omega) (by decide) (by rw [Nat.div_one]; omega)
  have b := wU_pow 9 n 1 (by omega)
  rw [D_X12_putsWhole_0_den, D_X12_putsWhole_0_eq, dpw]
  refine (show _ = _ from u).trans ?_
  exact m_digs hn 10 (wU 9 n 1) P M (by omega) (by omega) hP hl
/-- the thousandths' signs -/
def nF (r : Nat) : List Int32 := if r = 0 then [] else nI 46 :: nI (48 + r / 100) :: (if r % 100 = 0 then [] else nI (48 + r % 100 / 10) :: (if r % 10 = 0 then [] else [nI (48 + r % 10)]))
def nS (x : Nat) : List Int32 := wS (x / 1000) ++ nF (x % 1000)
theorem c_app {P : Nat} {N : dp_M} {s : List Int32} {n : Nat} (h : dp_I M 68 1 = nI P) (hN : N = apd M 69 68 1 P s) (hl : P + s.length < 1024) (hn : n < 127) : dp_den true xs xl (d + 1) 174 [.ref 68, .int (nI n)] N = vR (apd M 69 68 1 P (s ++ [nI n])) := by
  have e : dp_I N 68 1 = nI (P + s.length) := by rw [hN]; exact wT_Q
  rw [c_sig e hl hn, hN, apd_apd (by decide)]
theorem m_app {P : Nat} {N : dp_M} {s : List Int32} {c : Int32} (h : dp_I M 114 104 = nI P) (hN : N = apd M 190 114 104 P s) (hl : P + s.length < 4000) : dp_den true xs xl (d + 1) 495 [.ref 114, .int c] N = vR (apd M 190 114 104 P (s ++ [c])) := by
  have e : dp_I N 114 104 = nI (P + s.length) := by rw [hN]; exact wT_Q
  rw [m_sig e hl, hN, apd_apd (by decide)]
theorem c_nmb {x P : Nat} (hx : x < 100000000) (hP : dp_I M 68 1 = nI P) (hl : P + (nS x).length ≤ 1024) : dp_den true xs xl (d + 3) 180 [.ref 68, .int (nI x)] M = vR (apd M 69 68 1 P (nS x)) := by
  obtain ⟨r, hr⟩ : ∃ r, r = x % 1000 := ⟨_, rfl⟩
  have r1 : r < 1000 := by omega
  have hl' := hl
  unfold nS at hl'
  rw [List.length_append, ← hr] at hl'
  have e1 : nI x / (1000 : Int32) = nI (x / 1000) := q_dv (b := 1000) (by omega) (by omega) (by omega)
  have e2 : nI x - nI x / (1000 : Int32) * (1000 : Int32) = nI r := by rw [hr]; exact q_rm (b := 1000) (by omega) (by omega) (by omega)
  have hN := c_whl (xs := xs) (xl := xl) (d := d) (n := x / 1000) (by omega) hP (by omega)
  obtain ⟨w, hw⟩ : ∃ w, w = wS (x / 1000) := ⟨_, rfl⟩
  rw [D_X7_printNumber_0_den, D_X7_printNumber_0_eq, e1, hN, rb_bv, ← e1, e2, dpw]
  unfold nS
  rw [← hw] at hl' ⊢
  rw [← hr]
  unfold nF at hl' ⊢
  have pos : ∀ a, 0 < a → a < 2147483648 → ¬ nI a ≤ (0 : Int32) := fun a h1 h2 => nI_nge (i := 0) (n := a) h1 h2
  have st : ∀ a, a < 1000 → (48 : Int32) + nI a / (100 : Int32) = nI (48 + a / 100) ∧ (nI a - nI a / (100 : Int32) * (100 : Int32)) * (10 : Int32) = nI (a % 100 * 10) := fun a ha => by
    have q1 : nI a / (100 : Int32) = nI (a / 100) := q_dv (b := 100) (by omega) (by omega) (by omega)
    have q2 : nI a - nI a / (100 : Int32) * (100 : Int32) = nI (a % 100) := q_rm (b := 100) (by omega) (by omega) (by omega)
    rw [q2, q1]
    exact ⟨by rw [show (48 : Int32) = nI 48 from rfl, nI_add], by rw [show (10 : Int32) = nI 10 from rfl, pk_mul]⟩
  by_cases z : r = 0
  · rw [if_pos z, List.append_nil, z, if_pos (by decide), dpw, D_X7_printNumber_27_eq, if_neg (by decide), if_pos (by decide)]
  · rw [if_neg z] at hl' ⊢
    rw [List.length_cons, List.length_cons] at hl'
    rw [if_neg (pos r (by omega) (by omega)), show (46 : Int32) = nI 46 from rfl, c_app (d := d + 1) hP rfl (by omega) (by omega), rb_bv, dpw, D_X7_printNumber_27_eq, if_neg (by decide), if_neg (pos r (by omega) (by omega)), (st r r1).1, (st r r1).2, c_app (d := d + 1) (s := w ++ [nI 46]) hP rfl (by rw [List.length_append]; simp only [List.length_singleton]; omega) (by omega), rb_bv, dpw, dpw, D_X7_printNumber_27_eq, if_neg (by decide)]
    by_cases z1 : r % 100 = 0
    · rw [z1, if_pos (by decide), if_pos rfl]
      simp only [List.append_assoc, List.cons_append, List.nil_append]
    · rw [if_neg z1] at hl' ⊢
      rw [List.length_cons] at hl'
      have d2 : r % 100 * 10 / 100 = r % 100 / 10 := by omega
      have d3 : r % 100 * 10 % 100 * 10 = r % 10 * 100 := by omega
      rw [if_neg (pos _ (by omega) (by omega)), (st (r % 100 * 10) (by omega)).1, (st (r % 100 * 10) (by omega)).2, d2, d3, c_app (d := d + 1) (s := w ++ [nI 46] ++ [nI (48 + r / 100)]) hP rfl (by simp only [List.length_append, List.length_singleton]; omega) (by omega), rb_bv, dpw, dpw, D_X7_printNumber_27_eq, if_neg (by decide)]
      by_cases z2 : r % 10 = 0
      · rw [z2, if_pos (by decide), if_pos rfl]
        simp only [List.append_assoc, List.cons_append, List.nil_append]
      · rw [if_neg z2] at hl' ⊢
        rw [List.length_singleton] at hl'
        have d4 : r % 10 * 100 / 100 = r % 10 := by omega
        rw [if_neg (pos _ (by omega) (by omega)), (st (r % 10 * 100) (by omega)).1, (st (r % 10 * 100) (by omega)).2, d4, c_app (d := d + 1) (s := w ++ [nI 46] ++ [nI (48 + r / 100)] ++ [nI (48 + r % 100 / 10)]) hP rfl (by simp only [List.length_append, List.length_singleton]; omega) (by omega), rb_bv, dpw, dpw, D_X7_printNumber_27_eq, if_pos (by decide)]
        simp only [List.append_assoc, List.cons_append, List.nil_append]
end Ru
