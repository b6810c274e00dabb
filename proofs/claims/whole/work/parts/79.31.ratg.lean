-- needs: 71 72 73 74
/-! RATES: signs are typed -/
def okb (v : Int64) (i : Nat) : Prop := (32 : Int64) ≤ byc v i ∧ byc v i ≤ (126 : Int64)
def bch (v : Int64) (i : Nat) : Int32 := Int64.toInt32 (byc v i)
theorem okb_n {v : Int64} {i : Nat} (h : okb v i) : ∃ n, 32 ≤ n ∧ n < 127 ∧ byc v i = Int64.ofNat n := by
  obtain ⟨h1, h2⟩ := h
  rw [Int64.le_iff_toInt_le] at h1 h2
  have c1 : (32 : Int64).toInt = 32 := by decide
  have c2 : (126 : Int64).toInt = 126 := by decide
  refine ⟨(byc v i).toInt.toNat, by omega, by omega, Int64.toInt_inj.mp ?_⟩
  rw [Int64.toInt_ofNat_of_lt (by omega)]
  omega
theorem okb_r {v : Int64} {i : Nat} (h : okb v i) : 32 ≤ (bch v i).toInt ∧ (bch v i).toInt ≤ 126 := by
  obtain ⟨n, h1, h2, e⟩ := okb_n h
  unfold bch
  rw [e]
  have k : ∀ n, n < 127 → (Int64.toInt32 (Int64.ofNat n)).toInt = n := by decide
  rw [k n h2]
  omega
theorem okb_c {v : Int64} {i : Nat} (h : okb v i) : (Int32.toUInt32 ((Int32.toUInt32 (Int64.toInt32 ((v >>> (Int32.toInt64 ((8 : Int32) * nI i) &&& 63)) &&& (255 : Int64))) % 65536).toInt32)).toUInt16.toUInt32.toInt32 = bch v i := by
  obtain ⟨n, h1, h2, e⟩ := okb_n h
  show (Int32.toUInt32 ((Int32.toUInt32 (Int64.toInt32 (byc v i)) % 65536).toInt32)).toUInt16.toUInt32.toInt32 = Int64.toInt32 (byc v i)
  rw [e]
  have k : ∀ n, n < 127 → (Int32.toUInt32 ((Int32.toUInt32 (Int64.toInt32 (Int64.ofNat n)) % 65536).toInt32)).toUInt16.toUInt32.toInt32 = Int64.toInt32 (Int64.ofNat n) := by decide
  exact k n h2
theorem nI_pr {b : Nat} : nI (b + 1) - (1 : Int32) = nI b := by rw [← nI_1, Int32.add_sub_cancel]
/-- j signs more -/
def wT (M : dp_M) (P Q f L j : Nat) (g : Nat → Int32) : dp_M := dp_setI (rI M P (fN (dp_I M P) L j g)) Q f (nI (L + j))
theorem wT_Q {M : dp_M} {P Q f L j : Nat} {g : Nat → Int32} : dp_I (wT M P Q f L j g) Q f = nI (L + j) := by unfold wT; rw [gII, if_pos rfl, uI_s]
theorem wT_P {M : dp_M} {P Q f L j : Nat} {g : Nat → Int32} (h : P ≠ Q) : dp_I (wT M P Q f L j g) P = fN (dp_I M P) L j g := by unfold wT; rw [gII, if_neg h, rI_I, if_pos rfl]
theorem wT_o {M : dp_M} {P Q f L j K : Nat} {g : Nat → Int32} (h1 : K ≠ P) (h2 : K ≠ Q) : dp_I (wT M P Q f L j g) K = dp_I M K := by unfold wT; rw [gII, if_neg h2, rI_I, if_neg h1]
theorem wT_f {M : dp_M} {P Q f L j i : Nat} {g : Nat → Int32} (h : P ≠ Q) (hi : i ≠ f) : dp_I (wT M P Q f L j g) Q i = dp_I M Q i := by unfold wT; rw [gII, if_pos rfl, uI_n hi, rI_I, if_neg (fun e => h e.symm)]
theorem wT_s {M : dp_M} {P Q f L j : Nat} {g : Nat → Int32} (h : P ≠ Q) : dp_setI (dp_setI (wT M P Q f L j g) P (L + j) (g j)) Q f (nI (L + j + 1)) = wT M P Q f L (j + 1) g := mext (fun K => by
  by_cases z : K = Q
  · subst z
    unfold wT
    rw [gII, if_pos rfl, gII, if_neg (fun e => h e.symm), gII, if_pos rfl, gII, if_pos rfl, rI_I, if_neg (fun e => h e.symm), rI_I, if_neg (fun e => h e.symm)]
    funext i
    by_cases y : i = f
    · subst y; rw [uI_s, uI_s]; rfl
    · rw [uI_n y, uI_n y, uI_n y]
  · by_cases y : K = P
    · subst y
      rw [gII, if_neg z, gII, if_pos rfl, wT_P h, wT_P h, fN_s]
    · rw [gII, if_neg z, gII, if_neg y, wT_o y z, wT_o y z]) (fun K => rfl) rfl
theorem wT_0 {M : dp_M} {P Q f L : Nat} {g : Nat → Int32} (h : dp_I M Q f = nI L) : wT M P Q f L 0 g = M := by
  unfold wT
  rw [fN_0, rI_id]
  exact sI_self M Q f h
section Rg
variable {xs : Nat → Int32} {xl d : Nat} {M : dp_M} {v : Int64} {n : Nat}
theorem c_chk : ∀ k i (w : Int64), i + k = n → n ≤ 8 → ((∀ j, i ≤ j → j < n → okb v j) ∧ ∃ w', D_X7_addSigns_17_a xs xl d v (nI n) (nI i) w M = D_X7_addSigns_67_a xs xl d v (nI n) (nI n - 1) w' M) ∨ ((∃ j, j < n ∧ ¬ okb v j) ∧ D_X7_addSigns_17_a xs xl d v (nI n) (nI i) w M = iR 0 M)
  | 0, i, w, hi, hn => by
    refine Or.inl ⟨fun j h1 h2 => by omega, w, ?_⟩
    rw [D_X7_addSigns_17_a_eq, if_pos (nI_lle (by omega) (by omega)), dpw]
  | k + 1, i, w, hi, hn => by
    have e : D_X7_addSigns_17_a xs xl d v (nI n) (nI i) w M = if byc v i < 32 then iR 0 M else if byc v i ≤ 126 then D_X7_addSigns_17_a xs xl d v (nI n) (nI (i + 1)) (byc v i) M else iR 0 M := by
      rw [D_X7_addSigns_17_a_eq, if_neg (nI_nge (by omega) (by omega)), dpw]
      simp only [lg_cmp_lt, lg_cmp_le, dp_w, nI_1]
      rfl
    rw [e]
    by_cases z : okb v i
    · rw [if_neg (fun q => Int64.not_lt.mpr z.1 q), if_pos z.2]
      rcases c_chk k (i + 1) (byc v i) (by omega) hn with ⟨h1, h2⟩ | h
      · refine Or.inl ⟨fun j a b => ?_, h2⟩
        by_cases y : j = i
        · rw [y]; exact z
        · exact h1 j (by omega) b
      · exact Or.inr h
    · refine Or.inr ⟨⟨i, by omega, z⟩, ?_⟩
      by_cases y : byc v i < 32
      · rw [if_pos y]
      · rw [if_neg y, if_neg (fun q => z ⟨Int64.not_lt.mp y, q⟩)]
theorem c_wrt {L : Nat} {w : Int64} (h : dp_I M 68 0 = nI L) (hL : L + n ≤ 400) (ho : ∀ j, j < n → okb v j) : D_X7_addSigns_67_a xs xl d v (nI n) (nI n - 1) w M = iR 1 (wT M 70 68 0 L n (fun j => bch v (n - 1 - j))) := by
  have key := lpb (F := fun (_ : Nat) j => D_X7_addSigns_67_a xs xl d v (nI n) (nI (n - j) - 1) w (wT M 70 68 0 L j (fun j => bch v (n - 1 - j)))) (s := fun _ => 0) (N := n) (r := (.inl (some (.int 1)), wT M 70 68 0 L n (fun j => bch v (n - 1 - j)))) ?_ (fun j hj hr => ?_)
  · (try dsimp only at key)
    rw [wT_0 h] at key; exact key
  · (try dsimp only)
    rw [Nat.sub_self, D_X7_addSigns_67_a_eq, if_pos (by decide)]
  · (try dsimp only at hr); (try dsimp only)
    obtain ⟨a, ha⟩ : ∃ a, n - j = a + 1 := ⟨n - j - 1, by omega⟩
    rw [show n - (j + 1) = a by omega, Int32.sub_eq_add_neg] at hr
    rw [ha, nI_pr, D_X7_addSigns_67_a_eq, if_neg (r_nn (by omega)), wT_Q, nI_cl (by omega), if_neg (by rw [nI_o (show L + j < 400 by omega) (by omega)]; exact id), dpw, okb_c (ho a (by omega))]
    rw [gII, if_neg (by decide), wT_Q, nI_1, dpw, dpw]
    have e : bch v a = (fun j => bch v (n - 1 - j)) j := by show _ = bch v (n - 1 - j); rw [show n - 1 - j = a by omega]
    rw [e, wT_s (by decide)]
    exact hr
theorem m_chk : ∀ k i, i + k = n → n ≤ 8 → ((∀ j, i ≤ j → j < n → okb v j) ∧ D_X12_type_38 xs xl (d + 1) v (nI n) 1 (nI i) M = D_X12_type_82 xs xl (d + 1) v (nI n) 1 (nI n - 1) M) ∨ ((∃ j, j < n ∧ ¬ okb v j) ∧ ∃ y, D_X12_type_38 xs xl (d + 1) v (nI n) 1 (nI i) M = D_X12_type_82 xs xl (d + 1) v (nI n) 0 y M)
  | 0, i, hi, hn => by
    refine Or.inl ⟨fun j h1 h2 => by omega, ?_⟩
    rw [D_X12_type_38_eq, if_pos (nI_lle (by omega) (by omega)), dpw]
  | k + 1, i, hi, hn => by
    have e : D_X12_type_38 xs xl (d + 1) v (nI n) 1 (nI i) M = D_X12_type_38 xs xl (d + 1) v (nI n) (bI ((32 : Int64) ≤ byc v i ∧ byc v i ≤ (126 : Int64))) (nI (i + 1)) M := by
      rw [D_X12_type_38_eq, if_neg (nI_nge (by omega) (by omega)), if_neg (by decide), byc_m (by omega), q_min, rb_bi, dpw, nI_1]
    rw [e]
    by_cases z : okb v i
    · rw [show bI ((32 : Int64) ≤ byc v i ∧ byc v i ≤ (126 : Int64)) = 1 from bI_1.mpr z]
      rcases m_chk k (i + 1) (by omega) hn with ⟨h1, h2⟩ | h
      · refine Or.inl ⟨fun j a b => ?_, h2⟩
        by_cases y : j = i
        · rw [y]; exact z
        · exact h1 j (by omega) b
      · exact Or.inr h
    · rw [show bI ((32 : Int64) ≤ byc v i ∧ byc v i ≤ (126 : Int64)) = 0 from bI_0.mpr z]
      refine Or.inr ⟨⟨i, by omega, z⟩, nI n - 1, ?_⟩
      rw [D_X12_type_38_eq]
      by_cases y : nI n ≤ nI (i + 1)
      · rw [if_pos y, dpw]
      · rw [if_neg y, if_pos rfl, dpw]
theorem m_wrt {L : Nat} (h : dp_I M 114 75 = nI L) (hL : L + n ≤ 400) (hn : n ≤ 8) (ho : ∀ j, j < n → okb v j) : D_X12_type_82 xs xl d v (nI n) 1 (nI n - 1) M = iR 1 (wT M 170 114 75 L n (fun j => bch v (n - 1 - j))) := by
  have key := lpb (F := fun (_ : Nat) j => D_X12_type_82 xs xl d v (nI n) 1 (nI (n - j) - 1) (wT M 170 114 75 L j (fun j => bch v (n - 1 - j)))) (s := fun _ => 0) (N := n) (r := (.inl (some (.int 1)), wT M 170 114 75 L n (fun j => bch v (n - 1 - j)))) ?_ (fun j hj hr => ?_)
  · (try dsimp only at key)
    rw [wT_0 h] at key; exact key
  · (try dsimp only)
    rw [Nat.sub_self, D_X12_type_82_eq, if_pos (by decide), if_pos (Or.inr rfl)]
  · (try dsimp only at hr); (try dsimp only)
    obtain ⟨a, ha⟩ : ∃ a, n - j = a + 1 := ⟨n - j - 1, by omega⟩
    rw [show n - (j + 1) = a by omega, Int32.sub_eq_add_neg] at hr
    rw [ha, nI_pr, D_X12_type_82_eq, if_neg (r_nn (by omega)), if_neg (by decide), wT_Q, nI_cl (by omega), if_neg (by rw [nI_o (show L + j < 400 by omega) (by omega)]; exact id), dpw, byc_m (by omega)]
    rw [gII, if_neg (by decide), wT_Q, nI_1, dpw, dpw]
    have e : Int64.toInt32 (byc v a) = (fun j => bch v (n - 1 - j)) j := by show bch v a = bch v (n - 1 - j); rw [show n - 1 - j = a by omega]
    rw [e, wT_s (by decide)]
    exact hr
theorem m_no {y v3 : Int32} : D_X12_type_82 xs xl d v v3 0 y M = iR 0 M := by
  rw [D_X12_type_82_eq]
  by_cases z : y < 0
  · rw [if_pos z, if_pos (Or.inl rfl)]
  · rw [if_neg z, if_pos rfl, if_pos (Or.inl rfl)]
theorem m_no38 {y v3 : Int32} : D_X12_type_38 xs xl d v v3 0 y M = iR 0 M := by
  rw [D_X12_type_38_eq]
  by_cases z : v3 ≤ y
  · rw [if_pos z, dpw, m_no]
  · rw [if_neg z, if_pos rfl, dpw, m_no]
end Rg
