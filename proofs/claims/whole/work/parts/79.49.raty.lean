-- needs: 71 72 73 74
/-! RATES: print: a number against its text -/
section Ry
variable {t : Nat → Int32} {L : Nat}
theorem vN_d {p : Nat} : vN t p (dgt t L p) < 10 ^ dgt t L p := vN_lt _ (fun _ hi => (dgt_in hi).2)
theorem scl_lt {m f : Nat} (h1 : 1 ≤ m) (h3 : m ≤ 3) (hf : f < 10 ^ m) : scl m f < 1000 ∧ scl m f % 10 ^ (3 - m) = 0 := by
  have ms : m = 1 ∨ m = 2 ∨ m = 3 := by omega
  unfold scl
  rcases ms with rfl | rfl | rfl
  · have hf' : f < 10 := hf
    rw [if_pos rfl]
    exact ⟨by omega, show 100 * f % 100 = 0 by omega⟩
  · have hf' : f < 100 := hf
    rw [if_neg (by decide), if_pos rfl]
    exact ⟨by omega, show 10 * f % 10 = 0 by omega⟩
  · have hf' : f < 1000 := hf
    rw [if_neg (by decide), if_neg (by decide)]
    exact ⟨hf', show f % 1 = 0 by omega⟩
theorem nS_le {a s k m : Nat} (hk : 1 ≤ k) (ha : a < 10 ^ k) (hs : s < 1000) (hm : m ≤ 3) (hz : s % 10 ^ (3 - m) = 0) : (nS (1000 * a + s)).length ≤ k + (m + 1) := by
  unfold nS
  rw [show (1000 * a + s) / 1000 = a by omega, show (1000 * a + s) % 1000 = s by omega, List.length_append]
  have h1 := wS_le hk ha
  have h2 := nF_le hs hm hz
  omega
theorem nS_le0 {a k : Nat} (hk : 1 ≤ k) (ha : a < 10 ^ k) : (nS (1000 * a)).length ≤ k := by
  unfold nS
  rw [show 1000 * a / 1000 = a by omega, show 1000 * a % 1000 = 0 by omega, List.length_append]
  have h1 := wS_le hk ha
  have h2 : (nF 0).length = 0 := rfl
  omega
theorem p5 {a k : Nat} (h : a < 10 ^ k) (hk : k ≤ 5) : a < 100000 := Nat.lt_of_lt_of_le h (Nat.pow_le_pow_right (by omega) hk)
theorem rNu_pr {p x q : Nat} (h : rNu t L p = .inr (x, q)) : x < 100000000 ∧ (nS x).length + p ≤ q := by
  unfold rNu at h
  split at h
  · rename_i k1
    have va := vN_d (t := t) (L := L) (p := p)
    have va5 := p5 va k1.2
    split at h
    · split at h
      · rename_i m1
        injection h with h; injection h with h1 h2
        have vf := vN_d (t := t) (L := L) (p := p + dgt t L p + 1)
        obtain ⟨s1, s2⟩ := scl_lt m1.1 m1.2 vf
        have l := nS_le (a := vN t p (dgt t L p)) k1.1 va s1 m1.2 s2
        rw [h1] at l
        omega
      · cases h
    · injection h with h; injection h with h1 h2
      have l := nS_le0 (a := vN t p (dgt t L p)) k1.1 va
      rw [h1] at l
      omega
  · cases h
/-- the signs of a leaf; of the first k steps -/
def rwS (a : List (Int32 × Int32)) : Nat → List Int32
  | 0 => []
  | k + 1 => rwS a k ++ ((if k = 0 then [nI 58, nI 32] else [nI 44, nI 32]) ++ (wS (a.getD k (0, 0)).1.toNatClampNeg ++ (nI 61 :: wS (a.getD k (0, 0)).2.toNatClampNeg)))
def lfS (v : Nd) : List Int32 := if v.1 = 0 then [nI 102, nI 114, nI 101, nI 101] else if v.1 = 1 then nS v.2.1.toNatClampNeg ++ [nI 37] else if v.1 = 2 then nS v.2.1.toNatClampNeg ++ [nI 47, nI (65 + v.2.2.1.toNatClampNeg)] else [nI 115, nI 116, nI 101, nI 112, nI 40] ++ (wS v.2.1.toNatClampNeg ++ (rwS v.2.2.2 v.2.2.2.length ++ [nI 41]))
theorem rNum_pr {p q : Nat} {v : Nd} (h : rNum t L p = .inr (v, q)) : (lfS v).length + p ≤ q ∧ (v.1 = 1 ∨ v.1 = 2) ∧ ∃ x, x < 100000000 ∧ v.2.1 = nI x := by
  unfold rNum at h
  split at h
  · cases h
  · rename_i x q0 e0
    obtain ⟨n1, n2⟩ := rNu_pr e0
    unfold rUn at h
    have g1 := sk_ge (t := t) (L := L) (p := q0)
    split at h
    · injection h with h; injection h with h1 h2
      subst h1
      refine ⟨?_, Or.inl rfl, x, n1, rfl⟩
      show (lfS (1, nI x, -1, [])).length + p ≤ q
      unfold lfS
      rw [if_neg (show ¬ (1 : Int32) = 0 by decide), if_pos rfl]
      show (nS (nI x).toNatClampNeg ++ [nI 37]).length + p ≤ q
      rw [nI_cl (by omega), List.length_append, List.length_singleton]
      omega
    · split at h
      · split at h
        · rename_i z
          have g2 := sk_ge (t := t) (L := L) (p := sk t L q0 + 1)
          injection h with h; injection h with h1 h2
          subst h1
          refine ⟨?_, Or.inr rfl, x, n1, rfl⟩
          unfold lfS
          rw [if_neg (show ¬ (2 : Int32) = 0 by decide), if_neg (show ¬ (2 : Int32) = 1 by decide), if_pos rfl]
          show (nS (nI x).toNatClampNeg ++ [_, _]).length + p ≤ q
          rw [nI_cl (by omega), List.length_append]
          simp only [List.length_cons, List.length_nil]
          omega
        · cases h
      · cases h
end Ry
