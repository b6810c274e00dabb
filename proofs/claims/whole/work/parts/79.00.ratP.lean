-- needs: 71 72 73 74
/-! RATES: the text, and what is read from it -/
abbrev Nd : Type := Int32 × Int32 × Int32 × List (Int32 × Int32)
def isBn (v : Nd) : Bool := decide (v.1 = 3 ∨ v.1 = 4 ∨ v.1 = 5 ∨ v.1 = 6)
/-- blanks are passed -/
def skN (t : Nat → Int32) (L : Nat) : Nat → Nat → Nat
  | 0, p => p
  | n + 1, p => if p < L ∧ t p = 32 then skN t L n (p + 1) else p
def sk (t : Nat → Int32) (L p : Nat) : Nat := skN t L (L - p) p
abbrev isAt (t : Nat → Int32) (L p : Nat) (c : Int32) : Prop := p < L ∧ t p = c
abbrev isDg (v : Int32) : Prop := ¬ v < 48 ∧ ¬ 57 < v
abbrev isLt (v : Int32) : Prop := ¬ v < 97 ∧ ¬ 122 < v
/-- how many from p on are P -/
def rnN (P : Nat → Bool) (L : Nat) : Nat → Nat → Nat
  | 0, _ => 0
  | n + 1, p => if p < L ∧ P p = true then rnN P L n (p + 1) + 1 else 0
def dgt (t : Nat → Int32) (L p : Nat) : Nat := rnN (fun i => decide (isDg (t i))) L (L - p) p
def lt' (t : Nat → Int32) (L p : Nat) : Nat := rnN (fun i => decide (isLt (t i))) L (L - p) p
def vN (t : Nat → Int32) (p : Nat) : Nat → Nat
  | 0 => 0
  | n + 1 => vN t p n * 10 + ((t (p + n)).toNatClampNeg - 48)
/-- a sign is passed -/
def pss (t : Nat → Int32) (L : Nat) (c : Int32) (p : Nat) : Nat ⊕ Nat := if isAt t L (sk t L p) c then .inr (sk t L p + 1) else .inl (sk t L p)
/-- a whole number -/
def rWh (t : Nat → Int32) (L p : Nat) : Nat ⊕ (Nat × Nat) := if 1 ≤ dgt t L (sk t L p) ∧ dgt t L (sk t L p) ≤ 6 then .inr (vN t (sk t L p) (dgt t L (sk t L p)), sk t L p + dgt t L (sk t L p)) else .inl (sk t L p)
def scl (m f : Nat) : Nat := if m = 1 then 100 * f else if m = 2 then 10 * f else f
/-- a number in thousandths, at p -/
def rNu (t : Nat → Int32) (L p : Nat) : Nat ⊕ (Nat × Nat) := if 1 ≤ dgt t L p ∧ dgt t L p ≤ 5 then
    (if isAt t L (p + dgt t L p) 46 then (if 1 ≤ dgt t L (p + dgt t L p + 1) ∧ dgt t L (p + dgt t L p + 1) ≤ 3 then .inr (1000 * vN t p (dgt t L p) + scl (dgt t L (p + dgt t L p + 1)) (vN t (p + dgt t L p + 1) (dgt t L (p + dgt t L p + 1))), p + dgt t L p + 1 + dgt t L (p + dgt t L p + 1)) else .inl p)
     else .inr (1000 * vN t p (dgt t L p), p + dgt t L p)) else .inl p
/-- what stands behind a number -/
def rUn (t : Nat → Int32) (L x p : Nat) : Nat ⊕ (Nd × Nat) := if isAt t L (sk t L p) 37 then .inr ((1, nI x, -1, []), sk t L p + 1) else if isAt t L (sk t L p) 47 then
    (if sk t L (sk t L p + 1) < L ∧ ¬ t (sk t L (sk t L p + 1)) < 65 ∧ ¬ 72 < t (sk t L (sk t L p + 1)) then .inr ((2, nI x, t (sk t L (sk t L p + 1)) - 65, []), sk t L (sk t L p + 1) + 1) else .inl (sk t L (sk t L p + 1))) else .inl (sk t L p)
def rNum (t : Nat → Int32) (L p : Nat) : Nat ⊕ (Nd × Nat) := match rNu t L p with
  | .inl b => .inl b
  | .inr (x, q) => rUn t L x q
/-- one step: from, cents -/
def rSt (t : Nat → Int32) (L p : Nat) : Nat ⊕ (Nat × Nat × Nat) := match rWh t L p with
  | .inl b => .inl b
  | .inr (f, q) => match pss t L 61 q with
    | .inl b => .inl b
    | .inr q2 => match rWh t L q2 with
      | .inl b => .inl b
      | .inr (c, q3) => .inr (f, c, q3)
/-- the last step's from, or less than all -/
def lsf (a : List (Nat × Nat)) : Int := match a.getLast? with
  | none => -1
  | some x => x.1
def rRo (t : Nat → Int32) (L : Nat) : Nat → List (Nat × Nat) → Nat → Nat ⊕ (List (Nat × Nat) × Nat)
  | 0, _, p => .inl p
  | n + 1, a, p => match rSt t L p with
    | .inl b => .inl b
    | .inr (f, c, q) => if a.length = 6 ∨ (f : Int) ≤ lsf a then .inl (sk t L p) else if isAt t L (sk t L q) 44 then rRo t L n (a ++ [(f, c)]) (sk t L q + 1) else .inr (a ++ [(f, c)], sk t L q)
def rws (a : List (Nat × Nat)) : List (Int32 × Int32) := a.map (fun x => (nI x.1, nI x.2))
def rSp (t : Nat → Int32) (L p : Nat) : Nat ⊕ (Nd × Nat) := match pss t L 40 p with
  | .inl b => .inl b
  | .inr q => match rWh t L q with
    | .inl b => .inl b
    | .inr (e, q2) => match pss t L 58 q2 with
      | .inl b => .inl b
      | .inr q3 => match rRo t L 7 [] q3 with
        | .inl b => .inl b
        | .inr (a, q4) => match pss t L 41 q4 with
          | .inl b => .inl b
          | .inr q5 => .inr ((7, nI e, -1, rws a), q5)
abbrev isWd (t : Nat → Int32) (L p : Nat) (w : List Int32) : Prop := lt' t L p = w.length ∧ ∀ i, i < w.length → t (p + i) = w.getD i 0
abbrev PRes : Type := Option (Nat ⊕ (List Nd × Nat × Nat))
/-- part (0), rate (1), what stands behind a part (2): depth, place, nodes -/
def ps (t : Nat → Int32) (L : Nat) : Nat → Nat → List Nd → Nat → Nat → Nat → PRes
  | 0, _, _, _, _, _ => none
  | n + 1, 1, _, k, p, c => match ps t L n 0 [] k p c with
    | some (.inr (l, q, c')) => ps t L n 2 l k q c'
    | x => x
  | n + 1, 2, l, k, p, c => if isAt t L (sk t L p) 43 ∨ isAt t L (sk t L p) 45 then
      (if c < 60 then (match ps t L n 0 [] k (sk t L p + 1) (c + 1) with
        | some (.inr (r, q, c')) => ps t L n 2 ((if t (sk t L p) = 43 then (3, 0, -1, []) else (4, 0, -1, [])) :: (l ++ r)) k q c'
        | x => x) else some (.inl (sk t L p)))
      else some (.inr (l, sk t L p, c))
  | n + 1, _, _, k, p, c => if isAt t L (sk t L p) 40 then
      (if k < 12 then (match ps t L n 1 [] (k + 1) (sk t L p + 1) c with
        | some (.inr (l, q, c')) => (match pss t L 41 q with
          | .inl b => some (.inl b)
          | .inr q' => some (.inr (l, q', c')))
        | x => x) else some (.inl (sk t L p)))
    else if sk t L p < L ∧ isDg (t (sk t L p)) then
      (if c < 60 then (match rNum t L (sk t L p) with
        | .inl b => some (.inl b)
        | .inr (v, q) => some (.inr ([v], q, c + 1))) else some (.inl (sk t L p)))
    else if isWd t L (sk t L p) [102, 114, 101, 101] then (if c < 60 then some (.inr ([(0, 0, -1, [])], sk t L p + 4, c + 1)) else some (.inl (sk t L p)))
    else if isWd t L (sk t L p) [109, 105, 110] ∨ isWd t L (sk t L p) [109, 97, 120] then
      (if c < 60 ∧ k < 12 then (match pss t L 40 (sk t L p + 3) with
        | .inl b => some (.inl b)
        | .inr q0 => (match ps t L n 1 [] (k + 1) q0 (c + 1) with
          | some (.inr (l1, q1, c1)) => (match pss t L 44 q1 with
            | .inl b => some (.inl b)
            | .inr q2 => (match ps t L n 1 [] (k + 1) q2 c1 with
              | some (.inr (l2, q3, c2)) => (match pss t L 41 q3 with
                | .inl b => some (.inl b)
                | .inr q4 => some (.inr ((if isWd t L (sk t L p) [109, 105, 110] then (5, 0, -1, []) else (6, 0, -1, [])) :: (l1 ++ l2), q4, c2)))
              | x => x))
          | x => x)) else some (.inl (sk t L p)))
    else if isWd t L (sk t L p) [115, 116, 101, 112] then (if c < 60 then (match rSp t L (sk t L p + 4) with
        | .inl b => some (.inl b)
        | .inr (v, q) => some (.inr ([v], q, c + 1))) else some (.inl (sk t L p)))
    else some (.inl (sk t L p))
section RP
variable {t : Nat → Int32} {L : Nat}
theorem sk_s {p : Nat} (h : p < L) (h2 : t p = 32) : sk t L p = sk t L (p + 1) := by
  unfold sk
  rw [show L - p = (L - (p + 1)) + 1 by omega, skN, if_pos ⟨h, h2⟩]
theorem sk_e {p : Nat} (h : ¬ (p < L ∧ t p = 32)) : sk t L p = p := by
  unfold sk
  cases L - p with
  | zero => rfl
  | succ n => rw [skN, if_neg h]
theorem skN_ge : ∀ n p, p ≤ skN t L n p
  | 0, p => Nat.le_refl _
  | n + 1, p => by
    rw [skN]; split
    · exact Nat.le_trans (Nat.le_succ p) (skN_ge n (p + 1))
    · exact Nat.le_refl _
theorem sk_ge {p : Nat} : p ≤ sk t L p := skN_ge _ _
theorem skN_le : ∀ n p, p ≤ L → skN t L n p ≤ L
  | 0, p, h => h
  | n + 1, p, h => by
    rw [skN]; split
    · rename_i q; exact skN_le n (p + 1) (by omega)
    · exact h
theorem sk_le {p : Nat} (h : p ≤ L) : sk t L p ≤ L := skN_le _ _ h
theorem skN_no : ∀ n p, L - p ≤ n → ¬ (skN t L n p < L ∧ t (skN t L n p) = 32)
  | 0, p, h => fun q => by rw [skN] at q; omega
  | n + 1, p, h => by
    rw [skN]; split
    · exact skN_no n (p + 1) (by omega)
    · assumption
theorem sk_no {p : Nat} : ¬ (sk t L p < L ∧ t (sk t L p) = 32) := skN_no _ _ (Nat.le_refl _)
theorem sk_sk {p : Nat} : sk t L (sk t L p) = sk t L p := sk_e sk_no
theorem rnN_s {P : Nat → Bool} {p : Nat} (h : p < L) (h2 : P p = true) : rnN P L (L - p) p = rnN P L (L - (p + 1)) (p + 1) + 1 := by
  rw [show L - p = (L - (p + 1)) + 1 by omega, rnN, if_pos ⟨h, h2⟩]
theorem rnN_e {P : Nat → Bool} {p : Nat} (h : ¬ (p < L ∧ P p = true)) : ∀ n, rnN P L n p = 0
  | 0 => rfl
  | n + 1 => by rw [rnN, if_neg h]
theorem rnN_in {P : Nat → Bool} : ∀ n p i, i < rnN P L n p → p + i < L ∧ P (p + i) = true
  | 0, p, i, h => absurd h (by rw [rnN]; omega)
  | n + 1, p, i, h => by
    rw [rnN] at h
    split at h
    · rename_i q
      cases i with
      | zero => exact q
      | succ i =>
        have := rnN_in (P := P) n (p + 1) i (by omega)
        rw [show p + (i + 1) = p + 1 + i by omega]; exact this
    · omega
theorem rnN_out {P : Nat → Bool} : ∀ n p, L - p ≤ n → ¬ (p + rnN P L n p < L ∧ P (p + rnN P L n p) = true)
  | 0, p, h => fun q => by rw [rnN] at q; omega
  | n + 1, p, h => by
    rw [rnN]; split
    · have := rnN_out (P := P) n (p + 1) (by omega)
      rw [show p + (rnN P L n (p + 1) + 1) = p + 1 + rnN P L n (p + 1) by omega]; exact this
    · rename_i q; rw [Nat.add_zero]; exact q
theorem dgt_in {p i : Nat} (h : i < dgt t L p) : p + i < L ∧ isDg (t (p + i)) := by
  have := rnN_in _ _ i h
  rw [decide_eq_true_eq] at this; exact this
theorem dgt_out {p : Nat} : ¬ (p + dgt t L p < L ∧ isDg (t (p + dgt t L p))) := by
  have := rnN_out (P := fun i => decide (isDg (t i))) (L := L) _ p (Nat.le_refl _)
  rw [decide_eq_true_eq] at this; exact this
theorem lt_in {p i : Nat} (h : i < lt' t L p) : p + i < L ∧ isLt (t (p + i)) := by
  have := rnN_in _ _ i h
  rw [decide_eq_true_eq] at this; exact this
theorem lt_out {p : Nat} : ¬ (p + lt' t L p < L ∧ isLt (t (p + lt' t L p))) := by
  have := rnN_out (P := fun i => decide (isLt (t i))) (L := L) _ p (Nat.le_refl _)
  rw [decide_eq_true_eq] at this; exact this
theorem dgt_le {p : Nat} (h : p ≤ L) : p + dgt t L p ≤ L := by
  by_cases z : dgt t L p = 0
  · omega
  · have := (dgt_in (t := t) (L := L) (p := p) (i := dgt t L p - 1) (by omega)).1; omega
theorem lt_le {p : Nat} (h : p ≤ L) : p + lt' t L p ≤ L := by
  by_cases z : lt' t L p = 0
  · omega
  · have := (lt_in (t := t) (L := L) (p := p) (i := lt' t L p - 1) (by omega)).1; omega
theorem isDg_n {v : Int32} (h : isDg v) : 48 ≤ v.toInt ∧ v.toInt ≤ 57 := by
  obtain ⟨h1, h2⟩ := h
  rw [Int32.lt_iff_toInt_lt] at h1 h2
  have e1 : (48 : Int32).toInt = 48 := rfl
  have e2 : (57 : Int32).toInt = 57 := rfl
  omega
theorem toInt_nI {v : Int32} (h : 0 ≤ v.toInt) : v = nI v.toNatClampNeg := by
  have : (v.toNatClampNeg : Int) = v.toInt := Int.toNat_of_nonneg h
  rw [← Int32.toInt_inj, nI_toInt (by have := Int32.toInt_lt v; omega), this]
theorem vN_lt {p : Nat} : ∀ n, (∀ i, i < n → isDg (t (p + i))) → vN t p n < 10 ^ n
  | 0, _ => by rw [vN]; omega
  | n + 1, h => by
    have ih := vN_lt n (fun i hi => h i (by omega))
    obtain ⟨h1, h2⟩ := isDg_n (h n (by omega))
    have : ((t (p + n)).toNatClampNeg : Int) = (t (p + n)).toInt := Int.toNat_of_nonneg (by omega)
    rw [vN, Nat.pow_succ]; omega
theorem vN_s {p n : Nat} (h : ∀ i, i < n + 1 → isDg (t (p + i))) : nI (vN t p n) * 10 + t (p + n) - 48 = nI (vN t p (n + 1)) := by
  obtain ⟨h1, h2⟩ := isDg_n (h n (by omega))
  have e : ((t (p + n)).toNatClampNeg : Int) = (t (p + n)).toInt := Int.toNat_of_nonneg (by omega)
  have e2 : t (p + n) = nI ((t (p + n)).toNatClampNeg - 48 + 48) := by
    rw [show (t (p + n)).toNatClampNeg - 48 + 48 = (t (p + n)).toNatClampNeg by omega]; exact toInt_nI (by omega)
  rw [vN, show (10 : Int32) = nI 10 from rfl, pk_mul]
  conv => lhs; rw [e2]
  rw [← nI_add (a := (t (p + n)).toNatClampNeg - 48) (b := 48), ← Int32.add_assoc, nI_add, show nI 48 = 48 from rfl, Int32.add_sub_cancel]
end RP
