-- needs: 71 72 73 74 75 76 77 78 85
/-! PLAN: valid codes, counted -/
/-- box i of n stands right -/
def vc1 (n c i : Nat) : Bool := Nat.blt (pl c i) 14 && (Nat.ble 12 (pl c i) || ((Nat.beq (pl c i % 4) 0 || an (fun j => Nat.beq (pl c j + 1) (pl c i)) n) && !(an (fun j => Nat.beq (pl c j) (pl c i)) i)))
/-- a code of n boxes: no two in one place, none above a hole -/
def vc (n c : Nat) : Bool := !(an (fun i => !(vc1 n c i)) n)
def s14 (f : Nat → Nat) : Nat → Nat
  | 0 => 0
  | k + 1 => s14 f k + f k
theorem ct_s14 (p : Nat → Bool) (a : Nat) : ∀ k, ct p (a + k) = ct p a + s14 (fun j => if p (a + j) = true then 1 else 0) k
  | 0 => rfl
  | k + 1 => by rw [← Nat.add_assoc, ct, ct_s14 p a k, s14, Nat.add_assoc]
theorem ct_K (p : Nat → Bool) (K : Nat) : ∀ m, ct p (K * m) = s14 (fun h => s14 (fun j => if p (K * h + j) = true then 1 else 0) K) m
  | 0 => rfl
  | m + 1 => by rw [Nat.mul_succ, ct_s14, ct_K p K m, s14]
theorem vc_n4 : s14 (fun h => s14 (fun j => if vc 4 (256 * h + j) = true then 1 else 0) 256) 256 = 1240 := by decide +kernel
theorem vc_n3 : s14 (fun h => s14 (fun j => if vc 3 (256 * h + j) = true then 1 else 0) 256) 16 = 176 := by decide +kernel
theorem vc_ct {n : Nat} (hn : n ≤ 4) : ct (vc n) (16 ^ n) ≤ 1240 := by
  have cs : n = 0 ∨ n = 1 ∨ n = 2 ∨ n = 3 ∨ n = 4 := by omega
  rcases cs with rfl | rfl | rfl | rfl | rfl
  · exact Nat.le_trans (ct_le _ _) (by decide)
  · exact Nat.le_trans (ct_le _ _) (by decide)
  · exact Nat.le_trans (ct_le _ _) (by decide)
  · rw [show 16 ^ 3 = 256 * 16 from rfl, ct_K, vc_n3]; decide
  · rw [show 16 ^ 4 = 256 * 256 from rfl, ct_K, vc_n4]; decide
theorem ct_mn (p : Nat → Bool) (a : Nat) : ∀ b, a ≤ b → ct p a ≤ ct p b
  | 0, h => by rw [show a = 0 by omega]; exact Nat.le_refl _
  | b + 1, h => by
    by_cases z : a = b + 1
    · rw [z]; exact Nat.le_refl _
    · have := ct_mn p a b (by omega)
      rw [ct]; omega
/-- a queue of valid codes, none twice -/
def QV (n : Nat) (Q : List qE) : Prop := (∀ j, j < Q.length → (qat Q j).1 < 16 ^ n ∧ vc n (qat Q j).1 = true) ∧ ∀ i j, i < Q.length → j < Q.length → (qat Q i).1 = (qat Q j).1 → i = j
theorem QV.len {n : Nat} {Q : List qE} (h : QV n Q) (hn : n ≤ 4) : Q.length ≤ 1240 := by
  have lt : ∀ a b, vc n a = true → a < b → ct (vc n) a < ct (vc n) b := fun a b ha hab => by
    have := ct_mn (vc n) (a + 1) b hab
    rw [ct, if_pos ha] at this; omega
  have key := pig (ct (vc n) (16 ^ n)) Q.length (fun j => ct (vc n) (qat Q j).1) (fun j hj => lt _ _ (h.1 j hj).2 (h.1 j hj).1) (fun i j hi hj e => ?_)
  · exact Nat.le_trans key (vc_ct hn)
  · (try dsimp only at e)
    refine h.2 i j hi hj (Classical.byContradiction (fun q => ?_))
    rcases Nat.lt_or_gt_of_ne q with z | z
    · have := lt _ _ (h.1 i hi).2 z; omega
    · have := lt _ _ (h.1 j hj).2 z; omega
theorem QV.add {n : Nat} {Q : List qE} {e : qE} (h : QV n Q) (h1 : e.1 < 16 ^ n) (h2 : vc n e.1 = true) : QV n (qadd Q e) := by
  unfold qadd
  split
  · exact h
  · rename_i z
    have el : (Q ++ [e]).length = Q.length + 1 := by rw [List.length_append]; rfl
    have ne : ∀ j, j < Q.length → ¬ (qat Q j).1 = e.1 := fun j hj q => z (qhas_t.mpr ⟨j, hj, q⟩)
    refine ⟨fun j hj => ?_, fun i j hi hj q => ?_⟩
    · by_cases y : j < Q.length
      · rw [qat_l y]; exact h.1 j y
      · rw [show j = Q.length by omega, qat_r]; exact ⟨h1, h2⟩
    · by_cases y : i < Q.length
      · by_cases x : j < Q.length
        · rw [qat_l y, qat_l x] at q; exact h.2 i j y x q
        · rw [qat_l y, show j = Q.length by omega, qat_r] at q; exact absurd q (ne i y)
      · by_cases x : j < Q.length
        · rw [qat_l x, show i = Q.length by omega, qat_r] at q; exact absurd q.symm (ne j x)
        · omega
