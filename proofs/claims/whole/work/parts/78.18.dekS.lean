-- needs: 71 72 73 74 75 76 77
/-! DECLARATIONS: declared, side by side -/
section DT
variable {xs : Nat → Int32} {xl d : Nat} {M : dp_M}
/-- the plain facts, the model's way -/
theorem dm_fact {N : dp_M} {R i w : Nat} {v3 : Int32} (hi : i < 400) (hw : w < 11) (k1 : DFa M i) (k2 : DSt M R i) (e : ∀ k ∈ [233, 234, 235, 236, 237, 238, 241, 243, 244], dp_I N k = dp_I M k) (eJ : ∀ k ∈ [239, 242], dp_J N k = dp_J M k) : D_X12_declared_75 xs xl d (nI i) (nI w) v3 N = lR (dp_J M 111 (i * 23 + w)) N := by
  obtain ⟨f0, f1, -, f2, -, f3, -, f4, -, f5, -, f6, -⟩ := k1
  obtain ⟨f7, -, f8, -, -, f9, ⟨f10, -⟩, -⟩ := k2
  have cs : w = 0 ∨ w = 1 ∨ w = 2 ∨ w = 3 ∨ w = 4 ∨ w = 5 ∨ w = 6 ∨ w = 7 ∨ w = 8 ∨ w = 9 ∨ w = 10 := by omega
  rcases cs with rfl | rfl | rfl | rfl | rfl | rfl | rfl | rfl | rfl | rfl | rfl
  · rw [D_X12_declared_75_eq, if_pos (show nI 0 = (0 : Int32) from rfl)]
    simp only [nI_cl (show i < 2147483648 by omega), nI_o (show i < 400 by omega) (by omega), if_false]
    rw [f0, e 233 (by decide)]
  · rw [D_X12_declared_75_eq, if_neg (show ¬ nI 1 = (0 : Int32) by decide), if_pos (show nI 1 = (1 : Int32) from rfl)]
    simp only [nI_cl (show i < 2147483648 by omega), nI_o (show i < 400 by omega) (by omega), if_false]
    rw [f1, e 234 (by decide)]
  · rw [D_X12_declared_75_eq, if_neg (show ¬ nI 2 = (0 : Int32) by decide), if_neg (show ¬ nI 2 = (1 : Int32) by decide), if_pos (show nI 2 = (2 : Int32) from rfl)]
    simp only [nI_cl (show i < 2147483648 by omega), nI_o (show i < 400 by omega) (by omega), if_false]
    rw [f2, e 235 (by decide)]
  · rw [D_X12_declared_75_eq, if_neg (show ¬ nI 3 = (0 : Int32) by decide), if_neg (show ¬ nI 3 = (1 : Int32) by decide), if_neg (show ¬ nI 3 = (2 : Int32) by decide), if_pos (show nI 3 = (3 : Int32) from rfl)]
    simp only [nI_cl (show i < 2147483648 by omega), nI_o (show i < 400 by omega) (by omega), if_false]
    rw [f3, e 236 (by decide)]
  · rw [D_X12_declared_75_eq, if_neg (show ¬ nI 4 = (0 : Int32) by decide), if_neg (show ¬ nI 4 = (1 : Int32) by decide), if_neg (show ¬ nI 4 = (2 : Int32) by decide), if_neg (show ¬ nI 4 = (3 : Int32) by decide), if_pos (show nI 4 = (4 : Int32) from rfl)]
    simp only [nI_cl (show i < 2147483648 by omega), nI_o (show i < 400 by omega) (by omega), if_false]
    rw [f4, e 237 (by decide)]
  · rw [D_X12_declared_75_eq, if_neg (show ¬ nI 5 = (0 : Int32) by decide), if_neg (show ¬ nI 5 = (1 : Int32) by decide), if_neg (show ¬ nI 5 = (2 : Int32) by decide), if_neg (show ¬ nI 5 = (3 : Int32) by decide), if_neg (show ¬ nI 5 = (4 : Int32) by decide), if_pos (show nI 5 = (5 : Int32) from rfl)]
    simp only [nI_cl (show i < 2147483648 by omega), nI_o (show i < 400 by omega) (by omega), if_false]
    rw [f5, e 238 (by decide)]
  · rw [D_X12_declared_75_eq, if_neg (show ¬ nI 6 = (0 : Int32) by decide), if_neg (show ¬ nI 6 = (1 : Int32) by decide), if_neg (show ¬ nI 6 = (2 : Int32) by decide), if_neg (show ¬ nI 6 = (3 : Int32) by decide), if_neg (show ¬ nI 6 = (4 : Int32) by decide), if_neg (show ¬ nI 6 = (5 : Int32) by decide), if_pos (show nI 6 = (6 : Int32) from rfl)]
    simp only [nI_cl (show i < 2147483648 by omega), nI_o (show i < 400 by omega) (by omega), if_false]
    rw [f6, eJ 239 (by decide)]
  · rw [D_X12_declared_75_eq, if_neg (show ¬ nI 7 = (0 : Int32) by decide), if_neg (show ¬ nI 7 = (1 : Int32) by decide), if_neg (show ¬ nI 7 = (2 : Int32) by decide), if_neg (show ¬ nI 7 = (3 : Int32) by decide), if_neg (show ¬ nI 7 = (4 : Int32) by decide), if_neg (show ¬ nI 7 = (5 : Int32) by decide), if_neg (show ¬ nI 7 = (6 : Int32) by decide), if_pos (show nI 7 = (7 : Int32) from rfl)]
    simp only [nI_cl (show i < 2147483648 by omega), nI_o (show i < 400 by omega) (by omega), if_false]
    rw [f7, e 241 (by decide)]
  · rw [D_X12_declared_75_eq, if_neg (show ¬ nI 8 = (0 : Int32) by decide), if_neg (show ¬ nI 8 = (1 : Int32) by decide), if_neg (show ¬ nI 8 = (2 : Int32) by decide), if_neg (show ¬ nI 8 = (3 : Int32) by decide), if_neg (show ¬ nI 8 = (4 : Int32) by decide), if_neg (show ¬ nI 8 = (5 : Int32) by decide), if_neg (show ¬ nI 8 = (6 : Int32) by decide), if_neg (show ¬ nI 8 = (7 : Int32) by decide), if_pos (show nI 8 = (8 : Int32) from rfl)]
    simp only [nI_cl (show i < 2147483648 by omega), nI_o (show i < 400 by omega) (by omega), if_false]
    rw [f8, eJ 242 (by decide)]
  · rw [D_X12_declared_75_eq, if_neg (show ¬ nI 9 = (0 : Int32) by decide), if_neg (show ¬ nI 9 = (1 : Int32) by decide), if_neg (show ¬ nI 9 = (2 : Int32) by decide), if_neg (show ¬ nI 9 = (3 : Int32) by decide), if_neg (show ¬ nI 9 = (4 : Int32) by decide), if_neg (show ¬ nI 9 = (5 : Int32) by decide), if_neg (show ¬ nI 9 = (6 : Int32) by decide), if_neg (show ¬ nI 9 = (7 : Int32) by decide), if_neg (show ¬ nI 9 = (8 : Int32) by decide), if_pos (show nI 9 = (9 : Int32) from rfl)]
    simp only [nI_cl (show i < 2147483648 by omega), nI_o (show i < 400 by omega) (by omega), if_false]
    rw [f9, e 243 (by decide)]
  · rw [D_X12_declared_75_eq, if_neg (show ¬ nI 10 = (0 : Int32) by decide), if_neg (show ¬ nI 10 = (1 : Int32) by decide), if_neg (show ¬ nI 10 = (2 : Int32) by decide), if_neg (show ¬ nI 10 = (3 : Int32) by decide), if_neg (show ¬ nI 10 = (4 : Int32) by decide), if_neg (show ¬ nI 10 = (5 : Int32) by decide), if_neg (show ¬ nI 10 = (6 : Int32) by decide), if_neg (show ¬ nI 10 = (7 : Int32) by decide), if_neg (show ¬ nI 10 = (8 : Int32) by decide), if_neg (show ¬ nI 10 = (9 : Int32) by decide), if_pos (show nI 10 = (10 : Int32) from rfl)]
    simp only [nI_cl (show i < 2147483648 by omega), nI_o (show i < 400 by omega) (by omega), if_false]
    rw [f10, e 244 (by decide)]
theorem dm_unit {N : dp_M} {i w : Nat} {v3 : Int32} (hi : i < 400) (hw : 15 ≤ w) (hw2 : w < 23) (k3 : DUn M i) (eJ : dp_J N 240 = dp_J M 240) : D_X12_declared_75 xs xl d (nI i) (nI w) v3 N = lR (dp_J M 111 (i * 23 + w)) N := by
  have nn : ∀ c : Nat, c < 15 → ¬ nI w = nI c := fun c hc q => by rw [nI_eq (by omega) (by omega)] at q; omega
  have e1 : (8 : Int32) * nI i + nI w - 15 = nI (i * 8 + (w - 15)) := by
    rw [t_8d, show i * 8 + w = (i * 8 + (w - 15)) + 15 by omega, ← nI_add]
    exact Int32.add_sub_cancel _ _
  rw [D_X12_declared_75_eq, if_neg (show ¬ nI w = (0 : Int32) from nn 0 (by omega)), if_neg (show ¬ nI w = (1 : Int32) from nn 1 (by omega)), if_neg (show ¬ nI w = (2 : Int32) from nn 2 (by omega)), if_neg (show ¬ nI w = (3 : Int32) from nn 3 (by omega)), if_neg (show ¬ nI w = (4 : Int32) from nn 4 (by omega)), if_neg (show ¬ nI w = (5 : Int32) from nn 5 (by omega)), if_neg (show ¬ nI w = (6 : Int32) from nn 6 (by omega)), if_neg (show ¬ nI w = (7 : Int32) from nn 7 (by omega)), if_neg (show ¬ nI w = (8 : Int32) from nn 8 (by omega)), if_neg (show ¬ nI w = (9 : Int32) from nn 9 (by omega)), if_neg (show ¬ nI w = (10 : Int32) from nn 10 (by omega)), if_neg (show ¬ nI w = (11 : Int32) from nn 11 (by omega)), if_neg (show ¬ nI w = (12 : Int32) from nn 12 (by omega)), if_neg (show ¬ nI w = (13 : Int32) from nn 13 (by omega)), if_neg (show ¬ nI w = (14 : Int32) from nn 14 (by omega))]
  simp only [e1, nI_cl (show i * 8 + (w - 15) < 2147483648 by omega), nI_o (show i * 8 + (w - 15) < 3200 by omega) (by omega), if_false]
  have q := (k3 (w - 15) (by omega)).1
  rw [show 15 + (w - 15) = w by omega] at q
  rw [q, eJ]
/-- the facts of an ask -/
def akV (o : Int32) (a h : Int64) (t : Int32) (w : Nat) : Int64 := if w = 11 then o.toInt64 else if w = 12 then a else if w = 13 then h else t.toInt64
theorem akV_11 (o : Int32) (a h : Int64) (t : Int32) : akV o a h t 11 = o.toInt64 := rfl
theorem akV_12 (o : Int32) (a h : Int64) (t : Int32) : akV o a h t 12 = a := rfl
theorem akV_13 (o : Int32) (a h : Int64) (t : Int32) : akV o a h t 13 = h := rfl
theorem akV_14 (o : Int32) (a h : Int64) (t : Int32) : akV o a h t 14 = t.toInt64 := rfl
theorem dm_ask0 {N : dp_M} {i w : Nat} {v1 : Int32} (hw : 11 ≤ w) (hw2 : w < 15) : D_X12_declared_75 xs xl d v1 (nI w) (-1) N = lR (akV (-1) 0 0 (-1) w) N := by
  have cs : w = 11 ∨ w = 12 ∨ w = 13 ∨ w = 14 := by omega
  rcases cs with rfl | rfl | rfl | rfl
  · rw [D_X12_declared_75_eq, if_neg (show ¬ nI 11 = (0 : Int32) by decide), if_neg (show ¬ nI 11 = (1 : Int32) by decide), if_neg (show ¬ nI 11 = (2 : Int32) by decide), if_neg (show ¬ nI 11 = (3 : Int32) by decide), if_neg (show ¬ nI 11 = (4 : Int32) by decide), if_neg (show ¬ nI 11 = (5 : Int32) by decide), if_neg (show ¬ nI 11 = (6 : Int32) by decide), if_neg (show ¬ nI 11 = (7 : Int32) by decide), if_neg (show ¬ nI 11 = (8 : Int32) by decide), if_neg (show ¬ nI 11 = (9 : Int32) by decide), if_neg (show ¬ nI 11 = (10 : Int32) by decide), if_pos (show nI 11 = (11 : Int32) from rfl), if_neg (by decide)]
    rfl
  · rw [D_X12_declared_75_eq, if_neg (show ¬ nI 12 = (0 : Int32) by decide), if_neg (show ¬ nI 12 = (1 : Int32) by decide), if_neg (show ¬ nI 12 = (2 : Int32) by decide), if_neg (show ¬ nI 12 = (3 : Int32) by decide), if_neg (show ¬ nI 12 = (4 : Int32) by decide), if_neg (show ¬ nI 12 = (5 : Int32) by decide), if_neg (show ¬ nI 12 = (6 : Int32) by decide), if_neg (show ¬ nI 12 = (7 : Int32) by decide), if_neg (show ¬ nI 12 = (8 : Int32) by decide), if_neg (show ¬ nI 12 = (9 : Int32) by decide), if_neg (show ¬ nI 12 = (10 : Int32) by decide), if_neg (show ¬ nI 12 = (11 : Int32) by decide), if_pos (show nI 12 = (12 : Int32) from rfl), if_neg (by decide)]
    rfl
  · rw [D_X12_declared_75_eq, if_neg (show ¬ nI 13 = (0 : Int32) by decide), if_neg (show ¬ nI 13 = (1 : Int32) by decide), if_neg (show ¬ nI 13 = (2 : Int32) by decide), if_neg (show ¬ nI 13 = (3 : Int32) by decide), if_neg (show ¬ nI 13 = (4 : Int32) by decide), if_neg (show ¬ nI 13 = (5 : Int32) by decide), if_neg (show ¬ nI 13 = (6 : Int32) by decide), if_neg (show ¬ nI 13 = (7 : Int32) by decide), if_neg (show ¬ nI 13 = (8 : Int32) by decide), if_neg (show ¬ nI 13 = (9 : Int32) by decide), if_neg (show ¬ nI 13 = (10 : Int32) by decide), if_neg (show ¬ nI 13 = (11 : Int32) by decide), if_neg (show ¬ nI 13 = (12 : Int32) by decide), if_pos (show nI 13 = (13 : Int32) from rfl), if_neg (by decide)]
    rfl
  · rw [D_X12_declared_75_eq, if_neg (show ¬ nI 14 = (0 : Int32) by decide), if_neg (show ¬ nI 14 = (1 : Int32) by decide), if_neg (show ¬ nI 14 = (2 : Int32) by decide), if_neg (show ¬ nI 14 = (3 : Int32) by decide), if_neg (show ¬ nI 14 = (4 : Int32) by decide), if_neg (show ¬ nI 14 = (5 : Int32) by decide), if_neg (show ¬ nI 14 = (6 : Int32) by decide), if_neg (show ¬ nI 14 = (7 : Int32) by decide), if_neg (show ¬ nI 14 = (8 : Int32) by decide), if_neg (show ¬ nI 14 = (9 : Int32) by decide), if_neg (show ¬ nI 14 = (10 : Int32) by decide), if_neg (show ¬ nI 14 = (11 : Int32) by decide), if_neg (show ¬ nI 14 = (12 : Int32) by decide), if_neg (show ¬ nI 14 = (13 : Int32) by decide), if_pos (show nI 14 = (14 : Int32) from rfl), if_neg (by decide)]
    rfl
theorem dm_ask1 {N : dp_M} {a w : Nat} {v1 : Int32} (ha : a < 400) (hw : 11 ≤ w) (hw2 : w < 15) : D_X12_declared_75 xs xl d v1 (nI w) (nI a) N = lR (akV (dp_I N 197 a) (dp_J N 198 a) (dp_J N 200 a) (dp_I N 199 a) w) N := by
  have cs : w = 11 ∨ w = 12 ∨ w = 13 ∨ w = 14 := by omega
  have h0 : (0 : Int32) ≤ nI a := by rw [Int32.le_iff_toInt_le, nI_toInt (by omega)]; have : (0 : Int32).toInt = 0 := rfl; omega
  rcases cs with rfl | rfl | rfl | rfl
  · rw [D_X12_declared_75_eq, if_neg (show ¬ nI 11 = (0 : Int32) by decide), if_neg (show ¬ nI 11 = (1 : Int32) by decide), if_neg (show ¬ nI 11 = (2 : Int32) by decide), if_neg (show ¬ nI 11 = (3 : Int32) by decide), if_neg (show ¬ nI 11 = (4 : Int32) by decide), if_neg (show ¬ nI 11 = (5 : Int32) by decide), if_neg (show ¬ nI 11 = (6 : Int32) by decide), if_neg (show ¬ nI 11 = (7 : Int32) by decide), if_neg (show ¬ nI 11 = (8 : Int32) by decide), if_neg (show ¬ nI 11 = (9 : Int32) by decide), if_neg (show ¬ nI 11 = (10 : Int32) by decide), if_pos (show nI 11 = (11 : Int32) from rfl), if_pos h0]
    simp only [nI_cl (show a < 2147483648 by omega), nI_o (show a < 400 by omega) (by omega), if_false]
    rfl
  · rw [D_X12_declared_75_eq, if_neg (show ¬ nI 12 = (0 : Int32) by decide), if_neg (show ¬ nI 12 = (1 : Int32) by decide), if_neg (show ¬ nI 12 = (2 : Int32) by decide), if_neg (show ¬ nI 12 = (3 : Int32) by decide), if_neg (show ¬ nI 12 = (4 : Int32) by decide), if_neg (show ¬ nI 12 = (5 : Int32) by decide), if_neg (show ¬ nI 12 = (6 : Int32) by decide), if_neg (show ¬ nI 12 = (7 : Int32) by decide), if_neg (show ¬ nI 12 = (8 : Int32) by decide), if_neg (show ¬ nI 12 = (9 : Int32) by decide), if_neg (show ¬ nI 12 = (10 : Int32) by decide), if_neg (show ¬ nI 12 = (11 : Int32) by decide), if_pos (show nI 12 = (12 : Int32) from rfl), if_pos h0]
    simp only [nI_cl (show a < 2147483648 by omega), nI_o (show a < 400 by omega) (by omega), if_false]
    rfl
  · rw [D_X12_declared_75_eq, if_neg (show ¬ nI 13 = (0 : Int32) by decide), if_neg (show ¬ nI 13 = (1 : Int32) by decide), if_neg (show ¬ nI 13 = (2 : Int32) by decide), if_neg (show ¬ nI 13 = (3 : Int32) by decide), if_neg (show ¬ nI 13 = (4 : Int32) by decide), if_neg (show ¬ nI 13 = (5 : Int32) by decide), if_neg (show ¬ nI 13 = (6 : Int32) by decide), if_neg (show ¬ nI 13 = (7 : Int32) by decide), if_neg (show ¬ nI 13 = (8 : Int32) by decide), if_neg (show ¬ nI 13 = (9 : Int32) by decide), if_neg (show ¬ nI 13 = (10 : Int32) by decide), if_neg (show ¬ nI 13 = (11 : Int32) by decide), if_neg (show ¬ nI 13 = (12 : Int32) by decide), if_pos (show nI 13 = (13 : Int32) from rfl), if_pos h0]
    simp only [nI_cl (show a < 2147483648 by omega), nI_o (show a < 400 by omega) (by omega), if_false]
    rfl
  · rw [D_X12_declared_75_eq, if_neg (show ¬ nI 14 = (0 : Int32) by decide), if_neg (show ¬ nI 14 = (1 : Int32) by decide), if_neg (show ¬ nI 14 = (2 : Int32) by decide), if_neg (show ¬ nI 14 = (3 : Int32) by decide), if_neg (show ¬ nI 14 = (4 : Int32) by decide), if_neg (show ¬ nI 14 = (5 : Int32) by decide), if_neg (show ¬ nI 14 = (6 : Int32) by decide), if_neg (show ¬ nI 14 = (7 : Int32) by decide), if_neg (show ¬ nI 14 = (8 : Int32) by decide), if_neg (show ¬ nI 14 = (9 : Int32) by decide), if_neg (show ¬ nI 14 = (10 : Int32) by decide), if_neg (show ¬ nI 14 = (11 : Int32) by decide), if_neg (show ¬ nI 14 = (12 : Int32) by decide), if_neg (show ¬ nI 14 = (13 : Int32) by decide), if_pos (show nI 14 = (14 : Int32) from rfl), if_pos h0]
    simp only [nI_cl (show a < 2147483648 by omega), nI_o (show a < 400 by omega) (by omega), if_false]
    rfl
theorem dc_ask0 {w : Nat} (hw : 11 ≤ w) (hw2 : w < 15) : dp_den true xs xl (d + 1) 9 [.ref 108, .int (-1), .int (nI w)] M = lR (akV (-1) 0 0 (-1) w) M := by
  have cs : w = 11 ∨ w = 12 ∨ w = 13 ∨ w = 14 := by omega
  rw [D_X0_factOfAsk_0_den, D_X0_factOfAsk_0_eq]
  rcases cs with rfl | rfl | rfl | rfl
  · rw [if_pos (show nI 11 = (11 : Int32) from rfl), if_pos rfl]
    rfl
  · rw [if_neg (show ¬ nI 12 = (11 : Int32) by decide), if_pos (show nI 12 = (12 : Int32) from rfl), if_pos rfl]
    rfl
  · rw [if_neg (show ¬ nI 13 = (11 : Int32) by decide), if_neg (show ¬ nI 13 = (12 : Int32) by decide), if_pos (show nI 13 = (13 : Int32) from rfl), if_pos rfl]
    rfl
  · rw [if_neg (show ¬ nI 14 = (11 : Int32) by decide), if_neg (show ¬ nI 14 = (12 : Int32) by decide), if_neg (show ¬ nI 14 = (13 : Int32) by decide), if_pos rfl]
    rfl
theorem dc_ask1 {a w : Nat} (ha : a < 400) (hw : 11 ≤ w) (hw2 : w < 15) : dp_den true xs xl (d + 2) 9 [.ref 108, .int (nI a), .int (nI w)] M = lR (akV (dp_I M 82 a) (dp_J M 85 a) (dp_J M 86 a) (dp_I M 87 a) w) M := by
  have cs : w = 11 ∨ w = 12 ∨ w = 13 ∨ w = 14 := by omega
  have h0 : ¬ nI a = -1 := m1_ne' (by omega)
  have ord : dp_den true xs xl (d + 1) 118 [.ref 75, .int (nI a)] M = iR (dp_I M 82 a) M := by
    rw [D_X5_orderOf_0_den, D_X5_orderOf_0_eq]
    simp only [nI_cl (show a < 2147483648 by omega), nI_o (show a < 400 by omega) (by omega), if_false]
  rw [D_X0_factOfAsk_0_den, D_X0_factOfAsk_0_eq]
  rcases cs with rfl | rfl | rfl | rfl
  · rw [if_pos (show nI 11 = (11 : Int32) from rfl), if_neg h0, ord, rb_bi]
    rfl
  · rw [if_neg (show ¬ nI 12 = (11 : Int32) by decide), if_pos (show nI 12 = (12 : Int32) from rfl), if_neg h0]
    simp only [nI_cl (show a < 2147483648 by omega), nI_o (show a < 400 by omega) (by omega), if_false]
    rfl
  · rw [if_neg (show ¬ nI 13 = (11 : Int32) by decide), if_neg (show ¬ nI 13 = (12 : Int32) by decide), if_pos (show nI 13 = (13 : Int32) from rfl), if_neg h0]
    simp only [nI_cl (show a < 2147483648 by omega), nI_o (show a < 400 by omega) (by omega), if_false]
    rfl
  · rw [if_neg (show ¬ nI 14 = (11 : Int32) by decide), if_neg (show ¬ nI 14 = (12 : Int32) by decide), if_neg (show ¬ nI 14 = (13 : Int32) by decide), if_neg h0]
    simp only [nI_cl (show a < 2147483648 by omega), nI_o (show a < 400 by omega) (by omega), if_false]
    rfl
def Dd_S : List Nat := [245, 199, 200]
theorem s_declared (hq : RelQ M) (hd : RelD M) (hn : 246 ≤ dp_n M) (v1 v2 : Int32) : ∃ k b M1 M2, dp_den true xs xl (d + 5) 654 [.ref 0, .int v1, .int v2, .ref 245] M = iR k M1 ∧ dp_den true xs xl (d + 5) 584 [.ref 114, .int v1, .int v2] M1 = lR b M2 ∧
    dp_I M2 114 0 = k ∧ (k = 0 → dp_J M2 245 0 = b) ∧ (RelQ M2 ∧ RelD M2) ∧ Off Dd_S [0, 118] M M2 ∧ Cst 1 6 M M2 := by
  have hd0 := hd
  have hq0 := hq
  obtain ⟨D, A, R, hb⟩ := hd
  obtain ⟨h1, h2, h3, h4, h5, h6, h7, h8, h9, h10, h11, h12, h13, h14⟩ := hb
  have n114 : ∀ q, dp_I (dp_new M 0 0 6) 114 q = dp_I M 114 q := fun q => by rw [gIN (by omega)]
  have wn : ((0 : Int64) ≤ v2.toInt64 ∧ v2.toInt64 ≤ 22) ↔ qin v2 23 := by
    have q := q_w (v := v2) (n := 23) (by decide)
    rw [show (nI 23 - 1).toInt64 = 22 from by decide] at q; exact q
  by_cases z : qin v1 D ∧ qin v2 23
  case neg =>
    refine ⟨1, 0, dp_new M 0 0 6, dp_setI (dp_new M 0 0 6) 114 0 1, wL_declared_x2 ?_, ?_, rfl, (fun e => by cases e), ⟨(hq0.refused hn 1).1, (hd0.refused hn 1).1⟩, ((Off.rr _ _ M).N hn 0 0 6).F 0 (by decide) 1, ⟨Nat.le_refl _, Nat.le_refl _⟩⟩
    · rw [D_X11_declared_0_den, D_X11_declared_0_eq, dc_is h2 h1, rb_bi, ibz]
      by_cases y : qin v1 D
      · rw [if_pos y, q_win, rb_bi, ibz, if_neg (fun q => z ⟨y, wn.mp q⟩), q_nk hn]
      · rw [if_neg y, q_nk hn]
    · rw [D_X12_declared_0_den, D_X12_declared_0_eq, dm_is (by rw [n114]; exact h3) h1, rb_bi, ibz]
      by_cases y : qin v1 D
      · rw [if_pos y, q_min, rb_bi, ibz, if_neg (fun q => z ⟨y, wn.mp q⟩), q_ref, rb_bi]; rfl
      · rw [if_neg y, q_ref, rb_bi]; rfl
  obtain ⟨z1, z2⟩ := z
  have z1' := z1
  have z2' := z2
  obtain ⟨i, hi, rfl⟩ := qin_of z1 (by omega)
  obtain ⟨w, hw, rfl⟩ := qin_of z2 (by omega)
  obtain ⟨k1, k2, k3, hk⟩ := h8 i hi
  have cl : dp_den true xs xl (d + 4) 358 [.ref 0, .int (nI i), .int (nI w)] M = if w < 11 ∨ 14 < w then lR (dp_J M 111 (i * 23 + w)) M else dp_bl (dp_bl (dp_den true xs xl (d + 2) 9 [.ref 108, .int (dp_I M 109 i), .int (nI w)] M) (fun r6 M5 => lR r6 M5)) (fun r6 M5 => lR r6 M5) := by
    rw [D_X11_declared_0_den, D_X11_declared_0_eq, dc_is h2 h1, rb_bi, ibz, if_pos z1', q_win, rb_bi, ibz, if_pos (wn.mpr z2'), D_X0_fact_0_den, D_X0_fact_0_eq]
    by_cases y1 : w < 11
    · rw [if_pos (show nI (w) < (11 : Int32) from nI_lt (a := w) (b := 11) (by omega) (by omega)), if_pos (Or.inl y1), dc_get rfl (by omega) hw, rb_bl, rb_bl]
    · rw [if_neg (show ¬ nI (w) < (11 : Int32) from nI_nlt (a := w) (b := 11) (by omega) (by omega))]
      by_cases y2 : 14 < w
      · rw [if_pos (show (14 : Int32) < nI (w) from nI_lt (a := 14) (b := w) (by omega) (by omega)), if_pos (Or.inr y2), dc_get rfl (by omega) hw, rb_bl, rb_bl]
      · rw [if_neg (show ¬ (14 : Int32) < nI (w) from nI_nlt (a := 14) (b := w) (by omega) (by omega)), if_neg (show ¬ (w < 11 ∨ 14 < w) by omega)]
        simp only [nI_cl (show i < 2147483648 by omega), nI_o (show i < 400 by omega) (by omega), if_false]
  have ml : ∀ N, dp_I N 114 160 = nI D → dp_I N 109 = dp_I M 109 → dp_I N 196 = dp_I M 196 → dp_I N 114 111 = nI A → dp_den true xs xl (d + 5) 584 [.ref 114, .int (nI i), .int (nI w)] N = if dp_I M 109 i < 0 ∨ w < 13 ∨ 14 < w then D_X12_declared_75 xs xl (d + 4) (nI i) (nI w) (dp_I M 109 i) (dp_setI N 114 0 0) else (if (dp_I M 109 i) < 0 ∨ 400 ≤ Int32.toNatClampNeg (dp_I M 109 i) then none else (if (dp_I N 197 (Int32.toNatClampNeg (dp_I M 109 i))) < 0 ∨ 16 ≤ Int32.toNatClampNeg (dp_I N 197 (Int32.toNatClampNeg (dp_I M 109 i))) then none else (dp_bv (dp_den true xs xl (d + 4) 508 [.ref 114, .int (dp_I N 197 (Int32.toNatClampNeg (dp_I M 109 i))), .int (dp_I N 194 (Int32.toNatClampNeg (dp_I N 197 (Int32.toNatClampNeg (dp_I M 109 i)))))] (dp_setI N 114 0 0)) (fun M12 => D_X12_declared_75 xs xl (d + 4) (nI i) (nI w) (dp_I M 109 i) M12)))) := fun N n1 n2 n3 n4 => by
    have naf : dp_den true xs xl (d + 4) 570 [.ref 114, .int (nI i)] (dp_setI N 114 0 0) = iR (dp_I M 109 i) (dp_setI N 114 0 0) := by
      rw [dm_af h5 (by rw [gII, if_pos rfl, uI_n (by decide)]; exact n4) (hk.c (by rw [gII, if_neg (by decide), n2]) (fun a _ => by rw [gII, if_neg (by decide), n3])), gII, if_neg (by decide), n2]
    rw [D_X12_declared_0_den, D_X12_declared_0_eq, dm_is n1 h1, rb_bi, ibz, if_pos z1', q_min, rb_bi, ibz, if_pos (wn.mpr z2')]
    simp only [dp_w]
    rw [naf, rb_bi]
    by_cases y0 : dp_I M 109 i < 0
    · rw [if_pos y0, if_pos (Or.inl y0)]
    · rw [if_neg y0]
      by_cases y1 : w < 13
      · rw [if_pos (show nI (w) < (13 : Int32) from nI_lt (a := w) (b := 13) (by omega) (by omega)), if_pos (Or.inr (Or.inl y1))]
      · rw [if_neg (show ¬ nI (w) < (13 : Int32) from nI_nlt (a := w) (b := 13) (by omega) (by omega))]
        by_cases y2 : 14 < w
        · rw [if_pos (show (14 : Int32) < nI (w) from nI_lt (a := 14) (b := w) (by omega) (by omega)), if_pos (Or.inr (Or.inr y2))]
        · rw [if_neg (show ¬ (14 : Int32) < nI (w) from nI_nlt (a := 14) (b := w) (by omega) (by omega)), if_neg (show ¬ (dp_I M 109 i < 0 ∨ w < 13 ∨ 14 < w) from fun q => q.elim y0 (fun q => q.elim y1 y2))]
          by_cases y4 : dp_I M 109 i < 0 ∨ 400 ≤ Int32.toNatClampNeg (dp_I M 109 i)
          · rw [if_pos y4, if_pos y4]
          · rw [if_neg y4, if_neg y4, if_neg y4]
            simp only [gII, Nat.reduceEqDiff, if_false]
  have nJ : ∀ v : Int64, dp_den true xs xl (d + 5) 584 [.ref 114, .int (nI i), .int (nI w)] (dp_setJ M 245 0 v) = if dp_I M 109 i < 0 ∨ w < 13 ∨ 14 < w then D_X12_declared_75 xs xl (d + 4) (nI i) (nI w) (dp_I M 109 i) (dp_setI (dp_setJ M 245 0 v) 114 0 0) else (if (dp_I M 109 i) < 0 ∨ 400 ≤ Int32.toNatClampNeg (dp_I M 109 i) then none else (if (dp_I M 197 (Int32.toNatClampNeg (dp_I M 109 i))) < 0 ∨ 16 ≤ Int32.toNatClampNeg (dp_I M 197 (Int32.toNatClampNeg (dp_I M 109 i))) then none else (dp_bv (dp_den true xs xl (d + 4) 508 [.ref 114, .int (dp_I M 197 (Int32.toNatClampNeg (dp_I M 109 i))), .int (dp_I M 194 (Int32.toNatClampNeg (dp_I M 197 (Int32.toNatClampNeg (dp_I M 109 i)))))] (dp_setI (dp_setJ M 245 0 v) 114 0 0)) (fun M12 => D_X12_declared_75 xs xl (d + 4) (nI i) (nI w) (dp_I M 109 i) M12)))) := fun v => by
    rw [ml _ (by rw [gIJ]; exact h3) (by rw [gIJ]) (by rw [gIJ]) (by rw [gIJ]; exact h4)]
    simp only [gIJ]
  -- where no course is run
  have plain : ∀ v : Int64, dp_den true xs xl (d + 4) 358 [.ref 0, .int (nI i), .int (nI w)] M = lR v M → (dp_I M 109 i < 0 ∨ w < 13 ∨ 14 < w) → D_X12_declared_75 xs xl (d + 4) (nI i) (nI w) (dp_I M 109 i) (dp_setI (dp_setJ M 245 0 v) 114 0 0) = lR v (dp_setI (dp_setJ M 245 0 v) 114 0 0) → ∃ k b M1 M2, dp_den true xs xl (d + 5) 654 [.ref 0, .int (nI i), .int (nI w), .ref 245] M = iR k M1 ∧ dp_den true xs xl (d + 5) 584 [.ref 114, .int (nI i), .int (nI w)] M1 = lR b M2 ∧
    dp_I M2 114 0 = k ∧ (k = 0 → dp_J M2 245 0 = b) ∧ (RelQ M2 ∧ RelD M2) ∧ Off Dd_S [0, 118] M M2 ∧ Cst 1 6 M M2 := fun v e1 e2 e3 =>
    ⟨0, v, dp_setJ M 245 0 v, _, wL_declared_ok e1, by rw [nJ, if_pos e2, e3], rfl, (fun _ => rfl), ⟨(hq0.looked v).1, (hd0.looked v).1⟩, ((Off.rr _ _ M).J 245 (by decide) _ _).F 0 (by decide) _, ⟨Nat.le_add_right _ _, Nat.le_add_right _ _⟩⟩
  by_cases y1 : w < 11
  · refine plain _ (by rw [cl, if_pos (Or.inl y1)]) (by omega) (dm_fact (by omega) y1 k1 k2 (fun k hk => ?_) (fun k hk => ?_))
    · have u : ∀ k ∈ [233, 234, 235, 236, 237, 238, 241, 243, 244], k ≠ 114 := by decide
      rw [gII, if_neg (u k hk), gIJ]
    · have u : ∀ k ∈ [239, 242], k ≠ 245 := by decide
      rw [gJI, gJJ, if_neg (u k hk)]
  by_cases y2 : 14 < w
  · refine plain _ (by rw [cl, if_pos (Or.inr y2)]) (Or.inr (Or.inr y2)) (dm_unit (by omega) (by omega) (by omega) k3 ?_)
    rw [gJI, gJJ, if_neg (by decide)]
  rcases hk with ⟨w1, -⟩ | ⟨a, w1, w2, w3, w4⟩
  · have w1' : dp_I M 109 i = -1 := w1
    refine plain (akV (-1) 0 0 (-1) w) ?_ (Or.inl (by rw [w1']; decide)) ?_
    · rw [cl, if_neg (by omega), w1', dc_ask0 (by omega) (by omega), rb_bl, rb_bl]
    · rw [w1', dm_ask0 (i := 0) (by omega) (by omega)]
  have w2' : dp_I M 109 i = nI a := w2
  have cl2 : dp_den true xs xl (d + 4) 358 [.ref 0, .int (nI i), .int (nI w)] M = lR (akV (dp_I M 82 a) (dp_J M 85 a) (dp_J M 86 a) (dp_I M 87 a) w) M := by
    rw [cl, if_neg (by omega), w2', dc_ask1 (by omega) (by omega) (by omega), rb_bl, rb_bl]
  obtain ⟨O, A', hO, hA', a1, a2, a3, a4, b1, b2, b3, b4, b5, b6, b7, b8, b9, b10⟩ := hq
  have eA : A' = A := by rw [h4, nI_eq (by omega) (by omega)] at a4; exact a4.symm
  subst eA
  obtain ⟨x1, x2, -⟩ := b9 a w1
  have x1' : dp_I M 82 a = dp_I M 197 a := x1
  have b6' : dp_J M 198 = dp_J M 85 := b6
  by_cases y3 : w < 13
  · refine plain _ cl2 (Or.inr (Or.inl y3)) ?_
    rw [w2', dm_ask1 (by omega) (by omega) (by omega), gII, if_neg (by decide), gIJ, gJI, gJJ, if_neg (by decide), x1', b6']
    have cs : w = 11 ∨ w = 12 := by omega
    rcases cs with rfl | rfl
    · rw [akV_11, akV_11]
    · rw [akV_12, akV_12]
  obtain ⟨o, ho, eo⟩ := qin_of x2 (by omega)
  have eo' : dp_I M 197 a = nI o := by rw [← x1']; exact eo
  obtain ⟨f, e, r, q1, q2, q3, q4, q5, q6, q7, q8, q9, q10, q11⟩ := b10 o ho
  obtain ⟨v, hv⟩ : ∃ v, v = akV (dp_I M 82 a) (dp_J M 85 a) (dp_J M 86 a) (dp_I M 87 a) w := ⟨_, rfl⟩
  obtain ⟨N, hN⟩ : ∃ N, N = dp_setI (dp_setJ M 245 0 v) 114 0 0 := ⟨_, rfl⟩
  have rN : RelQ N := by rw [hN]; exact (hq0.looked v).1
  have oN : Off Dd_S [0, 118] M N := by rw [hN]; exact ((Off.rr _ _ M).J 245 (by decide) _ _).F 0 (by decide) _
  have nI' : ∀ k, k ≠ 114 → dp_I N k = dp_I M k := fun k h => by rw [hN, gII, if_neg h, gIJ]
  have nJ' : ∀ k, k ≠ 245 → dp_J N k = dp_J M k := fun k h => by rw [hN, gJI, gJJ, if_neg h]
  have cCN : ∀ n, cC N A' o f n = cC M A' o f n := fun n => by
    unfold cC qp
    rw [nI' 82 (by decide), nI' 84 (by decide), nI' 83 (by decide), nI' 80 (by decide), nJ' 85 (by decide), nJ' 76 (by decide)]
  have e194 : (dp_I M 194 o).toInt = r := by
    have q : dp_I M 194 = dp_I M 79 := b4
    rw [q]; exact q7
  obtain ⟨K, s1, s2, s3, s4, s5, s6, s7, s8⟩ := RelQ.course (xs := xs) (xl := xl) (d := d + 1) (M := N) (O := O) (A := A') (o := o) (u := dp_I M 194 o) (f := f) (e := e) (n := nd f e r) hA' (by omega) (by rw [hN, gII, if_pos rfl, uI_n (by decide), gIJ]; exact a4) (by rw [nJ' 191 (by decide), nJ' 76 (by decide)]; exact b1) (by rw [nI' 192 (by decide), nI' 77 (by decide)]; exact b2) (by rw [nI' 193 (by decide), nI' 78 (by decide)]; exact b3) (by rw [nI' 195 (by decide), nI' 80 (by decide)]; exact b5) (by rw [nJ' 198 (by decide), nJ' 85 (by decide)]; exact b6) (by rw [nJ' 85 (by decide)]; exact b8) (by unfold mdy mdk; rw [nI' 82 (by decide), nI' 83 (by decide), nI' 84 (by decide), nI' 196 (by decide), nI' 197 (by decide), nI' 235 (by decide), nI' 238 (by decide)]; exact b9) q1 q2 (by rw [nI' 77 (by decide)]; exact q5) (by rw [nI' 78 (by decide)]; exact q6) (by rw [nJ' 76 (by decide)]; exact q8) (by rw [nJ' 76 (by decide)]; exact q9) (by rw [e194])
  have oK : Off Dd_S [0, 118] M K := oN.tr (s2.mono (by decide) (by decide))
  have uq : qp M A' o a = true := by
    unfold qp
    rw [Bool.and_eq_true, decide_eq_true_eq, decide_eq_true_eq]
    exact ⟨w1, eo⟩
  have uN : qp N A' o a = true := by rw [qp_c (nI' 82 (by decide))]; exact uq
  have k200 : dp_J K 200 a = dp_J M 86 a := by
    have t1 : dp_J K 200 a = (cC N A' o f (nd f e r)).2.2 a := (s8 a uN).2
    have t2 : dp_J M 86 a = (cC M A' o f (nd f e r)).2.2 a := (q10 a uq).2
    rw [t1, t2, cCN]
  have k199 : dp_I K 199 a = dp_I M 87 a := by
    have t1 : dp_I K 199 a = (cC N A' o f (nd f e r)).2.1 a := (s8 a uN).1
    have t2 : dp_I M 87 a = (cC M A' o f (nd f e r)).2.1 a := (q10 a uq).1
    rw [t1, t2, cCN]
  refine ⟨0, v, dp_setJ M 245 0 v, K, wL_declared_ok (by rw [cl2, hv]), ?_, by rw [s5 114 (by decide), hN, gII, if_pos rfl, uI_s], fun _ => by rw [s6 245 (by decide) (by decide), hN, gJI, gJJ, if_pos rfl, uI_s], ⟨rN.crs s5 s6, RelD_off hd0 oK (by decide) (by decide)⟩, oK, ?_⟩
  · rw [nJ, w2', if_neg (fun q => q.elim (nI_nn (by omega)) (by omega)), if_neg (by rw [nI_cl (by omega)]; exact fun q => q.elim (nI_nn (by omega)) (by omega)), nI_cl (by omega), eo', if_neg (by rw [nI_cl (by omega)]; exact fun q => q.elim (nI_nn (by omega)) (by omega)), nI_cl (by omega), ← hN, s1, rb_bv, dm_ask1 (by omega) (by omega) (by omega), k200, k199, hv]
    have cs : w = 13 ∨ w = 14 := by omega
    rcases cs with rfl | rfl
    · rw [akV_13, akV_13]
    · rw [akV_14, akV_14]
  · have cs1 : Cst 0 0 M N := by rw [hN]; exact ⟨Nat.le_refl _, Nat.le_refl _⟩
    have cs2 : Cst 0 0 N K := ⟨by rw [s3]; exact Nat.le_refl _, by rw [s4]; exact Nat.le_refl _⟩
    exact (cs1.tr0 cs2).mono (by omega) (by omega)
end DT
