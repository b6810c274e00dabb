-- needs: 71 72 73 74
/-! RATES: the class builds a Rate -/
theorem l_le : ∀ (C : Nat) (l : List Nat), l.Nodup → (∀ x, x ∈ l → x < C) → l.length ≤ C
  | 0, l, _, h => by
    cases l with
    | nil => exact Nat.le_refl _
    | cons a l => have := h a (List.mem_cons_self ..); omega
  | C + 1, l, hn, h => by
    by_cases z : C ∈ l
    · have key := l_le C (l.erase C) (hn.erase C) (fun x hx => by
        have h1 := (List.Nodup.mem_erase_iff hn).mp hx
        have := h x h1.2
        have := h1.1
        omega)
      rw [List.length_erase_of_mem z] at key
      omega
    · have := l_le C l hn (fun x hx => by
        have := h x hx
        have : x ≠ C := fun e => z (by rw [← e]; exact hx)
        omega)
      omega
theorem l_sur {C x : Nat} {ix : List Nat} (hn : ix.Nodup) (hb : ∀ x, x ∈ ix → x < C) (hl : ix.length = C) (hx : x < C) : ∃ j, j < C ∧ ix.getD j 0 = x := by
  by_cases z : x ∈ ix
  · obtain ⟨j, hj, e⟩ := List.mem_iff_getElem.mp z
    exact ⟨j, by omega, by rw [List.getD_eq_getElem?_getD, List.getElem?_eq_getElem hj]; exact e⟩
  · have := l_le C (x :: ix) (List.nodup_cons.mpr ⟨z, hn⟩) (fun y hy => by
      rcases List.mem_cons.mp hy with rfl | h
      · exact hx
      · exact hb y h)
    rw [List.length_cons] at this
    omega
def nOf (nu : Nat → Int32) (x : Int32) : Int32 := if x = -1 then -1 else nu x.toNatClampNeg
def cpR (F r : Nat → Int32) (v w : Nat) : Nat → Int32 := fun i => if w * 7 ≤ i ∧ i < w * 7 + 7 then F (v * 7 + (i - w * 7)) else r i
/-- the rows of the first nodes are at their places -/
def bRow (F nu r0 : Nat → Int32) : Nat → Nat → Int32
  | 0 => r0
  | v + 1 => uI (uI (cpR F (bRow F nu r0 v) v (nu v).toNatClampNeg) ((nu v).toNatClampNeg * 7 + 3) (nOf nu (F (v * 7 + 3)))) ((nu v).toNatClampNeg * 7 + 4) (nOf nu (F (v * 7 + 4)))
theorem bRow_at {F nu r0 : Nat → Int32} {C : Nat} (inj : ∀ x y, x < C → y < C → (nu x).toNatClampNeg = (nu y).toNatClampNeg → x = y) : ∀ v, v ≤ C → ∀ x, x < v → ∀ k, k < 7 → bRow F nu r0 v ((nu x).toNatClampNeg * 7 + k) = if k = 3 then nOf nu (F (x * 7 + 3)) else if k = 4 then nOf nu (F (x * 7 + 4)) else F (x * 7 + k)
  | 0, _, x, hx, _, _ => by omega
  | v + 1, hv, x, hx, k, hk => by
    unfold bRow
    by_cases z : x = v
    · subst z
      by_cases k4 : k = 4
      · subst k4; rw [uI_s, if_neg (by decide), if_pos rfl]
      · rw [uI_n (by omega), if_neg k4]
        by_cases k3 : k = 3
        · subst k3; rw [uI_s, if_pos rfl]
        · rw [uI_n (by omega), if_neg k3]
          unfold cpR
          rw [if_pos (by omega), Nat.add_sub_cancel_left]
    · have w : (nu x).toNatClampNeg ≠ (nu v).toNatClampNeg := fun e => z (inj x v (by omega) (by omega) e)
      rw [uI_n (by omega), uI_n (by omega)]
      unfold cpR
      rw [if_neg (by omega)]
      exact bRow_at inj v (by omega) x (by omega) k hk
section RC
variable {xs : Nat → Int32} {xl d : Nat} {M : dp_M} {t : Nat → Int32} {L : Nat}
theorem bg_t {p : Nat} (h : 246 ≤ p) : dp_t true M p = dp_tag M p := by
  unfold dp_t
  rw [if_neg (show ¬ p < dp_K0 from by show ¬ p < 246; omega)]
theorem bg_ln {p : Nat} (h : 246 ≤ p) : dp_ln true M p = dp_len M p := by
  unfold dp_ln
  rw [if_pos rfl, if_neg (show ¬ p < dp_K0 from by show ¬ p < 246; omega)]
theorem c_nOf {x : Int32} (h : x = -1 ∨ ∃ y, y < 60 ∧ x = nI y) : dp_den true xs xl (d + 1) 169 [.ref 68, .int x] M = iR (nOf (dp_I M 73) x) M := by
  rw [D_X7_numberOf_0_den, D_X7_numberOf_0_eq]
  unfold nOf
  rcases h with rfl | ⟨y, hy, rfl⟩
  · rw [if_pos rfl, if_pos rfl]
  · rw [if_neg (m1n (by omega)), if_neg (m1n (by omega)), nI_cl (by omega), if_neg (by rw [nI_o hy (by omega)]; exact id)]
theorem bf_cp {N : dp_M} {r : Nat → Int32} {p2 v w : Nat} (hp : p2 ≠ 71) : dp_cpI (rI N p2 r) 71 (v * 7) p2 (w * 7) 7 = rI N p2 (cpR (dp_I N 71) r v w) := by
  refine mext (fun K => ?_) (fun _ => rfl) rfl
  rw [rI_I]
  funext i
  show (if K = p2 ∧ w * 7 ≤ i ∧ i < w * 7 + 7 then dp_I (rI N p2 r) 71 (v * 7 + (i - w * 7)) else dp_I (rI N p2 r) K i) = _
  have c71 : dp_I (rI N p2 r) 71 = dp_I N 71 := by rw [rI_I, if_neg (fun e => hp e.symm)]
  rw [c71]
  by_cases z : K = p2
  · subst z
    rw [if_pos rfl, rI_I, if_pos rfl]
    unfold cpR
    by_cases w' : w * 7 ≤ i ∧ i < w * 7 + 7
    · rw [if_pos ⟨rfl, w'⟩, if_pos w']
    · rw [if_neg (fun e => w' e.2), if_neg w']
  · rw [if_neg (fun e => z e.1), if_neg z, rI_I, if_neg z]
theorem c_bloop {C p2 : Nat} {v1 : Int32} {N : dp_M} {r : dp_Res} (hp : 246 ≤ p2) (ht : dp_tag N p2 = 1) (hl : dp_len N p2 = C * 7) (hC : C ≤ 60) (h10 : dp_I N 68 10 = nI C) (hnu : ∀ v, v < C → ∃ j, j < C ∧ dp_I N 73 v = nI j) (hF : ∀ v, v < C → ∀ k, k = 3 ∨ k = 4 → dp_I N 71 (v * 7 + k) = -1 ∨ ∃ y, y < 60 ∧ dp_I N 71 (v * 7 + k) = nI y)
    (hr : ∀ u, D_X7_builtFrom_90 xs xl (d + 1) v1 p2 (nI C) u (rI N p2 (bRow (dp_I N 71) (dp_I N 73) (dp_I N p2) C)) = some r) : D_X7_builtFrom_17 xs xl (d + 1) v1 p2 0 none N = some r := by
  have c68 : ∀ g, dp_I (rI N p2 g) 68 = dp_I N 68 := fun g => by rw [rI_I, if_neg (by omega)]
  have cp2 : ∀ g, dp_I (rI N p2 g) p2 = g := fun g => by rw [rI_I, if_pos rfl]
  have key := lpb (F := fun (u : Option Value) v => D_X7_builtFrom_17 xs xl (d + 1) v1 p2 (nI v) u (rI N p2 (bRow (dp_I N 71) (dp_I N 73) (dp_I N p2) v))) (s := fun v => if v = 0 then none else some (.int (dp_I N 73 (v - 1) * 7))) (N := C) (r := r) ?_ (fun v hv hr => ?_)
  · (try dsimp only at key)
    rw [if_pos rfl, show bRow (dp_I N 71) (dp_I N 73) (dp_I N p2) 0 = dp_I N p2 from rfl, rI_id] at key
    exact key
  · (try dsimp only)
    rw [D_X7_builtFrom_17_eq, c68, h10, if_pos (nI_lle (Nat.le_refl _) (by omega))]
    exact hr _
  · (try dsimp only at hr); (try dsimp only)
    rw [if_neg (Nat.succ_ne_zero v), Nat.add_sub_cancel] at hr
    obtain ⟨j, hj, ej⟩ := hnu v hv
    have e3 := hF v hv 3 (Or.inl rfl)
    have e4 := hF v hv 4 (Or.inr rfl)
    have hb : bRow (dp_I N 71) (dp_I N 73) (dp_I N p2) (v + 1) = uI (uI (cpR (dp_I N 71) (bRow (dp_I N 71) (dp_I N 73) (dp_I N p2) v) v j) (j * 7 + 3) (nOf (dp_I N 73) (dp_I N 71 (v * 7 + 3)))) (j * 7 + 4) (nOf (dp_I N 73) (dp_I N 71 (v * 7 + 4))) := by
      show uI (uI (cpR _ _ _ (dp_I N 73 v).toNatClampNeg) ((dp_I N 73 v).toNatClampNeg * 7 + 3) _) ((dp_I N 73 v).toNatClampNeg * 7 + 4) _ = _
      rw [ej, nI_cl (by omega)]
    obtain ⟨R, hR⟩ : ∃ R, R = bRow (dp_I N 71) (dp_I N 73) (dp_I N p2) v := ⟨_, rfl⟩
    rw [← hR] at hb ⊢
    have i7 : ∀ a, nI a * (7 : Int32) = nI (a * 7) := fun a => by rw [show (7 : Int32) = nI 7 from rfl, pk_mul]
    have i3 : nI (j * 7) + (3 : Int32) = nI (j * 7 + 3) := by rw [show (3 : Int32) = nI 3 from rfl, nI_add]
    have i4 : nI (j * 7) + (4 : Int32) = nI (j * 7 + 4) := by rw [show (4 : Int32) = nI 4 from rfl, nI_add]
    have T : ∀ g, dp_t true (rI N p2 g) p2 = 1 := fun g => by rw [bg_t hp]; exact ht
    have LN : ∀ g, dp_ln true (rI N p2 g) p2 = C * 7 := fun g => by rw [bg_ln hp]; exact hl
    have c73 : ∀ g, dp_I (rI N p2 g) 73 = dp_I N 73 := fun g => by rw [rI_I, if_neg (by omega)]
    have no : ∀ a n, a < n → a < 2147483648 → ¬ (nI a < 0 ∨ n ≤ (nI a).toNatClampNeg) := fun a n h1 h2 => by rw [nI_cl h2, nI_o h1 h2]; exact id
    have no' : ∀ a n, a < n → a < 2147483648 → ¬ (nI a < 0 ∨ n ≤ a) := fun a n h1 h2 => by rw [nI_o h1 h2]; exact id
    have q3 : cpR (dp_I N 71) R v j (j * 7 + 3) = dp_I N 71 (v * 7 + 3) := by unfold cpR; rw [if_pos (by omega), Nat.add_sub_cancel_left]
    have q4 : ∀ z, uI (cpR (dp_I N 71) R v j) (j * 7 + 3) z (j * 7 + 4) = dp_I N 71 (v * 7 + 4) := fun z => by rw [uI_n (by omega)]; unfold cpR; rw [if_pos (by omega), Nat.add_sub_cancel_left]
    rw [D_X7_builtFrom_17_eq, c68, h10, if_neg (nI_nge hv (by omega)), if_neg (no v 60 (by omega) (by omega)), dpw, c73, nI_cl (by omega), ej, i7, i7, if_pos (T _)]
    rw [nI_cl (show v * 7 < 2147483648 by omega), nI_cl (show j * 7 < 2147483648 by omega), show Int32.toNatClampNeg (7 : Int32) = 7 from rfl]
    rw [if_neg (by
      rw [LN, show dp_ln true (rI N p2 R) 71 = 420 from rfl]
      intro h
      rcases h with h | h | h | h | h | h
      · exact absurd h (by decide)
      · exact no (j * 7) 420 (by omega) (by omega) (Or.inl h)
      · exact no (v * 7) 420 (by omega) (by omega) (Or.inl h)
      · omega
      · omega
      · omega), dpw, bf_cp (by omega), if_pos (T _), i3, LN, if_neg (no (j * 7 + 3) _ (by omega) (by omega)), nI_cl (show j * 7 + 3 < 2147483648 by omega), cp2, q3, c_nOf e3, rb_bi, if_pos (T _), LN, if_neg (no' (j * 7 + 3) _ (by omega) (by omega)), dpw, rI_set, c73]
    rw [if_pos (T _), i4, LN, if_neg (no (j * 7 + 4) _ (by omega) (by omega)), nI_cl (show j * 7 + 4 < 2147483648 by omega), cp2, q4, c_nOf e4, rb_bi, if_pos (T _), LN, if_neg (no' (j * 7 + 4) _ (by omega) (by omega)), dpw, rI_set, c73, dpw, nI_1, ← hb]
    rw [ej, i7] at hr
    exact hr
end RC
