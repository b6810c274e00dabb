-- needs: 71 72 73 74 75 76
/-! PLAN: the class's search -/
/-- the queue when i of its states are gone on from -/
def qbf (n T : Nat) (l ah : Nat → Int32) (Q0 : List qE) : Nat → List qE
  | 0 => Q0
  | i + 1 => if i < (qbf n T l ah Q0 i).length then qsF (qat (qbf n T l ah Q0 i) i).1 n T l ah i 7 (qbf n T l ah Q0 i) else qbf n T l ah Q0 i
theorem qadd_k {Q : List qE} {e : qE} {j : Nat} (h : j < Q.length) : j < (qadd Q e).length ∧ qat (qadd Q e) j = qat Q j := by
  unfold qadd
  split
  · exact ⟨h, rfl⟩
  · exact ⟨by rw [List.length_append]; omega, qat_l h⟩
theorem qst_k {c n T i f t j : Nat} {l ah : Nat → Int32} {Q : List qE} (h : j < Q.length) : j < (qst c n T l ah i f t Q).length ∧ qat (qst c n T l ah i f t Q) j = qat Q j := by
  cases e : tkn c n f with
  | none => rw [qst_n e]; exact ⟨h, rfl⟩
  | some k =>
    cases e' : mvt c n T l ah k f t with
    | none => rw [qst_m e e']; exact ⟨h, rfl⟩
    | some p => rw [qst_s e e']; exact qadd_k h
/-- what holds of every queue -/
def GI (G : List qE → Prop) (n T : Nat) (l ah : Nat → Int32) : Prop :=
  (∀ Q, G Q → Q.length < 1300 ∧ QW Q) ∧ ∀ Q i f t, G Q → i < Q.length → f < 7 → t < 5 → G (qst (qat Q i).1 n T l ah i f t Q)
theorem GI.qi {G : List qE → Prop} {n T : Nat} {l ah : Nat → Int32} (h : GI G n T l ah) (c i : Nat) : QI (fun Q => G Q ∧ i < Q.length ∧ (qat Q i).1 = c) c n T l ah i := by
  refine ⟨fun Q q => ⟨(h.1 Q q.1).1, q.2.1, q.2.2⟩, fun Q f t q hf ht => ?_⟩
  obtain ⟨q1, q2, q3⟩ := q
  have := h.2 Q i f t q1 q2 hf ht
  rw [q3] at this
  obtain ⟨k1, k2⟩ := qst_k (c := c) (n := n) (T := T) (i := i) (f := f) (t := t) (l := l) (ah := ah) q2
  exact ⟨this, k1, by rw [k2]; exact q3⟩
theorem md_s {c i : Nat} (hc : c < 65536) (hi : i < 4) : nI (c % 16 ^ i) ||| (nI (pl c i) <<< (((4 : Int32) * nI i) &&& 31)) = nI (c % 16 ^ (i + 1)) := by
  have hp := pl_lt c i
  have pw : pl c i * 2 ^ (4 * i) < 2147483648 := by
    have cs : i = 0 ∨ i = 1 ∨ i = 2 ∨ i = 3 := by omega
    rcases cs with rfl | rfl | rfl | rfl <;> (simp only [show (2 : Nat) ^ (4 * 0) = 1 from rfl, show (2 : Nat) ^ (4 * 1) = 16 from rfl, show (2 : Nat) ^ (4 * 2) = 256 from rfl, show (2 : Nat) ^ (4 * 3) = 4096 from rfl]; omega)
  have hm : c % 16 ^ i ≤ c := Nat.mod_le _ _
  rw [i4, nI_shl pw (by omega), nI_or (by omega) pw]
  congr 1
  have e : c % 16 ^ (i + 1) = c % 16 ^ i + 16 ^ i * pl c i := by rw [Nat.pow_succ, Nat.mod_mul]; rfl
  have hl : c % 16 ^ i < 2 ^ (4 * i) := by rw [p16]; exact Nat.mod_lt _ (Nat.two_pow_pos _)
  rw [e, Nat.mul_comm (pl c i), Nat.or_comm, ← Nat.two_pow_add_eq_or_of_lt hl, p16, Nat.add_comm]
section PnI
variable {xs : Nat → Int32} {xl d : Nat} {M : dp_M}
def cPf : List Nat := [15, 16, 17, 18, 19, 20, 23, 24]
def cFl : List Nat := [10, 11, 12, 13, 14, 15]
/-- what the class's search answers -/
def cAn (n T : Nat) (l ah : Nat → Int32) (Q0 : List qE) (G : List qE → Prop) (M' : dp_M) (v : Int32) (i : Nat) : Prop :=
  G (qbf n T l ah Q0 i) ∧ (∀ j, j < i → j < (qbf n T l ah Q0 j).length ∧ (qbf n T l ah Q0 j).length ≤ qfe l n (qbf n T l ah Q0 j)) ∧ SB M' ∧
  ((v = -1 ∧ (qbf n T l ah Q0 i).length ≤ i ∧ (qbf n T l ah Q0 i).length ≤ qfe l n (qbf n T l ah Q0 i)) ∨
   (qfe l n (qbf n T l ah Q0 i) < (qbf n T l ah Q0 i).length ∧ ∃ L, L ≤ 16 ∧ v = nI L ∧ anc (qbf n T l ah Q0 i) (qfe l n (qbf n T l ah Q0 i)) L = 0 ∧ (∀ m, m < L → 0 < anc (qbf n T l ah Q0 i) (qfe l n (qbf n T l ah Q0 i)) m) ∧
     ∀ m, m < L → dp_I M' 15 (L - 1 - m) = nI (qat (qbf n T l ah Q0 i) (anc (qbf n T l ah Q0 i) (qfe l n (qbf n T l ah Q0 i)) m)).2.2))
theorem c_slp {n T : Nat} {a b : Int32} {l ah : Nat → Int32} {Q0 : List qE} {G : List qE → Prop} (hn : n ≤ 4) (hT : T ≤ 4) (hG : GI G n T l ah)
    (hD : ∀ i L, qfe l n (qbf n T l ah Q0 i) < (qbf n T l ah Q0 i).length → G (qbf n T l ah Q0 i) → anc (qbf n T l ah Q0 i) (qfe l n (qbf n T l ah Q0 i)) L = 0 → (∀ m, m < L → 0 < anc (qbf n T l ah Q0 i) (qfe l n (qbf n T l ah Q0 i)) m) → L ≤ 16)
    (x1 : dp_I M 14 12 = nI n) (x2 : dp_I M 14 13 = nI T) (x3 : dp_I M 21 = l) (x4 : dp_I M 22 = ah) (h : CS M l n Q0) (hq : G Q0) (v3 : Int32) :
    ∃ v M' i, D_X4_search_101 xs xl (d + 5) a b v3 0 M = iR v M' ∧ cAn n T l ah Q0 G M' v i ∧ Pf [15, 16, 17, 18, 19, 20, 23, 24] [11, 14, 15] M M' := by
  have key := lpw (F := fun s : Nat × dp_M => D_X4_search_101 xs xl (d + 5) a b v3 (nI s.1) s.2) (fun s => 1300 - s.1)
    (Inv := fun s => CS s.2 l n (qbf n T l ah Q0 s.1) ∧ G (qbf n T l ah Q0 s.1) ∧ s.1 ≤ (qbf n T l ah Q0 s.1).length ∧ (∀ j, j < s.1 → j < (qbf n T l ah Q0 j).length ∧ (qbf n T l ah Q0 j).length ≤ qfe l n (qbf n T l ah Q0 j)) ∧ Pf [15, 16, 17, 18, 19, 20, 23, 24] [11, 14, 15] M s.2)
    (Post := fun r => ∃ v M' i, r = (.inl (some (.int v)), M') ∧ cAn n T l ah Q0 G M' v i ∧ Pf [15, 16, 17, 18, 19, 20, 23, 24] [11, 14, 15] M M') ?_ (0, M) ⟨h, hq, Nat.zero_le _, fun j hj => absurd hj (Nat.not_lt_zero j), Pf.r _ _ _⟩
  · obtain ⟨r, hr, v, M', i, rfl, q⟩ := key
    exact ⟨v, M', i, hr, q⟩
  · rintro ⟨i, N⟩ ⟨h1, h2, h3, h4, h5⟩
    (try dsimp only at h1 h2 h3 h4 h5)
    obtain ⟨Q, eQ⟩ : ∃ Q, Q = qbf n T l ah Q0 i := ⟨_, rfl⟩
    have hLn := (hG.1 _ h2).1
    have hle := qfe_le l n (qbf n T l ah Q0 i)
    by_cases g : qfe l n (qbf n T l ah Q0 i) < (qbf n T l ah Q0 i).length
    · left
      obtain ⟨L, l1, l2, l3⟩ := anc_ex (hG.1 _ h2).2 _ g
      have l4 := hD i L g h2 l1 l2
      obtain ⟨M', t1, t2, t3⟩ := c_trc (xs := xs) (xl := xl) (d := d + 4) h1 (hG.1 _ h2).2 hLn g l1 l2 l4
      have sb : SB M' := by
        obtain ⟨r, s1, s2⟩ := h1.2.2.2.2.2
        exact ⟨r, ⟨s1.1, by rw [t3.2.2.2 10 (by decide)]; exact s1.2⟩, fun a => by rw [t3.row (k := 16) (by decide) (by decide) (by decide)]; exact s2 a⟩
      refine ⟨_, ?_, nI L, M', i, rfl, ⟨h2, h4, sb, Or.inr ⟨g, L, l4, rfl, l1, l2, t2⟩⟩, h5.tr (t3.mono (by decide) (by decide))⟩
      (try dsimp only)
      have e15 : ¬ dp_I N 14 15 = -1 := by rw [h1.2.1, if_pos g]; exact m1_ne (by omega)
      rw [D_X4_search_101_eq]
      simp only [if_neg e15]
      rw [t1, rb_bi]
      split
      · rfl
      · split <;> rfl
    have e15 : dp_I N 14 15 = -1 := by rw [h1.2.1, if_neg g]
    have e11 : dp_I N 14 11 = nI (qbf n T l ah Q0 i).length := by rw [h1.1]; congr 1; omega
    by_cases z : (qbf n T l ah Q0 i).length ≤ i
    · left
      refine ⟨_, ?_, -1, N, i, rfl, ⟨h2, h4, h1.2.2.2.2.2, Or.inl ⟨rfl, z, by omega⟩⟩, h5⟩
      (try dsimp only)
      rw [D_X4_search_101_eq, e11, if_neg (show ¬ (1300 : Int32) ≤ nI (i) from nI_ge (a := i) (b := 1300) (by omega) (by omega)), if_pos (nI_lle z (by omega)), if_pos e15]
    · right
      obtain ⟨M', m1, m2, m3, m4⟩ := c_on (xs := xs) (xl := xl) (d := d) (c := (qat (qbf n T l ah Q0 i) i).1) (i := i) hn hT (hG.qi _ i) (by rw [h5.2.2.2 12 (by decide)]; exact x1) (by rw [h5.2.2.2 13 (by decide)]; exact x2) (by rw [h5.row (by decide) (by decide) (by decide)]; exact x3) (by rw [h5.row (by decide) (by decide) (by decide)]; exact x4) rfl rfl h1 ⟨h2, by omega, rfl⟩ (by omega)
      have eb : qbf n T l ah Q0 (i + 1) = qsF (qat (qbf n T l ah Q0 i) i).1 n T l ah i 7 (qbf n T l ah Q0 i) := by rw [qbf, if_pos (by omega)]
      rw [← eb] at m2 m3
      refine ⟨(i + 1, M'), ⟨m2, m3.1, by have := m3.2.1; (try dsimp only); omega, fun j hj => ?_, h5.tr (m4.mono (by decide) (by decide))⟩, by (try dsimp only); omega, fun r hr => ?_⟩
      · by_cases y : j = i
        · subst y; exact ⟨by omega, by omega⟩
        · exact h4 j (by (try dsimp only at hj); omega)
      · (try dsimp only at hr); (try dsimp only)
        rw [D_X4_search_101_eq, e11, if_neg (show ¬ (1300 : Int32) ≤ nI (i) from nI_ge (a := i) (b := 1300) (by omega) (by omega)), if_neg (nI_nge (by omega) (by omega)), if_pos e15, m1, rb_bv]
        simp only [dp_w, nI_1]; exact hr
end PnI
