-- needs: 71 72 73 74 75 76
/-! PLAN: the class's trace -/
/-- who came before, m times -/
def anc (Q : List qE) (g : Nat) : Nat → Nat
  | 0 => g
  | m + 1 => (qat Q (anc Q g m)).2.1
/-- what lies before a state lies before it in the queue -/
def QW (Q : List qE) : Prop := ∀ j, 0 < j → j < Q.length → (qat Q j).2.1 < j
theorem anc_s (Q : List qE) (g : Nat) : ∀ m, anc Q (qat Q g).2.1 m = anc Q g (m + 1)
  | 0 => rfl
  | m + 1 => by rw [anc, anc_s Q g m]; rfl
theorem anc_ex {Q : List qE} (w : QW Q) : ∀ g, g < Q.length → ∃ L, anc Q g L = 0 ∧ (∀ m, m < L → 0 < anc Q g m) ∧ L ≤ g := by
  intro g
  induction g using Nat.strongRecOn with
  | _ g ih =>
    intro hg
    by_cases z : g = 0
    · exact ⟨0, z, fun m hm => by omega, Nat.zero_le _⟩
    · have hp := w g (by omega) hg
      obtain ⟨L, h1, h2, h3⟩ := ih _ hp (by omega)
      refine ⟨L + 1, by rw [← anc_s]; exact h1, fun m hm => ?_, by omega⟩
      cases m with
      | zero => exact Nat.pos_of_ne_zero z
      | succ m => rw [← anc_s]; exact h2 m (by omega)
theorem anc_le {Q : List qE} (w : QW Q) {g L : Nat} (hg : g < Q.length) (h : ∀ m, m < L → 0 < anc Q g m) : ∀ m, m ≤ L → anc Q g m ≤ g
  | 0, _ => Nat.le_refl _
  | m + 1, hm => by
    have h1 := anc_le w hg h m (by omega)
    have h2 := w _ (h m (by omega)) (by omega)
    rw [anc]; omega
section PnH
variable {xs : Nat → Int32} {xl d : Nat} {M : dp_M}
theorem c_trc {n L : Nat} {l : Nat → Int32} {Q : List qE} (h : CS M l n Q) (w : QW Q) (hL : Q.length < 1300) (hg : qfe l n Q < Q.length) (h0 : anc Q (qfe l n Q) L = 0) (h1 : ∀ m, m < L → 0 < anc Q (qfe l n Q) m) (h16 : L ≤ 16) :
    ∃ M', dp_den true xs xl (d + 1) 114 [.ref 14] M = iR (nI L) M' ∧ (∀ m, m < L → dp_I M' 15 (L - 1 - m) = nI (qat Q (anc Q (qfe l n Q) m)).2.2) ∧ Pf [15] [] M M' := by
  obtain ⟨a1, a2, a3, -, -⟩ := h
  rw [if_pos hg] at a2
  obtain ⟨g, eg⟩ : ∃ g, g = qfe l n Q := ⟨_, rfl⟩
  rw [← eg] at a1 a2 a3 hg h0 h1 ⊢
  have le := anc_le w hg h1
  have row : ∀ N, Pf [15] [] M N → ∀ m, m < L → dp_I N 18 (anc Q g m) = nI (anc Q g (m + 1)) ∧ dp_I N 19 (anc Q g m) = nI (qat Q (anc Q g m)).2.2 := fun N p m hm => by
    have l1 := le m (by omega)
    have l2 := h1 m hm
    obtain ⟨-, b2, b3⟩ := a3 (anc Q g m) (by omega)
    rw [if_neg (by omega)] at b2
    rw [p.row (by decide) (by decide) (by decide), p.row (k := 19) (by decide) (by decide) (by decide)]
    exact ⟨b2, b3 l2⟩
  have key := lpi (F := fun m N => D_X4_trace_48 xs xl d (nI L) (nI (anc Q g m)) (nI (L - m) - 1) N) (a := 0) (N := L)
    (Inv := fun m N => (∀ m', m' < m → dp_I N 15 (L - 1 - m') = nI (qat Q (anc Q g m')).2.2) ∧ Pf [15] [] M N)
    (Post := fun r => ∃ M', r = (.inl (some (.int (nI L))), M') ∧ (∀ m, m < L → dp_I M' 15 (L - 1 - m) = nI (qat Q (anc Q g m)).2.2) ∧ Pf [15] [] M M') (Nat.zero_le _) ?_ ?_ M ?_
  · obtain ⟨r, hr, M', rfl, q⟩ := key
    refine ⟨M', ?_, q⟩
    rw [D_X4_trace_0_den, D_X4_trace_0_eq]
    simp only [dp_w]
    rw [a2]
    refine lpf (F := fun m => D_X4_trace_7 xs xl d (nI m) (nI (anc Q g m)) M) (a := 0) (j := L) (Nat.zero_le _) (fun m _ hm hr' => ?_) ?_
    · (try dsimp only at hr'); (try dsimp only)
      have l1 := le m (by omega)
      have l2 := h1 m hm
      rw [D_X4_trace_7_eq, if_neg (show ¬ nI (anc Q g m) ≤ (0 : Int32) from nI_nge (n := anc Q g m) (i := 0) l2 (by omega)), if_neg (show ¬ (1300 : Int32) ≤ nI m from nI_nge (n := 1300) (by omega) (by omega))]
      simp only [dp_w, nI_cl (show anc Q g m < 2147483648 by omega), nI_o (show anc Q g m < 1300 by omega) (by omega), if_false, nI_1]
      rw [(row M (Pf.r _ _ _) m hm).1]; exact hr'
    · (try dsimp only)
      rw [D_X4_trace_7_eq, h0, if_pos (show nI 0 ≤ (0 : Int32) by decide), if_pos (show nI L ≤ (16 : Int32) from nI_lle (i := 16) h16 (by omega))]
      simp only [dp_w]
      rw [a2]; exact hr
  · rintro N ⟨i1, i2⟩
    refine ⟨(.inl (some (.int (nI L))), N), ?_, N, rfl, i1, i2⟩
    (try dsimp only)
    rw [Nat.sub_self, D_X4_trace_48_eq, if_pos (show nI 0 - 1 < (0 : Int32) by decide)]
  · rintro m N - hm ⟨i1, i2⟩
    have l1 := le m (by omega)
    have l2 := h1 m hm
    obtain ⟨b1, b2⟩ := row N i2 m hm
    refine ⟨dp_setI N 15 (L - 1 - m) (nI (qat Q (anc Q g m)).2.2), ⟨fun m' hm' => ?_, i2.I 15 (by decide) _ _⟩, fun r hr => ?_⟩
    · rw [gII, if_pos rfl]
      by_cases z : m' = m
      · rw [z, uI_s]
      · rw [uI_n (by omega)]; exact i1 m' (by omega)
    · (try dsimp only at hr); (try dsimp only)
      obtain ⟨e, he⟩ : ∃ e, L - m = e + 1 := ⟨L - m - 1, by omega⟩
      have he' : nI (L - m) - 1 = nI (L - 1 - m) := by rw [he, nI_pred]; congr 1; omega
      rw [he', D_X4_trace_48_eq, if_neg (show ¬ nI (L - 1 - m) < (0 : Int32) from fun q => (nI_inn (i := L - 1 - m) (n := 16) (by omega) (by omega)) (Or.inl q))]
      simp only [dp_w, nI_cl (show anc Q g m < 2147483648 by omega), nI_o (show anc Q g m < 1300 by omega) (by omega), nI_cl (show L - 1 - m < 2147483648 by omega), nI_o (show L - 1 - m < 16 by omega) (by omega), if_false]
      rw [b2, gII, if_neg (by decide), b1]
      rw [show L - (m + 1) = L - 1 - m by omega, Int32.sub_eq_add_neg] at hr
      exact hr
  · exact ⟨fun m' hm' => by omega, Pf.r _ _ _⟩
end PnH
