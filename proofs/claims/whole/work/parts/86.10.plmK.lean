-- needs: 71 72 73 74 75 76 77 78 85
/-! PLAN: the model's search; both find the same -/
theorem qsT_k {c n T i f j : Nat} {l ah : Nat → Int32} {Q : List qE} (h : j < Q.length) : ∀ t, j < (qsT c n T l ah i f t Q).length ∧ qat (qsT c n T l ah i f t Q) j = qat Q j
  | 0 => ⟨h, rfl⟩
  | t + 1 => by
    have ih := qsT_k (c := c) (n := n) (T := T) (i := i) (f := f) (l := l) (ah := ah) h t
    have k := qst_k (c := c) (n := n) (T := T) (i := i) (f := f) (t := t) (l := l) (ah := ah) ih.1
    rw [qsT]; exact ⟨k.1, k.2.trans ih.2⟩
theorem qsF_k {c n T i j : Nat} {l ah : Nat → Int32} {Q : List qE} (h : j < Q.length) : ∀ f, j < (qsF c n T l ah i f Q).length ∧ qat (qsF c n T l ah i f Q) j = qat Q j
  | 0 => ⟨h, rfl⟩
  | f + 1 => by
    have ih := qsF_k (c := c) (n := n) (T := T) (i := i) (l := l) (ah := ah) h f
    have k := qsT_k (c := c) (n := n) (T := T) (i := i) (f := f) (l := l) (ah := ah) ih.1 5
    rw [qsF]; exact ⟨k.1, k.2.trans ih.2⟩
theorem qbf_1 {n T i j : Nat} {l ah : Nat → Int32} {Q0 : List qE} (h : j < (qbf n T l ah Q0 i).length) : j < (qbf n T l ah Q0 (i + 1)).length ∧ qat (qbf n T l ah Q0 (i + 1)) j = qat (qbf n T l ah Q0 i) j := by
  rw [qbf]
  split
  · exact qsF_k h 7
  · exact ⟨h, rfl⟩
theorem qbf_k {n T i j : Nat} {l ah : Nat → Int32} {Q0 : List qE} (h : j < (qbf n T l ah Q0 i).length) : ∀ m, j < (qbf n T l ah Q0 (i + m)).length ∧ qat (qbf n T l ah Q0 (i + m)) j = qat (qbf n T l ah Q0 i) j
  | 0 => ⟨h, rfl⟩
  | m + 1 => by
    have ih := qbf_k h m
    have k := qbf_1 ih.1
    exact ⟨k.1, k.2.trans ih.2⟩
theorem qbf_end {n T i : Nat} {l ah : Nat → Int32} {Q0 : List qE} (h : (qbf n T l ah Q0 i).length ≤ i) : ∀ m, qbf n T l ah Q0 (i + m) = qbf n T l ah Q0 i
  | 0 => rfl
  | m + 1 => by
    have ih := qbf_end h m
    rw [← Nat.add_assoc, qbf, ih, if_neg (by omega)]
theorem qfe_s {l : Nat → Int32} {n : Nat} {Q : List qE} (h : qfe l n Q < Q.length) : eok l n (qat Q (qfe l n Q)).1 = true := by
  have := List.findIdx_getElem (p := fun e : qE => eok l n e.1) (xs := Q) (w := h)
  unfold qat
  rw [List.getD_eq_getElem?_getD, List.getElem?_eq_getElem h]
  exact this
theorem qfe_b {l : Nat → Int32} {n : Nat} {Q : List qE} {j : Nat} (h : j < qfe l n Q) (hj : j < Q.length) : ¬ eok l n (qat Q j).1 = true := by
  have := List.not_of_lt_findIdx (p := fun e : qE => eok l n e.1) (xs := Q) h
  unfold qat
  rw [List.getD_eq_getElem?_getD, List.getElem?_eq_getElem hj]
  intro q
  simp only [Option.getD_some] at q
  rw [q] at this; cases this
theorem anc_c {Q Q' : List qE} (w : QW Q) {g L : Nat} (hg : g < Q.length) (h : ∀ m, m < L → 0 < anc Q g m) (e : ∀ j, j ≤ g → qat Q' j = qat Q j) : ∀ m, m ≤ L → anc Q' g m = anc Q g m
  | 0, _ => rfl
  | m + 1, hm => by
    have ih := anc_c w hg h e m (by omega)
    have := anc_le w hg h m (by omega)
    rw [anc, anc, ih, e _ this]
/-- what the model's search answers -/
def mAn (n T : Nat) (l ah : Nat → Int32) (Q0 : List qE) (M' : dp_M) (v : Int32) (i : Nat) : Prop :=
  MS M' n (qbf n T l ah Q0 i) ∧ QG n T (qbf n T l ah Q0 i) ∧ (∀ j, j < i → j < (qbf n T l ah Q0 i).length ∧ ¬ eok l n (qat (qbf n T l ah Q0 i) j).1 = true) ∧
  ((v = -1 ∧ (qbf n T l ah Q0 i).length ≤ i) ∨ (v = nI i ∧ i < (qbf n T l ah Q0 i).length ∧ eok l n (qat (qbf n T l ah Q0 i) i).1 = true))
theorem an_jn {n T ic im : Nat} {l ah : Nat → Int32} {Q0 : List qE} {Mc Mm : dp_M} {v v' : Int32} (hn : n ≤ 4) (hT4 : T ≤ 4) (hc : cAn n T l ah Q0 (QG n T) Mc v ic) (hm : mAn n T l ah Q0 Mm v' im) :
    (v = -1 ∧ v' = -1) ∨ ∃ L, L ≤ 16 ∧ v = nI L ∧ v' = nI im ∧ im < (qbf n T l ah Q0 im).length ∧ eok l n (qat (qbf n T l ah Q0 im) im).1 = true ∧ anc (qbf n T l ah Q0 im) im L = 0 ∧ (∀ m, m < L → 0 < anc (qbf n T l ah Q0 im) im m) ∧
      ∀ m, m < L → dp_I Mc 15 (L - 1 - m) = nI (qat (qbf n T l ah Q0 im) (anc (qbf n T l ah Q0 im) im m)).2.2 := by
  obtain ⟨c1, c2, -, c4⟩ := hc
  obtain ⟨-, m2, m3, m4⟩ := hm
  have G := gi_g (l := l) (ah := ah) hn hT4
  rcases c4 with ⟨rfl, c5, c6⟩ | ⟨c5, L, c6, rfl, c8, c9, c10⟩
  · left
    rcases m4 with ⟨rfl, -⟩ | ⟨-, m5, m6⟩
    · exact ⟨rfl, rfl⟩
    · exfalso
      by_cases z : im < ic
      · obtain ⟨-, q2⟩ := c2 im z
        exact qfe_b (by omega) m5 m6
      · obtain ⟨e, he⟩ : ∃ e, im = ic + e := ⟨im - ic, by omega⟩
        rw [he, qbf_end c5] at m5 m6
        exact qfe_b (by omega) m5 m6
  · right
    obtain ⟨g, eg⟩ : ∃ g, g = qfe l n (qbf n T l ah Q0 ic) := ⟨_, rfl⟩
    have s1 := qfe_s c5
    have s2 : ∀ j, j < g → ¬ eok l n (qat (qbf n T l ah Q0 ic) j).1 = true := fun j hj => qfe_b (by omega) (by omega)
    rw [← eg] at c5 c8 c9 c10 s1
    have hle : ic ≤ im := by
      refine Nat.le_of_not_lt (fun z => ?_)
      obtain ⟨q1, q2⟩ := c2 im z
      rcases m4 with ⟨-, m5⟩ | ⟨-, m5, m6⟩
      · omega
      · exact qfe_b (by omega) m5 m6
    obtain ⟨e, he⟩ : ∃ e, im = ic + e := ⟨im - ic, by omega⟩
    have pre : ∀ j, j < (qbf n T l ah Q0 ic).length → j < (qbf n T l ah Q0 im).length ∧ qat (qbf n T l ah Q0 im) j = qat (qbf n T l ah Q0 ic) j := fun j hj => by rw [he]; exact qbf_k hj e
    have hg : im ≤ g := Nat.le_of_not_lt (fun z => (m3 g z).2 (by rw [(pre g c5).2]; exact s1))
    rcases m4 with ⟨-, m5⟩ | ⟨rfl, m5, m6⟩
    · exfalso
      have := (pre g c5).1
      omega
    · have hgi : im = g := by
        refine Nat.le_antisymm hg (Nat.le_of_not_lt (fun z => ?_))
        rw [(pre im (by omega)).2] at m6
        exact s2 im z m6
      rw [← hgi] at c5 c8 c9 c10
      have ea := anc_c (G.1 _ c1).2 c5 c9 (fun j hj => (pre j (by omega)).2)
      refine ⟨L, c6, rfl, rfl, m5, m6, by rw [ea L (Nat.le_refl _)]; exact c8, fun m hm => by rw [ea m (by omega)]; exact c9 m hm, fun m hm => ?_⟩
      rw [ea m (by omega), (pre _ (Nat.lt_of_le_of_lt (anc_le (G.1 _ c1).2 c5 c9 m (by omega)) c5)).2]; exact c10 m hm
section PmK
variable {xs : Nat → Int32} {xl d : Nat} {M : dp_M}
theorem m_slp {n T : Nat} {v1 : Int32} {l ah : Nat → Int32} {Q0 : List qE} (hn : n ≤ 4) (hT4 : T ≤ 4) (h : MS M n Q0) (x : MD M n T l ah) (hq : QG n T Q0) :
    ∃ v M' i, D_X12_search_40 xs xl (d + 4) v1 0 M = iR v M' ∧ mAn n T l ah Q0 M' v i ∧ MD M' n T l ah ∧ Mf M M' := by
  have G := gi_g (l := l) (ah := ah) hn hT4
  have key := lpw (F := fun s : Nat × dp_M => D_X12_search_40 xs xl (d + 4) v1 (nI s.1) s.2) (fun s => 1300 - s.1)
    (Inv := fun s => MS s.2 n (qbf n T l ah Q0 s.1) ∧ QG n T (qbf n T l ah Q0 s.1) ∧ MD s.2 n T l ah ∧ (∀ j, j < s.1 → j < (qbf n T l ah Q0 s.1).length ∧ ¬ eok l n (qat (qbf n T l ah Q0 s.1) j).1 = true) ∧ Mf M s.2)
    (Post := fun r => ∃ v M' i, r = (.inl (some (.int v)), M') ∧ mAn n T l ah Q0 M' v i ∧ MD M' n T l ah ∧ Mf M M') ?_ (0, M) ⟨h, hq, x, fun j hj => absurd hj (Nat.not_lt_zero j), Mf.r _⟩
  · obtain ⟨r, hr, v, M', i, rfl, q⟩ := key
    exact ⟨v, M', i, hr, q⟩
  · rintro ⟨i, N⟩ ⟨h1, h2, h3, h4, h5⟩
    (try dsimp only at h1 h2 h3 h4 h5)
    have hL := h2.1.1.len hn
    by_cases z : (qbf n T l ah Q0 i).length ≤ i
    · left
      have hi : i ≤ (qbf n T l ah Q0 i).length := by
        by_cases y : i = 0
        · omega
        · have := (h4 (i - 1) (by omega)).1; omega
      refine ⟨_, ?_, -1, N, i, rfl, ⟨h1, h2, h4, Or.inl ⟨rfl, z⟩⟩, h3, h5⟩
      (try dsimp only)
      rw [D_X12_search_40_eq, h1.1, if_pos (nI_lle z (by omega))]
    · have hi : i < (qbf n T l ah Q0 i).length := by omega
      obtain ⟨q1, q2⟩ := h2.1.1.1 i hi
      have en := m_end (xs := xs) (xl := xl) (d := d + 2) hn h3 (wk_t hn q1 q2)
      have go : D_X12_search_40 xs xl (d + 4) v1 (nI i) N = if eok l n (qat (qbf n T l ah Q0 i) i).1 = true then iR (nI i) N else D_X12_search_75 xs xl (d + 4) v1 (nI i) (nI 0) N := by
        rw [D_X12_search_40_eq, h1.1, if_neg (nI_nge hi (by omega)), if_neg (show ¬ (2008 : Int32) ≤ nI _ from nI_nge (n := 2008) (by omega) (by omega))]
        simp only [nI_cl (show i < 2147483648 by omega), nI_o (show i < 2048 by omega) (by omega), if_false]
        rw [(h1.2.2 i hi).1, en, rb_bi, ibz]
        simp only [dp_w]; rfl
      by_cases y : eok l n (qat (qbf n T l ah Q0 i) i).1 = true
      · left
        refine ⟨_, ?_, nI i, N, i, rfl, ⟨h1, h2, h4, Or.inr ⟨rfl, hi, y⟩⟩, h3, h5⟩
        (try dsimp only)
        rw [go, if_pos y]
      · right
        obtain ⟨M', a1, a2, a3, a4, a5, a6⟩ := m_frm (xs := xs) (xl := xl) (d := d) (v1 := v1) hn hT4 h1 h3 h2 hi rfl
        have eb : qbf n T l ah Q0 (i + 1) = qsF (qat (qbf n T l ah Q0 i) i).1 n T l ah i 7 (qbf n T l ah Q0 i) := by rw [qbf, if_pos hi]
        rw [← eb] at a1 a3 a4
        refine ⟨(i + 1, M'), ⟨a1, a3, a2, fun j hj => ?_, h5.tr a5⟩, by (try dsimp only); omega, fun r hr => ?_⟩
        · (try dsimp only at hj)
          have hj' : j < (qbf n T l ah Q0 i).length := by omega
          refine ⟨(qbf_1 hj').1, ?_⟩
          rw [(qbf_1 hj').2]
          by_cases w : j = i
          · rw [w]; exact y
          · exact (h4 j (by omega)).2
        · (try dsimp only at hr); (try dsimp only)
          rw [go, if_neg y]; exact a6 r hr
end PmK
