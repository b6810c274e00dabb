-- needs: 71 72 73 74 75 76 77 78 85
/-! PLAN: depths in the queue -/
def St1 (n T : Nat) (l ah : Nat → Int32) (c c' : Nat) : Prop := ∃ f t k p, f < 7 ∧ t < 5 ∧ tkn c n f = some k ∧ mvt c n T l ah k f t = some p ∧ c' = pu c k p
def Rcm (n T : Nat) (l ah : Nat → Int32) : Nat → Nat → Nat → Prop
  | 0, c, c' => c = c'
  | m + 1, c, c' => ∃ c1, Rcm n T l ah m c c1 ∧ St1 n T l ah c1 c'
theorem Rcm.tr {n T : Nat} {l ah : Nat → Int32} {a c c1 : Nat} (h : Rcm n T l ah a c c1) : ∀ b c2, Rcm n T l ah b c1 c2 → Rcm n T l ah (a + b) c c2
  | 0, c2, h' => by cases h'; exact h
  | b + 1, c2, h' => by
    obtain ⟨x, h1, h2⟩ := h'
    exact ⟨x, Rcm.tr h b x h1, h2⟩
/-- j is d moves from the first -/
def DP (Q : List qE) (j d : Nat) : Prop := anc Q j d = 0 ∧ ∀ m, m < d → 0 < anc Q j m
theorem DP.zero {Q : List qE} {d : Nat} (h : DP Q 0 d) : d = 0 := Nat.eq_zero_of_not_pos (fun z => Nat.lt_irrefl 0 (h.2 0 z))
theorem DP.pos {Q : List qE} {j d : Nat} (h : DP Q j d) (hj : 0 < j) : ∃ e, d = e + 1 ∧ DP Q (qat Q j).2.1 e := by
  cases d with
  | zero => have : j = 0 := h.1; omega
  | succ e => exact ⟨e, rfl, by rw [anc_s]; exact h.1, fun m hm => by rw [anc_s]; exact h.2 (m + 1) (by omega)⟩
theorem DP.succ {Q : List qE} {j e : Nat} (hj : 0 < j) (h : DP Q (qat Q j).2.1 e) : DP Q j (e + 1) := by
  refine ⟨by rw [← anc_s]; exact h.1, fun m hm => ?_⟩
  cases m with
  | zero => exact hj
  | succ m => rw [← anc_s]; exact h.2 m (by omega)
/-- parents do not fall -/
def QP (Q : List qE) (i : Nat) : Prop := (∀ j, 0 < j → j < Q.length → (qat Q j).2.1 < i) ∧ ∀ j j', 0 < j → j ≤ j' → j' < Q.length → (qat Q j).2.1 ≤ (qat Q j').2.1
theorem DP.mono {Q : List qE} {i : Nat} (w : QW Q) (q : QP Q i) : ∀ d' j j' d, j ≤ j' → j' < Q.length → DP Q j d → DP Q j' d' → d ≤ d'
  | 0, j, j', d, h, hl, h1, h2 => by
    have e : j' = 0 := h2.1
    rw [show j = 0 by omega] at h1
    rw [h1.zero]; exact Nat.le_refl _
  | d' + 1, j, j', d, h, hl, h1, h2 => by
    by_cases z : j = 0
    · rw [z] at h1; rw [h1.zero]; exact Nat.zero_le _
    · obtain ⟨e, rfl, h3⟩ := h1.pos (by omega)
      obtain ⟨e', e1, h4⟩ := h2.pos (by omega)
      have e2 : e' = d' := by omega
      subst e2
      have := DP.mono w q e' _ _ e (q.2 j j' (by omega) h hl) (Nat.lt_trans (w j' (by omega) hl) hl) h3 h4
      omega
theorem QP.add {Q : List qE} {e : qE} {i : Nat} (h : QP Q (i + 1)) (he : e.2.1 = i) : QP (qadd Q e) (i + 1) := by
  unfold qadd
  split
  · exact h
  · have el : (Q ++ [e]).length = Q.length + 1 := by rw [List.length_append]; rfl
    refine ⟨fun j h0 hj => ?_, fun j j' h0 h1 hj => ?_⟩
    · rw [el] at hj
      by_cases y : j < Q.length
      · rw [qat_l y]; exact h.1 j h0 y
      · rw [show j = Q.length by omega, qat_r, he]; omega
    · rw [el] at hj
      by_cases y : j' < Q.length
      · rw [qat_l y, qat_l (by omega)]; exact h.2 j j' h0 h1 y
      · rw [show j' = Q.length by omega, qat_r, he]
        by_cases z : j < Q.length
        · rw [qat_l z]; have := h.1 j h0 z; omega
        · rw [show j = Q.length by omega, qat_r, he]; exact Nat.le_refl _
/-- every state comes by a move from the one before it -/
def Stm (n T : Nat) (l ah : Nat → Int32) (c c' v : Nat) : Prop := ∃ f t k p, f < 7 ∧ t < 5 ∧ tkn c n f = some k ∧ mvt c n T l ah k f t = some p ∧ c' = pu c k p ∧ v = k * 64 + f * 8 + t
theorem Stm.s1 {n T : Nat} {l ah : Nat → Int32} {c c' v : Nat} (h : Stm n T l ah c c' v) : St1 n T l ah c c' := by
  obtain ⟨f, t, k, p, h1, h2, h3, h4, h5, -⟩ := h
  exact ⟨f, t, k, p, h1, h2, h3, h4, h5⟩
def QSm (n T : Nat) (l ah : Nat → Int32) (Q : List qE) : Prop := ∀ j, 0 < j → j < Q.length → Stm n T l ah (qat Q (qat Q j).2.1).1 (qat Q j).1 (qat Q j).2.2
theorem QSm.add {n T : Nat} {l ah : Nat → Int32} {Q : List qE} {e : qE} (w : QW Q) (h : QSm n T l ah Q) (hi : e.2.1 < Q.length) (he : Stm n T l ah (qat Q e.2.1).1 e.1 e.2.2) : QSm n T l ah (qadd Q e) := by
  unfold qadd
  split
  · exact h
  · intro j h0 hj
    rw [List.length_append, show [e].length = 1 from rfl] at hj
    by_cases y : j < Q.length
    · rw [qat_l y, qat_l (Nat.lt_trans (w j h0 y) y)]; exact h j h0 y
    · rw [show j = Q.length by omega, qat_r, qat_l hi]; exact he
theorem qadd_h {Q : List qE} {e : qE} : qhas (qadd Q e) e.1 = true := by
  unfold qadd
  split
  · rename_i z; exact z
  · exact qhas_a.mpr (Or.inr rfl)
/-- what holds of a queue that is gone on from i -/
def QZ (n T : Nat) (l ah : Nat → Int32) (i : Nat) (Q : List qE) : Prop := QW Q ∧ QP Q (i + 1) ∧ QSm n T l ah Q ∧ i < Q.length
theorem QZ.st {n T i f t : Nat} {l ah : Nat → Int32} {Q : List qE} (h : QZ n T l ah i Q) (hf : f < 7) (ht : t < 5) : QZ n T l ah i (qst (qat Q i).1 n T l ah i f t Q) := by
  obtain ⟨h1, h2, h3, h4⟩ := h
  cases ek : tkn (qat Q i).1 n f with
  | none => rw [qst_n ek]; exact ⟨h1, h2, h3, h4⟩
  | some k =>
    cases ep : mvt (qat Q i).1 n T l ah k f t with
    | none => rw [qst_m ek ep]; exact ⟨h1, h2, h3, h4⟩
    | some p =>
      rw [qst_s ek ep]
      exact ⟨h1.add h4, h2.add rfl, h3.add h1 h4 ⟨f, t, k, p, hf, ht, ek, ep, rfl, rfl⟩, (qadd_k h4).1⟩
theorem qst_h {c n T i f t k p : Nat} {l ah : Nat → Int32} {Q : List qE} (ek : tkn c n f = some k) (ep : mvt c n T l ah k f t = some p) : qhas (qst c n T l ah i f t Q) (pu c k p) = true := by
  rw [qst_s ek ep]; exact qadd_h (e := (pu c k p, i, k * 64 + f * 8 + t))
theorem qhas_m {Q Q' : List qE} {c : Nat} (h : ∀ j, j < Q.length → j < Q'.length ∧ qat Q' j = qat Q j) (q : qhas Q c = true) : qhas Q' c = true := by
  obtain ⟨j, h1, h2⟩ := qhas_t.mp q
  exact qhas_t.mpr ⟨j, (h j h1).1, by rw [(h j h1).2]; exact h2⟩
theorem QZ.sT {n T i f c : Nat} {l ah : Nat → Int32} {Q : List qE} (h : QZ n T l ah i Q) (ec : (qat Q i).1 = c) (hf : f < 7) : ∀ t, t ≤ 5 → QZ n T l ah i (qsT c n T l ah i f t Q) ∧ (qat (qsT c n T l ah i f t Q) i).1 = c ∧ ∀ t' k p, t' < t → tkn c n f = some k → mvt c n T l ah k f t' = some p → qhas (qsT c n T l ah i f t Q) (pu c k p) = true
  | 0, _ => ⟨h, ec, fun t' k p ht => by omega⟩
  | t + 1, ht => by
    obtain ⟨a1, a2, a3⟩ := QZ.sT h ec hf t (by omega)
    have st := a1.st hf (show t < 5 by omega)
    rw [a2] at st
    rw [qsT]
    refine ⟨st, ?_, fun t' k p ht' ek ep => ?_⟩
    · rw [(qst_k a1.2.2.2).2]; exact a2
    · by_cases z : t' = t
      · subst z; exact qst_h ek ep
      · exact qhas_m (fun j hj => qst_k hj) (a3 t' k p (by omega) ek ep)
theorem QZ.sF {n T i c : Nat} {l ah : Nat → Int32} {Q : List qE} (h : QZ n T l ah i Q) (ec : (qat Q i).1 = c) : ∀ f, f ≤ 7 → QZ n T l ah i (qsF c n T l ah i f Q) ∧ (qat (qsF c n T l ah i f Q) i).1 = c ∧ ∀ f' t' k p, f' < f → t' < 5 → tkn c n f' = some k → mvt c n T l ah k f' t' = some p → qhas (qsF c n T l ah i f Q) (pu c k p) = true
  | 0, _ => ⟨h, ec, fun f' t' k p hf => by omega⟩
  | f + 1, hf => by
    obtain ⟨a1, a2, a3⟩ := QZ.sF h ec f (by omega)
    obtain ⟨b1, b2, b3⟩ := a1.sT a2 (show f < 7 by omega) 5 (Nat.le_refl _)
    rw [qsF]
    refine ⟨b1, b2, fun f' t' k p hf' ht' ek ep => ?_⟩
    by_cases z : f' = f
    · subst z; exact b3 t' k p ht' ek ep
    · exact qhas_m (fun j hj => qsT_k hj 5) (a3 f' t' k p (by omega) ht' ek ep)
theorem QP.up {Q : List qE} {i i' : Nat} (h : QP Q i) (hi : i ≤ i') : QP Q i' := ⟨fun j h0 hj => Nat.lt_of_lt_of_le (h.1 j h0 hj) hi, h.2⟩
/-- the queue after i states: parents before i, a move each; and who is gone on from has all that follows in the queue -/
theorem qbf_z {n T c0 : Nat} {l ah : Nat → Int32} : ∀ i, (QW (qbf n T l ah [(c0, 0, 0)] i) ∧ QP (qbf n T l ah [(c0, 0, 0)] i) i ∧ QSm n T l ah (qbf n T l ah [(c0, 0, 0)] i)) ∧
    (i < (qbf n T l ah [(c0, 0, 0)] i).length → ∀ c', St1 n T l ah (qat (qbf n T l ah [(c0, 0, 0)] i) i).1 c' → qhas (qbf n T l ah [(c0, 0, 0)] (i + 1)) c' = true)
  | 0 => by
    have h1 : ([(c0, 0, 0)] : List qE).length = 1 := rfl
    have b : QW (qbf n T l ah [(c0, 0, 0)] 0) ∧ QP (qbf n T l ah [(c0, 0, 0)] 0) 0 ∧ QSm n T l ah (qbf n T l ah [(c0, 0, 0)] 0) := by
      rw [qbf]
      exact ⟨fun j h0 hj => by omega, ⟨fun j h0 hj => by omega, fun j j' h0 hh hj => by omega⟩, fun j h0 hj => by omega⟩
    refine ⟨b, fun hl c' hs => ?_⟩
    obtain ⟨-, -, z⟩ := QZ.sF (n := n) (T := T) (l := l) (ah := ah) (i := 0) ⟨b.1, b.2.1.up (by omega), b.2.2, hl⟩ rfl 7 (Nat.le_refl _)
    obtain ⟨f, t, k, p, hf, ht, ek, ep, rfl⟩ := hs
    have eb : qbf n T l ah [(c0, 0, 0)] (0 + 1) = qsF (qat (qbf n T l ah [(c0, 0, 0)] 0) 0).1 n T l ah 0 7 (qbf n T l ah [(c0, 0, 0)] 0) := if_pos hl
    rw [eb]
    exact z f t k p hf ht ek ep
  | i + 1 => by
    obtain ⟨⟨a1, a2, a3⟩, -⟩ := qbf_z (n := n) (T := T) (c0 := c0) (l := l) (ah := ah) i
    have b : QW (qbf n T l ah [(c0, 0, 0)] (i + 1)) ∧ QP (qbf n T l ah [(c0, 0, 0)] (i + 1)) (i + 1) ∧ QSm n T l ah (qbf n T l ah [(c0, 0, 0)] (i + 1)) := by
      rw [qbf]
      split
      · rename_i hl
        obtain ⟨z, -⟩ := QZ.sF (n := n) (T := T) (l := l) (ah := ah) (i := i) ⟨a1, a2.up (by omega), a3, hl⟩ rfl 7 (Nat.le_refl _)
        exact ⟨z.1, z.2.1, z.2.2.1⟩
      · exact ⟨a1, a2.up (by omega), a3⟩
    refine ⟨b, fun hl c' hs => ?_⟩
    obtain ⟨-, -, z⟩ := QZ.sF (n := n) (T := T) (l := l) (ah := ah) (i := i + 1) ⟨b.1, b.2.1.up (by omega), b.2.2, hl⟩ rfl 7 (Nat.le_refl _)
    obtain ⟨f, t, k, p, hf, ht, ek, ep, rfl⟩ := hs
    rw [qbf, if_pos hl]
    exact z f t k p hf ht ek ep
/-- a way to every state of the queue -/
theorem qs_rch {n T : Nat} {l ah : Nat → Int32} {Q : List qE} (w : QW Q) (s : QSm n T l ah Q) : ∀ d j, j < Q.length → DP Q j d → Rcm n T l ah d (qat Q 0).1 (qat Q j).1
  | 0, j, hj, h => by rw [show j = 0 from h.1]; rfl
  | d + 1, j, hj, h => by
    by_cases z : j = 0
    · rw [z] at h; have := h.zero; omega
    · obtain ⟨e, e1, h2⟩ := h.pos (by omega)
      rw [show e = d by omega] at h2
      exact ⟨_, qs_rch w s d _ (Nat.lt_trans (w j (by omega) hj) hj) h2, (s j (by omega) hj).s1⟩
/-- what lies near lies in the queue, no deeper -/
theorem qbf_near {n T c0 i g L : Nat} {l ah : Nat → Int32} (hg : g < (qbf n T l ah [(c0, 0, 0)] i).length) (hd : DP (qbf n T l ah [(c0, 0, 0)] i) g L) : ∀ m c', m < L → Rcm n T l ah m c0 c' → ∃ x e, x < (qbf n T l ah [(c0, 0, 0)] i).length ∧ (qat (qbf n T l ah [(c0, 0, 0)] i) x).1 = c' ∧ DP (qbf n T l ah [(c0, 0, 0)] i) x e ∧ e ≤ m
  | 0, c', hm, h => by
    have k := qbf_k (n := n) (T := T) (l := l) (ah := ah) (Q0 := [(c0, 0, 0)]) (i := 0) (j := 0) (show 0 < 1 by decide) i
    rw [Nat.zero_add] at k
    refine ⟨0, 0, k.1, ?_, ⟨rfl, fun m hm => by omega⟩, Nat.le_refl _⟩
    rw [k.2]; exact h
  | m + 1, c', hm, h => by
    obtain ⟨c1, h1, h2⟩ := h
    obtain ⟨x, e, x1, x2, x3, x4⟩ := qbf_near hg hd m c1 (by omega) h1
    obtain ⟨⟨w, q, s⟩, -⟩ := qbf_z (n := n) (T := T) (c0 := c0) (l := l) (ah := ah) i
    have g0 : 0 < g := Nat.pos_of_ne_zero (fun z => by rw [z] at hd; have := hd.zero; omega)
    obtain ⟨L', e1, hd'⟩ := hd.pos g0
    have hq := q.1 g g0 hg
    have hw := w g g0 hg
    have hx : x < (qat (qbf n T l ah [(c0, 0, 0)] i) g).2.1 := Nat.lt_of_not_le (fun z => by
      have := DP.mono w q e _ x L' z x1 hd' x3
      omega)
    have hxi : x < i := by omega
    have xl : x < (qbf n T l ah [(c0, 0, 0)] x).length := Nat.lt_of_not_le (fun z => by
      have := qbf_end (n := n) (T := T) (l := l) (ah := ah) (Q0 := [(c0, 0, 0)]) z (i - x)
      rw [show x + (i - x) = i by omega] at this
      rw [this] at x1; omega)
    have kx := qbf_k (n := n) (T := T) (l := l) (ah := ah) (Q0 := [(c0, 0, 0)]) xl (i - x)
    rw [show x + (i - x) = i by omega] at kx
    have hh := (qbf_z (n := n) (T := T) (c0 := c0) (l := l) (ah := ah) x).2 xl c' (by rw [← kx.2, x2]; exact h2)
    obtain ⟨y, y1, y2⟩ := qhas_t.mp hh
    have ky := qbf_k (n := n) (T := T) (l := l) (ah := ah) (Q0 := [(c0, 0, 0)]) y1 (i - (x + 1))
    rw [show x + 1 + (i - (x + 1)) = i by omega] at ky
    obtain ⟨ey, dy, dy2, -⟩ := anc_ex w y ky.1
    have dy' : DP (qbf n T l ah [(c0, 0, 0)] i) y ey := ⟨dy, dy2⟩
    refine ⟨y, ey, ky.1, by rw [ky.2]; exact y2, dy', ?_⟩
    by_cases z : y = 0
    · rw [z] at dy'; rw [dy'.zero]; exact Nat.zero_le _
    · obtain ⟨e2, rfl, d3⟩ := dy'.pos (by omega)
      have pq := (qbf_z (n := n) (T := T) (c0 := c0) (l := l) (ah := ah) (x + 1)).1.2.1.1 y (by omega) y1
      rw [← ky.2] at pq
      have := DP.mono w q e _ x e2 (by omega) x1 d3 x3
      omega
