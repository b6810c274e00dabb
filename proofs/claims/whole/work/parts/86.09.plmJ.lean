-- needs: 71 72 73 74 75 76 77 78 85
/-! PLAN: the model's queue -/
def hT (n T c : Nat) : Prop := ∀ i, i < n → pl c i < 12 → pl c i % 4 < T
theorem hgt_T {T c s : Nat} : ∀ n, hT n T c → hgt c n s ≤ T
  | 0, _ => Nat.zero_le _
  | n + 1, h => by
    rw [hgt]
    split
    · rename_i z; exact h n (by omega) z.1
    · exact hgt_T n (fun i hi => h i (by omega))
def QT (n T : Nat) (Q : List qE) : Prop := ∀ j, j < Q.length → hT n T (qat Q j).1
theorem QT.add {n T : Nat} {Q : List qE} {e : qE} (h : QT n T Q) (he : hT n T e.1) : QT n T (qadd Q e) := by
  unfold qadd
  split
  · exact h
  · intro j hj
    rw [List.length_append, show [e].length = 1 from rfl] at hj
    by_cases y : j < Q.length
    · rw [qat_l y]; exact h j y
    · rw [show j = Q.length by omega, qat_r]; exact he
theorem mvt_p {c n T : Nat} {l ah : Nat → Int32} {k f t p : Nat} (h : mvt c n T l ah k f t = some p) : p = 12 ∨ p = 13 ∨ (t < 3 ∧ ¬ t = f ∧ hgt c n t < T ∧ p = t * 4 + hgt c n t) := by
  unfold mvt at h
  by_cases z : t < 3
  · rw [if_pos z] at h
    by_cases y : t ≠ f ∧ hgt c n t < T
    · rw [if_pos y] at h
      exact Or.inr (Or.inr ⟨z, y.1, y.2, (Option.some.inj h).symm⟩)
    · rw [if_neg y] at h; cases h
  · rw [if_neg z] at h
    by_cases y : t = 3
    · rw [if_pos y] at h
      split at h
      · exact Or.inl (Option.some.inj h).symm
      · cases h
    · rw [if_neg y] at h
      split at h
      · exact Or.inr (Or.inl (Option.some.inj h).symm)
      · cases h
theorem hT_pu {n T c k p t : Nat} (hn : n ≤ 4) (hk : k < n) (hT4 : T ≤ 4) (h : hT n T c) (hp : p = 12 ∨ p = 13 ∨ (t < 3 ∧ hgt c n t < T ∧ p = t * 4 + hgt c n t)) : hT n T (pu c k p) := by
  have p16' : p < 16 := by rcases hp with e | e | ⟨h1, h2, h3⟩ <;> omega
  intro i hi
  rw [pl_pu (by omega) (by omega) p16']
  by_cases z : i = k
  · rw [if_pos z]
    intro q
    rcases hp with e | e | ⟨h1, h2, h3⟩ <;> omega
  · rw [if_neg z]; exact h i hi
def QG (n T : Nat) (Q : List qE) : Prop := (QV n Q ∧ QW Q) ∧ QT n T Q
theorem gi_g {n T : Nat} {l ah : Nat → Int32} (hn : n ≤ 4) (hT4 : T ≤ 4) : GI (QG n T) n T l ah := by
  have g := gi_q (l := l) (ah := ah) hn hT4
  refine ⟨fun Q q => g.1 Q q.1, fun Q i f t q hi hf ht => ⟨g.2 Q i f t q.1 hi hf ht, ?_⟩⟩
  cases ek : tkn (qat Q i).1 n f with
  | none => rw [qst_n ek]; exact q.2
  | some k =>
    cases ep : mvt (qat Q i).1 n T l ah k f t with
    | none => rw [qst_m ek ep]; exact q.2
    | some p =>
      rw [qst_s ek ep]
      refine q.2.add (hT_pu (t := t) hn (tkn_p ek).1 hT4 (q.2 i hi) ?_)
      rcases mvt_p ep with e | e | ⟨h1, -, h3, h4⟩
      · exact Or.inl e
      · exact Or.inr (Or.inl e)
      · exact Or.inr (Or.inr ⟨h1, h3, h4⟩)
/-- the model holds the queue -/
def MS (M : dp_M) (n : Nat) (Q : List qE) : Prop := dp_I M 114 19 = nI Q.length ∧ HI (dp_I M 129) (dp_J M 126) Q.length ∧
  ∀ j, j < Q.length → dp_J M 126 j = nJ (wN (qat Q j).1 n) ∧ dp_I M 127 j = (if j = 0 then -1 else nI (qat Q j).2.1) ∧ (0 < j → dp_I M 128 j = nI ((qat Q j).2.2 % 64))
def Mf (M M' : dp_M) : Prop := Off [126, 127, 128, 129] [19] M M' ∧ dp_n M' = dp_n M ∧ dp_z M' = dp_z M
theorem Mf.r (M : dp_M) : Mf M M := ⟨Off.rr _ _ _, rfl, rfl⟩
theorem Mf.tr {M M' M'' : dp_M} (h : Mf M M') (h' : Mf M' M'') : Mf M M'' := ⟨h.1.tr h'.1, h'.2.1.trans h.2.1, h'.2.2.trans h.2.2⟩
theorem MD.mf {M M' : dp_M} {n T : Nat} {l ah : Nat → Int32} (h : MD M n T l ah) (o : Mf M M') : MD M' n T l ah := by
  obtain ⟨h1, h2, h3, h4⟩ := h
  have r : ∀ k, k < 246 → k ∉ [126, 127, 128, 129] → k ≠ 114 → dp_I M' k = dp_I M k := fun k a b c => (o.1.1 k a b c).1
  refine ⟨by rw [(o.1.2.1 2 (by decide)).1]; exact h1, by rw [(o.1.2.1 23 (by decide)).1]; exact h2, fun k hk => ?_, fun k hk => ?_⟩
  · rw [r 130 (by decide) (by decide) (by decide), r 115 (by decide) (by decide) (by decide)]; exact h3 k hk
  · rw [r 131 (by decide) (by decide) (by decide)]; exact h4 k hk
section PmJ
variable {xs : Nat → Int32} {xl d : Nat} {M : dp_M}
theorem wN_lt {n c : Nat} (hn : n ≤ 4) (hc : c < 16 ^ n) (hv : vc n c = true) : wN c n < 9223372036854775808 := by
  have := (wk_t hn hc hv).1; omega
/-- a word comes: the queue gets it, unless it is there -/
theorem m_add {n i : Nat} {Q : List qE} {e : qE} (hn : n ≤ 4) (h : MS M n Q) (hq : QV n Q) (h1 : e.1 < 16 ^ n) (h2 : vc n e.1 = true) (h0 : 0 < Q.length) (hi : e.2.1 = i) :
    ∃ M', dp_den true xs xl (d + 1) 385 [.ref 114, .long (nJ (wN e.1 n)), .int (nI i), .int (nI (e.2.2 % 64))] M = vR M' ∧ MS M' n (qadd Q e) ∧ Mf M M' := by
  have hL := hq.len hn
  obtain ⟨m1, m2, m3⟩ := h
  obtain ⟨M', c1, c2⟩ := m_comes (xs := xs) (xl := xl) (d := d) (w := nJ (wN e.1 n)) (f := nI i) (b := nI (e.2.2 % 64)) m2 m1 (by omega)
  refine ⟨M', c1, ?_⟩
  have same : ∀ j, j < Q.length → (dp_J M 126 j = nJ (wN e.1 n) ↔ (qat Q j).1 = e.1) := fun j hj => by
    obtain ⟨q1, q2⟩ := hq.1 j hj
    rw [(m3 j hj).1, nJ_eq (wN_lt hn q1 q2) (wN_lt hn h1 h2)]
    exact ⟨fun q => wN_inj hn q1 q2 h1 h2 q, fun q => by rw [q]⟩
  rcases c2 with ⟨j, j1, j2, rfl⟩ | ⟨a1, a2, a3, a4, a5, a6, a7, a8, a9⟩
  · unfold qadd
    rw [if_pos (qhas_t.mpr ⟨j, j1, (same j j1).mp j2⟩)]
    exact ⟨⟨m1, m2, m3⟩, Mf.r _⟩
  · unfold qadd
    rw [if_neg (fun q => by obtain ⟨j, j1, j2⟩ := qhas_t.mp q; exact a1 j j1 ((same j j1).mpr j2))]
    have el : (Q ++ [e]).length = Q.length + 1 := by rw [List.length_append]; rfl
    refine ⟨⟨by rw [el]; exact a2, by rw [el]; exact a3, fun j hj => ?_⟩, a7, a8, a9⟩
    rw [el] at hj
    rw [a4, a5, a6]
    by_cases y : j = Q.length
    · subst y
      rw [uI_s, uI_s, uI_s, qat_r, if_neg (by omega), hi]
      exact ⟨rfl, rfl, fun _ => rfl⟩
    · rw [uI_n y, uI_n y, uI_n y, qat_l (by omega)]; exact m3 j (by omega)
/-- from one place to all others -/
theorem m_to {n T c i f : Nat} {v1 : Int32} {l ah : Nat → Int32} {Q : List qE} (hn : n ≤ 4) (hT4 : T ≤ 4) (h : MS M n Q) (x : MD M n T l ah) (hq : QG n T Q) (hi : i < Q.length) (ec : (qat Q i).1 = c) (hf : f < 7) :
    ∃ M', MS M' n (qsT c n T l ah i f 5 Q) ∧ MD M' n T l ah ∧ QG n T (qsT c n T l ah i f 5 Q) ∧ i < (qsT c n T l ah i f 5 Q).length ∧ (qat (qsT c n T l ah i f 5 Q) i).1 = c ∧ Mf M M' ∧
      ∀ r, D_X12_search_75 xs xl (d + 4) v1 (nI i) (nI (f + 1)) M' = some r → D_X12_search_84 xs xl (d + 4) v1 (nI i) (nI f) (nI 0) M = some r := by
  have G := gi_g (l := l) (ah := ah) hn hT4
  have qi := G.qi c i
  have key := lpt (F := fun t N => D_X12_search_84 xs xl (d + 4) v1 (nI i) (nI f) (nI t) N) (a := 0) (N := 5)
    (Inv := fun t N => MS N n (qsT c n T l ah i f t Q) ∧ MD N n T l ah ∧ (QG n T (qsT c n T l ah i f t Q) ∧ i < (qsT c n T l ah i f t Q).length ∧ (qat (qsT c n T l ah i f t Q) i).1 = c) ∧ Mf M N) (Nat.zero_le _) ?_ M ⟨h, x, ⟨hq, hi, ec⟩, Mf.r _⟩
  · obtain ⟨M', ⟨k1, k2, k3, k4⟩, k5⟩ := key
    refine ⟨M', k1, k2, k3.1, k3.2.1, k3.2.2, k4, fun r hr => k5 r ?_⟩
    (try dsimp only)
    rw [D_X12_search_84_eq, if_pos (show (5 : Int32) ≤ nI 5 by decide)]
    simp only [dp_w, nI_1]
    exact D_X12_search_75_to_75_a _ _ _ _ hr
  · rintro t N - ht ⟨h1, h2, ⟨h3, h4, h5⟩, h6⟩
    obtain ⟨Q', eQ⟩ : ∃ Q', Q' = qsT c n T l ah i f t Q := ⟨_, rfl⟩
    rw [← eQ] at h1 h3 h4 h5
    have hL := (G.1 Q' h3).1
    obtain ⟨v1', v2'⟩ := h3.1.1.1 i h4
    rw [h5] at v1' v2'
    have hh : ∀ s, s < 3 → hgt c n s ≤ T := fun s _ => hgt_T n (by rw [← h5]; exact h3.2 i h4)
    have ew := (h1.2.2 i h4).1
    rw [h5] at ew
    have mv := m_mvd (xs := xs) (xl := xl) (d := d) (t := t) hn hT4 h2 v1' v2' hf ht hh
    have nx := qi.2 Q' f t ⟨h3, h4, h5⟩ hf ht
    have eqs : qsT c n T l ah i f (t + 1) Q = qst c n T l ah i f t Q' := by rw [qsT, eQ]
    rw [eqs]
    have no : mvW n T c l ah f t = -1 → qst c n T l ah i f t Q' = Q' → ∃ s', (MS s' n (qst c n T l ah i f t Q') ∧ MD s' n T l ah ∧ (QG n T (qst c n T l ah i f t Q') ∧ i < (qst c n T l ah i f t Q').length ∧ (qat (qst c n T l ah i f t Q') i).1 = c) ∧ Mf M s') ∧ ∀ r, D_X12_search_84 xs xl (d + 4) v1 (nI i) (nI f) (nI (t + 1)) s' = some r → D_X12_search_84 xs xl (d + 4) v1 (nI i) (nI f) (nI t) N = some r := fun e1 e2 => by
      refine ⟨N, ⟨by rw [e2]; exact h1, h2, nx, h6⟩, fun r hr => ?_⟩
      rw [D_X12_search_84_eq, if_neg (show ¬ (5 : Int32) ≤ nI t from nI_nge (n := 5) ht (by omega))]
      simp only [nI_cl (show i < 2147483648 by omega), nI_o (show i < 2048 by omega) (by omega), if_false]
      rw [ew, mv, rb_bl, e1, if_pos ((lg_cmp_eq _ _).mpr rfl)]
      simp only [dp_w, nI_1]
      exact D_X12_search_84_to_84_a _ _ _ _ _ hr
    cases ek : tkn c n f with
    | none => exact no (mvW_n ek) (qst_n ek)
    | some k =>
      cases ep : mvt c n T l ah k f t with
      | none => exact no (mvW_m ek ep) (qst_m ek ep)
      | some p =>
        have es := qst_s (l := l) (ah := ah) (i := i) (Q := Q') ek ep
        obtain ⟨k1, k2, k3⟩ := tkn_p ek
        have hp : p = 12 ∨ p = 13 ∨ ∃ t, t < 3 ∧ ¬ pl c k / 4 = t ∧ hgt c n t < 4 ∧ p = t * 4 + hgt c n t := by
          rcases mvt_p ep with e | e | ⟨y1, y2, y3, y4⟩
          · exact Or.inl e
          · exact Or.inr (Or.inl e)
          · refine Or.inr (Or.inr ⟨t, y1, fun q => ?_, by omega, y4⟩)
            by_cases z : f < 3
            · exact y2 (by rw [← q]; exact k2 z)
            · rw [k3 (by omega)] at q; omega
        have p16' : p < 16 := by rcases hp with e | e | ⟨t', y1, y2, y3, y4⟩ <;> omega
        have u1 := pu_ltn hn v1' k1 p16'
        have u2 := vk1_p (vk_x hn v1' v2' hf ek) hp
        obtain ⟨M', a1, a2, a3⟩ := m_add (xs := xs) (xl := xl) (d := d + 3) (e := (pu c k p, i, k * 64 + f * 8 + t)) hn h1 h3.1.1 u1 u2 (by omega) rfl
        (try dsimp only at a1)
        rw [show (k * 64 + f * 8 + t) % 64 = 8 * f + t by omega] at a1
        rw [← es] at a2
        refine ⟨M', ⟨a2, h2.mf a3, nx, h6.tr a3⟩, fun r hr => ?_⟩
        (try dsimp only at hr); (try dsimp only)
        rw [D_X12_search_84_eq, if_neg (show ¬ (5 : Int32) ≤ nI t from nI_nge (n := 5) ht (by omega))]
        simp only [nI_cl (show i < 2147483648 by omega), nI_o (show i < 2048 by omega) (by omega), if_false]
        rw [ew, mv, rb_bl, mvW_s ek ep, if_neg (fun q => nJ_n1 (wN_lt hn u1 u2) ((lg_cmp_eq _ _).mp q)), show (8 : Int32) = nI 8 from rfl, pk_mul, nI_add, a1, rb_bv]
        simp only [dp_w, nI_1]
        exact D_X12_search_84_to_84_a _ _ _ _ _ hr
theorem m_frm {n T c i : Nat} {v1 : Int32} {l ah : Nat → Int32} {Q : List qE} (hn : n ≤ 4) (hT4 : T ≤ 4) (h : MS M n Q) (x : MD M n T l ah) (hq : QG n T Q) (hi : i < Q.length) (ec : (qat Q i).1 = c) :
    ∃ M', MS M' n (qsF c n T l ah i 7 Q) ∧ MD M' n T l ah ∧ QG n T (qsF c n T l ah i 7 Q) ∧ i < (qsF c n T l ah i 7 Q).length ∧ Mf M M' ∧
      ∀ r, D_X12_search_40 xs xl (d + 4) v1 (nI (i + 1)) M' = some r → D_X12_search_75 xs xl (d + 4) v1 (nI i) (nI 0) M = some r := by
  have key := lpt (F := fun f N => D_X12_search_75 xs xl (d + 4) v1 (nI i) (nI f) N) (a := 0) (N := 7)
    (Inv := fun f N => MS N n (qsF c n T l ah i f Q) ∧ MD N n T l ah ∧ QG n T (qsF c n T l ah i f Q) ∧ i < (qsF c n T l ah i f Q).length ∧ (qat (qsF c n T l ah i f Q) i).1 = c ∧ Mf M N) (Nat.zero_le _) ?_ M ⟨h, x, hq, hi, ec, Mf.r _⟩
  · obtain ⟨M', ⟨k1, k2, k3, k4, k5, k6⟩, k7⟩ := key
    refine ⟨M', k1, k2, k3, k4, k6, fun r hr => k7 r ?_⟩
    (try dsimp only)
    rw [D_X12_search_75_eq, if_pos (show (7 : Int32) ≤ nI 7 by decide)]
    simp only [dp_w, nI_1]
    exact D_X12_search_40_to_40_a _ _ _ hr
  · rintro f N - hf ⟨h1, h2, h3, h4, h5, h6⟩
    obtain ⟨M', a1, a2, a3, a4, a5, a6, a7⟩ := m_to (xs := xs) (xl := xl) (d := d) (v1 := v1) hn hT4 h1 h2 h3 h4 h5 hf
    refine ⟨M', ⟨a1, a2, a3, a4, a5, h6.tr a6⟩, fun r hr => ?_⟩
    (try dsimp only at hr); (try dsimp only)
    rw [D_X12_search_75_eq, if_neg (show ¬ (7 : Int32) ≤ nI f from nI_nge (n := 7) hf (by omega))]
    simp only [dp_w]
    exact a7 r hr
end PmJ
