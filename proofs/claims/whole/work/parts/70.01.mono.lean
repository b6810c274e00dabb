/-! MATHEMATICS (1): what is found with fewer locals known is found with more -/
def dp_le (L L' : dp_L) : Prop := L.length = L'.length ∧ ∀ (i : Nat) (v : Value), L[i]? = some (some v) → L'[i]? = some (some v)
theorem dp_cut_put {L L' : dp_L} {i j : Nat} {v : Value} (h : L'[j]? = some (some v)) (h2 : j + 1 = i → dp_isL L[j]? = false) : (dp_cut L i L')[j]? = some (some v) := by
  unfold dp_cut
  split
  · exact h
  · rename_i k
    split
    · rename_i hL
      by_cases e : j = k
      · subst e; rw [h2 rfl] at hL; cases hL
      · rw [List.getElem?_set_ne (by omega)]; exact h
    · exact h
theorem dp_le_get {L L' : dp_L} (hL : dp_le L L') {k : Nat} {v : Value} (h : dp_get L k = some v) : dp_get L' k = some v := by
  unfold dp_get at h
  split at h
  · rename_i e
    cases h
    unfold dp_get
    rw [hL.2 _ _ e]
  · cases h
theorem dp_le_set {L L' : dp_L} (hL : dp_le L L') (i : Nat) (v : Option Value) : dp_le (L.set i v) (L'.set i v) := by
  refine ⟨by rw [List.length_set, List.length_set]; exact hL.1, fun j w h => ?_⟩
  by_cases e : i = j
  · subst e
    by_cases hi : i < L.length
    · rw [List.getElem?_set_self hi] at h
      rw [List.getElem?_set_self (by rw [← hL.1]; exact hi)]; exact h
    · rw [List.getElem?_eq_none (by rw [List.length_set]; omega)] at h; cases h
  · rw [List.getElem?_set_ne e] at h ⊢
    exact hL.2 _ _ h
theorem dp_le_cut {L L' A A' : dp_L} (hL : dp_le L L') (hA : dp_le A A') {i : Nat} (hg : ∀ j, j + 1 = i → A[j]? = L[j]?) : dp_le (dp_cut L i A) (dp_cut L' i A') := by
  refine ⟨by rw [dp_cut_len, dp_cut_len]; exact hA.1, fun j v h => ?_⟩
  obtain ⟨h1, h2⟩ := dp_cut_get h
  refine dp_cut_put (hA.2 _ _ h1) (fun e => ?_)
  have h3 := h2 e
  rw [hg j e] at h1
  rw [h1] at h3
  rw [hL.2 _ _ h1]; exact h3
theorem dp_le_st1 {L L' : dp_L} (hL : dp_le L L') (i : Nat) (v : Value) : dp_le (dp_st1 L i v) (dp_st1 L' i v) :=
  dp_le_cut hL (dp_le_set hL i _) (fun j e => List.getElem?_set_ne (by omega))
theorem dp_le_st2 {L L' : dp_L} (hL : dp_le L L') (i : Nat) (v : Value) : dp_le (dp_st2 L i v) (dp_st2 L' i v) :=
  dp_le_cut hL (dp_le_set (dp_le_set hL i _) (i + 1) _) (fun j e => by rw [List.getElem?_set_ne (by omega), List.getElem?_set_ne (by omega)])
theorem dp_le_un {L L' : dp_L} (hL : dp_le L L') (i : Nat) : dp_le (dp_un L i) (dp_un L' i) :=
  dp_le_cut hL (dp_le_set hL i _) (fun j e => List.getElem?_set_ne (by omega))
theorem dp_le_ld {L L' : dp_L} (hL : dp_le L L') {i : Instr} {v : Value} (h : dp_ld i L = some v) : dp_ld i L' = some v := by
  have k1 : ∀ {k : Nat}, dp_ldi L k = some v → dp_ldi L' k = some v := by
    intro k h
    unfold dp_ldi at h
    split at h
    · rename_i e; unfold dp_ldi; rw [dp_le_get hL e]; exact h
    · cases h
  have k2 : ∀ {k : Nat}, dp_ldl L k = some v → dp_ldl L' k = some v := by
    intro k h
    unfold dp_ldl at h
    split at h
    · rename_i e; unfold dp_ldl; rw [dp_le_get hL e]; exact h
    · cases h
  have k3 : ∀ {k : Nat}, dp_lda L k = some v → dp_lda L' k = some v := by
    intro k h
    unfold dp_lda at h
    split at h
    · rename_i e; unfold dp_lda; rw [dp_le_get hL e]; exact h
    · rename_i e; unfold dp_lda; rw [dp_le_get hL e]; exact h
    · rename_i e; unfold dp_lda; rw [dp_le_get hL e]; exact h
    · cases h
  unfold dp_ld at h ⊢
  split at h
  · exact k1 h
  · exact k1 h
  · exact k2 h
  · exact k2 h
  · exact k3 h
  · exact k3 h
  · cases h
theorem dp_le_sto {L L' : dp_L} (hL : dp_le L L') {i : Instr} {st : List Value} {q : dp_L × List Value} (h : dp_sto i L st = some q) : ∃ L1, dp_sto i L' st = some (L1, q.2) ∧ dp_le q.1 L1 := by
  have k1 : ∀ {k : Nat}, dp_sti L k st = some q → ∃ L1, dp_sti L' k st = some (L1, q.2) ∧ dp_le q.1 L1 := by
    intro k h
    unfold dp_sti at h
    split at h
    · split at h
      · rename_i hk
        cases h
        exact ⟨_, by unfold dp_sti; exact if_pos (show k < L'.length from hL.1 ▸ hk), dp_le_st1 hL _ _⟩
      · cases h
    · cases h
  have k2 : ∀ {k : Nat}, dp_stl L k st = some q → ∃ L1, dp_stl L' k st = some (L1, q.2) ∧ dp_le q.1 L1 := by
    intro k h
    unfold dp_stl at h
    split at h
    · split at h
      · rename_i hk
        cases h
        exact ⟨_, by unfold dp_stl; exact if_pos (show k + 1 < L'.length from hL.1 ▸ hk), dp_le_st2 hL _ _⟩
      · cases h
    · cases h
  have k3 : ∀ {k : Nat}, dp_sta L k st = some q → ∃ L1, dp_sta L' k st = some (L1, q.2) ∧ dp_le q.1 L1 := by
    intro k h
    unfold dp_sta at h
    split at h
    all_goals first | (cases h; done) | skip
    all_goals
      split at h
      · rename_i hk
        cases h
        exact ⟨_, by unfold dp_sta; exact if_pos (show k < L'.length from hL.1 ▸ hk), dp_le_st1 hL _ _⟩
      · cases h
  have k4 : ∀ {k : Nat} {n : Int}, dp_inc L k n st = some q → ∃ L1, dp_inc L' k n st = some (L1, q.2) ∧ dp_le q.1 L1 := by
    intro k n h
    unfold dp_inc at h
    split at h
    · rename_i e
      split at h
      · rename_i hk
        cases h
        exact ⟨_, by unfold dp_inc; rw [dp_le_get hL e]; dsimp only; rw [if_pos (show k < L'.length from hL.1 ▸ hk)], dp_le_st1 hL _ _⟩
      · cases h
    · cases h
  unfold dp_sto at h ⊢
  split at h
  · exact k1 h
  · exact k1 h
  · exact k2 h
  · exact k2 h
  · exact k3 h
  · exact k3 h
  · exact k4 h
  · cases h
section DPmono
variable {md : Bool} {xs : Nat → Int32} {xl : Nat} {F : dp_Phi} {mi : dp_Mi} {L L' : dp_L} {k k' : dp_Cfg → Option dp_Res} {r : dp_Res}
theorem dp_le_back (hL : dp_le L L') (hk : ∀ pc L1 L1' st M, dp_le L1 L1' → k (pc, L1, st, M) = some r → k' (pc, L1', st, M) = some r) {pc : Nat} {rest : List Value} {x : Option dp_Res} (h : dp_back mi pc L rest x k = some r) : dp_back mi pc L' rest x k' = some r := by
  unfold dp_back at h
  split at h
  · exact hk _ _ _ _ _ hL h
  · split at h
    · rename_i hh
      unfold dp_back
      simp only [hh]; exact h
    · rename_i hh
      split at h
      · rename_i hd
        split at h
        · rename_i ha
          unfold dp_back
          simp only [hh, hd, if_pos (show _ < L'.length from hL.1 ▸ ha)]
          exact hk _ _ _ _ _ (dp_le_un hL _) h
        · cases h
      · cases h
  · cases h
theorem dp_le_back0 (hL : dp_le L L') (hk : ∀ pc L1 L1' st M, dp_le L1 L1' → k (pc, L1, st, M) = some r → k' (pc, L1', st, M) = some r) {pc : Nat} {rest : List Value} {x : Option dp_Res} (h : dp_back0 pc L rest x k = some r) : dp_back0 pc L' rest x k' = some r := by
  unfold dp_back0 at h
  split at h
  · exact hk _ _ _ _ _ hL h
  · cases h
theorem dp_le_cal (hL : dp_le L L') (hk : ∀ pc L1 L1' st M, dp_le L1 L1' → k (pc, L1, st, M) = some r → k' (pc, L1', st, M) = some r) {o pc : Nat} {i : Instr} {st : List Value} {M : dp_M} (h : dp_cal md F mi o pc L i st M k = some r) : dp_cal md F mi o pc L' i st M k' = some r := by
  unfold dp_cal at h
  split at h
  all_goals first | (simp only [reduceCtorEq] at h; done) | skip
  · split at h
    · rename_i hh
      obtain ⟨st', e1, e2⟩ := dp_hin_f h
      simp only [dp_cal, hh]
      rw [e2]
      exact hk _ _ _ _ _ hL e1
    · rename_i hh
      split at h
      · rename_i hl
        split at h
        · rename_i hm
          split at h
          · rename_i hkd
            split at h
            · rename_i ht
              split at h
              · rename_i hs
                simp only [dp_cal, hh, hl, hm, if_pos hkd, ht, if_pos hs]
                exact dp_le_back hL hk h
              · cases h
            · cases h
          · cases h
        · cases h
      · rename_i hl
        obtain ⟨st', M', e1, e2, e3, e4⟩ := dp_xt_f h
        simp only [dp_cal, hh, hl]
        rw [e4]
        exact hk _ _ _ _ _ hL e1
  · split at h
    · rename_i hl
      split at h
      · rename_i hm
        split at h
        · rename_i hkd
          split at h
          · rename_i ht
            split at h
            · rename_i hc
              split at h
              · rename_i hs
                simp only [dp_cal, hl, hm, if_pos hkd, ht, if_pos hc, if_pos hs]
                exact dp_le_back hL hk h
              · cases h
            · cases h
          · cases h
        · cases h
      · cases h
    · rename_i hl
      obtain ⟨st', M', e1, e2, e3, e4⟩ := dp_xt_f h
      simp only [dp_cal, hl]
      rw [e4]
      exact hk _ _ _ _ _ hL e1
  · split at h
    · rename_i ho
      split at h
      · split at h
        · rename_i hs
          simp only [dp_cal, if_pos ho, if_pos hs]
          exact hk _ _ _ _ _ hL h
        · cases h
      · cases h
    · rename_i ho
      split at h
      · rename_i hl
        split at h
        · rename_i hm
          split at h
          · rename_i hkd
            split at h
            · rename_i ht
              split at h
              · rename_i hs
                simp only [dp_cal, if_neg ho, hl, hm, if_pos hkd, ht, if_pos hs]
                exact dp_le_back0 hL hk h
              · cases h
            · cases h
          · cases h
        · cases h
      · cases h
theorem dp_le_ex (hL : dp_le L L') (hk : ∀ pc L1 L1' st M, dp_le L1 L1' → k (pc, L1, st, M) = some r → k' (pc, L1', st, M) = some r) {pc : Nat} {i : Instr} {st : List Value} {M : dp_M} (h : dp_ex md xs xl F mi i pc L st M k = some r) : dp_ex md xs xl F mi i pc L' st M k' = some r := by
  unfold dp_ex at h
  split at h
  · rename_i hg; split at h
    · rename_i h1; simp only [dp_ex, hg, h1]; exact hk _ _ _ _ _ hL h
    · cases h
  · rename_i hg; split at h
    · rename_i h1; simp only [dp_ex, hg, dp_le_ld hL h1]; exact hk _ _ _ _ _ hL h
    · cases h
  · rename_i hg; split at h
    · rename_i h1
      obtain ⟨L1, e1, e2⟩ := dp_le_sto hL h1
      simp only [dp_ex, hg, e1]; exact hk _ _ _ _ _ e2 h
    · cases h
  · rename_i hg
    obtain ⟨a, b, e1, e2⟩ := dp_br_f h
    simp only [dp_ex, hg]; rw [e2]; exact hk _ _ _ _ _ hL e1
  · rename_i hg
    obtain ⟨a, e1, e2⟩ := dp_dv_f h
    simp only [dp_ex, hg]; rw [e2]; exact hk _ _ _ _ _ hL e1
  · rename_i hg
    obtain ⟨a, e1, e2⟩ := dp_ald_f h
    simp only [dp_ex, hg]; rw [e2]; exact hk _ _ _ _ _ hL e1
  · rename_i hg
    obtain ⟨a, b, e1, e2, e3, e4⟩ := dp_ast_f h
    simp only [dp_ex, hg]; rw [e4]; exact hk _ _ _ _ _ hL e1
  · rename_i hg
    obtain ⟨a, b, e1, e2, e3, e4⟩ := dp_fld_f h
    simp only [dp_ex, hg]; rw [e4]; exact hk _ _ _ _ _ hL e1
  · rename_i hg
    obtain ⟨a, b, e1, e2, e3, e4⟩ := dp_mk_f h
    simp only [dp_ex, hg]; rw [e4]; exact hk _ _ _ _ _ hL e1
  · rename_i hg; split at h
    · rename_i h1; simp only [dp_ex, hg, h1]; exact hk _ _ _ _ _ hL h
    · cases h
  · rename_i hg
    simp only [dp_ex, hg]; exact dp_le_cal hL hk h
  · rename_i hg
    simp only [dp_ex, hg]; exact h
  · rename_i g0 g1 g2 g3 g4 g5 g6 g7 g8 g9 g10 g11
    split at h
    · rename_i ik
      split at h
      · rename_i hh
        unfold dp_ex
        split <;> first | contradiction | (simp only [hh]; exact h)
      · cases h
    · cases h
theorem dp_le_runs : ∀ (n : Nat) (pc : Nat) (L L' : dp_L) (st : List Value) (M : dp_M), dp_le L L' → dp_runs md xs xl F mi n (pc, L, st, M) = some r → dp_runs md xs xl F mi n (pc, L', st, M) = some r
  | 0, _, _, _, _, _, _, h => by cases h
  | n + 1, pc, L, L', st, M, hL, h => by
    have h' : dp_stp md xs xl F mi (pc, L, st, M) (dp_runs md xs xl F mi n) = some r := h
    show dp_stp md xs xl F mi (pc, L', st, M) (dp_runs md xs xl F mi n) = some r
    unfold dp_stp at h' ⊢
    split at h'
    · rename_i i hi
      rw [show dp_ins mi (pc, L', st, M).1 = some i from hi]
      exact dp_le_ex hL (fun pc L1 L1' st M h1 h2 => dp_le_runs n pc L1 L1' st M h1 h2) h'
    · cases h'
theorem dp_le_lim (hF : dp_grow F) {pc : Nat} {st : List Value} {M : dp_M} (hL : dp_le L L') (h : dp_lim md xs xl F mi (pc, L, st, M) = some r) : dp_lim md xs xl F mi (pc, L', st, M) = some r := by
  obtain ⟨n, hn⟩ := (dp_lim_s hF).mp h
  exact (dp_lim_s hF).mpr ⟨n, dp_le_runs n pc L L' st M hL hn⟩
end DPmono
/-- which locals are known by which: one look -/
def dp_leB : dp_L → dp_L → Prop
  | [], [] => True
  | a :: l, b :: l' => (a = none ∨ a = b) ∧ dp_leB l l'
  | _, _ => False
theorem dp_leB_ok : ∀ {L L' : dp_L}, dp_leB L L' → dp_le L L'
  | [], [], _ => ⟨rfl, fun i v h => by simp at h⟩
  | a :: l, b :: l', h => by
    obtain ⟨h1, h2⟩ := dp_leB_ok h.2
    refine ⟨by simp [h1], fun i v hi => ?_⟩
    cases i with
    | zero =>
      simp only [List.getElem?_cons_zero, Option.some.injEq] at hi ⊢
      rcases h.1 with e | e
      · rw [e] at hi; cases hi
      · rw [← e]; exact hi
    | succ i =>
      simp only [List.getElem?_cons_succ] at hi ⊢
      exact h2 i v hi
  | [], _ :: _, h => h.elim
  | _ :: _, [], h => h.elim
