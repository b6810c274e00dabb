/-! what the tables rest on: decided by the kernel -/
theorem dp_look_in {α : Type} {i : Nat} {v : α} : ∀ {l : List (Nat × α)}, dp_look i l = some v → (i, v) ∈ l
  | [], h => by cases h
  | (k, x) :: r, h => by
    unfold dp_look at h
    split at h
    · rename_i e; cases h; subst e; exact List.mem_cons_self
    · exact List.mem_cons_of_mem _ (dp_look_in h)
theorem dp_getD_in {α : Type} {l : List (List α)} {k : Nat} {x : α} (h : x ∈ l.getD k []) : ∃ y ∈ l, x ∈ y := by
  rw [List.getD_eq_getElem?_getD] at h
  cases hk : l[k]? with
  | none => rw [hk] at h; simp at h
  | some y => rw [hk] at h; exact ⟨y, List.mem_of_getElem? hk, h⟩
theorem dp_getD_all {α : Type} {l : List (List α)} {k : Nat} {x : α} {p : Nat → α → Bool} (hp : (List.range l.length).all (fun k => (l.getD k []).all (p k)) = true) (h : x ∈ l.getD k []) : p k x = true := by
  have hk : k < l.length := by
    rcases Nat.lt_or_ge k l.length with q | q
    · exact q
    · rw [List.getD_eq_getElem?_getD, List.getElem?_eq_none q] at h; simp at h
  have h1 := List.all_eq_true.mp hp k (List.mem_range.mpr hk)
  exact List.all_eq_true.mp h1 x h
theorem dp_chk_in : ∀ l ∈ dp_chk, ∀ w ∈ l, w ∈ lw_tbl := by
  intro l hl w hw
  have key : w ∈ k2_sels lw_privs ∨ w ∈ tables_1 := by
    simp only [dp_chk, List.mem_cons, List.not_mem_nil, or_false] at hl
    rcases hl with rfl | rfl | rfl | rfl | rfl | rfl | rfl | rfl | rfl | rfl | rfl | rfl | rfl | rfl | rfl | rfl | rfl | rfl | rfl
    · exact Or.inl hw
    · exact Or.inr (by unfold tables_1; simp only [List.mem_append, hw, true_or, or_true])
    · exact Or.inr (by unfold tables_1; simp only [List.mem_append, hw, true_or, or_true])
    · exact Or.inr (by unfold tables_1; simp only [List.mem_append, hw, true_or, or_true])
    · exact Or.inr (by unfold tables_1; simp only [List.mem_append, hw, true_or, or_true])
    · exact Or.inr (by unfold tables_1; simp only [List.mem_append, hw, true_or, or_true])
    · exact Or.inr (by unfold tables_1; simp only [List.mem_append, hw, true_or, or_true])
    · exact Or.inr (by unfold tables_1; simp only [List.mem_append, hw, true_or, or_true])
    · exact Or.inr (by unfold tables_1; simp only [List.mem_append, hw, true_or, or_true])
    · exact Or.inr (by unfold tables_1; simp only [List.mem_append, hw, true_or, or_true])
    · exact Or.inr (by unfold tables_1; simp only [List.mem_append, hw, true_or, or_true])
    · exact Or.inr (by unfold tables_1; simp only [List.mem_append, hw, true_or, or_true])
    · exact Or.inr (by unfold tables_1; simp only [List.mem_append, hw, true_or, or_true])
    · exact Or.inr (by unfold tables_1; simp only [List.mem_append, hw, true_or, or_true])
    · exact Or.inr (by unfold tables_1; simp only [List.mem_append, hw, true_or, or_true])
    · exact Or.inr (by unfold tables_1; simp only [List.mem_append, hw, true_or, or_true])
    · exact Or.inr (by unfold tables_1; simp only [List.mem_append, hw, true_or, or_true])
    · exact Or.inr (by unfold tables_1; simp only [List.mem_append, hw, true_or, or_true])
    · exact Or.inr (by unfold tables_1; simp only [List.mem_append, hw, true_or, or_true])
  unfold lw_tbl
  exact List.mem_append.mpr key
theorem dp_tbl_in {q : Nat} {w : Cond} (h : dp_tbl q = some w) : w ∈ lw_tbl := by
  unfold dp_tbl at h
  obtain ⟨l, h1, h2⟩ := dp_getD_in (List.mem_of_getElem? h)
  exact dp_chk_in l h1 w h2
theorem dp_is_ok {q : Nat} {w : Cond} (h : dp_is q w = true) : w ∈ dp_T := by
  unfold dp_is at h
  rw [Bool.and_eq_true] at h
  obtain ⟨h1, h2⟩ := h
  split at h1
  · rename_i w' hw
    have e : w' = w := of_decide_eq_true h1
    subst e
    exact List.mem_filter.mpr ⟨dp_tbl_in hw, h2⟩
  · cases h1
def dp_ckF (o : Nat) (q : Nat × Nat × Nat × Nat) : Bool := match vwCl[q.2.1]? with
  | some (_, T, N) => decide (q.2.2.1 < N) && dp_is q.2.2.2 (Cond.fieldLink (dp_own o) q.1 (T q.2.2.1).1 (T q.2.2.1).2.1 (T q.2.2.1).2.2.1)
  | none => false
set_option maxRecDepth 100000 in
theorem dp_ckF_all : (List.range dp_dF.length).all (fun o => (dp_dF.getD o []).all (dp_ckF o)) = true := by decide +kernel
theorem dp_lkF_ok {o i ci k : Nat} (h : dp_lkF o i = some (ci, k)) : ∃ (C : String) (T : u_T) (N : Nat), vwCl[ci]? = some (C, T, N) ∧ k < N ∧ Cond.fieldLink (dp_own o) i (T k).1 (T k).2.1 (T k).2.2.1 ∈ dp_T := by
  unfold dp_lkF at h
  split at h
  · rename_i ci' k' q hl
    cases h
    have := dp_getD_all dp_ckF_all (dp_look_in hl)
    unfold dp_ckF at this
    dsimp only at this
    split at this
    · rename_i C T N hc
      rw [Bool.and_eq_true] at this
      exact ⟨C, T, N, hc, of_decide_eq_true this.1, dp_is_ok this.2⟩
    · cases this
  · cases h
def dp_ckN (o : Nat) (q : Nat × Nat × Nat) : Bool := match vwCl[q.2.1]? with
  | some (C, _, _) => dp_is q.2.2 (Cond.classLink (dp_own o) q.1 C)
  | none => false
set_option maxRecDepth 100000 in
theorem dp_ckN_all : (List.range dp_dN.length).all (fun o => (dp_dN.getD o []).all (dp_ckN o)) = true := by decide +kernel
theorem dp_lkN_ok {o i ci : Nat} (h : dp_lkN o i = some ci) : ∃ (C : String) (T : u_T) (N : Nat), vwCl[ci]? = some (C, T, N) ∧ Cond.classLink (dp_own o) i C ∈ dp_T := by
  unfold dp_lkN at h
  split at h
  · rename_i ci' q hl
    cases h
    have := dp_getD_all dp_ckN_all (dp_look_in hl)
    unfold dp_ckN at this
    dsimp only at this
    split at this
    · rename_i C T N hc
      exact ⟨C, T, N, hc, dp_is_ok this⟩
    · cases this
  · cases h
set_option maxRecDepth 100000 in
theorem dp_ckR_all : (List.range dp_dR.length).all (fun o => (dp_dR.getD o []).all (fun q => dp_is q.2 (Cond.classLink (dp_own o) q.1 "PortHouse$Rate"))) = true := by decide +kernel
theorem dp_lkR_ok {o i : Nat} (h : dp_lkR o i = true) : Cond.classLink (dp_own o) i "PortHouse$Rate" ∈ dp_T := by
  unfold dp_lkR at h
  obtain ⟨q, hq⟩ := Option.isSome_iff_exists.mp h
  exact dp_is_ok (dp_getD_all (p := fun o q => dp_is q.2 (Cond.classLink (dp_own o) q.1 "PortHouse$Rate")) dp_ckR_all (dp_look_in hq))
set_option maxRecDepth 100000 in
theorem dp_ckI_all : (List.range dp_dI.length).all (fun o => (dp_dI.getD o []).all (fun q => dp_is q.2.2 (Cond.constant (dp_own o) q.1 q.2.1))) = true := by decide +kernel
theorem dp_lkI_ok {o i : Nat} {v : Int32} (h : dp_lkI o i = some v) : Cond.constant (dp_own o) i v ∈ dp_T := by
  unfold dp_lkI at h
  split at h
  · rename_i v' q hl
    cases h
    exact dp_is_ok (dp_getD_all (p := fun o q => dp_is q.2.2 (Cond.constant (dp_own o) q.1 q.2.1)) dp_ckI_all (dp_look_in hl))
  · cases h
set_option maxRecDepth 100000 in
theorem dp_ckJ_all : (List.range dp_dJ.length).all (fun o => (dp_dJ.getD o []).all (fun q => dp_is q.2.2 (Cond.constantLong (dp_own o) q.1 q.2.1))) = true := by decide +kernel
theorem dp_lkJ_ok {o i : Nat} {v : Int64} (h : dp_lkJ o i = some v) : Cond.constantLong (dp_own o) i v ∈ dp_T := by
  unfold dp_lkJ at h
  split at h
  · rename_i v' q hl
    cases h
    exact dp_is_ok (dp_getD_all (p := fun o q => dp_is q.2.2 (Cond.constantLong (dp_own o) q.1 q.2.1)) dp_ckJ_all (dp_look_in hl))
  · cases h
set_option maxRecDepth 100000 in
theorem dp_ckO_all : (List.range dp_dO.length).all (fun o => (dp_dO.getD o []).all (fun q => dp_is q.2 (Cond.methodLink (dp_own o) q.1 objectInit))) = true := by decide +kernel
set_option maxRecDepth 100000 in
theorem dp_ckO2 : dp_is 291 (Cond.instanceMethod objectInit) = true ∧ dp_is 292 (Cond.code objectInit ⟨#[0xb1]⟩ 1 none) = true := by decide +kernel
theorem dp_lkO_ok {o i : Nat} (h : dp_lkO o i = true) : Cond.methodLink (dp_own o) i objectInit ∈ dp_T ∧ Cond.instanceMethod objectInit ∈ dp_T ∧ Cond.code objectInit ⟨#[0xb1]⟩ 1 none ∈ dp_T := by
  unfold dp_lkO at h
  obtain ⟨q, hq⟩ := Option.isSome_iff_exists.mp h
  exact ⟨dp_is_ok (dp_getD_all (p := fun o q => dp_is q.2 (Cond.methodLink (dp_own o) q.1 objectInit)) dp_ckO_all (dp_look_in hq)), dp_is_ok dp_ckO2.1, dp_is_ok dp_ckO2.2⟩
def dp_ckX (o : Nat) (q : Nat × (Nat × Nat × Nat) × Nat × Nat × Nat × Nat) : Bool := match q with
  | (_, (ik, is, ic), e, q1, q2, q3) => decide (e < 4) && dp_is q1 (Cond.classLink (dp_own o) ik (dp_en e)) && dp_is q2 (Cond.initialized (dp_en e)) && (dp_lkS o is).isSome && dp_is q3 (Cond.methodLink (dp_own o) ic (Bundle.initS (dp_en e)))
set_option maxRecDepth 100000 in
theorem dp_ckX_all : (List.range dp_dX.length).all (fun o => (dp_dX.getD o []).all (dp_ckX o)) = true := by decide +kernel
theorem dp_lkX_ok {o ik is ic e : Nat} (h : dp_lkX o ik is ic = some e) : (e = 0 ∨ e = 1 ∨ e = 2 ∨ e = 3) ∧ Cond.classLink (dp_own o) ik (dp_en e) ∈ dp_T ∧ Cond.initialized (dp_en e) ∈ dp_T ∧ (∃ j, dp_lkS o is = some j) ∧ Cond.methodLink (dp_own o) ic (Bundle.initS (dp_en e)) ∈ dp_T := by
  unfold dp_lkX at h
  split at h
  · rename_i a b c e' q hl
    split at h
    · rename_i hq
      obtain ⟨rfl, rfl, rfl⟩ := hq
      cases h
      have := dp_getD_all dp_ckX_all (dp_look_in hl)
      obtain ⟨q1, q2, q3⟩ := q
      unfold dp_ckX at this
      simp only [Bool.and_eq_true, decide_eq_true_eq] at this
      obtain ⟨⟨⟨⟨h1, h2⟩, h3⟩, h4⟩, h5⟩ := this
      exact ⟨by omega, dp_is_ok h2, dp_is_ok h3, Option.isSome_iff_exists.mp h4, dp_is_ok h5⟩
    · cases h
  · cases h
def dp_hn (h : Nat) : MethodName := ([Lib.Math.max.name, Lib.Math.min.name, Lib.MathLoose.max_long.x, Lib.MathLoose.min_long.x, Lib.MathLoose.abs_long.x] : List MethodName).getD h Lib.Math.max.name
set_option maxRecDepth 100000 in
theorem dp_ckH_all : (List.range dp_dH.length).all (fun o => (dp_dH.getD o []).all (fun q => decide (q.2.1 < 5) && dp_is q.2.2 (Cond.methodLink (dp_own o) q.1 (dp_hn q.2.1)))) = true := by decide +kernel
theorem dp_lkH_ok {o i h : Nat} (hh : dp_lkH o i = some h) : h < 5 ∧ Cond.methodLink (dp_own o) i (dp_hn h) ∈ dp_T := by
  unfold dp_lkH at hh
  split at hh
  · rename_i h' q hl
    cases hh
    have := dp_getD_all (p := fun o q => decide (q.2.1 < 5) && dp_is q.2.2 (Cond.methodLink (dp_own o) q.1 (dp_hn q.2.1))) dp_ckH_all (dp_look_in hl)
    simp only [Bool.and_eq_true, decide_eq_true_eq] at this
    exact ⟨this.1, dp_is_ok this.2⟩
  · cases hh
theorem dp_in_ok {q : Nat} {w : Cond} (h : dp_tbl q = some w) (hg : goodWord w = true) : w ∈ dp_T := List.mem_filter.mpr ⟨dp_tbl_in h, hg⟩
theorem dp_hst : ∀ h, h < 5 → Cond.static (dp_hn h) ∈ dp_T
  | 0, _ => dp_in_ok (q := 302) rfl rfl
  | 1, _ => dp_in_ok (q := 299) rfl rfl
  | 2, _ => dp_in_ok (q := 1254) rfl rfl
  | 3, _ => dp_in_ok (q := 1258) rfl rfl
  | 4, _ => dp_in_ok (q := 2748) rfl rfl
  | n + 5, h => absurd h (by omega)
theorem dp_hini : Cond.initialized "java/lang/Math" ∈ dp_T := dp_in_ok (q := 259) rfl rfl
theorem dp_hc0 : Cond.code Lib.Math.max.name Lib.Math.max.code 2 (some .int) ∈ dp_T := dp_in_ok (q := 303) rfl rfl
theorem dp_hc1 : Cond.code Lib.Math.min.name Lib.Math.min.code 2 (some .int) ∈ dp_T := dp_in_ok (q := 300) rfl rfl
theorem dp_hc2 : Cond.code Lib.MathLoose.max_long.x Lib.MathLoose.max_long.code 4 (some .long) ∈ dp_T := dp_in_ok (q := 1255) rfl rfl
theorem dp_hc3 : Cond.code Lib.MathLoose.min_long.x Lib.MathLoose.min_long.code 4 (some .long) ∈ dp_T := dp_in_ok (q := 1259) rfl rfl
theorem dp_hc4 : Cond.code Lib.MathLoose.abs_long.x Lib.MathLoose.abs_long.code 2 (some .long) ∈ dp_T := dp_in_ok (q := 2749) rfl rfl
set_option maxRecDepth 100000 in
theorem dp_ckA : dp_is 365 (Cond.arrayClass .int) = true ∧ dp_is 821 (Cond.arrayClass .long) = true ∧ dp_is 366 (Cond.arrayClass .boolean) = true ∧ dp_is 736 (Cond.arrayClass .char) = true := by decide +kernel
theorem dp_arr_ok : Cond.arrayClass .int ∈ dp_T ∧ Cond.arrayClass .long ∈ dp_T ∧ Cond.arrayClass .boolean ∈ dp_T ∧ Cond.arrayClass .char ∈ dp_T := ⟨dp_is_ok dp_ckA.1, dp_is_ok dp_ckA.2.1, dp_is_ok dp_ckA.2.2.1, dp_is_ok dp_ckA.2.2.2⟩
