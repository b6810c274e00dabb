theorem dp_zip {α β : Type} {a : List α} {b : List β} {p : α × β → Bool} {P : α → Prop} (hl : a.length = b.length) (h : (a.zip b).all p = true) (hp : ∀ x y, p (x, y) = true → P x) : ∀ x ∈ a, P x := by
  intro x hx
  obtain ⟨i, hi⟩ := List.getElem?_of_mem hx
  have hlt := (List.getElem?_eq_some_iff.mp hi).1
  have hb : b[i]? = some b[i] := List.getElem?_eq_getElem (by omega)
  exact hp x b[i] (List.all_eq_true.mp h (x, b[i]) (List.mem_of_getElem? (i := i) (List.getElem?_zip_eq_some.mpr ⟨hi, hb⟩)))
theorem dp_mi_ok {j : Nat} {mi : dp_Mi} (h : dp_mi j = some mi) : dp_Mok mi := by
  unfold dp_mi at h
  obtain ⟨g, hg, hm⟩ := dp_getD_in (List.mem_of_getElem? h)
  simp only [dp_gs, List.mem_cons, List.not_mem_nil, or_false] at hg
  rcases hg with rfl | rfl | rfl | rfl | rfl | rfl | rfl | rfl | rfl | rfl | rfl | rfl | rfl | rfl | rfl | rfl | rfl | rfl | rfl | rfl | rfl
  · exact dp_zip (p := fun q => dp_ckM q.1 q.2) (P := fun x => dp_cw x ∈ dp_T → dp_Mok x) rfl dp_kg0 (fun _ _ q hc => dp_ckM_ok hc q) mi hm (dp_cg0 mi hm)
  · exact dp_zip (p := fun q => dp_ckM q.1 q.2) (P := fun x => dp_cw x ∈ dp_T → dp_Mok x) rfl dp_kg1 (fun _ _ q hc => dp_ckM_ok hc q) mi hm (dp_cg1 mi hm)
  · exact dp_zip (p := fun q => dp_ckM q.1 q.2) (P := fun x => dp_cw x ∈ dp_T → dp_Mok x) rfl dp_kg2 (fun _ _ q hc => dp_ckM_ok hc q) mi hm (dp_cg2 mi hm)
  · exact dp_zip (p := fun q => dp_ckM q.1 q.2) (P := fun x => dp_cw x ∈ dp_T → dp_Mok x) rfl dp_kg3 (fun _ _ q hc => dp_ckM_ok hc q) mi hm (dp_cg3 mi hm)
  · exact dp_zip (p := fun q => dp_ckM q.1 q.2) (P := fun x => dp_cw x ∈ dp_T → dp_Mok x) rfl dp_kg4 (fun _ _ q hc => dp_ckM_ok hc q) mi hm (dp_cg4 mi hm)
  · exact dp_zip (p := fun q => dp_ckM q.1 q.2) (P := fun x => dp_cw x ∈ dp_T → dp_Mok x) rfl dp_kg5 (fun _ _ q hc => dp_ckM_ok hc q) mi hm (dp_cg5 mi hm)
  · exact dp_zip (p := fun q => dp_ckM q.1 q.2) (P := fun x => dp_cw x ∈ dp_T → dp_Mok x) rfl dp_kg6 (fun _ _ q hc => dp_ckM_ok hc q) mi hm (dp_cg6 mi hm)
  · exact dp_zip (p := fun q => dp_ckM q.1 q.2) (P := fun x => dp_cw x ∈ dp_T → dp_Mok x) rfl dp_kg7 (fun _ _ q hc => dp_ckM_ok hc q) mi hm (dp_cg7 mi hm)
  · exact dp_zip (p := fun q => dp_ckM q.1 q.2) (P := fun x => dp_cw x ∈ dp_T → dp_Mok x) rfl dp_kg8 (fun _ _ q hc => dp_ckM_ok hc q) mi hm (dp_cg8 mi hm)
  · exact dp_zip (p := fun q => dp_ckM q.1 q.2) (P := fun x => dp_cw x ∈ dp_T → dp_Mok x) rfl dp_kg9 (fun _ _ q hc => dp_ckM_ok hc q) mi hm (dp_cg9 mi hm)
  · exact dp_zip (p := fun q => dp_ckM q.1 q.2) (P := fun x => dp_cw x ∈ dp_T → dp_Mok x) rfl dp_kg10 (fun _ _ q hc => dp_ckM_ok hc q) mi hm (dp_cg10 mi hm)
  · exact dp_zip (p := fun q => dp_ckM q.1 q.2) (P := fun x => dp_cw x ∈ dp_T → dp_Mok x) rfl dp_kg11 (fun _ _ q hc => dp_ckM_ok hc q) mi hm (dp_cg11 mi hm)
  · exact dp_zip (p := fun q => dp_ckM q.1 q.2) (P := fun x => dp_cw x ∈ dp_T → dp_Mok x) rfl dp_kg12 (fun _ _ q hc => dp_ckM_ok hc q) mi hm (dp_cg12 mi hm)
  · exact dp_zip (p := fun q => dp_ckM q.1 q.2) (P := fun x => dp_cw x ∈ dp_T → dp_Mok x) rfl dp_kg13 (fun _ _ q hc => dp_ckM_ok hc q) mi hm (dp_cg13 mi hm)
  · exact dp_zip (p := fun q => dp_ckM q.1 q.2) (P := fun x => dp_cw x ∈ dp_T → dp_Mok x) rfl dp_kg14 (fun _ _ q hc => dp_ckM_ok hc q) mi hm (dp_cg14 mi hm)
  · exact dp_zip (p := fun q => dp_ckM q.1 q.2) (P := fun x => dp_cw x ∈ dp_T → dp_Mok x) rfl dp_kg15 (fun _ _ q hc => dp_ckM_ok hc q) mi hm (dp_cg15 mi hm)
  · exact dp_zip (p := fun q => dp_ckM q.1 q.2) (P := fun x => dp_cw x ∈ dp_T → dp_Mok x) rfl dp_kg16 (fun _ _ q hc => dp_ckM_ok hc q) mi hm (dp_cg16 mi hm)
  · exact dp_zip (p := fun q => dp_ckM q.1 q.2) (P := fun x => dp_cw x ∈ dp_T → dp_Mok x) rfl dp_kg17 (fun _ _ q hc => dp_ckM_ok hc q) mi hm (dp_cg17 mi hm)
  · exact dp_zip (p := fun q => dp_ckM q.1 q.2) (P := fun x => dp_cw x ∈ dp_T → dp_Mok x) rfl dp_kg18 (fun _ _ q hc => dp_ckM_ok hc q) mi hm (dp_cg18 mi hm)
  · exact dp_zip (p := fun q => dp_ckM q.1 q.2) (P := fun x => dp_cw x ∈ dp_T → dp_Mok x) rfl dp_kg19 (fun _ _ q hc => dp_ckM_ok hc q) mi hm (dp_cg19 mi hm)
  · exact dp_zip (p := fun q => dp_ckM q.1 q.2) (P := fun x => dp_cw x ∈ dp_T → dp_Mok x) rfl dp_kg20 (fun _ _ q hc => dp_ckM_ok hc q) mi hm (dp_cg20 mi hm)
def dp_ckL (o : Nat) (q : Nat × Nat × Nat) : Bool := match dp_mi q.2.1 with
  | some mi => dp_is q.2.2 (Cond.methodLink (dp_own o) q.1 mi.1.1) || (decide (mi.2.1.2.1 = 2) && decide (Cond.methodLinkNest (dp_own o) q.1 mi.1.1 "PortHouse" ∈ dp_nw))
  | none => true
set_option maxRecDepth 100000 in
theorem dp_ckL0 : (dp_dM.getD 0 []).all (dp_ckL 0) = true := by decide +kernel
set_option maxRecDepth 100000 in
theorem dp_ckL1 : (dp_dM.getD 1 []).all (dp_ckL 1) = true := by decide +kernel
set_option maxRecDepth 100000 in
theorem dp_ckL2 : (dp_dM.getD 2 []).all (dp_ckL 2) = true := by decide +kernel
set_option maxRecDepth 100000 in
theorem dp_ckL3 : (dp_dM.getD 3 []).all (dp_ckL 3) = true := by decide +kernel
set_option maxRecDepth 100000 in
theorem dp_ckL4 : (dp_dM.getD 4 []).all (dp_ckL 4) = true := by decide +kernel
set_option maxRecDepth 100000 in
theorem dp_ckL5 : (dp_dM.getD 5 []).all (dp_ckL 5) = true := by decide +kernel
set_option maxRecDepth 100000 in
theorem dp_ckL6 : (dp_dM.getD 6 []).all (dp_ckL 6) = true := by decide +kernel
set_option maxRecDepth 100000 in
theorem dp_ckL7 : (dp_dM.getD 7 []).all (dp_ckL 7) = true := by decide +kernel
set_option maxRecDepth 100000 in
theorem dp_ckL8 : (dp_dM.getD 8 []).all (dp_ckL 8) = true := by decide +kernel
set_option maxRecDepth 100000 in
theorem dp_ckL9 : (dp_dM.getD 9 []).all (dp_ckL 9) = true := by decide +kernel
set_option maxRecDepth 100000 in
theorem dp_ckL10 : (dp_dM.getD 10 []).all (dp_ckL 10) = true := by decide +kernel
set_option maxRecDepth 100000 in
theorem dp_ckL11 : (dp_dM.getD 11 []).all (dp_ckL 11) = true := by decide +kernel
set_option maxRecDepth 100000 in
theorem dp_ckL12 : (dp_dM.getD 12 []).all (dp_ckL 12) = true := by decide +kernel
set_option maxRecDepth 100000 in
theorem dp_ckL13 : (dp_dM.getD 13 []).all (dp_ckL 13) = true := by decide +kernel
set_option maxRecDepth 100000 in
theorem dp_ckL14 : (dp_dM.getD 14 []).all (dp_ckL 14) = true := by decide +kernel
set_option maxRecDepth 100000 in
theorem dp_ckL15 : (dp_dM.getD 15 []).all (dp_ckL 15) = true := by decide +kernel
set_option maxRecDepth 100000 in
theorem dp_ckL16 : (dp_dM.getD 16 []).all (dp_ckL 16) = true := by decide +kernel
theorem dp_ckL_all : (List.range dp_dM.length).all (fun o => (dp_dM.getD o []).all (dp_ckL o)) = true := by
  rw [List.all_eq_true]
  intro o ho
  have h : o < 17 := List.mem_range.mp ho
  match o, h with
  | 0, _ => exact dp_ckL0
  | 1, _ => exact dp_ckL1
  | 2, _ => exact dp_ckL2
  | 3, _ => exact dp_ckL3
  | 4, _ => exact dp_ckL4
  | 5, _ => exact dp_ckL5
  | 6, _ => exact dp_ckL6
  | 7, _ => exact dp_ckL7
  | 8, _ => exact dp_ckL8
  | 9, _ => exact dp_ckL9
  | 10, _ => exact dp_ckL10
  | 11, _ => exact dp_ckL11
  | 12, _ => exact dp_ckL12
  | 13, _ => exact dp_ckL13
  | 14, _ => exact dp_ckL14
  | 15, _ => exact dp_ckL15
  | 16, _ => exact dp_ckL16
  | n + 17, h => omega
theorem dp_lkM_ok {o i j : Nat} {mi : dp_Mi} (h : dp_lkM o i = some j) (hm : dp_mi j = some mi) : Cond.methodLink (dp_own o) i mi.1.1 ∈ dp_T ∨ (mi.2.1.2.1 = 2 ∧ Cond.methodLinkNest (dp_own o) i mi.1.1 "PortHouse" ∈ dp_nw) := by
  unfold dp_lkM at h
  split at h
  · rename_i j' q hl
    cases h
    have := dp_getD_all dp_ckL_all (dp_look_in hl)
    unfold dp_ckL at this
    dsimp only at this
    rw [hm] at this
    simp only [Bool.or_eq_true, Bool.and_eq_true, decide_eq_true_eq] at this
    rcases this with h1 | h1
    · exact Or.inl (dp_is_ok h1)
    · exact Or.inr h1
  · cases h
