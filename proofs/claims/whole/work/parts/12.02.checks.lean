def dp_cw (mi : dp_Mi) : Cond := match mi.2.2.2 with
  | [] => .code mi.1.1 mi.1.2.1 mi.1.2.2.1 mi.1.2.2.2
  | hh => .codeWith mi.1.1 mi.1.2.1 mi.1.2.2.1 mi.1.2.2.2 hh
/-- what the tables say of a method -/
def dp_Mok (mi : dp_Mi) : Prop := plainName mi.1.1.cls = true ∧ mi.1.1.cls = dp_own mi.2.1.1 ∧ mi.1.2.2.1 ≤ 80 ∧ (mi.1.1.cls ≠ "java/lang/invoke/MethodHandle" ∧ mi.1.1.cls ≠ "java/lang/invoke/VarHandle" ∧ (parseMethodDescriptor mi.1.1.desc).map (fun d => d.parameters.length) = some mi.2.1.2.2.1) ∧
  dp_cw mi ∈ dp_T ∧ Cond.initialized mi.1.1.cls ∈ dp_T ∧ (mi.2.1.2.1 = 0 → Cond.static mi.1.1 ∈ dp_T) ∧ (mi.2.1.2.1 = 1 → Cond.instanceMethod mi.1.1 ∈ dp_T ∧ Cond.selects mi.1.1.cls mi.1.1 mi.1.1 ∈ dp_T ∧ ∃ T N, vwCl[mi.2.1.2.2.2]? = some (mi.1.1.cls, T, N)) ∧
  (mi.2.1.2.1 = 2 → Cond.instanceMethod mi.1.1 ∈ dp_T ∧ mi.1.1.name = "<init>" ∧ mi.1.2.2.2 = none) ∧ (mi.2.1.2.1 ≠ 3 → mi.2.2.2 = []) ∧ (mi.2.1.2.1 = 3 → Cond.static mi.1.1 ∈ dp_T ∧ mi.2.2.2 ≠ [])
def dp_ckM (mi : dp_Mi) (q : Nat × Nat × Nat × Nat) : Bool := plainName mi.1.1.cls && decide (mi.1.1.cls = dp_own mi.2.1.1) && decide (mi.1.2.2.1 ≤ 80) && (decide (mi.1.1.cls ≠ "java/lang/invoke/MethodHandle") && decide (mi.1.1.cls ≠ "java/lang/invoke/VarHandle") && decide ((parseMethodDescriptor mi.1.1.desc).map (fun d => d.parameters.length) = some mi.2.1.2.2.1)) &&
  dp_is q.2.1 (Cond.initialized mi.1.1.cls) && (match mi.2.1.2.1 with
    | 0 => dp_is q.2.2.1 (Cond.static mi.1.1) && mi.2.2.2.isEmpty
    | 1 => dp_is q.2.2.1 (Cond.instanceMethod mi.1.1) && dp_is q.2.2.2 (Cond.selects mi.1.1.cls mi.1.1 mi.1.1) && (match vwCl[mi.2.1.2.2.2]? with
      | some (C, _, _) => decide (C = mi.1.1.cls)
      | none => false) && mi.2.2.2.isEmpty
    | 2 => dp_is q.2.2.1 (Cond.instanceMethod mi.1.1) && decide (mi.1.1.name = "<init>") && decide (mi.1.2.2.2 = none) && mi.2.2.2.isEmpty
    | 3 => dp_is q.2.2.1 (Cond.static mi.1.1) && !mi.2.2.2.isEmpty
    | _ => false)
theorem dp_ckM_ok {mi : dp_Mi} {q : Nat × Nat × Nat × Nat} (hcw : dp_cw mi ∈ dp_T) (h : dp_ckM mi q = true) : dp_Mok mi := by
  unfold dp_ckM at h
  simp only [Bool.and_eq_true, decide_eq_true_eq] at h
  obtain ⟨⟨⟨⟨⟨h1, h2⟩, h3⟩, ⟨h4, h5⟩, h6⟩, h8⟩, h9⟩ := h
  unfold dp_Mok
  refine ⟨h1, h2, h3, ⟨h4, h5, h6⟩, hcw, dp_is_ok h8, ?_⟩
  split at h9
  · rename_i hk
    simp only [Bool.and_eq_true] at h9
    refine ⟨fun _ => dp_is_ok h9.1, fun q => ?_, fun q => ?_, fun _ => List.isEmpty_iff.mp h9.2, fun q => ?_⟩ <;> (rw [hk] at q; cases q)
  · rename_i hk
    simp only [Bool.and_eq_true] at h9
    refine ⟨fun q => ?_, fun _ => ⟨dp_is_ok h9.1.1.1, dp_is_ok h9.1.1.2, ?_⟩, fun q => ?_, fun _ => List.isEmpty_iff.mp h9.2, fun q => ?_⟩
    · rw [hk] at q; cases q
    · have h10 := h9.1.2
      split at h10
      · rename_i C T N hc
        have e := of_decide_eq_true h10
        subst e
        exact ⟨T, N, hc⟩
      · cases h10
    · rw [hk] at q; cases q
    · rw [hk] at q; cases q
  · rename_i hk
    simp only [Bool.and_eq_true, decide_eq_true_eq] at h9
    refine ⟨fun q => ?_, fun q => ?_, fun _ => ⟨dp_is_ok h9.1.1.1, h9.1.1.2, h9.1.2⟩, fun _ => List.isEmpty_iff.mp h9.2, fun q => ?_⟩ <;> (rw [hk] at q; cases q)
  · rename_i hk
    simp only [Bool.and_eq_true] at h9
    refine ⟨fun q => ?_, fun q => ?_, fun q => ?_, fun q => absurd hk q, fun _ => ⟨dp_is_ok h9.1, fun e => by rw [e] at h9; exact absurd h9.2 (by decide)⟩⟩ <;> (rw [hk] at q; cases q)
  · cases h9
