/-! THE DEEP LAYER (13): stretches of code, an instruction a row -/
section DPgo
variable {md : Bool} {xs : Nat → Int32} {xl : Nat} {F : dp_Phi} {mi : dp_Mi} {pc : Nat} {L : dp_L} {st : List Value} {M : dp_M} {i : Instr}
/-- one instruction, whatever it is -/
theorem dp_s {E : (dp_Cfg → Option dp_Res) → Option dp_Res} (hF : dp_grow F) (hf : dp_ins mi pc = some i) (he : ∀ k, dp_ex md xs xl F mi i pc L st M k = E k) : dp_lim md xs xl F mi (pc, L, st, M) = E (dp_lim md xs xl F mi) := by
  rw [dp_lim_eq hF]
  unfold dp_stp
  dsimp only
  rw [hf]
  exact he _
/-- .. that goes on -/
theorem dp_s1 {cf : dp_Cfg} {r : Option dp_Res} (hF : dp_grow F) (hf : dp_ins mi pc = some i) (he : ∀ k, dp_ex md xs xl F mi i pc L st M k = k cf) (h : dp_lim md xs xl F mi cf = r) : dp_lim md xs xl F mi (pc, L, st, M) = r := (dp_s (E := fun k => k cf) hF hf he).trans h
/-- .. that ends -/
theorem dp_s0 {r : Option dp_Res} (hF : dp_grow F) (hf : dp_ins mi pc = some i) (he : ∀ k, dp_ex md xs xl F mi i pc L st M k = r) : dp_lim md xs xl F mi (pc, L, st, M) = r := dp_s (E := fun _ => r) hF hf he
/-- .. that asks -/
theorem dp_s2 {c : Prop} [Decidable c] {a b : dp_Cfg} {A B : Option dp_Res} (hF : dp_grow F) (hf : dp_ins mi pc = some i) (he : ∀ k, dp_ex md xs xl F mi i pc L st M k = if c then k a else k b) (h1 : dp_lim md xs xl F mi a = A) (h2 : dp_lim md xs xl F mi b = B) : dp_lim md xs xl F mi (pc, L, st, M) = if c then A else B := by
  rw [dp_s (E := fun k => if c then k a else k b) hF hf he, h1, h2]
/-- .. that may not go on -/
theorem dp_s3 {c : Prop} [Decidable c] {b : dp_Cfg} {B : Option dp_Res} (hF : dp_grow F) (hf : dp_ins mi pc = some i) (he : ∀ k, dp_ex md xs xl F mi i pc L st M k = if c then none else k b) (h2 : dp_lim md xs xl F mi b = B) : dp_lim md xs xl F mi (pc, L, st, M) = if c then none else B := by
  rw [dp_s (E := fun k => if c then none else k b) hF hf he, h2]
/-- a callee's answer: an int, a long, nothing, a reference -/
def dp_bi (r : Option dp_Res) (k : Int32 → dp_M → Option dp_Res) : Option dp_Res := match r with
  | some (.inl (some (.int x)), M') => k x M'
  | some (.inr e, M') => some (.inr e, M')
  | _ => none
def dp_bl (r : Option dp_Res) (k : Int64 → dp_M → Option dp_Res) : Option dp_Res := match r with
  | some (.inl (some (.long x)), M') => k x M'
  | some (.inr e, M') => some (.inr e, M')
  | _ => none
def dp_bv (r : Option dp_Res) (k : dp_M → Option dp_Res) : Option dp_Res := match r with
  | some (.inl none, M') => k M'
  | some (.inr e, M') => some (.inr e, M')
  | _ => none
/-- what a method's answer is, by its descriptor -/
def dp_typed (rt : Option FieldType) (o : dp_Out) : Prop := match o with
  | .inr _ => True
  | .inl none => rt = none
  | .inl (some (.int _)) => rt = some .int ∨ rt = some .boolean
  | .inl (some (.long _)) => rt = some .long
  | .inl (some _) => rt ≠ none ∧ rt ≠ some .int ∧ rt ≠ some .boolean ∧ rt ≠ some .long
theorem dp_end_ty {rt : Option FieldType} {r : dp_Res} (h : dp_end rt i st M = some r) : dp_typed rt r.1 := by
  unfold dp_end at h
  split at h
  all_goals first | (simp only [reduceCtorEq] at h; done) | skip
  · split at h
    · split at h
      · cases h; exact Or.inl rfl
      · split at h
        · cases h; exact Or.inr rfl
        · cases h
      · cases h
    · cases h
  · split at h
    · split at h
      · rename_i hq; cases h; exact hq
      · cases h
    · cases h
  · split at h
    · split at h
      · cases h; exact ⟨by simp, by simp, by simp, by simp⟩
      · cases h; exact ⟨by simp, by simp, by simp, by simp⟩
      · cases h
    · split at h
      · cases h; exact ⟨by simp, by simp, by simp, by simp⟩
      · cases h; exact ⟨by simp, by simp, by simp, by simp⟩
      · cases h
    · cases h
  · split at h
    · split at h
      · rename_i hq; cases h; exact hq
      · cases h
    · cases h
theorem dp_thr_ty {ik : Nat} {r : dp_Res} (h : dp_thr mi pc ik st M = some r) : ∃ e, r.1 = .inr e := by
  have key : ∀ e : Nat, dp_nk M 0 (some (.inr e, dp_new M 0 0 6)) = some r → ∃ e, r.1 = .inr e := fun e q => by
    obtain ⟨h1, -⟩ := dp_nk_f q
    cases h1
    exact ⟨e, rfl⟩
  unfold dp_thr at h
  split at h
  · split at h
    · split at h
      · split at h
        · exact key _ h
        · cases h
      · cases h
    · cases h
  · split at h
    · split at h
      · split at h
        · exact key _ h
        · cases h
      · cases h
    · cases h
  · cases h
theorem dp_runs_ty (hF : dp_grow F) : ∀ (n : Nat) (cf : dp_Cfg) (r : dp_Res), dp_runs md xs xl F mi n cf = some r → dp_typed (dp_rt mi) r.1
  | 0, cf, r, h => by cases h
  | n + 1, cf, r, h => by
    have h' : dp_stp md xs xl F mi cf (dp_runs md xs xl F mi n) = some r := h
    rcases dp_stp_f hF h' with ⟨-, -, h3⟩ | ⟨cf', h1, -, -, -⟩
    · have h4 := h3 (fun _ => none)
      unfold dp_stp at h4
      split at h4
      · unfold dp_ex at h4
        split at h4
        · split at h4 <;> cases h4
        · split at h4 <;> cases h4
        · split at h4 <;> cases h4
        · obtain ⟨_, _, q, -⟩ := dp_br_f h4; cases q
        · obtain ⟨_, q, -⟩ := dp_dv_f h4; cases q
        · obtain ⟨_, q, -⟩ := dp_ald_f h4; cases q
        · obtain ⟨_, _, q, -⟩ := dp_ast_f h4; cases q
        · obtain ⟨_, _, q, -⟩ := dp_fld_f h4; cases q
        · obtain ⟨_, _, q, -⟩ := dp_mk_f h4; cases q
        · split at h4 <;> cases h4
        · rcases dp_cal_f h4 with ⟨e9, M9, q, -⟩ | ⟨_, q, -⟩
          · rw [q]; trivial
          · cases q
        · exact dp_end_ty h4
        · split at h4
          · split at h4
            · obtain ⟨ex, q⟩ := dp_thr_ty h4
              rw [q]; trivial
            · cases h4
          · cases h4
      · cases h4
    · exact dp_runs_ty hF n cf' r h1
end DPgo
theorem dp_den_ty {md : Bool} {xs : Nat → Int32} {xl : Nat} {d j : Nat} {mi : dp_Mi} (hm : dp_mi j = some mi) {as : List Value} {M : dp_M} {r : dp_Res} (h : dp_den md xs xl d j as M = some r) : dp_typed (dp_rt mi) r.1 := by
  cases d with
  | zero => cases h
  | succ d =>
    unfold dp_den at h
    rw [hm] at h
    dsimp only at h
    split at h
    · obtain ⟨n, hn⟩ := (dp_lim_s (dp_den_grow d)).mp h
      exact dp_runs_ty (dp_den_grow d) n _ _ hn
    · cases h
section DPbk
variable {md : Bool} {xs : Nat → Int32} {xl : Nat} {d j : Nat} {mi mj : dp_Mi} {pc : Nat} {L : dp_L} {st rest : List Value} {M : dp_M} {i : Instr} {as : List Value}
theorem dp_si (hm : dp_mi j = some mj) (hh : dp_hh mi = []) (hr : dp_rt mj = some .int ∨ dp_rt mj = some .boolean) {K : Int32 → dp_M → Option dp_Res} (hf : dp_ins mi pc = some i) (he : ∀ k, dp_ex md xs xl (dp_den md xs xl d) mi i pc L st M k = dp_back mi pc L rest (dp_den md xs xl d j as M) k)
    (h : ∀ x M', dp_lim md xs xl (dp_den md xs xl d) mi (pc + 3, L, .int x :: rest, M') = K x M') : dp_lim md xs xl (dp_den md xs xl d) mi (pc, L, st, M) = dp_bi (dp_den md xs xl d j as M) K := by
  rw [dp_s (E := fun k => dp_back mi pc L rest (dp_den md xs xl d j as M) k) (dp_den_grow d) hf he]
  unfold dp_back dp_bi
  cases hq : dp_den md xs xl d j as M with
  | none => rfl
  | some r =>
    have ht := dp_den_ty hm hq
    obtain ⟨o, M'⟩ := r
    match o, ht with
    | .inr e, _ => simp only [hh]
    | .inl (some (.int x)), _ => exact h x M'
    | .inl none, ht => rcases hr with q | q <;> (rw [show dp_rt mj = none from ht] at q; cases q)
    | .inl (some (.long x)), ht => rcases hr with q | q <;> (rw [show dp_rt mj = some .long from ht] at q; cases q)
    | .inl (some (.ref x)), ht => rcases hr with q | q <;> (first | exact absurd q ht.2.1 | exact absurd q ht.2.2.1)
    | .inl (some .null), ht => rcases hr with q | q <;> (first | exact absurd q ht.2.1 | exact absurd q ht.2.2.1)
    | .inl (some (.float x)), ht => rcases hr with q | q <;> (first | exact absurd q ht.2.1 | exact absurd q ht.2.2.1)
    | .inl (some (.double x)), ht => rcases hr with q | q <;> (first | exact absurd q ht.2.1 | exact absurd q ht.2.2.1)
    | .inl (some (.retAddr x)), ht => rcases hr with q | q <;> (first | exact absurd q ht.2.1 | exact absurd q ht.2.2.1)
theorem dp_sl9 (hm : dp_mi j = some mj) (hh : dp_hh mi = []) (hr : dp_rt mj = some .long) {K : Int64 → dp_M → Option dp_Res} (hf : dp_ins mi pc = some i) (he : ∀ k, dp_ex md xs xl (dp_den md xs xl d) mi i pc L st M k = dp_back mi pc L rest (dp_den md xs xl d j as M) k)
    (h : ∀ x M', dp_lim md xs xl (dp_den md xs xl d) mi (pc + 3, L, .long x :: rest, M') = K x M') : dp_lim md xs xl (dp_den md xs xl d) mi (pc, L, st, M) = dp_bl (dp_den md xs xl d j as M) K := by
  rw [dp_s (E := fun k => dp_back mi pc L rest (dp_den md xs xl d j as M) k) (dp_den_grow d) hf he]
  unfold dp_back dp_bl
  cases hq : dp_den md xs xl d j as M with
  | none => rfl
  | some r =>
    have ht := dp_den_ty hm hq
    obtain ⟨o, M'⟩ := r
    match o, ht with
    | .inr e, _ => simp only [hh]
    | .inl (some (.long x)), _ => exact h x M'
    | .inl none, ht => rw [show dp_rt mj = none from ht] at hr; cases hr
    | .inl (some (.int x)), ht => rcases ht with q | q <;> (rw [q] at hr; cases hr)
    | .inl (some (.ref x)), ht => exact absurd hr ht.2.2.2
    | .inl (some .null), ht => exact absurd hr ht.2.2.2
    | .inl (some (.float x)), ht => exact absurd hr ht.2.2.2
    | .inl (some (.double x)), ht => exact absurd hr ht.2.2.2
    | .inl (some (.retAddr x)), ht => exact absurd hr ht.2.2.2
theorem dp_sv (hm : dp_mi j = some mj) (hh : dp_hh mi = []) (hr : dp_rt mj = none) {K : dp_M → Option dp_Res} (hf : dp_ins mi pc = some i) (he : ∀ k, dp_ex md xs xl (dp_den md xs xl d) mi i pc L st M k = dp_back mi pc L rest (dp_den md xs xl d j as M) k)
    (h : ∀ M', dp_lim md xs xl (dp_den md xs xl d) mi (pc + 3, L, rest, M') = K M') : dp_lim md xs xl (dp_den md xs xl d) mi (pc, L, st, M) = dp_bv (dp_den md xs xl d j as M) K := by
  rw [dp_s (E := fun k => dp_back mi pc L rest (dp_den md xs xl d j as M) k) (dp_den_grow d) hf he]
  unfold dp_back dp_bv
  cases hq : dp_den md xs xl d j as M with
  | none => rfl
  | some r =>
    have ht := dp_den_ty hm hq
    obtain ⟨o, M'⟩ := r
    match o, ht with
    | .inr e, _ => simp only [hh]
    | .inl none, _ => exact h M'
    | .inl (some (.long x)), ht => rw [show dp_rt mj = some .long from ht] at hr; cases hr
    | .inl (some (.int x)), ht => rcases ht with q | q <;> (rw [q] at hr; cases hr)
    | .inl (some (.ref x)), ht => exact absurd hr ht.1
    | .inl (some .null), ht => exact absurd hr ht.1
    | .inl (some (.float x)), ht => exact absurd hr ht.1
    | .inl (some (.double x)), ht => exact absurd hr ht.1
    | .inl (some (.retAddr x)), ht => exact absurd hr ht.1
end DPbk
/-! names inside an answer: a memory, an int, a long -/
def dp_w {α : Type} (e : α) (g : α → Option dp_Res) : Option dp_Res := g e
section DPw
variable {md : Bool} {xs : Nat → Int32} {xl : Nat} {F : dp_Phi} {mi : dp_Mi} {pc : Nat} {L : dp_L} {st : List Value} {M : dp_M} {i : Instr}
/-- an instruction whose answer gets a name -/
theorem dp_s1w {α : Type} (e : α) (C : α → dp_Cfg) {g : α → Option dp_Res} (hF : dp_grow F) (hf : dp_ins mi pc = some i) (he : ∀ k, dp_ex md xs xl F mi i pc L st M k = k (C e)) (h : ∀ x, dp_lim md xs xl F mi (C x) = g x) : dp_lim md xs xl F mi (pc, L, st, M) = dp_w e g := (dp_s (E := fun k => k (C e)) hF hf he).trans (h e)
theorem dp_s3w {α : Type} (e : α) (C : α → dp_Cfg) {c : Prop} [Decidable c] {g : α → Option dp_Res} (hF : dp_grow F) (hf : dp_ins mi pc = some i) (he : ∀ k, dp_ex md xs xl F mi i pc L st M k = if c then none else k (C e)) (h : ∀ x, dp_lim md xs xl F mi (C x) = g x) : dp_lim md xs xl F mi (pc, L, st, M) = if c then none else dp_w e g := by
  rw [dp_s (E := fun k => if c then none else k (C e)) hF hf he, h e]; rfl
/-- at a place that is not fixed -/
theorem dp_s4 {c : Prop} [Decidable c] {b : dp_Cfg} {B : Option dp_Res} (hF : dp_grow F) (hf : dp_ins mi pc = some i) (he : ∀ k, dp_ex md xs xl F mi i pc L st M k = if c then k b else none) (h2 : dp_lim md xs xl F mi b = B) : dp_lim md xs xl F mi (pc, L, st, M) = if c then B else none := by
  rw [dp_s (E := fun k => if c then k b else none) hF hf he, h2]
theorem dp_s6 {c c' : Prop} [Decidable c] [Decidable c'] {b : dp_Cfg} {B : Option dp_Res} (hF : dp_grow F) (hf : dp_ins mi pc = some i) (he : ∀ k, dp_ex md xs xl F mi i pc L st M k = if c' then (if c then none else k b) else none) (h2 : dp_lim md xs xl F mi b = B) : dp_lim md xs xl F mi (pc, L, st, M) = if c' then (if c then none else B) else none := by
  rw [dp_s (E := fun k => if c' then (if c then none else k b) else none) hF hf he, h2]
theorem dp_s6w {α : Type} (e : α) (C : α → dp_Cfg) {c c' : Prop} [Decidable c] [Decidable c'] {g : α → Option dp_Res} (hF : dp_grow F) (hf : dp_ins mi pc = some i) (he : ∀ k, dp_ex md xs xl F mi i pc L st M k = if c' then (if c then none else k (C e)) else none) (h : ∀ x, dp_lim md xs xl F mi (C x) = g x) : dp_lim md xs xl F mi (pc, L, st, M) = if c' then (if c then none else dp_w e g) else none := by
  rw [dp_s (E := fun k => if c' then (if c then none else k (C e)) else none) hF hf he, h e]; rfl
end DPw
