/-! THE DEEP LAYER (14): more rows of the pure walk: switches, references that are not fixed -/
theorem dp_ifc {c : Prop} [Decidable c] {a a' b b' : Option dp_Res} (h1 : a = a') (h2 : b = b') : (if c then a else b) = if c then a' else b' := by rw [h1, h2]
/-- null, or a place -/
def dp_o (x : Option Nat) (A : Option dp_Res) (B : Nat → Option dp_Res) : Option dp_Res := match x with
  | none => A
  | some p => B p
/-- a callee that answers null or a place -/
def dp_bo (r : Option dp_Res) (A : dp_M → Option dp_Res) (B : Nat → dp_M → Option dp_Res) : Option dp_Res := match r with
  | some (.inl (some .null), M') => A M'
  | some (.inl (some (.ref p)), M') => B p M'
  | some (.inr e, M') => some (.inr e, M')
  | _ => none
section DPo
variable {md : Bool} {xs : Nat → Int32} {xl : Nat} {F : dp_Phi} {mi : dp_Mi} {pc pc' : Nat} {L L' : dp_L} {st st' : List Value} {M M' : dp_M} {i : Instr}
theorem dp_s3o {x : Option Nat} {c : Prop} [Decidable c] {A : Option dp_Res} {B : Nat → Option dp_Res} (hF : dp_grow F) (hf : dp_ins mi pc = some i) (he : ∀ k, dp_ex md xs xl F mi i pc L st M k = if c then none else k (pc', L', dp_rv x :: st', M')) (h1 : dp_lim md xs xl F mi (pc', L', .null :: st', M') = A) (h2 : ∀ p, dp_lim md xs xl F mi (pc', L', .ref p :: st', M') = B p) : dp_lim md xs xl F mi (pc, L, st, M) = if c then none else dp_o x A B := by
  rw [dp_s (E := fun k => if c then none else k (pc', L', dp_rv x :: st', M')) hF hf he]
  congr 1
  cases x with
  | none => exact h1
  | some p => exact h2 p
theorem dp_s4o {x : Option Nat} {c : Prop} [Decidable c] {A : Option dp_Res} {B : Nat → Option dp_Res} (hF : dp_grow F) (hf : dp_ins mi pc = some i) (he : ∀ k, dp_ex md xs xl F mi i pc L st M k = if c then k (pc', L', dp_rv x :: st', M') else none) (h1 : dp_lim md xs xl F mi (pc', L', .null :: st', M') = A) (h2 : ∀ p, dp_lim md xs xl F mi (pc', L', .ref p :: st', M') = B p) : dp_lim md xs xl F mi (pc, L, st, M) = if c then dp_o x A B else none := by
  rw [dp_s (E := fun k => if c then k (pc', L', dp_rv x :: st', M') else none) hF hf he]
  congr 1
  cases x with
  | none => exact h1
  | some p => exact h2 p
end DPo
section DPbo
variable {md : Bool} {xs : Nat → Int32} {xl : Nat} {d j : Nat} {mi mj : dp_Mi} {pc : Nat} {L : dp_L} {st rest : List Value} {M : dp_M} {i : Instr} {as : List Value}
theorem dp_so (hm : dp_mi j = some mj) (hh : dp_hh mi = []) (hr : ∃ n, dp_rt mj = some (.object n)) {A : dp_M → Option dp_Res} {B : Nat → dp_M → Option dp_Res} (hf : dp_ins mi pc = some i) (he : ∀ k, dp_ex md xs xl (dp_den md xs xl d) mi i pc L st M k = dp_back mi pc L rest (dp_den md xs xl d j as M) k)
    (h1 : ∀ M', dp_lim md xs xl (dp_den md xs xl d) mi (pc + 3, L, .null :: rest, M') = A M') (h2 : ∀ p M', dp_lim md xs xl (dp_den md xs xl d) mi (pc + 3, L, .ref p :: rest, M') = B p M')
    (h3 : ∀ r, dp_den md xs xl d j as M = some r → (∃ e, r.1 = .inr e) ∨ r.1 = .inl (some .null) ∨ ∃ p, r.1 = .inl (some (.ref p))) : dp_lim md xs xl (dp_den md xs xl d) mi (pc, L, st, M) = dp_bo (dp_den md xs xl d j as M) A B := by
  rw [dp_s (E := fun k => dp_back mi pc L rest (dp_den md xs xl d j as M) k) (dp_den_grow d) hf he]
  unfold dp_back dp_bo
  cases hq : dp_den md xs xl d j as M with
  | none => rfl
  | some r =>
    obtain ⟨o, M'⟩ := r
    rcases h3 _ hq with ⟨e, h⟩ | h | ⟨p, h⟩ <;> (dsimp only at h; subst h)
    · simp only [hh]
    · exact h1 M'
    · exact h2 p M'
/-- calls under a condition (a receiver at a place that is not fixed) -/
theorem dp_si4 (hm : dp_mi j = some mj) (hh : dp_hh mi = []) (hr : dp_rt mj = some .int ∨ dp_rt mj = some .boolean) {c : Prop} [Decidable c] {K : Int32 → dp_M → Option dp_Res} (hf : dp_ins mi pc = some i) (he : ∀ k, dp_ex md xs xl (dp_den md xs xl d) mi i pc L st M k = if c then dp_back mi pc L rest (dp_den md xs xl d j as M) k else none)
    (h : ∀ x M', dp_lim md xs xl (dp_den md xs xl d) mi (pc + 3, L, .int x :: rest, M') = K x M') : dp_lim md xs xl (dp_den md xs xl d) mi (pc, L, st, M) = if c then dp_bi (dp_den md xs xl d j as M) K else none := by
  rw [dp_s (E := fun k => if c then dp_back mi pc L rest (dp_den md xs xl d j as M) k else none) (dp_den_grow d) hf he]
  congr 1
  unfold dp_back dp_bi
  cases hq : dp_den md xs xl d j as M with
  | none => rfl
  | some r =>
    have ht := dp_den_ty hm hq
    obtain ⟨o, M'⟩ := r
    match o, ht with
    | .inr e, _ => simp only [hh]
    | .inl (some (.int x)), _ => exact h x M'
    | .inl none, ht => rcases hr with q | q <;> (rw [show dp_rt mj = none from ht] at q; cases q)
    | .inl (some (.long x)), ht => rcases hr with q | q <;> (rw [show dp_rt mj = some .long from ht] at q; cases q)
    | .inl (some (.ref x)), ht => rcases hr with q | q <;> (first | exact absurd q ht.2.1 | exact absurd q ht.2.2.1)
    | .inl (some .null), ht => rcases hr with q | q <;> (first | exact absurd q ht.2.1 | exact absurd q ht.2.2.1)
    | .inl (some (.float x)), ht => rcases hr with q | q <;> (first | exact absurd q ht.2.1 | exact absurd q ht.2.2.1)
    | .inl (some (.double x)), ht => rcases hr with q | q <;> (first | exact absurd q ht.2.1 | exact absurd q ht.2.2.1)
    | .inl (some (.retAddr x)), ht => rcases hr with q | q <;> (first | exact absurd q ht.2.1 | exact absurd q ht.2.2.1)
theorem dp_sl4 (hm : dp_mi j = some mj) (hh : dp_hh mi = []) (hr : dp_rt mj = some .long) {c : Prop} [Decidable c] {K : Int64 → dp_M → Option dp_Res} (hf : dp_ins mi pc = some i) (he : ∀ k, dp_ex md xs xl (dp_den md xs xl d) mi i pc L st M k = if c then dp_back mi pc L rest (dp_den md xs xl d j as M) k else none)
    (h : ∀ x M', dp_lim md xs xl (dp_den md xs xl d) mi (pc + 3, L, .long x :: rest, M') = K x M') : dp_lim md xs xl (dp_den md xs xl d) mi (pc, L, st, M) = if c then dp_bl (dp_den md xs xl d j as M) K else none := by
  rw [dp_s (E := fun k => if c then dp_back mi pc L rest (dp_den md xs xl d j as M) k else none) (dp_den_grow d) hf he]
  congr 1
  unfold dp_back dp_bl
  cases hq : dp_den md xs xl d j as M with
  | none => rfl
  | some r =>
    have ht := dp_den_ty hm hq
    obtain ⟨o, M'⟩ := r
    match o, ht with
    | .inr e, _ => simp only [hh]
    | .inl (some (.long x)), _ => exact h x M'
    | .inl none, ht => rw [show dp_rt mj = none from ht] at hr; cases hr
    | .inl (some (.int x)), ht => rcases ht with q | q <;> (rw [q] at hr; cases hr)
    | .inl (some (.ref x)), ht => exact absurd hr ht.2.2.2
    | .inl (some .null), ht => exact absurd hr ht.2.2.2
    | .inl (some (.float x)), ht => exact absurd hr ht.2.2.2
    | .inl (some (.double x)), ht => exact absurd hr ht.2.2.2
    | .inl (some (.retAddr x)), ht => exact absurd hr ht.2.2.2
end DPbo
/-- an object's class answers an object: null or a place -/
theorem dp_end_ob {rt : Option FieldType} {i : Instr} {st : List Value} {M : dp_M} {r : dp_Res} {n : String} (hr : rt = some (.object n)) (h : dp_end rt i st M = some r) : r.1 = .inl (some .null) ∨ ∃ p, r.1 = .inl (some (.ref p)) := by
  subst hr
  unfold dp_end at h
  split at h
  all_goals first | (simp only [reduceCtorEq] at h; done) | skip
  · split at h
    · cases h
    · cases h
  · split at h
    · split at h
      · rename_i hq; cases hq
      · cases h
    · cases h
  · dsimp only at h
    split at h
    · cases h; exact Or.inr ⟨_, rfl⟩
    · cases h; exact Or.inl rfl
    · cases h
  · split at h
    · split at h
      · rename_i hq; cases hq
      · cases h
    · cases h
theorem dp_runs_ob {md : Bool} {xs : Nat → Int32} {xl : Nat} {F : dp_Phi} {mi : dp_Mi} {n0 : String} (hr : dp_rt mi = some (.object n0)) (hF : dp_grow F) : ∀ (n : Nat) (cf : dp_Cfg) (r : dp_Res), dp_runs md xs xl F mi n cf = some r → (∃ e, r.1 = .inr e) ∨ r.1 = .inl (some .null) ∨ ∃ p, r.1 = .inl (some (.ref p))
  | 0, cf, r, h => by cases h
  | n + 1, cf, r, h => by
    have h' : dp_stp md xs xl F mi cf (dp_runs md xs xl F mi n) = some r := h
    rcases dp_stp_f hF h' with ⟨-, -, h3⟩ | ⟨cf', h1, -, -, -⟩
    · have h4 := h3 (fun _ => none)
      unfold dp_stp at h4
      split at h4
      · unfold dp_ex at h4
        split at h4
        · split at h4 <;> cases h4
        · split at h4 <;> cases h4
        · split at h4 <;> cases h4
        · obtain ⟨_, _, q, -⟩ := dp_br_f h4; cases q
        · obtain ⟨_, q, -⟩ := dp_dv_f h4; cases q
        · obtain ⟨_, q, -⟩ := dp_ald_f h4; cases q
        · obtain ⟨_, _, q, -⟩ := dp_ast_f h4; cases q
        · obtain ⟨_, _, q, -⟩ := dp_fld_f h4; cases q
        · obtain ⟨_, _, q, -⟩ := dp_mk_f h4; cases q
        · split at h4 <;> cases h4
        · rcases dp_cal_f h4 with ⟨e9, M9, q, -⟩ | ⟨_, q, -⟩
          · exact Or.inl ⟨e9, by rw [q]⟩
          · cases q
        · exact Or.inr (dp_end_ob hr h4)
        · split at h4
          · split at h4
            · exact Or.inl (dp_thr_ty h4)
            · cases h4
          · cases h4
      · cases h4
    · exact dp_runs_ob hr hF n cf' r h1
theorem dp_den_ob {md : Bool} {xs : Nat → Int32} {xl : Nat} {d j : Nat} {mi : dp_Mi} {n : String} (hm : dp_mi j = some mi) (hr : dp_rt mi = some (.object n)) {as : List Value} {M : dp_M} {r : dp_Res} (h : dp_den md xs xl d j as M = some r) : (∃ e, r.1 = .inr e) ∨ r.1 = .inl (some .null) ∨ ∃ p, r.1 = .inl (some (.ref p)) := by
  cases d with
  | zero => cases h
  | succ d =>
    unfold dp_den at h
    rw [hm] at h
    dsimp only at h
    split at h
    · obtain ⟨n, hn⟩ := (dp_lim_s (dp_den_grow d)).mp h
      exact dp_runs_ob hr (dp_den_grow d) n _ _ hn
    · cases h
/-! calls in a body with handlers -/
def dp_ct (mi : dp_Mi) (pc e : Nat) (L : dp_L) (lim : dp_Cfg → Option dp_Res) (M' : dp_M) : Option dp_Res := match dp_hd mi pc e with
  | some (h, a) => if a < L.length then lim (h, dp_un L a, [], M') else none
  | none => none
theorem dp_ct_s {mi : dp_Mi} {pc e h a : Nat} {L : dp_L} {lim : dp_Cfg → Option dp_Res} {M' : dp_M} {A : Option dp_Res} (h1 : dp_hd mi pc e = some (h, a)) (h2 : a < L.length) (h3 : lim (h, dp_un L a, [], M') = A) : dp_ct mi pc e L lim M' = A := by
  unfold dp_ct; rw [h1]; dsimp only; rw [if_pos h2, h3]
theorem dp_ct_n {mi : dp_Mi} {pc e : Nat} {L : dp_L} {lim : dp_Cfg → Option dp_Res} {M' : dp_M} (h1 : dp_hd mi pc e = none) : dp_ct mi pc e L lim M' = none := by
  unfold dp_ct; rw [h1]
/-- the ways of a call that may throw one of four -/
def dp_x4 (e : Nat) (a b c d : Option dp_Res) : Option dp_Res := match e with
  | 0 => a
  | 1 => b
  | 2 => c
  | 3 => d
  | _ => none
def dp_ti (r : Option dp_Res) (k : Int32 → dp_M → Option dp_Res) (X : Nat → dp_M → Option dp_Res) : Option dp_Res := match r with
  | some (.inl (some (.int x)), M') => k x M'
  | some (.inr e, M') => X e M'
  | _ => none
def dp_tl (r : Option dp_Res) (k : Int64 → dp_M → Option dp_Res) (X : Nat → dp_M → Option dp_Res) : Option dp_Res := match r with
  | some (.inl (some (.long x)), M') => k x M'
  | some (.inr e, M') => X e M'
  | _ => none
theorem dp_ct_ge {mi : dp_Mi} {pc e : Nat} {L : dp_L} {lim : dp_Cfg → Option dp_Res} {M' : dp_M} (h : 4 ≤ e) : dp_ct mi pc e L lim M' = none := by
  refine dp_ct_n ?_
  unfold dp_hd
  rw [if_neg (fun q => by have := q.1; omega)]
theorem dp_ct4 {mi : dp_Mi} {pc : Nat} {L : dp_L} {lim : dp_Cfg → Option dp_Res} {a b c d : dp_M → Option dp_Res} (h0 : ∀ M', dp_ct mi pc 0 L lim M' = a M') (h1 : ∀ M', dp_ct mi pc 1 L lim M' = b M') (h2 : ∀ M', dp_ct mi pc 2 L lim M' = c M') (h3 : ∀ M', dp_ct mi pc 3 L lim M' = d M') : ∀ e M', dp_ct mi pc e L lim M' = dp_x4 e (a M') (b M') (c M') (d M')
  | 0, M' => h0 M'
  | 1, M' => h1 M'
  | 2, M' => h2 M'
  | 3, M' => h3 M'
  | e + 4, M' => dp_ct_ge (by omega)
section DPci
variable {md : Bool} {xs : Nat → Int32} {xl : Nat} {d j : Nat} {mi mj : dp_Mi} {pc : Nat} {L : dp_L} {st rest : List Value} {M : dp_M} {i : Instr} {as : List Value}
theorem dp_ci9 (hm : dp_mi j = some mj) (hh : ∃ q t, dp_hh mi = q :: t) (hr : dp_rt mj = some .int ∨ dp_rt mj = some .boolean) {K : Int32 → dp_M → Option dp_Res} {X : Nat → dp_M → Option dp_Res} (hf : dp_ins mi pc = some i) (he : ∀ k, dp_ex md xs xl (dp_den md xs xl d) mi i pc L st M k = dp_back mi pc L rest (dp_den md xs xl d j as M) k)
    (h : ∀ x M', dp_lim md xs xl (dp_den md xs xl d) mi (pc + 3, L, .int x :: rest, M') = K x M') (hX : ∀ e M', dp_ct mi pc e L (dp_lim md xs xl (dp_den md xs xl d) mi) M' = X e M') : dp_lim md xs xl (dp_den md xs xl d) mi (pc, L, st, M) = dp_ti (dp_den md xs xl d j as M) K X := by
  obtain ⟨q9, t9, hh⟩ := hh
  rw [dp_s (E := fun k => dp_back mi pc L rest (dp_den md xs xl d j as M) k) (dp_den_grow d) hf he]
  unfold dp_back dp_ti
  cases hq : dp_den md xs xl d j as M with
  | none => rfl
  | some r =>
    have ht := dp_den_ty hm hq
    obtain ⟨o, M'⟩ := r
    match o, ht with
    | .inr e, _ => simp only [hh]; exact hX e M'
    | .inl (some (.int x)), _ => exact h x M'
    | .inl none, ht => rcases hr with q | q <;> (rw [show dp_rt mj = none from ht] at q; cases q)
    | .inl (some (.long x)), ht => rcases hr with q | q <;> (rw [show dp_rt mj = some .long from ht] at q; cases q)
    | .inl (some (.ref x)), ht => rcases hr with q | q <;> (first | exact absurd q ht.2.1 | exact absurd q ht.2.2.1)
    | .inl (some .null), ht => rcases hr with q | q <;> (first | exact absurd q ht.2.1 | exact absurd q ht.2.2.1)
    | .inl (some (.float x)), ht => rcases hr with q | q <;> (first | exact absurd q ht.2.1 | exact absurd q ht.2.2.1)
    | .inl (some (.double x)), ht => rcases hr with q | q <;> (first | exact absurd q ht.2.1 | exact absurd q ht.2.2.1)
    | .inl (some (.retAddr x)), ht => rcases hr with q | q <;> (first | exact absurd q ht.2.1 | exact absurd q ht.2.2.1)
theorem dp_cl9 (hm : dp_mi j = some mj) (hh : ∃ q t, dp_hh mi = q :: t) (hr : dp_rt mj = some .long) {K : Int64 → dp_M → Option dp_Res} {X : Nat → dp_M → Option dp_Res} (hf : dp_ins mi pc = some i) (he : ∀ k, dp_ex md xs xl (dp_den md xs xl d) mi i pc L st M k = dp_back mi pc L rest (dp_den md xs xl d j as M) k)
    (h : ∀ x M', dp_lim md xs xl (dp_den md xs xl d) mi (pc + 3, L, .long x :: rest, M') = K x M') (hX : ∀ e M', dp_ct mi pc e L (dp_lim md xs xl (dp_den md xs xl d) mi) M' = X e M') : dp_lim md xs xl (dp_den md xs xl d) mi (pc, L, st, M) = dp_tl (dp_den md xs xl d j as M) K X := by
  obtain ⟨q9, t9, hh⟩ := hh
  rw [dp_s (E := fun k => dp_back mi pc L rest (dp_den md xs xl d j as M) k) (dp_den_grow d) hf he]
  unfold dp_back dp_tl
  cases hq : dp_den md xs xl d j as M with
  | none => rfl
  | some r =>
    have ht := dp_den_ty hm hq
    obtain ⟨o, M'⟩ := r
    match o, ht with
    | .inr e, _ => simp only [hh]; exact hX e M'
    | .inl (some (.long x)), _ => exact h x M'
    | .inl none, ht => rw [show dp_rt mj = none from ht] at hr; cases hr
    | .inl (some (.int x)), ht => rcases ht with q | q <;> (rw [q] at hr; cases hr)
    | .inl (some (.ref x)), ht => exact absurd hr ht.2.2.2
    | .inl (some .null), ht => exact absurd hr ht.2.2.2
    | .inl (some (.float x)), ht => exact absurd hr ht.2.2.2
    | .inl (some (.double x)), ht => exact absurd hr ht.2.2.2
    | .inl (some (.retAddr x)), ht => exact absurd hr ht.2.2.2
end DPci
