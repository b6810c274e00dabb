/-! THE DEEP LAYER (6): one step, runs, what a method answers -/
abbrev dp_Out : Type := Option Value ⊕ Nat
abbrev dp_Res : Type := dp_Out × dp_M
abbrev dp_Cfg : Type := Nat × dp_L × List Value × dp_M
abbrev dp_Phi : Type := Nat → List Value → dp_M → Option dp_Res
abbrev dp_own1 (mi : dp_Mi) : Nat := mi.2.1.1
abbrev dp_kind (mi : dp_Mi) : Nat := mi.2.1.2.1
abbrev dp_na (mi : dp_Mi) : Nat := mi.2.1.2.2.1
abbrev dp_ci (mi : dp_Mi) : Nat := mi.2.1.2.2.2
abbrev dp_ins (mi : dp_Mi) : Nat → Option Instr := mi.2.2.1
abbrev dp_hh (mi : dp_Mi) : List (Nat × Nat × Nat × Nat) := mi.2.2.2
abbrev dp_y (mi : dp_Mi) : MethodName := mi.1.1
abbrev dp_bytes (mi : dp_Mi) : ByteArray := mi.1.2.1
abbrev dp_maxL (mi : dp_Mi) : Nat := mi.1.2.2.1
abbrev dp_rt (mi : dp_Mi) : Option FieldType := mi.1.2.2.2
/-- n values off the stack, in the order of the parameters -/
def dp_tk : Nat → List Value → List Value → Option (List Value × List Value)
  | 0, as, st => some (as, st)
  | n + 1, as, v :: st => dp_tk n (v :: as) st
  | _ + 1, _, [] => none
/-- a constructor's answer -/
def dp_back0 (pc : Nat) (L : dp_L) (rest : List Value) (r : Option dp_Res) (k : dp_Cfg → Option dp_Res) : Option dp_Res := match r with
  | some (.inl v, M') => k (pc + 3, L, v.toList ++ rest, M')
  | _ => none
/-- the exception that a catch type of the law names -/
def dp_hx (ct : Nat) : Nat := if ct = 13 then 0 else if ct = 15 then 1 else if ct = 25 then 2 else if ct = 117 then 3 else 4
def dp_hf (pc e : Nat) : List (Nat × Nat × Nat × Nat) → Option Nat
  | [] => none
  | q :: t => if q.1 ≤ pc ∧ pc < q.2.1 then (if dp_hx q.2.2.2 = e then some q.2.2.1 else if dp_hx q.2.2.2 < 4 then dp_hf pc e t else none) else dp_hf pc e t
/-- where a thrown e is caught: behind the handler's first store; and the local that the store fills -/
def dp_hd (mi : dp_Mi) (pc e : Nat) : Option (Nat × Nat) := if e < 4 ∧ dp_own1 mi = 13 then (match dp_hf pc e (dp_hh mi) with
  | some h => (match dp_ins mi h with
    | some (.astore_n a) => some (h + 1, a.val)
    | some (.astore a) => some (h + 2, a)
    | _ => none)
  | none => none) else none
def dp_un (L : dp_L) (k : Nat) : dp_L := dp_cut L k (L.set k none)
/-- a callee's answer: on behind the call; thrown: out, or into the handler -/
def dp_back (mi : dp_Mi) (pc : Nat) (L : dp_L) (rest : List Value) (r : Option dp_Res) (k : dp_Cfg → Option dp_Res) : Option dp_Res := match r with
  | some (.inl v, M') => k (pc + 3, L, v.toList ++ rest, M')
  | some (.inr e, M') => (match dp_hh mi with
    | [] => some (.inr e, M')
    | _ :: _ => (match dp_hd mi pc e with
      | some (h, a) => if a < L.length then k (h, dp_un L a, [], M') else none
      | none => none))
  | none => none
/-- max, min of ints, max, min, abs of longs -/
def dp_hin {α : Type} (h : Nat) (st : List Value) (k : List Value → Option α) : Option α := match h, st with
  | 0, .int y :: .int x :: r => if (r.map fun v => v.category).sum ≤ 8 then k (.int (if x < y then y else x) :: r) else none
  | 1, .int y :: .int x :: r => if (r.map fun v => v.category).sum ≤ 8 then k (.int (if y < x then y else x) :: r) else none
  | 2, .long y :: .long x :: r => if (r.map fun v => v.category).sum ≤ 8 then k (.long (if y < x then x else y) :: r) else none
  | 3, .long y :: .long x :: r => if (r.map fun v => v.category).sum ≤ 8 then k (.long (if y < x then y else x) :: r) else none
  | 4, .long x :: r => if (r.map fun v => v.category).sum ≤ 8 then k (.long (if 0 < x then x else -x) :: r) else none
  | _, _ => none
theorem dp_hin_f {α : Type} {h : Nat} {st : List Value} {k : List Value → Option α} {r : α} (hh : dp_hin h st k = some r) : ∃ st', k st' = some r ∧ ∀ k' : List Value → Option α, dp_hin h st k' = k' st' := by
  unfold dp_hin at hh
  split at hh
  all_goals first | (simp only [reduceCtorEq] at hh; done) | skip
  all_goals
    split at hh
    · rename_i hs
      exact ⟨_, hh, fun k' => by simp only [dp_hin, if_pos hs]⟩
    · cases hh
/-! members of the JDK that are no rows of the table: floorMod, a literal's length and signs, arraycopy, copyOf -/
def dp_lkE (o i : Nat) : Nat := if o = 1 then (if i = 135 then 1 else 0) else if o = 5 then (if i = 69 then 4 else 0) else if o = 7 then (if i = 156 then 4 else if i = 165 then 6 else 0) else if o = 9 then (if i = 127 then 4 else 0) else 0
def dp_lkV (o i : Nat) : Nat := if o = 7 then (if i = 125 then 2 else if i = 130 then 3 else 0) else 0
def dp_fm (x y : Int32) : Int32 := if (x - x / y * y ^^^ y) < 0 then (if x - x / y * y = 0 then x - x / y * y else x - x / y * y + y) else x - x / y * y
def dp_sc (j : Nat) : List Int32 := match j with
  | 22 => [102, 114, 101, 101]
  | 23 => [109, 105, 110]
  | 24 => [109, 97, 120]
  | 25 => [115, 116, 101, 112]
  | 28 => [115, 116, 101, 112, 40]
  | 29 => [32]
  | 30 => [44, 32]
  | 31 => [109, 105, 110, 40]
  | 32 => [109, 97, 120, 40]
  | _ => []
def dp_cpI (M : dp_M) (s p d q n : Nat) : dp_M := (fun k i => if k = d ∧ q ≤ i ∧ i < q + n then dp_I M s (p + (i - q)) else dp_I M k i, M.2)
def dp_cpJ (M : dp_M) (s p d q n : Nat) : dp_M := (M.1, (fun k i => if k = d ∧ q ≤ i ∧ i < q + n then dp_J M s (p + (i - q)) else dp_J M k i), M.2.2)
def dp_xt {α : Type} (md : Bool) (t : Nat) (st : List Value) (M : dp_M) (k : List Value → dp_M → Option α) : Option α := match t with
  | 1 => (match st with
    | .int y :: .int x :: r => if (r.map fun v => v.category).sum ≤ 8 then (if y = 0 then none else k (.int (dp_fm x y) :: r) M) else none
    | _ => none)
  | 2 => (match st with
    | .retAddr j :: r => if (r.map fun v => v.category).sum ≤ 8 then (if dp_sc j = [] then none else k (.int (Int32.ofNat (dp_sc j).length) :: r) M) else none
    | _ => none)
  | 3 => (match st with
    | .int i :: .retAddr j :: r => if (r.map fun v => v.category).sum ≤ 8 then (if i < 0 ∨ (dp_sc j).length ≤ i.toNatClampNeg then none else k (.int ((dp_sc j).getD i.toNatClampNeg 0) :: r) M) else none
    | _ => none)
  | 4 => (match st with
    | .int n :: .int q :: .ref d :: .int p :: .ref s :: r => if (r.map fun v => v.category).sum ≤ 8 then (if n < 0 ∨ q < 0 ∨ p < 0 ∨ dp_ln md M s < p.toNatClampNeg + n.toNatClampNeg ∨ dp_ln md M d < q.toNatClampNeg + n.toNatClampNeg ∨ s = d then none else
      (match dp_t md M s, dp_t md M d with
      | 1, 1 => k r (dp_cpI M s p.toNatClampNeg d q.toNatClampNeg n.toNatClampNeg)
      | 2, 2 => k r (dp_cpJ M s p.toNatClampNeg d q.toNatClampNeg n.toNatClampNeg)
      | _, _ => none)) else none
    | _ => none)
  | 6 => (match st with
    | .int n :: .ref s :: r => if (r.map fun v => v.category).sum ≤ 8 then (if n < 0 ∨ 1000000 ≤ n.toNatClampNeg ∨ 1000000 ≤ dp_ln md M s then none else
      (match dp_t md M s with
      | 1 => dp_nk M 1 (k (.ref (dp_n M) :: r) (dp_cpI (dp_new M n.toNatClampNeg 1 n.toNatClampNeg) s 0 (dp_n M) 0 (min n.toNatClampNeg (dp_ln md M s))))
      | _ => none)) else none
    | _ => none)
  | _ => none
def dp_cal (md : Bool) (F : dp_Phi) (mi : dp_Mi) (o pc : Nat) (L : dp_L) (i : Instr) (st : List Value) (M : dp_M) (k : dp_Cfg → Option dp_Res) : Option dp_Res := match i with
  | .invokestatic ix => (match dp_lkH o ix with
    | some h => dp_hin h st (fun st' => k (pc + 3, L, st', M))
    | none => (match dp_lkM o ix with
      | some j => (match dp_mi j with
        | some mj => if dp_kind mj = 0 ∨ dp_kind mj = 3 then (match dp_tk (dp_na mj) [] st with
          | some (as, rest) => if (rest.map fun v => v.category).sum ≤ 8 then dp_back mi pc L rest (F j as M) k else none
          | none => none) else none
        | none => none)
      | none => dp_xt md (dp_lkE o ix) st M (fun st' M' => k (pc + 3, L, st', M'))))
  | .invokevirtual ix => (match dp_lkM o ix with
    | some j => (match dp_mi j with
      | some mj => if dp_kind mj = 1 then (match dp_tk (dp_na mj) [] st with
        | some (as, .ref a :: rest) => if dp_t md M a = dp_ci mj + 10 then (if (rest.map fun v => v.category).sum ≤ 8 then dp_back mi pc L rest (F j (.ref a :: as) M) k else none) else none
        | _ => none) else none
      | none => none)
    | none => dp_xt md (dp_lkV o ix) st M (fun st' M' => k (pc + 3, L, st', M')))
  | .invokespecial ix => if dp_lkO o ix = true then (match st with
      | .ref _ :: rest => if (rest.map fun v => v.category).sum ≤ 8 then k (pc + 3, L, rest, M) else none
      | _ => none) else (match dp_lkM o ix with
    | some j => (match dp_mi j with
      | some mj => if dp_kind mj = 2 then (match dp_tk (dp_na mj) [] st with
        | some (as, .ref a :: rest) => if (rest.map fun v => v.category).sum ≤ 8 then dp_back0 pc L rest (F j (.ref a :: as) M) k else none
        | _ => none) else none
      | none => none)
    | none => none)
  | _ => none
def dp_end (rt : Option FieldType) (i : Instr) (st : List Value) (M : dp_M) : Option dp_Res := match i with
  | .ireturn => (match st with
    | [.int v] => (match rt with
      | some .int => some (.inl (some (.int v)), M)
      | some .boolean => if v = 0 ∨ v = 1 then some (.inl (some (.int v)), M) else none
      | _ => none)
    | _ => none)
  | .lreturn => (match st with
    | [.long v] => if rt = some .long then some (.inl (some (.long v)), M) else none
    | _ => none)
  | .areturn => (match rt with
    | some (.object _) => (match st with
      | [.ref a] => some (.inl (some (.ref a)), M)
      | [.null] => some (.inl (some .null), M)
      | _ => none)
    | some (.array _) => (match st with
      | [.ref a] => some (.inl (some (.ref a)), M)
      | [.null] => some (.inl (some .null), M)
      | _ => none)
    | _ => none)
  | .return_ => (match st with
    | [] => if rt = none then some (.inl none, M) else none
    | _ => none)
  | _ => none
/-- 'throw new E("text")' at pc -/
def dp_thr (mi : dp_Mi) (pc ik : Nat) (st : List Value) (M : dp_M) : Option dp_Res := match dp_ins mi (pc + 3), dp_ins mi (pc + 4) with
  | some .dup, some (.ldc is) => (match dp_ins mi (pc + 6), dp_ins mi (pc + 9) with
    | some (.invokespecial ic), some .athrow => (match dp_lkX (dp_own1 mi) ik is ic with
      | some e => if (st.map fun v => v.category).sum ≤ 8 then dp_nk M 0 (some (.inr e, dp_new M 0 0 6)) else none
      | none => none)
    | _, _ => none)
  | some .dup, some (.ldc_w is) => (match dp_ins mi (pc + 7), dp_ins mi (pc + 10) with
    | some (.invokespecial ic), some .athrow => (match dp_lkX (dp_own1 mi) ik is ic with
      | some e => if (st.map fun v => v.category).sum ≤ 8 then dp_nk M 0 (some (.inr e, dp_new M 0 0 6)) else none
      | none => none)
    | _, _ => none)
  | _, _ => none
/-- the group of an instruction -/
def dp_gr (o : Nat) (i : Instr) : Nat := match i with
  | .iload _ => 1 | .iload_n _ => 1 | .lload _ => 1 | .lload_n _ => 1 | .aload _ => 1 | .aload_n _ => 1
  | .istore _ => 2 | .istore_n _ => 2 | .lstore _ => 2 | .lstore_n _ => 2 | .astore _ => 2 | .astore_n _ => 2 | .iinc _ _ => 2
  | .goto _ => 3 | .ifCond _ _ => 3 | .if_icmp _ _ => 3 | .ifnull _ => 3 | .ifnonnull _ => 3 | .tableswitch _ _ _ _ => 3 | .lookupswitch _ _ => 3
  | .idiv => 4 | .irem => 4 | .ldiv => 4 | .lrem => 4
  | .iaload => 5 | .laload => 5 | .baload => 5 | .caload => 5 | .aaload => 5 | .arraylength => 5
  | .iastore => 6 | .lastore => 6 | .bastore => 6 | .castore => 6 | .aastore => 6
  | .getfield _ => 7 | .putfield _ => 7
  | .newarray _ => 8 | .anewarray _ => 8 | .new ix => if (dp_lkN o ix).isSome then 8 else 12
  | .ldc _ => 9 | .ldc_w _ => 9 | .ldc2_w _ => 9
  | .invokestatic _ => 10 | .invokevirtual _ => 10 | .invokespecial _ => 10
  | .ireturn => 11 | .lreturn => 11 | .areturn => 11 | .return_ => 11
  | _ => 0
def dp_ex (md : Bool) (xs : Nat → Int32) (xl : Nat) (F : dp_Phi) (mi : dp_Mi) (i : Instr) (pc : Nat) (L : dp_L) (st : List Value) (M : dp_M) (k : dp_Cfg → Option dp_Res) : Option dp_Res := match dp_gr (dp_own1 mi) i with
  | 0 => (match dp_pure i st with
    | some st' => k (pc + dp_il i, L, st', M)
    | none => none)
  | 1 => (match dp_ld i L with
    | some v => k (pc + dp_il i, L, v :: st, M)
    | none => none)
  | 2 => (match dp_sto i L st with
    | some (L', st') => k (pc + dp_il i, L', st', M)
    | none => none)
  | 3 => dp_br i pc st (fun pc' st' => k (pc', L, st', M))
  | 4 => dp_dv i st (fun st' => k (pc + dp_il i, L, st', M))
  | 5 => dp_ald md xs xl i st M (fun st' => k (pc + dp_il i, L, st', M))
  | 6 => dp_ast md i st M (fun st' M' => k (pc + dp_il i, L, st', M'))
  | 7 => dp_fld md (dp_own1 mi) (dp_kind mi == 2) i st M (fun st' M' => k (pc + dp_il i, L, st', M'))
  | 8 => dp_mk (dp_own1 mi) i st M (fun st' M' => k (pc + dp_il i, L, st', M'))
  | 9 => (match dp_cst (dp_own1 mi) i with
    | some v => k (pc + dp_il i, L, v :: st, M)
    | none => none)
  | 10 => dp_cal md F mi (dp_own1 mi) pc L i st M k
  | 11 => dp_end (dp_rt mi) i st M
  | _ => (match i with
    | .new ik => (match dp_hh mi with
      | [] => dp_thr mi pc ik st M
      | _ :: _ => none)
    | _ => none)
def dp_stp (md : Bool) (xs : Nat → Int32) (xl : Nat) (F : dp_Phi) (mi : dp_Mi) (cf : dp_Cfg) (k : dp_Cfg → Option dp_Res) : Option dp_Res := match dp_ins mi cf.1 with
  | some i => dp_ex md xs xl F mi i cf.1 cf.2.1 cf.2.2.1 cf.2.2.2 k
  | none => none
def dp_runs (md : Bool) (xs : Nat → Int32) (xl : Nat) (F : dp_Phi) (mi : dp_Mi) : Nat → dp_Cfg → Option dp_Res
  | 0, _ => none
  | n + 1, cf => dp_stp md xs xl F mi cf (dp_runs md xs xl F mi n)
/-- where the run comes to, if it ends -/
noncomputable def dp_lim (md : Bool) (xs : Nat → Int32) (xl : Nat) (F : dp_Phi) (mi : dp_Mi) (cf : dp_Cfg) : Option dp_Res :=
  haveI := Classical.propDecidable (∃ (r : dp_Res) (n : Nat), dp_runs md xs xl F mi n cf = some r)
  if h : ∃ (r : dp_Res) (n : Nat), dp_runs md xs xl F mi n cf = some r then some (Classical.choose h) else none
/-- the locals of a call: a long takes two -/
def dp_entL : List Value → dp_L
  | [] => []
  | v :: r => if v.category = 2 then some v :: none :: dp_entL r else some v :: dp_entL r
def dp_ent (mi : dp_Mi) (as : List Value) (M : dp_M) : dp_Cfg := (0, dp_entL as ++ List.replicate (dp_maxL mi - (dp_entL as).length) none, [], M)
/-- what method j answers, with d frames at most -/
noncomputable def dp_den (md : Bool) (xs : Nat → Int32) (xl : Nat) : Nat → dp_Phi
  | 0 => fun _ _ _ => none
  | d + 1 => fun j as M => match dp_mi j with
    | some mi => if (dp_entL as).length ≤ dp_maxL mi then dp_lim md xs xl (dp_den md xs xl d) mi (dp_ent mi as M) else none
    | none => none
/-! a step goes to one configuration, or ends -/
theorem dp_to_f {α : Type} {pc : Nat} {off : Int} {k : Nat → Option α} {r : α} (h : dp_to pc off k = some r) : ∃ t : Nat, k t = some r ∧ ∀ k' : Nat → Option α, dp_to pc off k' = k' t := by
  unfold dp_to at h
  split at h
  · rename_i t ht; exact ⟨t, h, fun k' => by unfold dp_to; rw [ht]⟩
  · cases h
theorem dp_cnd_f {α : Type} {cd : Jvm.ClassFile.Cond} {x y : Int32} {a b : α} : (dp_cnd cd x y a b = a ∧ ∀ {β : Type} (a' b' : β), dp_cnd cd x y a' b' = a') ∨ (dp_cnd cd x y a b = b ∧ ∀ {β : Type} (a' b' : β), dp_cnd cd x y a' b' = b') := by
  cases cd <;> simp only [dp_cnd]
  · by_cases h : x = y
    · exact Or.inl ⟨if_pos h, fun _ _ => if_pos h⟩
    · exact Or.inr ⟨if_neg h, fun _ _ => if_neg h⟩
  · by_cases h : x = y
    · exact Or.inr ⟨if_pos h, fun _ _ => if_pos h⟩
    · exact Or.inl ⟨if_neg h, fun _ _ => if_neg h⟩
  · by_cases h : x < y
    · exact Or.inl ⟨if_pos h, fun _ _ => if_pos h⟩
    · exact Or.inr ⟨if_neg h, fun _ _ => if_neg h⟩
  · by_cases h : y ≤ x
    · exact Or.inl ⟨if_pos h, fun _ _ => if_pos h⟩
    · exact Or.inr ⟨if_neg h, fun _ _ => if_neg h⟩
  · by_cases h : y < x
    · exact Or.inl ⟨if_pos h, fun _ _ => if_pos h⟩
    · exact Or.inr ⟨if_neg h, fun _ _ => if_neg h⟩
  · by_cases h : x ≤ y
    · exact Or.inl ⟨if_pos h, fun _ _ => if_pos h⟩
    · exact Or.inr ⟨if_neg h, fun _ _ => if_neg h⟩
/-- a switch takes one of its ways -/
theorem dp_sw_f {x : Int32} : ∀ (os : List Int) (lo : Nat), (∃ o, ∀ {α : Type} (f : Int → α) (d : α), dp_sw x f d lo os = f o) ∨ (∀ {α : Type} (f : Int → α) (d : α), dp_sw x f d lo os = d)
  | [], lo => Or.inr (fun f d => rfl)
  | o :: os, lo => by
    by_cases h : x = nI lo
    · exact Or.inl ⟨o, fun f d => by unfold dp_sw; rw [if_pos h]⟩
    · rcases dp_sw_f os (lo + 1) with ⟨o', ho⟩ | hd
      · exact Or.inl ⟨o', fun f d => by unfold dp_sw; rw [if_neg h]; exact ho f d⟩
      · exact Or.inr (fun f d => by unfold dp_sw; rw [if_neg h]; exact hd f d)
theorem dp_lsw_f {x : Int32} : ∀ (os : List (Int × Int)), (∃ o, ∀ {α : Type} (f : Int → α) (d : α), dp_lsw x f d os = f o) ∨ (∀ {α : Type} (f : Int → α) (d : α), dp_lsw x f d os = d)
  | [] => Or.inr (fun f d => rfl)
  | (a, o) :: os => by
    by_cases h : x = Int32.ofInt a
    · exact Or.inl ⟨o, fun f d => by unfold dp_lsw; rw [if_pos h]⟩
    · rcases dp_lsw_f os with ⟨o', ho⟩ | hd
      · exact Or.inl ⟨o', fun f d => by unfold dp_lsw; rw [if_neg h]; exact ho f d⟩
      · exact Or.inr (fun f d => by unfold dp_lsw; rw [if_neg h]; exact hd f d)
theorem dp_br_f {α : Type} {i : Instr} {pc : Nat} {st : List Value} {k : Nat → List Value → Option α} {r : α} (h : dp_br i pc st k = some r) : ∃ pc' st', k pc' st' = some r ∧ ∀ k' : Nat → List Value → Option α, dp_br i pc st k' = k' pc' st' := by
  unfold dp_br at h
  split at h
  all_goals first | (simp only [reduceCtorEq] at h; done) | skip
  · obtain ⟨t, h1, h2⟩ := dp_to_f h
    exact ⟨t, _, h1, fun k' => by simp only [dp_br]; exact h2 (fun t => k' t _)⟩
  · split at h
    · obtain ⟨t, h1, h2⟩ := dp_to_f h
      rename_i cd off _ x r0
      rcases dp_cnd_f (cd := cd) (x := x) (y := 0) (a := k t r0) (b := k (pc + 3) r0) with ⟨e1, e2⟩ | ⟨e1, e2⟩
      · rw [e1] at h1
        exact ⟨t, r0, h1, fun k' => by simp only [dp_br]; exact (h2 (fun t => dp_cnd cd x 0 (k' t r0) (k' (pc + 3) r0))).trans (e2 _ _)⟩
      · rw [e1] at h1
        exact ⟨pc + 3, r0, h1, fun k' => by simp only [dp_br]; exact (h2 (fun t => dp_cnd cd x 0 (k' t r0) (k' (pc + 3) r0))).trans (e2 _ _)⟩
    · cases h
  · split at h
    · obtain ⟨t, h1, h2⟩ := dp_to_f h
      rename_i cd off _ y x r0
      rcases dp_cnd_f (cd := cd) (x := x) (y := y) (a := k t r0) (b := k (pc + 3) r0) with ⟨e1, e2⟩ | ⟨e1, e2⟩
      · rw [e1] at h1
        exact ⟨t, r0, h1, fun k' => by simp only [dp_br]; exact (h2 (fun t => dp_cnd cd x y (k' t r0) (k' (pc + 3) r0))).trans (e2 _ _)⟩
      · rw [e1] at h1
        exact ⟨pc + 3, r0, h1, fun k' => by simp only [dp_br]; exact (h2 (fun t => dp_cnd cd x y (k' t r0) (k' (pc + 3) r0))).trans (e2 _ _)⟩
    · cases h
  · split at h
    · obtain ⟨t, h1, h2⟩ := dp_to_f h
      exact ⟨t, _, h1, fun k' => by simp only [dp_br]; exact h2 (fun t => k' t _)⟩
    · exact ⟨_, _, h, fun k' => by simp only [dp_br]⟩
    · cases h
  · split at h
    · exact ⟨_, _, h, fun k' => by simp only [dp_br]⟩
    · obtain ⟨t, h1, h2⟩ := dp_to_f h
      exact ⟨t, _, h1, fun k' => by simp only [dp_br]; exact h2 (fun t => k' t _)⟩
    · cases h
  · split at h
    · rename_i d hi offs _ _ x r0 lo
      split at h
      · rename_i hc
        rcases dp_sw_f (x := x) offs.toList lo with ⟨o', ho⟩ | hd
        · rw [ho] at h
          obtain ⟨t, h1, h2⟩ := dp_to_f h
          exact ⟨t, r0, h1, fun k' => by simp only [dp_br, if_pos hc]; rw [ho]; exact h2 (fun t => k' t r0)⟩
        · rw [hd] at h
          obtain ⟨t, h1, h2⟩ := dp_to_f h
          exact ⟨t, r0, h1, fun k' => by simp only [dp_br, if_pos hc]; rw [hd]; exact h2 (fun t => k' t r0)⟩
      · cases h
    · cases h
  · split at h
    · rename_i d ps _ x r0
      split at h
      · rename_i hc
        rcases dp_lsw_f (x := x) ps.toList with ⟨o', ho⟩ | hd
        · rw [ho] at h
          obtain ⟨t, h1, h2⟩ := dp_to_f h
          exact ⟨t, r0, h1, fun k' => by simp only [dp_br, if_pos hc]; rw [ho]; exact h2 (fun t => k' t r0)⟩
        · rw [hd] at h
          obtain ⟨t, h1, h2⟩ := dp_to_f h
          exact ⟨t, r0, h1, fun k' => by simp only [dp_br, if_pos hc]; rw [hd]; exact h2 (fun t => k' t r0)⟩
      · cases h
    · cases h
theorem dp_dv_f {α : Type} {i : Instr} {st : List Value} {k : List Value → Option α} {r : α} (h : dp_dv i st k = some r) : ∃ st', k st' = some r ∧ ∀ k' : List Value → Option α, dp_dv i st k' = k' st' := by
  unfold dp_dv at h
  split at h
  all_goals first | (simp only [reduceCtorEq] at h; done) | skip
  all_goals
    split at h
    · split at h
      · cases h
      · rename_i hy
        exact ⟨_, h, fun k' => by simp only [dp_dv, if_neg hy]⟩
    · cases h
theorem dp_ix_f {α : Type} {md : Bool} {M : dp_M} {t : Nat} {j : Int32} {a : Nat} {k : Nat → Option α} {r : α} (h : dp_ix md M t j a k = some r) : k j.toNatClampNeg = some r ∧ ∀ k' : Nat → Option α, dp_ix md M t j a k' = k' j.toNatClampNeg := by
  obtain ⟨h1, h2, h3⟩ := dp_ix_s h
  exact ⟨h3, fun k' => by unfold dp_ix; rw [if_pos h1, if_neg h2]⟩
theorem dp_ald_f {α : Type} {md : Bool} {xs : Nat → Int32} {xl : Nat} {i : Instr} {st : List Value} {M : dp_M} {k : List Value → Option α} {r : α} (h : dp_ald md xs xl i st M k = some r) : ∃ st', k st' = some r ∧ ∀ k' : List Value → Option α, dp_ald md xs xl i st M k' = k' st' := by
  unfold dp_ald at h
  split at h
  all_goals first | (simp only [reduceCtorEq] at h; done) | skip
  · split at h
    · obtain ⟨h1, h2⟩ := dp_ix_f h; exact ⟨_, h1, fun k' => by simp only [dp_ald]; exact h2 (fun q => k' _)⟩
    · split at h
      · rename_i hx0
        split at h
        · cases h
        · rename_i h2; exact ⟨_, h, fun k' => by simp only [dp_ald, if_pos hx0, if_neg h2]⟩
      · cases h
    · cases h
  · split at h
    · obtain ⟨h1, h2⟩ := dp_ix_f h; exact ⟨_, h1, fun k' => by simp only [dp_ald]; exact h2 (fun q => k' _)⟩
    · cases h
  · split at h
    · obtain ⟨h1, h2⟩ := dp_ix_f h; exact ⟨_, h1, fun k' => by simp only [dp_ald]; exact h2 (fun q => k' _)⟩
    · cases h
  · split at h
    · obtain ⟨h1, h2⟩ := dp_ix_f h; exact ⟨_, h1, fun k' => by simp only [dp_ald]; exact h2 (fun q => k' _)⟩
    · cases h
  · split at h
    · obtain ⟨h1, h2⟩ := dp_ix_f h; exact ⟨_, h1, fun k' => by simp only [dp_ald]; exact h2 (fun q => k' _)⟩
    · cases h
  · split at h
    · split at h
      · rename_i ht; exact ⟨_, h, fun k' => by simp only [dp_ald, if_pos ht]⟩
      · cases h
    · split at h
      · rename_i ht; exact ⟨_, h, fun k' => by simp only [dp_ald, if_pos ht]⟩
      · cases h
    · cases h
theorem dp_ast_f {α : Type} {md : Bool} {i : Instr} {st : List Value} {M : dp_M} {k : List Value → dp_M → Option α} {r : α} (h : dp_ast md i st M k = some r) : ∃ st' M', k st' M' = some r ∧ dp_n M' = dp_n M ∧ dp_z M' = dp_z M ∧ ∀ k' : List Value → dp_M → Option α, dp_ast md i st M k' = k' st' M' := by
  unfold dp_ast at h
  split at h
  all_goals first | (simp only [reduceCtorEq] at h; done) | skip
  · split at h
    · obtain ⟨h1, h2⟩ := dp_ix_f h; exact ⟨_, _, h1, rfl, rfl, fun k' => by simp only [dp_ast]; exact h2 (fun q => k' _ _)⟩
    · cases h
  · split at h
    · obtain ⟨h1, h2⟩ := dp_ix_f h; exact ⟨_, _, h1, rfl, rfl, fun k' => by simp only [dp_ast]; exact h2 (fun q => k' _ _)⟩
    · cases h
  · split at h
    · obtain ⟨h1, h2⟩ := dp_ix_f h; exact ⟨_, _, h1, rfl, rfl, fun k' => by simp only [dp_ast]; exact h2 (fun q => k' _ _)⟩
    · cases h
  · split at h
    · obtain ⟨h1, h2⟩ := dp_ix_f h; exact ⟨_, _, h1, rfl, rfl, fun k' => by simp only [dp_ast]; exact h2 (fun q => k' _ _)⟩
    · cases h
  · split at h
    · split at h
      · rename_i hv
        obtain ⟨h1, h2⟩ := dp_ix_f h; exact ⟨_, _, h1, rfl, rfl, fun k' => by simp only [dp_ast, if_pos hv]; exact h2 (fun q => k' _ _)⟩
      · cases h
    · cases h
theorem dp_fld_f {α : Type} {md : Bool} {o : Nat} {ini : Bool} {i : Instr} {st : List Value} {M : dp_M} {k : List Value → dp_M → Option α} {r : α} (h : dp_fld md o ini i st M k = some r) : ∃ st' M', k st' M' = some r ∧ dp_n M' = dp_n M ∧ dp_z M' = dp_z M ∧ ∀ k' : List Value → dp_M → Option α, dp_fld md o ini i st M k' = k' st' M' := by
  unfold dp_fld at h
  split at h
  all_goals first | (simp only [reduceCtorEq] at h; done) | skip
  · split at h
    · rename_i hlk
      split at h
      · split at h
        · rename_i ht; exact ⟨_, _, h, rfl, rfl, fun k' => by simp only [dp_fld, hlk, if_pos ht]⟩
        · cases h
      · cases h
    · cases h
  · split at h
    · rename_i hlk
      split at h
      · cases h
      · rename_i hf
        split at h
        · split at h
          · rename_i ht; exact ⟨_, _, h, rfl, rfl, fun k' => by simp only [dp_fld, hlk, if_neg hf, if_pos ht]⟩
          · cases h
        · split at h
          · rename_i ht; exact ⟨_, _, h, rfl, rfl, fun k' => by simp only [dp_fld, hlk, if_neg hf, if_pos ht]⟩
          · cases h
        · split at h
          · rename_i ht; exact ⟨_, _, h, rfl, rfl, fun k' => by simp only [dp_fld, hlk, if_neg hf, if_pos ht]⟩
          · cases h
        · cases h
    · cases h
theorem dp_nk_f {α : Type} {M : dp_M} {t : Nat} {x : Option α} {r : α} (h : dp_nk M t x = some r) : x = some r ∧ ∀ x' : Option α, dp_nk M t x' = x' := by
  unfold dp_nk at h
  split at h
  · rename_i h0
    split at h
    · rename_i h1; exact ⟨h, fun x' => by unfold dp_nk; rw [if_pos h0, if_pos h1]⟩
    · cases h
  · rename_i h0; exact ⟨h, fun x' => by unfold dp_nk; rw [if_neg h0]⟩
theorem dp_mk_f {α : Type} {o : Nat} {i : Instr} {st : List Value} {M : dp_M} {k : List Value → dp_M → Option α} {r : α} (h : dp_mk o i st M k = some r) : ∃ st' M', k st' M' = some r ∧ dp_n M ≤ dp_n M' ∧ dp_z M ≤ dp_z M' ∧ ∀ k' : List Value → dp_M → Option α, dp_mk o i st M k' = k' st' M' := by
  have hn : ∀ n t z, dp_n M ≤ dp_n (dp_new M n t z) := fun n t z => Nat.le_succ _
  have hz : ∀ n t z, dp_z M ≤ dp_z (dp_new M n t z) := fun n t z => Nat.le_add_right _ _
  unfold dp_mk at h
  split at h
  all_goals first | (simp only [reduceCtorEq] at h; done) | skip
  · split at h
    · split at h
      · cases h
      · rename_i hb
        split at h
        all_goals first | (simp only [reduceCtorEq] at h; done) | skip
        all_goals
          obtain ⟨h1, h2⟩ := dp_nk_f h
          exact ⟨_, _, h1, hn _ _ _, hz _ _ _, fun k' => by simp only [dp_mk, if_neg hb]; exact h2 _⟩
    · cases h
  · split at h
    · split at h
      · cases h
      · rename_i hb
        split at h
        · rename_i hl
          obtain ⟨h1, h2⟩ := dp_nk_f h
          exact ⟨_, _, h1, hn _ _ _, hz _ _ _, fun k' => by simp only [dp_mk, if_neg hb, if_pos hl]; exact h2 _⟩
        · cases h
    · cases h
  · split at h
    · rename_i hl
      obtain ⟨h1, h2⟩ := dp_nk_f h
      exact ⟨_, _, h1, hn _ _ _, hz _ _ _, fun k' => by simp only [dp_mk, hl]; exact h2 _⟩
    · cases h
theorem dp_xt_f {α : Type} {md : Bool} {t : Nat} {st : List Value} {M : dp_M} {k : List Value → dp_M → Option α} {r : α} (h : dp_xt md t st M k = some r) : ∃ st' M', k st' M' = some r ∧ dp_n M ≤ dp_n M' ∧ dp_z M ≤ dp_z M' ∧ ∀ k' : List Value → dp_M → Option α, dp_xt md t st M k' = k' st' M' := by
  unfold dp_xt at h
  split at h
  all_goals first | (simp only [reduceCtorEq] at h; done) | skip
  · split at h
    · split at h
      · rename_i hs
        split at h
        · cases h
        · rename_i hy; exact ⟨_, _, h, Nat.le_refl _, Nat.le_refl _, fun k' => by simp only [dp_xt, if_pos hs, if_neg hy]⟩
      · cases h
    · cases h
  · split at h
    · split at h
      · rename_i hs
        split at h
        · cases h
        · rename_i hy; exact ⟨_, _, h, Nat.le_refl _, Nat.le_refl _, fun k' => by simp only [dp_xt, if_pos hs, if_neg hy]⟩
      · cases h
    · cases h
  · split at h
    · split at h
      · rename_i hs
        split at h
        · cases h
        · rename_i hy; exact ⟨_, _, h, Nat.le_refl _, Nat.le_refl _, fun k' => by simp only [dp_xt, if_pos hs, if_neg hy]⟩
      · cases h
    · cases h
  · split at h
    · split at h
      · rename_i hs
        split at h
        · cases h
        · rename_i hy
          split at h
          · rename_i e1 e2; exact ⟨_, _, h, Nat.le_refl _, Nat.le_refl _, fun k' => by simp only [dp_xt, if_pos hs, if_neg hy, e1, e2]⟩
          · rename_i e1 e2; exact ⟨_, _, h, Nat.le_refl _, Nat.le_refl _, fun k' => by simp only [dp_xt, if_pos hs, if_neg hy, e1, e2]⟩
          · cases h
      · cases h
    · cases h
  · split at h
    · split at h
      · rename_i hs
        split at h
        · cases h
        · rename_i hy
          split at h
          · rename_i e1
            obtain ⟨h1, h2⟩ := dp_nk_f h
            exact ⟨_, _, h1, Nat.le_succ _, Nat.le_add_right _ _, fun k' => by simp only [dp_xt, if_pos hs, if_neg hy, e1]; exact h2 _⟩
          · cases h
      · cases h
    · cases h
theorem dp_back0_f {pc : Nat} {L : dp_L} {rest : List Value} {x : Option dp_Res} {k : dp_Cfg → Option dp_Res} {r : dp_Res} (h : dp_back0 pc L rest x k = some r) : ∃ v M', x = some (.inl v, M') ∧ k (pc + 3, L, v.toList ++ rest, M') = some r ∧ ∀ k' : dp_Cfg → Option dp_Res, dp_back0 pc L rest x k' = k' (pc + 3, L, v.toList ++ rest, M') := by
  unfold dp_back0 at h
  split at h
  · exact ⟨_, _, rfl, h, fun k' => rfl⟩
  · cases h
theorem dp_back_f {mi : dp_Mi} {pc : Nat} {L : dp_L} {rest : List Value} {x : Option dp_Res} {k : dp_Cfg → Option dp_Res} {r : dp_Res} (h : dp_back mi pc L rest x k = some r) :
    (∃ v M', x = some (.inl v, M') ∧ k (pc + 3, L, v.toList ++ rest, M') = some r ∧ ∀ k' : dp_Cfg → Option dp_Res, dp_back mi pc L rest x k' = k' (pc + 3, L, v.toList ++ rest, M')) ∨
    (∃ e M', x = some (.inr e, M') ∧ dp_hh mi = [] ∧ r = (.inr e, M') ∧ ∀ k' : dp_Cfg → Option dp_Res, dp_back mi pc L rest x k' = some r) ∨
    ∃ e M' h1 a, x = some (.inr e, M') ∧ dp_hh mi ≠ [] ∧ dp_hd mi pc e = some (h1, a) ∧ a < L.length ∧ k (h1, dp_un L a, [], M') = some r ∧ ∀ k' : dp_Cfg → Option dp_Res, dp_back mi pc L rest x k' = k' (h1, dp_un L a, [], M') := by
  unfold dp_back at h
  split at h
  · exact Or.inl ⟨_, _, rfl, h, fun k' => rfl⟩
  · split at h
    · rename_i hh
      cases h
      exact Or.inr (Or.inl ⟨_, _, rfl, hh, rfl, fun k' => by unfold dp_back; simp only [hh]⟩)
    · rename_i hh
      split at h
      · rename_i hd
        split at h
        · rename_i ha
          exact Or.inr (Or.inr ⟨_, _, _, _, rfl, by rw [hh]; exact List.cons_ne_nil _ _, hd, ha, h, fun k' => by unfold dp_back; simp only [hh, hd, if_pos ha]⟩)
        · cases h
      · cases h
  · cases h
/-- where a call goes: out with what its callee threw, or on -/
theorem dp_back_g {mi : dp_Mi} {pc : Nat} {L : dp_L} {rest : List Value} {x : Option dp_Res} {k : dp_Cfg → Option dp_Res} {r : dp_Res} (h : dp_back mi pc L rest x k = some r) :
    (∃ e M', r = (.inr e, M') ∧ x = some (.inr e, M') ∧ ∀ k' : dp_Cfg → Option dp_Res, dp_back mi pc L rest x k' = some r) ∨
    ∃ cf o, k cf = some r ∧ x = some (o, cf.2.2.2) ∧ ∀ k' : dp_Cfg → Option dp_Res, dp_back mi pc L rest x k' = k' cf := by
  rcases dp_back_f h with ⟨v, M', e1, e2, e3⟩ | ⟨e, M', e1, -, e2, e3⟩ | ⟨e, M', h1, a, e1, -, -, -, e2, e3⟩
  · exact Or.inr ⟨_, _, e2, e1, e3⟩
  · exact Or.inl ⟨e, M', e2, e1, e3⟩
  · exact Or.inr ⟨_, _, e2, e1, e3⟩
theorem dp_cal_f {md : Bool} {F : dp_Phi} {mi : dp_Mi} {o pc : Nat} {L : dp_L} {i : Instr} {st : List Value} {M : dp_M} {k : dp_Cfg → Option dp_Res} {r : dp_Res} (h : dp_cal md F mi o pc L i st M k = some r) :
    (∃ e M', r = (.inr e, M') ∧ (∃ j as, F j as M = some (.inr e, M')) ∧ ∀ k' : dp_Cfg → Option dp_Res, dp_cal md F mi o pc L i st M k' = some r) ∨
    ∃ cf, k cf = some r ∧ ((dp_n M ≤ dp_n cf.2.2.2 ∧ dp_z M ≤ dp_z cf.2.2.2) ∨ ∃ j as o', F j as M = some (o', cf.2.2.2)) ∧ ∀ k' : dp_Cfg → Option dp_Res, dp_cal md F mi o pc L i st M k' = k' cf := by
  unfold dp_cal at h
  split at h
  all_goals first | (simp only [reduceCtorEq] at h; done) | skip
  · split at h
    · rename_i hh
      obtain ⟨st', e1, e2⟩ := dp_hin_f h
      exact Or.inr ⟨_, e1, Or.inl ⟨Nat.le_refl _, Nat.le_refl _⟩, fun k' => by simp only [dp_cal, hh]; exact e2 (fun st' => k' (pc + 3, L, st', M))⟩
    · rename_i hh
      split at h
      · rename_i hl
        split at h
        · rename_i hm
          split at h
          · rename_i hk
            split at h
            · rename_i ht
              split at h
              · rename_i hs
                rcases dp_back_g h with ⟨e, M', e1, e2, e3⟩ | ⟨cf, o', e1, e2, e3⟩
                · exact Or.inl ⟨e, M', e1, ⟨_, _, e2⟩, fun k' => by simp only [dp_cal, hh, hl, hm, if_pos hk, ht, if_pos hs]; exact e3 k'⟩
                · exact Or.inr ⟨cf, e1, Or.inr ⟨_, _, _, e2⟩, fun k' => by simp only [dp_cal, hh, hl, hm, if_pos hk, ht, if_pos hs]; exact e3 k'⟩
              · cases h
            · cases h
          · cases h
        · cases h
      · rename_i hl
        obtain ⟨st', M', e1, e2, e3, e4⟩ := dp_xt_f h
        exact Or.inr ⟨_, e1, Or.inl ⟨e2, e3⟩, fun k' => by simp only [dp_cal, hh, hl]; exact e4 (fun st' M' => k' (pc + 3, L, st', M'))⟩
  · split at h
    · rename_i hl
      split at h
      · rename_i hm
        split at h
        · rename_i hk
          split at h
          · rename_i ht
            split at h
            · rename_i hc
              split at h
              · rename_i hs
                rcases dp_back_g h with ⟨e, M', e1, e2, e3⟩ | ⟨cf, o', e1, e2, e3⟩
                · exact Or.inl ⟨e, M', e1, ⟨_, _, e2⟩, fun k' => by simp only [dp_cal, hl, hm, if_pos hk, ht, if_pos hc, if_pos hs]; exact e3 k'⟩
                · exact Or.inr ⟨cf, e1, Or.inr ⟨_, _, _, e2⟩, fun k' => by simp only [dp_cal, hl, hm, if_pos hk, ht, if_pos hc, if_pos hs]; exact e3 k'⟩
              · cases h
            · cases h
          · cases h
        · cases h
      · cases h
    · rename_i hl
      obtain ⟨st', M', e1, e2, e3, e4⟩ := dp_xt_f h
      exact Or.inr ⟨_, e1, Or.inl ⟨e2, e3⟩, fun k' => by simp only [dp_cal, hl]; exact e4 (fun st' M' => k' (pc + 3, L, st', M'))⟩
  · split at h
    · rename_i ho
      split at h
      · split at h
        · rename_i hs
          exact Or.inr ⟨_, h, Or.inl ⟨Nat.le_refl _, Nat.le_refl _⟩, fun k' => by simp only [dp_cal, if_pos ho, if_pos hs]⟩
        · cases h
      · cases h
    · rename_i ho
      split at h
      · rename_i hl
        split at h
        · rename_i hm
          split at h
          · rename_i hk
            split at h
            · rename_i ht
              split at h
              · rename_i hs
                obtain ⟨v, M', e1, e2, e3⟩ := dp_back0_f h
                exact Or.inr ⟨_, e2, Or.inr ⟨_, _, _, e1⟩, fun k' => by simp only [dp_cal, if_neg ho, hl, hm, if_pos hk, ht, if_pos hs]; exact e3 k'⟩
              · cases h
            · cases h
          · cases h
        · cases h
      · cases h
/-- what is made stays: a callee's memory has no fewer places -/
def dp_grow (F : dp_Phi) : Prop := ∀ j as M o M', F j as M = some (o, M') → dp_n M ≤ dp_n M' ∧ dp_z M ≤ dp_z M'
theorem dp_end_f {rt : Option FieldType} {i : Instr} {st : List Value} {M : dp_M} {r : dp_Res} (h : dp_end rt i st M = some r) : r.2 = M := by
  unfold dp_end at h
  split at h
  all_goals first | (simp only [reduceCtorEq] at h; done) | skip
  · split at h
    · split at h
      · cases h; rfl
      · split at h
        · cases h; rfl
        · cases h
      · cases h
    · cases h
  · split at h
    · split at h
      · cases h; rfl
      · cases h
    · cases h
  · split at h
    · split at h
      · cases h; rfl
      · cases h; rfl
      · cases h
    · split at h
      · cases h; rfl
      · cases h; rfl
      · cases h
    · cases h
  · split at h
    · split at h
      · cases h; rfl
      · cases h
    · cases h
theorem dp_thr_f {mi : dp_Mi} {pc ik : Nat} {st : List Value} {M : dp_M} {r : dp_Res} (h : dp_thr mi pc ik st M = some r) : dp_n M ≤ dp_n r.2 ∧ dp_z M ≤ dp_z r.2 := by
  have key : ∀ e : Nat, dp_nk M 0 (some (.inr e, dp_new M 0 0 6)) = some r → dp_n M ≤ dp_n r.2 ∧ dp_z M ≤ dp_z r.2 := fun e q => by
    obtain ⟨h1, -⟩ := dp_nk_f q
    cases h1
    exact ⟨Nat.le_succ _, Nat.le_add_right _ _⟩
  unfold dp_thr at h
  split at h
  · split at h
    · split at h
      · split at h
        · exact key _ h
        · cases h
      · cases h
    · cases h
  · split at h
    · split at h
      · split at h
        · exact key _ h
        · cases h
      · cases h
    · cases h
  · cases h
set_option maxHeartbeats 1000000 in
theorem dp_ex_f {md : Bool} {xs : Nat → Int32} {xl : Nat} {F : dp_Phi} {mi : dp_Mi} (hF : dp_grow F) {i : Instr} {pc : Nat} {L : dp_L} {st : List Value} {M : dp_M} {k : dp_Cfg → Option dp_Res} {r : dp_Res} (h : dp_ex md xs xl F mi i pc L st M k = some r) :
    (dp_n M ≤ dp_n r.2 ∧ dp_z M ≤ dp_z r.2 ∧ ∀ k' : dp_Cfg → Option dp_Res, dp_ex md xs xl F mi i pc L st M k' = some r) ∨
    ∃ cf, k cf = some r ∧ dp_n M ≤ dp_n cf.2.2.2 ∧ dp_z M ≤ dp_z cf.2.2.2 ∧ ∀ k' : dp_Cfg → Option dp_Res, dp_ex md xs xl F mi i pc L st M k' = k' cf := by
  unfold dp_ex at h
  split at h
  · rename_i hg; split at h
    · rename_i h1; exact Or.inr ⟨_, h, Nat.le_refl _, Nat.le_refl _, fun k' => by simp only [dp_ex, hg, h1]⟩
    · cases h
  · rename_i hg; split at h
    · rename_i h1; exact Or.inr ⟨_, h, Nat.le_refl _, Nat.le_refl _, fun k' => by simp only [dp_ex, hg, h1]⟩
    · cases h
  · rename_i hg; split at h
    · rename_i h1; exact Or.inr ⟨_, h, Nat.le_refl _, Nat.le_refl _, fun k' => by simp only [dp_ex, hg, h1]⟩
    · cases h
  · rename_i hg
    obtain ⟨a, b, e1, e2⟩ := dp_br_f h
    exact Or.inr ⟨_, e1, Nat.le_refl _, Nat.le_refl _, fun k' => by simp only [dp_ex, hg]; exact e2 (fun a b => k' (a, L, b, M))⟩
  · rename_i hg
    obtain ⟨a, e1, e2⟩ := dp_dv_f h
    exact Or.inr ⟨_, e1, Nat.le_refl _, Nat.le_refl _, fun k' => by simp only [dp_ex, hg]; exact e2 (fun a => k' (_, L, a, M))⟩
  · rename_i hg
    obtain ⟨a, e1, e2⟩ := dp_ald_f h
    exact Or.inr ⟨_, e1, Nat.le_refl _, Nat.le_refl _, fun k' => by simp only [dp_ex, hg]; exact e2 (fun a => k' (_, L, a, M))⟩
  · rename_i hg
    obtain ⟨a, b, e1, e2, e3, e4⟩ := dp_ast_f h
    exact Or.inr ⟨_, e1, by show _ ≤ dp_n b; omega, by show _ ≤ dp_z b; omega, fun k' => by simp only [dp_ex, hg]; exact e4 (fun a b => k' (_, L, a, b))⟩
  · rename_i hg
    obtain ⟨a, b, e1, e2, e3, e4⟩ := dp_fld_f h
    exact Or.inr ⟨_, e1, by show _ ≤ dp_n b; omega, by show _ ≤ dp_z b; omega, fun k' => by simp only [dp_ex, hg]; exact e4 (fun a b => k' (_, L, a, b))⟩
  · rename_i hg
    obtain ⟨a, b, e1, e2, e3, e4⟩ := dp_mk_f h
    exact Or.inr ⟨_, e1, e2, e3, fun k' => by simp only [dp_ex, hg]; exact e4 (fun a b => k' (_, L, a, b))⟩
  · rename_i hg; split at h
    · rename_i h1; exact Or.inr ⟨_, h, Nat.le_refl _, Nat.le_refl _, fun k' => by simp only [dp_ex, hg, h1]⟩
    · cases h
  · rename_i hg
    rcases dp_cal_f h with ⟨e, M', rfl, ⟨j, as, e2⟩, e3⟩ | ⟨cf, e1, e2, e3⟩
    · have := hF _ _ _ _ _ e2
      exact Or.inl ⟨this.1, this.2, fun k' => by simp only [dp_ex, hg]; exact e3 k'⟩
    · refine Or.inr ⟨cf, e1, ?_, ?_, fun k' => by simp only [dp_ex, hg]; exact e3 k'⟩
      · rcases e2 with e2 | ⟨j, as, v, e2⟩
        · exact e2.1
        · exact (hF _ _ _ _ _ e2).1
      · rcases e2 with e2 | ⟨j, as, v, e2⟩
        · exact e2.2
        · exact (hF _ _ _ _ _ e2).2
  · rename_i hg
    have := dp_end_f h
    exact Or.inl ⟨by rw [this]; exact Nat.le_refl _, by rw [this]; exact Nat.le_refl _, fun k' => by simp only [dp_ex, hg]; exact h⟩
  · rename_i g0 g1 g2 g3 g4 g5 g6 g7 g8 g9 g10 g11
    split at h
    · rename_i ik
      split at h
      · rename_i hh
        have := dp_thr_f h
        exact Or.inl ⟨this.1, this.2, fun k' => by
          unfold dp_ex
          split <;> first | contradiction | (simp only [hh]; exact h)⟩
      · cases h
    · cases h
