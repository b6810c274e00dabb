/-! THE DEEP LAYER (1): a memory of places, and an interpreter of the bytecode over it. A place k is the cell base + k. -/
/-- ints, longs, references by place and slot; lengths; tags of the places behind the fixed ones; how many places; how many slots were made -/
abbrev dp_M : Type := (Nat → Nat → Int32) × (Nat → Nat → Int64) × (Nat → Nat → Option Nat) × (Nat → Nat) × (Nat → Nat) × Nat × Nat
abbrev dp_I (M : dp_M) : Nat → Nat → Int32 := M.1
abbrev dp_J (M : dp_M) : Nat → Nat → Int64 := M.2.1
abbrev dp_R (M : dp_M) : Nat → Nat → Option Nat := M.2.2.1
abbrev dp_len (M : dp_M) : Nat → Nat := M.2.2.2.1
abbrev dp_tag (M : dp_M) : Nat → Nat := M.2.2.2.2.1
abbrev dp_n (M : dp_M) : Nat := M.2.2.2.2.2.1
abbrev dp_z (M : dp_M) : Nat := M.2.2.2.2.2.2
def dp_up {α : Type} (f : Nat → Nat → α) (k i : Nat) (x : α) : Nat → Nat → α := fun k' i' => if k' = k then (if i' = i then x else f k i') else f k' i'
def dp_row {α : Type} (f : Nat → Nat → α) (k : Nat) (g : Nat → α) : Nat → Nat → α := fun k' i' => if k' = k then g i' else f k' i'
def dp_u1 {α : Type} (f : Nat → α) (k : Nat) (x : α) : Nat → α := fun k' => if k' = k then x else f k'
def dp_setI (M : dp_M) (k i : Nat) (x : Int32) : dp_M := (dp_up M.1 k i x, M.2)
def dp_setJ (M : dp_M) (k i : Nat) (x : Int64) : dp_M := (M.1, dp_up M.2.1 k i x, M.2.2)
def dp_setR (M : dp_M) (k i : Nat) (x : Option Nat) : dp_M := (M.1, M.2.1, dp_up M.2.2.1 k i x, M.2.2.2)
/-- a new place, with length n, tag t, z slots -/
def dp_new (M : dp_M) (n t z : Nat) : dp_M :=
  (dp_row M.1 M.2.2.2.2.2.1 (fun _ => 0), dp_row M.2.1 M.2.2.2.2.2.1 (fun _ => 0), dp_row M.2.2.1 M.2.2.2.2.2.1 (fun _ => none), dp_u1 M.2.2.2.1 M.2.2.2.2.2.1 n, dp_u1 M.2.2.2.2.1 M.2.2.2.2.2.1 t, M.2.2.2.2.2.1 + 1, M.2.2.2.2.2.2 + z)
/-- values: a place by .ref, a thing of the outside (a text, the script) by .retAddr -/
def dp_cv (b : Nat) (sa : Nat → Nat) : Value → Value
  | .ref k => .ref (b + k)
  | .retAddr j => .ref (sa j)
  | v => v
theorem dp_cv_cat (b : Nat) (sa : Nat → Nat) (v : Value) : (dp_cv b sa v).category = v.category := by cases v <;> rfl
/-! instructions that use the stack alone -/
def dp_ii (f : Int32 → Int32 → Int32) : List Value → Option (List Value)
  | .int y :: .int x :: r => some (.int (f x y) :: r)
  | _ => none
def dp_ll (f : Int64 → Int64 → Int64) : List Value → Option (List Value)
  | .long y :: .long x :: r => some (.long (f x y) :: r)
  | _ => none
def dp_li (f : Int64 → Int32 → Int64) : List Value → Option (List Value)
  | .int y :: .long x :: r => some (.long (f x y) :: r)
  | _ => none
def dp_i1 (f : Int32 → Int32) : List Value → Option (List Value)
  | .int x :: r => some (.int (f x) :: r)
  | _ => none
def dp_l1 (f : Int64 → Int64) : List Value → Option (List Value)
  | .long x :: r => some (.long (f x) :: r)
  | _ => none
def dp_i2l : List Value → Option (List Value)
  | .int x :: r => some (.long x.toInt64 :: r)
  | _ => none
def dp_l2i : List Value → Option (List Value)
  | .long x :: r => some (.int x.toInt32 :: r)
  | _ => none
def dp_lc : List Value → Option (List Value)
  | .long y :: .long x :: r => some (.int (lg_cmp x y) :: r)
  | _ => none
def dp_dup : List Value → Option (List Value)
  | v :: r => if v.category = 1 then some (v :: v :: r) else none
  | _ => none
def dp_pop : List Value → Option (List Value)
  | v :: r => if v.category = 1 then some r else none
  | _ => none
def dp_dup2 : List Value → Option (List Value)
  | v :: r => if v.category = 2 then some (v :: v :: r) else (match r with
    | w :: r' => if v.category = 1 ∧ w.category = 1 then some (v :: w :: v :: w :: r') else none
    | _ => none)
  | _ => none
def dp_pop2 : List Value → Option (List Value)
  | v :: r => if v.category = 2 then some r else none
  | _ => none
def dp_pure (i : Instr) (st : List Value) : Option (List Value) := match i with
  | .aconst_null => some (.null :: st)
  | .iconst n => some (.int (Int32.ofInt n) :: st)
  | .bipush n => some (.int (Int8.ofInt n).toInt32 :: st)
  | .sipush n => some (.int (Int16.ofInt n).toInt32 :: st)
  | .lconst n => some (.long (Int64.ofNat n) :: st)
  | .iadd => dp_ii (fun x y => x + y) st
  | .isub => dp_ii (fun x y => x - y) st
  | .imul => dp_ii (fun x y => x * y) st
  | .iand => dp_ii (fun x y => x &&& y) st
  | .ior => dp_ii (fun x y => x ||| y) st
  | .ixor => dp_ii (fun x y => x ^^^ y) st
  | .ishl => dp_ii (fun x y => x <<< (y &&& 31)) st
  | .ishr => dp_ii (fun x y => x >>> (y &&& 31)) st
  | .iushr => dp_ii (fun x y => (x.toUInt32 >>> (y.toUInt32 &&& Int32.toUInt32 31)).toInt32) st
  | .ineg => dp_i1 (fun x => -x) st
  | .i2c => dp_i1 (fun x => (x.toUInt32 % 65536).toInt32) st
  | .ladd => dp_ll (fun x y => x + y) st
  | .lsub => dp_ll (fun x y => x - y) st
  | .lmul => dp_ll (fun x y => x * y) st
  | .land => dp_ll (fun x y => x &&& y) st
  | .lor => dp_ll (fun x y => x ||| y) st
  | .lxor => dp_ll (fun x y => x ^^^ y) st
  | .lneg => dp_l1 (fun x => -x) st
  | .lshl => dp_li (fun x y => x <<< (y.toInt64 &&& 63)) st
  | .lshr => dp_li (fun x y => x >>> (y.toInt64 &&& 63)) st
  | .lushr => dp_li (fun x y => (x.toUInt64 >>> (y.toInt64.toUInt64 &&& Int64.toUInt64 63)).toInt64) st
  | .i2l => dp_i2l st
  | .l2i => dp_l2i st
  | .lcmp => dp_lc st
  | .dup => dp_dup st
  | .pop => dp_pop st
  | .dup2 => dp_dup2 st
  | .pop2 => dp_pop2 st
  | _ => none
section DPpure
variable {p : Program} {l : Launch} {e : Env} {R : Room} {s : State} {m : MethodId} {args : Array Value} {below : List Frame} {meth : Method} {c : Code} {H : Heap} {locs : List Loc} {cells slots : Nat} {Q : State → Prop}
variable {cc : ByteArray} {pc len : Nat} {ls : Array Slot} {b : Nat} {sa : Nat → Nat}
theorem dp_ii_s {f : Int32 → Int32 → Int32} {st st' : List Value} (h : dp_ii f st = some st') : ∃ x y r, st = .int y :: .int x :: r ∧ st' = .int (f x y) :: r := by
  unfold dp_ii at h; split at h
  · exact ⟨_, _, _, rfl, (Option.some.inj h).symm⟩
  · cases h
theorem dp_ll_s {f : Int64 → Int64 → Int64} {st st' : List Value} (h : dp_ll f st = some st') : ∃ x y r, st = .long y :: .long x :: r ∧ st' = .long (f x y) :: r := by
  unfold dp_ll at h; split at h
  · exact ⟨_, _, _, rfl, (Option.some.inj h).symm⟩
  · cases h
theorem dp_li_s {f : Int64 → Int32 → Int64} {st st' : List Value} (h : dp_li f st = some st') : ∃ x y r, st = .int y :: .long x :: r ∧ st' = .long (f x y) :: r := by
  unfold dp_li at h; split at h
  · exact ⟨_, _, _, rfl, (Option.some.inj h).symm⟩
  · cases h
theorem dp_i1_s {f : Int32 → Int32} {st st' : List Value} (h : dp_i1 f st = some st') : ∃ x r, st = .int x :: r ∧ st' = .int (f x) :: r := by
  unfold dp_i1 at h; split at h
  · exact ⟨_, _, rfl, (Option.some.inj h).symm⟩
  · cases h
theorem dp_l1_s {f : Int64 → Int64} {st st' : List Value} (h : dp_l1 f st = some st') : ∃ x r, st = .long x :: r ∧ st' = .long (f x) :: r := by
  unfold dp_l1 at h; split at h
  · exact ⟨_, _, rfl, (Option.some.inj h).symm⟩
  · cases h
end DPpure
/-- how long an instruction is (wide forms aside; switches tell it themselves) -/
def dp_il (i : Instr) : Nat := match i with
  | .bipush _ => 2 | .sipush _ => 3 | .iload _ => 2 | .lload _ => 2 | .aload _ => 2 | .istore _ => 2 | .lstore _ => 2 | .astore _ => 2
  | .iinc _ _ => 3 | .ifCond _ _ => 3 | .if_icmp _ _ => 3 | .ifnull _ => 3 | .ifnonnull _ => 3 | .goto _ => 3
  | .getfield _ => 3 | .putfield _ => 3 | .new _ => 3 | .newarray _ => 2 | .anewarray _ => 3
  | .invokevirtual _ => 3 | .invokestatic _ => 3 | .invokespecial _ => 3
  | .ldc _ => 2 | .ldc_w _ => 3 | .ldc2_w _ => 3
  | _ => 1
section DPpure2
variable {p : Program} {l : Launch} {e : Env} {R : Room} {s : State} {m : MethodId} {args : Array Value} {below : List Frame} {meth : Method} {c : Code} {H : Heap} {locs : List Loc} {cells slots : Nat} {Q : State → Prop}
variable {cc : ByteArray} {pc : Nat} {ls : Array Slot} {b : Nat} {sa : Nat → Nat}
set_option maxHeartbeats 4000000 in
theorem dp_pure_ok (hx : p.tables.exec = Jvm.exec) (hb : c.code = cc) {i : Instr} {st st' : List Value} (h : dp_pure i st = some st') (hd : decode cc pc = .ok (i, dp_il i))
    (kk : W p l e R s m args below meth c H locs cells slots Q (F0 m (pc + dp_il i) ls (st'.map (dp_cv b sa)))) :
    W p l e R s m args below meth c H locs cells slots Q (F0 m pc ls (st.map (dp_cv b sa))) := by
  cases i <;> first | (exfalso; simp only [dp_pure, reduceCtorEq] at h; done) | skip
  case aconst_null => cases h; exact lv_null hx hb hd kk
  case iconst n => cases h; exact lv_iconst hx hb hd rfl kk
  case bipush n => cases h; exact lv_bipush hx hb hd rfl kk
  case sipush n => cases h; exact lv_sipush hx hb hd rfl kk
  case lconst n => cases h; exact lv_lconst hx hb hd rfl kk
  case iadd => obtain ⟨x, y, r, rfl, rfl⟩ := dp_ii_s h; exact lv_iadd hx hb hd kk
  case isub => obtain ⟨x, y, r, rfl, rfl⟩ := dp_ii_s h; exact lv_isub hx hb hd kk
  case imul => obtain ⟨x, y, r, rfl, rfl⟩ := dp_ii_s h; exact lv_imul hx hb hd kk
  case iand => obtain ⟨x, y, r, rfl, rfl⟩ := dp_ii_s h; exact lv_iand hx hb hd kk
  case ior => obtain ⟨x, y, r, rfl, rfl⟩ := dp_ii_s h; exact lv_ior hx hb hd kk
  case ixor => obtain ⟨x, y, r, rfl, rfl⟩ := dp_ii_s h; exact lv_ixor hx hb hd kk
  case ishl => obtain ⟨x, y, r, rfl, rfl⟩ := dp_ii_s h; exact lv_ishl hx hb hd kk
  case ishr => obtain ⟨x, y, r, rfl, rfl⟩ := dp_ii_s h; exact lv_ishr hx hb hd kk
  case iushr => obtain ⟨x, y, r, rfl, rfl⟩ := dp_ii_s h; exact lv_iushr hx hb hd rfl kk
  case ineg => obtain ⟨x, r, rfl, rfl⟩ := dp_i1_s h; exact lv_ineg hx hb hd kk
  case i2c => obtain ⟨x, r, rfl, rfl⟩ := dp_i1_s h; exact lv_i2c hx hb hd rfl kk
  case ladd => obtain ⟨x, y, r, rfl, rfl⟩ := dp_ll_s h; exact lv_ladd hx hb hd kk
  case lsub => obtain ⟨x, y, r, rfl, rfl⟩ := dp_ll_s h; exact lv_lsub hx hb hd kk
  case lmul => obtain ⟨x, y, r, rfl, rfl⟩ := dp_ll_s h; exact lv_lmul hx hb hd kk
  case land => obtain ⟨x, y, r, rfl, rfl⟩ := dp_ll_s h; exact lv_land hx hb hd kk
  case lor => obtain ⟨x, y, r, rfl, rfl⟩ := dp_ll_s h; exact lv_lor hx hb hd kk
  case lxor => obtain ⟨x, y, r, rfl, rfl⟩ := dp_ll_s h; exact lv_lxor hx hb hd kk
  case lneg => obtain ⟨x, r, rfl, rfl⟩ := dp_l1_s h; exact lv_lneg hx hb hd kk
  case lshl => obtain ⟨x, y, r, rfl, rfl⟩ := dp_li_s h; exact lv_lshl hx hb hd rfl kk
  case lshr => obtain ⟨x, y, r, rfl, rfl⟩ := dp_li_s h; exact lv_lshr hx hb hd rfl kk
  case lushr => obtain ⟨x, y, r, rfl, rfl⟩ := dp_li_s h; exact lv_lushr hx hb hd rfl kk
  case i2l =>
    simp only [dp_pure, dp_i2l] at h
    split at h
    · cases h; exact lv_i2l hx hb hd rfl kk
    · cases h
  case l2i =>
    simp only [dp_pure, dp_l2i] at h
    split at h
    · cases h; exact lv_l2i hx hb hd rfl kk
    · cases h
  case lcmp =>
    simp only [dp_pure, dp_lc] at h
    split at h
    · cases h; exact W.lcmp hx hb hd kk
    · cases h
  case dup =>
    simp only [dp_pure, dp_dup] at h
    split at h
    · split at h
      · rename_i hc; cases h; exact lv_dup hx hb hd (by rw [dp_cv_cat]; exact hc) kk
      · cases h
    · cases h
  case pop =>
    simp only [dp_pure, dp_pop] at h
    split at h
    · split at h
      · rename_i hc; cases h; exact lv_pop hx hb hd (by rw [dp_cv_cat]; exact hc) kk
      · cases h
    · cases h
  case pop2 =>
    simp only [dp_pure, dp_pop2] at h
    split at h
    · split at h
      · rename_i hc; cases h; exact lv_pop2_2 hx hb hd (by rw [dp_cv_cat]; exact hc) kk
      · cases h
    · cases h
  case dup2 =>
    simp only [dp_pure, dp_dup2] at h
    split at h
    · split at h
      · rename_i hc; cases h; exact lv_dup2_2 hx hb hd (by rw [dp_cv_cat]; exact hc) kk
      · split at h
        · split at h
          · rename_i hc; cases h; exact lv_dup2_11 hx hb hd (by rw [dp_cv_cat]; exact hc.1) (by rw [dp_cv_cat]; exact hc.2) kk
          · cases h
        · cases h
    · cases h
end DPpure2
/-! locals: a list; 'none' where nothing is known -/
abbrev dp_L : Type := List (Option Value)
def dp_get (L : dp_L) (i : Nat) : Option Value := match L[i]? with
  | some (some v) => some v
  | _ => none
def dp_isL : Option (Option Value) → Bool
  | some (some (.long _)) => true
  | some (some (.double _)) => true
  | _ => false
def dp_cut (L : dp_L) (i : Nat) (L' : dp_L) : dp_L := match i with
  | 0 => L'
  | j + 1 => if dp_isL L[j]? then L'.set j none else L'
def dp_st1 (L : dp_L) (i : Nat) (v : Value) : dp_L := dp_cut L i (L.set i (some v))
def dp_st2 (L : dp_L) (i : Nat) (v : Value) : dp_L := dp_cut L i ((L.set i (some v)).set (i + 1) none)
def dp_has (b : Nat) (sa : Nat → Nat) (ls : Array Slot) (L : dp_L) : Prop := ls.size = L.length ∧ lv_wf ls ∧ ∀ (i : Nat) (v : Value), L[i]? = some (some v) → ls[i]? = some (Slot.val (dp_cv b sa v))
theorem dp_isL_cat {o : Option (Option Value)} {v : Value} (h : o = some (some v)) : dp_isL o = decide (v.category = 2) := by
  subst h; cases v <;> rfl
theorem dp_cut_get {L L' : dp_L} {i j : Nat} {v : Value} (h : (dp_cut L i L')[j]? = some (some v)) : L'[j]? = some (some v) ∧ (j + 1 = i → dp_isL L[j]? = false) := by
  unfold dp_cut at h
  split at h
  · exact ⟨h, fun q => by omega⟩
  · rename_i k
    split at h
    · rename_i hl
      by_cases hj : k = j
      · subst hj
        rw [List.getElem?_set] at h
        simp at h
      · rw [List.getElem?_set_ne hj] at h
        exact ⟨h, fun q => absurd (Nat.succ.inj q).symm hj⟩
    · rename_i hl
      exact ⟨h, fun q => by cases q; simpa using hl⟩
theorem dp_cut_len {L L' : dp_L} {i : Nat} : (dp_cut L i L').length = L'.length := by
  unfold dp_cut
  split
  · rfl
  · split <;> simp
def dp_as (b : Nat) (sa : Nat → Nat) (L : dp_L) : List (Nat × Value) := (List.range L.length).filterMap (fun i => (dp_get L i).map (fun v => (i, dp_cv b sa v)))
theorem dp_as_mem {b : Nat} {sa : Nat → Nat} {L : dp_L} {i : Nat} {w : Value} : (i, w) ∈ dp_as b sa L ↔ ∃ v, L[i]? = some (some v) ∧ w = dp_cv b sa v := by
  unfold dp_as
  rw [List.mem_filterMap]
  constructor
  · rintro ⟨j, hj, h⟩
    unfold dp_get at h
    split at h
    · rename_i v hv
      simp at h
      obtain ⟨rfl, rfl⟩ := h
      exact ⟨v, hv, rfl⟩
    · cases h
  · rintro ⟨v, hv, rfl⟩
    refine ⟨i, List.mem_range.mpr (List.getElem?_eq_some_iff.mp hv).1, ?_⟩
    unfold dp_get
    rw [hv]
    rfl
theorem dp_has_lv {b : Nat} {sa : Nat → Nat} {ls : Array Slot} {L : dp_L} (h : dp_has b sa ls L) : lv_has ls L.length (dp_as b sa L) := ⟨h.1, h.2.1, fun q hq => by
  obtain ⟨i, w⟩ := q
  obtain ⟨v, hv, rfl⟩ := dp_as_mem.mp hq
  exact h.2.2 i v hv⟩
theorem dp_has_st1 {b : Nat} {sa : Nat → Nat} {ls : Array Slot} {L : dp_L} {i : Nat} {v : Value}
    (hl : lv_has ls L.length ((i, dp_cv b sa v) :: (dp_as b sa L).filter (fun q => !(q.1 == i) && !(q.1 + 1 == i && q.2.category == 2)))) : dp_has b sa ls (dp_st1 L i v) := by
  refine ⟨by rw [hl.1]; unfold dp_st1; rw [dp_cut_len, List.length_set], hl.2.1, fun j w hj => ?_⟩
  obtain ⟨h1, h2⟩ := dp_cut_get hj
  refine hl.2.2 (j, dp_cv b sa w) ?_
  by_cases hji : i = j
  · subst hji
    rw [List.getElem?_set] at h1
    simp at h1
    obtain ⟨-, rfl⟩ := h1
    exact List.mem_cons_self
  · rw [List.getElem?_set_ne hji] at h1
    refine List.mem_cons_of_mem _ (List.mem_filter.mpr ⟨dp_as_mem.mpr ⟨w, h1, rfl⟩, ?_⟩)
    by_cases hn : j + 1 = i
    · have := h2 hn
      rw [dp_isL_cat h1] at this
      simp [dp_cv_cat, Ne.symm hji]
      exact Or.inr (by simpa using this)
    · simp [Ne.symm hji, hn]
theorem dp_has_st2 {b : Nat} {sa : Nat → Nat} {ls : Array Slot} {L : dp_L} {i : Nat} {v : Value}
    (hl : lv_has ls L.length ((i, dp_cv b sa v) :: (dp_as b sa L).filter (fun q => !(q.1 == i) && (!(q.1 == i + 1) && !(q.1 + 1 == i && q.2.category == 2))))) : dp_has b sa ls (dp_st2 L i v) := by
  refine ⟨by rw [hl.1]; unfold dp_st2; rw [dp_cut_len, List.length_set, List.length_set], hl.2.1, fun j w hj => ?_⟩
  obtain ⟨h1, h2⟩ := dp_cut_get hj
  refine hl.2.2 (j, dp_cv b sa w) ?_
  by_cases hj2 : i + 1 = j
  · subst hj2
    rw [List.getElem?_set] at h1
    simp at h1
  · rw [List.getElem?_set_ne hj2] at h1
    by_cases hji : i = j
    · subst hji
      rw [List.getElem?_set] at h1
      simp at h1
      obtain ⟨-, rfl⟩ := h1
      exact List.mem_cons_self
    · rw [List.getElem?_set_ne hji] at h1
      refine List.mem_cons_of_mem _ (List.mem_filter.mpr ⟨dp_as_mem.mpr ⟨w, h1, rfl⟩, ?_⟩)
      by_cases hn : j + 1 = i
      · have := h2 hn
        rw [dp_isL_cat h1] at this
        simp [dp_cv_cat, Ne.symm hji, Ne.symm hj2]
        exact Or.inr (by simpa using this)
      · simp [Ne.symm hji, hn, Ne.symm hj2]
def dp_isRef : Value → Bool
  | .ref _ => true
  | .null => true
  | .retAddr _ => true
  | _ => false
def dp_ldi (L : dp_L) (k : Nat) : Option Value := match dp_get L k with
  | some (.int x) => some (.int x)
  | _ => none
def dp_ldl (L : dp_L) (k : Nat) : Option Value := match dp_get L k with
  | some (.long x) => some (.long x)
  | _ => none
def dp_lda (L : dp_L) (k : Nat) : Option Value := match dp_get L k with
  | some (.ref x) => some (.ref x)
  | some (.retAddr x) => some (.retAddr x)
  | some .null => some .null
  | _ => none
def dp_ld (i : Instr) (L : dp_L) : Option Value := match i with
  | .iload k => dp_ldi L k
  | .iload_n k => dp_ldi L k.val
  | .lload k => dp_ldl L k
  | .lload_n k => dp_ldl L k.val
  | .aload k => dp_lda L k
  | .aload_n k => dp_lda L k.val
  | _ => none
def dp_sti (L : dp_L) (k : Nat) : List Value → Option (dp_L × List Value)
  | .int x :: r => if k < L.length then some (dp_st1 L k (.int x), r) else none
  | _ => none
def dp_stl (L : dp_L) (k : Nat) : List Value → Option (dp_L × List Value)
  | .long x :: r => if k + 1 < L.length then some (dp_st2 L k (.long x), r) else none
  | _ => none
def dp_sta (L : dp_L) (k : Nat) : List Value → Option (dp_L × List Value)
  | .ref x :: r => if k < L.length then some (dp_st1 L k (.ref x), r) else none
  | .retAddr x :: r => if k < L.length then some (dp_st1 L k (.retAddr x), r) else none
  | .null :: r => if k < L.length then some (dp_st1 L k .null, r) else none
  | _ => none
def dp_inc (L : dp_L) (k : Nat) (n : Int) (st : List Value) : Option (dp_L × List Value) := match dp_get L k with
  | some (.int x) => if k < L.length then some (dp_st1 L k (.int (x + Int32.ofInt n)), st) else none
  | _ => none
def dp_sto (i : Instr) (L : dp_L) (st : List Value) : Option (dp_L × List Value) := match i with
  | .istore k => dp_sti L k st
  | .istore_n k => dp_sti L k.val st
  | .lstore k => dp_stl L k st
  | .lstore_n k => dp_stl L k.val st
  | .astore k => dp_sta L k st
  | .astore_n k => dp_sta L k.val st
  | .iinc k n => dp_inc L k n st
  | _ => none
theorem dp_get_at {b : Nat} {sa : Nat → Nat} {ls : Array Slot} {L : dp_L} {k : Nat} {v : Value} (h : dp_has b sa ls L) (hg : dp_get L k = some v) : ls[k]? = some (Slot.val (dp_cv b sa v)) := by
  unfold dp_get at hg
  split at hg
  · cases hg; exact h.2.2 _ _ (by assumption)
  · cases hg
section DPloc
variable {p : Program} {l : Launch} {e : Env} {R : Room} {s : State} {m : MethodId} {args : Array Value} {below : List Frame} {meth : Method} {c : Code} {H : Heap} {locs : List Loc} {cells slots : Nat} {Q : State → Prop}
variable {cc : ByteArray} {pc : Nat} {ls : Array Slot} {b : Nat} {sa : Nat → Nat} {L : dp_L} {rest : List Value}
set_option maxHeartbeats 4000000 in
theorem dp_ld_ok (hx : p.tables.exec = Jvm.exec) (hb : c.code = cc) (hl : dp_has b sa ls L) {i : Instr} {v : Value} (h : dp_ld i L = some v) (hd : decode cc pc = .ok (i, dp_il i))
    (kk : W p l e R s m args below meth c H locs cells slots Q (F0 m (pc + dp_il i) ls (dp_cv b sa v :: rest))) :
    W p l e R s m args below meth c H locs cells slots Q (F0 m pc ls rest) := by
  cases i <;> first | (exfalso; simp only [dp_ld, reduceCtorEq] at h; done) | skip
  case iload k =>
    simp only [dp_ld, dp_ldi] at h; split at h
    · rename_i x hg; cases h; exact lv_iload hx hb hd (dp_get_at hl hg) kk
    · cases h
  case iload_n k =>
    simp only [dp_ld, dp_ldi] at h; split at h
    · rename_i x hg; cases h; exact lv_iload_n hx hb hd rfl (dp_get_at hl hg) kk
    · cases h
  case lload k =>
    simp only [dp_ld, dp_ldl] at h; split at h
    · rename_i x hg; cases h; exact lv_lload hx hb hd (dp_get_at hl hg) kk
    · cases h
  case lload_n k =>
    simp only [dp_ld, dp_ldl] at h; split at h
    · rename_i x hg; cases h; exact lv_lload_n hx hb hd rfl (dp_get_at hl hg) kk
    · cases h
  case aload k =>
    simp only [dp_ld, dp_lda] at h; split at h
    · rename_i x hg; cases h; exact lv_aload hx hb hd (dp_get_at hl hg) kk
    · rename_i x hg; cases h; exact lv_aload hx hb hd (dp_get_at hl hg) kk
    · rename_i hg; cases h; exact lv_aloadN hx hb hd (dp_get_at hl hg) kk
    · cases h
  case aload_n k =>
    simp only [dp_ld, dp_lda] at h; split at h
    · rename_i x hg; cases h; exact lv_aload_n hx hb hd rfl (dp_get_at hl hg) kk
    · rename_i x hg; cases h; exact lv_aload_n hx hb hd rfl (dp_get_at hl hg) kk
    · rename_i hg; cases h; exact lv_aload_nN hx hb hd rfl (dp_get_at hl hg) kk
    · cases h
set_option maxHeartbeats 4000000 in
theorem dp_sto_ok (hx : p.tables.exec = Jvm.exec) (hb : c.code = cc) (hl : dp_has b sa ls L) {i : Instr} {L' : dp_L} {st st' : List Value} (h : dp_sto i L st = some (L', st')) (hd : decode cc pc = .ok (i, dp_il i))
    (kk : ∀ ls', dp_has b sa ls' L' → W p l e R s m args below meth c H locs cells slots Q (F0 m (pc + dp_il i) ls' (st'.map (dp_cv b sa)))) :
    W p l e R s m args below meth c H locs cells slots Q (F0 m pc ls (st.map (dp_cv b sa))) := by
  have hv := dp_has_lv hl
  cases i <;> first | (exfalso; simp only [dp_sto, reduceCtorEq] at h; done) | skip
  case istore k =>
    simp only [dp_sto, dp_sti] at h; split at h
    · split at h
      · rename_i hk; cases h; exact lv_istore hx hb hd hv hk rfl (fun ls' h' => kk ls' (dp_has_st1 (v := .int _) h'))
      · cases h
    · cases h
  case istore_n k =>
    simp only [dp_sto, dp_sti] at h; split at h
    · split at h
      · rename_i hk; cases h; exact lv_istore_n hx hb hd rfl hv hk rfl (fun ls' h' => kk ls' (dp_has_st1 (v := .int _) h'))
      · cases h
    · cases h
  case lstore k =>
    simp only [dp_sto, dp_stl] at h; split at h
    · split at h
      · rename_i hk; cases h; exact lv_lstore hx hb hd hv hk rfl (fun ls' h' => kk ls' (dp_has_st2 (v := .long _) h'))
      · cases h
    · cases h
  case lstore_n k =>
    simp only [dp_sto, dp_stl] at h; split at h
    · split at h
      · rename_i hk; cases h; exact lv_lstore_n hx hb hd rfl hv hk rfl (fun ls' h' => kk ls' (dp_has_st2 (v := .long _) h'))
      · cases h
    · cases h
  case astore k =>
    simp only [dp_sto, dp_sta] at h; split at h
    · split at h
      · rename_i hk; cases h; exact lv_astore hx hb hd hv hk rfl (fun ls' h' => kk ls' (dp_has_st1 (v := .ref _) h'))
      · cases h
    · split at h
      · rename_i hk; cases h; exact lv_astore hx hb hd hv hk rfl (fun ls' h' => kk ls' (dp_has_st1 (v := .retAddr _) h'))
      · cases h
    · split at h
      · rename_i hk; cases h; exact lv_astoreN hx hb hd hv hk rfl (fun ls' h' => kk ls' (dp_has_st1 (v := .null) h'))
      · cases h
    · cases h
  case astore_n k =>
    simp only [dp_sto, dp_sta] at h; split at h
    · split at h
      · rename_i hk; cases h; exact lv_astore_n hx hb hd rfl hv hk rfl (fun ls' h' => kk ls' (dp_has_st1 (v := .ref _) h'))
      · cases h
    · split at h
      · rename_i hk; cases h; exact lv_astore_n hx hb hd rfl hv hk rfl (fun ls' h' => kk ls' (dp_has_st1 (v := .retAddr _) h'))
      · cases h
    · split at h
      · rename_i hk; cases h; exact lv_astore_nN hx hb hd rfl hv hk rfl (fun ls' h' => kk ls' (dp_has_st1 (v := .null) h'))
      · cases h
    · cases h
  case iinc k n =>
    simp only [dp_sto, dp_inc] at h; split at h
    · split at h
      · rename_i x hg hk; cases h
        have hm : (k, Value.int x) ∈ dp_as b sa L := by
          unfold dp_get at hg
          split at hg
          · rename_i v' hv'; cases hg; exact dp_as_mem.mpr ⟨_, hv', rfl⟩
          · cases hg
        obtain ⟨j, hj⟩ := List.getElem?_of_mem hm
        exact lv_iinc hx hb hd hv hj rfl hk rfl (fun ls' h' => kk ls' (dp_has_st1 (v := .int _) h'))
      · cases h
    · cases h
end DPloc
/-! branches, with the rest of the run as 'k' -/
def dp_to {α : Type} (pc : Nat) (off : Int) (k : Nat → Option α) : Option α := match (pc : Int) + off with
  | .ofNat t => k t
  | .negSucc _ => none
def dp_cnd {α : Type} (cd : Jvm.ClassFile.Cond) (x y : Int32) (a b : α) : α := match cd with
  | .eq => if x = y then a else b
  | .ne => if x = y then b else a
  | .lt => if x < y then a else b
  | .ge => if y ≤ x then a else b
  | .gt => if y < x then a else b
  | .le => if x ≤ y then a else b
def dp_sw {α : Type} (x : Int32) (f : Int → α) (d : α) : Nat → List Int → α
  | _, [] => d
  | lo, o :: os => if x = nI lo then f o else dp_sw x f d (lo + 1) os
def dp_lsw {α : Type} (x : Int32) (f : Int → α) (d : α) : List (Int × Int) → α
  | [] => d
  | (a, o) :: os => if x = Int32.ofInt a then f o else dp_lsw x f d os
def dp_br {α : Type} (i : Instr) (pc : Nat) (st : List Value) (k : Nat → List Value → Option α) : Option α := match i with
  | .goto off => dp_to pc off (fun t => k t st)
  | .ifCond cd off => (match st with
    | .int x :: r => dp_to pc off (fun t => dp_cnd cd x 0 (k t r) (k (pc + 3) r))
    | _ => none)
  | .if_icmp cd off => (match st with
    | .int y :: .int x :: r => dp_to pc off (fun t => dp_cnd cd x y (k t r) (k (pc + 3) r))
    | _ => none)
  | .ifnull off => (match st with
    | .null :: r => dp_to pc off (fun t => k t r)
    | .ref _ :: r => k (pc + 3) r
    | _ => none)
  | .ifnonnull off => (match st with
    | .null :: r => k (pc + 3) r
    | .ref _ :: r => dp_to pc off (fun t => k t r)
    | _ => none)
  | .tableswitch d lo hi offs => (match st, lo with
    | .int x :: r, .ofNat lo => if hi = (lo : Int) + offs.size - 1 ∧ lo + offs.size < 2147483648 then dp_sw x (fun o => dp_to pc o (fun t => k t r)) (dp_to pc d (fun t => k t r)) lo offs.toList else none
    | _, _ => none)
  | .lookupswitch d ps => (match st with
    | .int x :: r => if (ps.toList.zip (ps.toList.drop 1)).all (fun (a, next) => a.1 < next.1) = true ∧ ps.toList.all (fun q => decide ((Int32.ofInt q.1).toInt = q.1)) = true then dp_lsw x (fun o => dp_to pc o (fun t => k t r)) (dp_to pc d (fun t => k t r)) ps.toList else none
    | _ => none)
  | _ => none
def dp_isSw : Instr → Bool
  | .tableswitch _ _ _ _ => true
  | .lookupswitch _ _ => true
  | _ => false
theorem dp_to_s {α : Type} {pc : Nat} {off : Int} {k : Nat → Option α} {r : α} (h : dp_to pc off k = some r) : ∃ t : Nat, (pc : Int) + off = (t : Int) ∧ k t = some r := by
  unfold dp_to at h
  split at h
  · rename_i t ht; exact ⟨t, ht, h⟩
  · cases h
theorem dp_sw_s {α : Type} {x : Int32} {f : Int → Option α} {d : Option α} {r : α} : ∀ (os : List Int) (lo : Nat), dp_sw x f d lo os = some r →
    (∃ (j : Nat) (o : Int), os[j]? = some o ∧ x = nI (lo + j) ∧ f o = some r) ∨ ((∀ j, j < os.length → x ≠ nI (lo + j)) ∧ d = some r)
  | [], lo, h => Or.inr ⟨fun j hj => absurd hj (Nat.not_lt_zero j), h⟩
  | o :: os, lo, h => by
    unfold dp_sw at h
    split at h
    · rename_i hx; exact Or.inl ⟨0, o, rfl, hx, h⟩
    · rename_i hx
      rcases dp_sw_s os (lo + 1) h with ⟨j, o', h1, h2, h3⟩ | ⟨h1, h2⟩
      · exact Or.inl ⟨j + 1, o', h1, by rw [h2]; congr 1; omega, h3⟩
      · refine Or.inr ⟨fun j hj => ?_, h2⟩
        cases j with
        | zero => exact hx
        | succ j =>
          have := h1 j (by simpa using hj)
          rw [show lo + (j + 1) = lo + 1 + j by omega]; exact this
theorem dp_lsw_s {α : Type} {x : Int32} {f : Int → α} {d : Int} : ∀ (ps : List (Int × Int)), ps.all (fun q => decide ((Int32.ofInt q.1).toInt = q.1)) = true → dp_lsw x f (f d) ps = f (Op.lookupswitch.offset ps d x.toInt)
  | [], _ => rfl
  | (a, o) :: ps, h => by
    simp only [List.all_cons, Bool.and_eq_true, decide_eq_true_eq] at h
    unfold dp_lsw
    rw [Op.lookupswitch.offset_cons]
    by_cases hx : x = Int32.ofInt a
    · rw [if_pos hx, if_pos (by rw [hx]; exact h.1.symm)]
    · rw [if_neg hx, if_neg (fun q => hx (Int32.toInt_inj.mp (q.symm.trans h.1.symm)))]
      exact dp_lsw_s ps (by simpa using h.2)
section DPbr
variable {p : Program} {l : Launch} {e : Env} {R : Room} {s : State} {m : MethodId} {args : Array Value} {below : List Frame} {meth : Method} {c : Code} {H : Heap} {locs : List Loc} {cells slots : Nat} {Q : State → Prop}
variable {cc : ByteArray} {pc len : Nat} {ls : Array Slot} {b : Nat} {sa : Nat → Nat}
set_option maxHeartbeats 4000000 in
theorem dp_br_ok (hx : p.tables.exec = Jvm.exec) (hb : c.code = cc) {i : Instr} {st : List Value} {α : Type} {k : Nat → List Value → Option α} {r : α} (h : dp_br i pc st k = some r) (hd : decode cc pc = .ok (i, len)) (hlen : dp_isSw i = false → len = dp_il i)
    (kk : ∀ pc' st', k pc' st' = some r → W p l e R s m args below meth c H locs cells slots Q (F0 m pc' ls (st'.map (dp_cv b sa)))) :
    W p l e R s m args below meth c H locs cells slots Q (F0 m pc ls (st.map (dp_cv b sa))) := by
  cases i <;> first | (exfalso; simp only [dp_br, reduceCtorEq] at h; done) | skip
  case goto off =>
    cases hlen rfl
    obtain ⟨t, ht, hk⟩ := dp_to_s h
    exact lv_goto hx hb hd ht (kk t st hk)
  case ifCond cd off =>
    cases hlen rfl
    simp only [dp_br] at h; split at h
    · obtain ⟨t, ht, h⟩ := dp_to_s h
      cases cd <;> simp only [dp_cnd] at h
      · exact lv_if_eq hx hb hd ht (fun q => kk _ _ (by rwa [if_pos q] at h)) (fun q => kk _ _ (by rwa [if_neg q] at h))
      · exact lv_if_ne hx hb hd ht (fun q => kk _ _ (by rwa [if_neg q] at h)) (fun q => kk _ _ (by rwa [if_pos q] at h))
      · exact lv_if_lt hx hb hd ht (fun q => kk _ _ (by rwa [if_pos q] at h)) (fun q => kk _ _ (by rwa [if_neg q] at h))
      · exact lv_if_ge hx hb hd ht (fun q => kk _ _ (by rwa [if_pos q] at h)) (fun q => kk _ _ (by rwa [if_neg q] at h))
      · exact lv_if_gt hx hb hd ht (fun q => kk _ _ (by rwa [if_pos q] at h)) (fun q => kk _ _ (by rwa [if_neg q] at h))
      · exact lv_if_le hx hb hd ht (fun q => kk _ _ (by rwa [if_pos q] at h)) (fun q => kk _ _ (by rwa [if_neg q] at h))
    · cases h
  case if_icmp cd off =>
    cases hlen rfl
    simp only [dp_br] at h; split at h
    · obtain ⟨t, ht, h⟩ := dp_to_s h
      cases cd <;> simp only [dp_cnd] at h
      · exact lv_icmp_eq hx hb hd ht (fun q => kk _ _ (by rwa [if_pos q] at h)) (fun q => kk _ _ (by rwa [if_neg q] at h))
      · exact lv_icmp_ne hx hb hd ht (fun q => kk _ _ (by rwa [if_neg q] at h)) (fun q => kk _ _ (by rwa [if_pos q] at h))
      · exact lv_icmp_lt hx hb hd ht (fun q => kk _ _ (by rwa [if_pos q] at h)) (fun q => kk _ _ (by rwa [if_neg q] at h))
      · exact lv_icmp_ge hx hb hd ht (fun q => kk _ _ (by rwa [if_pos q] at h)) (fun q => kk _ _ (by rwa [if_neg q] at h))
      · exact lv_icmp_gt hx hb hd ht (fun q => kk _ _ (by rwa [if_pos q] at h)) (fun q => kk _ _ (by rwa [if_neg q] at h))
      · exact lv_icmp_le hx hb hd ht (fun q => kk _ _ (by rwa [if_pos q] at h)) (fun q => kk _ _ (by rwa [if_neg q] at h))
    · cases h
  case ifnull off =>
    cases hlen rfl
    simp only [dp_br] at h; split at h
    · obtain ⟨t, ht, h⟩ := dp_to_s h
      exact lv_ifnullN hx hb hd ht (kk _ _ h)
    · exact lv_ifnull hx hb hd (kk _ _ h)
    · cases h
  case ifnonnull off =>
    cases hlen rfl
    simp only [dp_br] at h; split at h
    · exact lv_ifnonnullN hx hb hd (kk _ _ h)
    · obtain ⟨t, ht, h⟩ := dp_to_s h
      exact lv_ifnonnull hx hb hd ht (kk _ _ h)
    · cases h
  case tableswitch d lo hi offs =>
    simp only [dp_br] at h; split at h
    · rename_i x r lo
      split at h
      · rename_i hc
        obtain ⟨hhi, hsz⟩ := hc
        rcases dp_sw_s _ _ h with ⟨j, o, h1, h2, h3⟩ | ⟨h1, h2⟩
        · obtain ⟨t, ht, h3⟩ := dp_to_s h3
          rw [Array.getElem?_toList] at h1
          have hj : j < offs.size := (Array.getElem?_eq_some_iff.mp h1).1
          have hxi : x.toInt = ((lo + j : Nat) : Int) := by rw [h2]; exact nI_toInt (by omega)
          refine lv_tableIn hx hb hd (off := o) ?_ ?_ ?_ ht (kk _ _ h3)
          · rw [hxi]; simp only [Int.ofNat_eq_natCast]; omega
          · rw [hxi, hhi]; omega
          · rw [hxi, show (((lo + j : Nat) : Int) - Int.ofNat lo).toNat = j by simp only [Int.ofNat_eq_natCast]; omega]; exact h1
        · obtain ⟨t, ht, h2⟩ := dp_to_s h2
          refine lv_tableOut hx hb hd ?_ ht (kk _ _ h2)
          by_cases ha : x.toInt < Int.ofNat lo
          · exact Or.inl ha
          · refine Or.inr ?_
            by_cases hb2 : hi < x.toInt
            · exact hb2
            · exfalso
              simp only [Int.ofNat_eq_natCast] at ha
              have hle : x.toInt.toNat - lo < offs.toList.length := by rw [Array.length_toList]; omega
              refine h1 _ hle ?_
              apply Int32.toInt_inj.mp
              rw [nI_toInt (by omega)]
              omega
      · cases h
    · cases h
  case lookupswitch d ps =>
    simp only [dp_br] at h; split at h
    · split at h
      · rename_i hc
        rw [dp_lsw_s (f := fun o => dp_to pc o (fun t => k t _)) (d := d) _ hc.2] at h
        obtain ⟨t, ht, h⟩ := dp_to_s h
        exact lv_lookup hx hb hd hc.1 rfl ht (kk _ _ h)
      · cases h
    · cases h
end DPbr
/-- divisions -/
def dp_dv {α : Type} (i : Instr) (st : List Value) (k : List Value → Option α) : Option α := match i with
  | .idiv => (match st with
    | .int y :: .int x :: r => if y = 0 then none else k (.int (x / y) :: r)
    | _ => none)
  | .irem => (match st with
    | .int y :: .int x :: r => if y = 0 then none else k (.int (x - x / y * y) :: r)
    | _ => none)
  | .ldiv => (match st with
    | .long y :: .long x :: r => if y = 0 then none else k (.long (x / y) :: r)
    | _ => none)
  | .lrem => (match st with
    | .long y :: .long x :: r => if y = 0 then none else k (.long (x - x / y * y) :: r)
    | _ => none)
  | _ => none
section DPdv
variable {p : Program} {l : Launch} {e : Env} {R : Room} {s : State} {m : MethodId} {args : Array Value} {below : List Frame} {meth : Method} {c : Code} {H : Heap} {locs : List Loc} {cells slots : Nat} {Q : State → Prop}
variable {cc : ByteArray} {pc : Nat} {ls : Array Slot} {b : Nat} {sa : Nat → Nat}
set_option maxHeartbeats 4000000 in
theorem dp_dv_ok (hx : p.tables.exec = Jvm.exec) (hb : c.code = cc) {i : Instr} {st : List Value} {α : Type} {k : List Value → Option α} {r : α} (h : dp_dv i st k = some r) (hd : decode cc pc = .ok (i, dp_il i))
    (kk : ∀ st', k st' = some r → W p l e R s m args below meth c H locs cells slots Q (F0 m (pc + dp_il i) ls (st'.map (dp_cv b sa)))) :
    W p l e R s m args below meth c H locs cells slots Q (F0 m pc ls (st.map (dp_cv b sa))) := by
  cases i <;> first | (exfalso; simp only [dp_dv, reduceCtorEq] at h; done) | skip
  case idiv =>
    simp only [dp_dv] at h; split at h
    · split at h
      · cases h
      · rename_i hy; exact lv_idiv hx hb hd hy (kk _ h)
    · cases h
  case irem =>
    simp only [dp_dv] at h; split at h
    · split at h
      · cases h
      · rename_i hy; exact lv_irem hx hb hd hy (kk _ h)
    · cases h
  case ldiv =>
    simp only [dp_dv] at h; split at h
    · split at h
      · cases h
      · rename_i hy; exact lv_ldiv hx hb hd hy (kk _ h)
    · cases h
  case lrem =>
    simp only [dp_dv] at h; split at h
    · split at h
      · cases h
      · rename_i hy; exact lv_lrem hx hb hd hy (kk _ h)
    · cases h
end DPdv
