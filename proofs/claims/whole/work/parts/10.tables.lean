/-! tables (stub: to be printed by program) -/
def dp_K0 : Nat := 300
def dp_sh : Nat → Nat := fun _ => 0
def dp_sl : Nat → Nat := fun _ => 0
def dp_fk : Nat → Nat → Nat := fun _ _ => 0
def dp_own : Nat → String := fun _ => ""
def dp_lkF : Nat → Nat → Option (Nat × Nat) := fun _ _ => none
def dp_lkN : Nat → Nat → Option Nat := fun _ _ => none
def dp_lkI : Nat → Nat → Option Int32 := fun _ _ => none
def dp_lkJ : Nat → Nat → Option Int64 := fun _ _ => none
def dp_T : List Cond := lw_tbl.filter goodWord
/-- what a kind of field is -/
def dp_kd (kd : Nat) (ty : FieldType) : Prop := (kd = 0 ∧ ty = .int) ∨ (kd = 1 ∧ ty = .long) ∨ (kd = 2 ∧ ((∃ n, ty = .object n) ∨ ∃ t, ty = .array t))
theorem dp_lkF_ok {o i ci k : Nat} (h : dp_lkF o i = some (ci, k)) : ∃ (C : String) (T : u_T) (N : Nat), vwCl[ci]? = some (C, T, N) ∧ k < N ∧ Cond.fieldLink (dp_own o) i (T k).1 (T k).2.1 (T k).2.2.1 ∈ dp_T ∧ ((T k).2.2.2 = true → (T k).1 = dp_own o) := by cases h
theorem dp_lkN_ok {o i ci : Nat} (h : dp_lkN o i = some ci) : ∃ (C : String) (T : u_T) (N : Nat), vwCl[ci]? = some (C, T, N) ∧ Cond.classLink (dp_own o) i C ∈ dp_T := by cases h
theorem dp_lkI_ok {o i : Nat} {v : Int32} (h : dp_lkI o i = some v) : Cond.constant (dp_own o) i v ∈ dp_T := by cases h
theorem dp_lkJ_ok {o i : Nat} {v : Int64} (h : dp_lkJ o i = some v) : Cond.constantLong (dp_own o) i v ∈ dp_T := by cases h
theorem dp_cl_ok {ci : Nat} {C : String} {T : u_T} {N : Nat} (h : vwCl[ci]? = some (C, T, N)) : (∀ w ∈ u_ws C T N, w ∈ dp_T) ∧ (∃ ty : Nat → FieldType, (∀ k, k < N → parseFieldDescriptor (T k).2.2.1 = some (ty k)) ∧ ∀ k, k < N → dp_kd (dp_fk ci k) (ty k)) ∧ (∀ a, a < N → ∀ b, b < N → a ≠ b → (T a).2.1 ≠ (T b).2.1) ∧ Cond.instantiable C N ∈ dp_T ∧ Cond.initialized C ∈ dp_T := by sorry
theorem dp_arr_ok : Cond.arrayClass .int ∈ dp_T ∧ Cond.arrayClass .long ∈ dp_T ∧ Cond.arrayClass .boolean ∈ dp_T ∧ Cond.arrayClass .char ∈ dp_T := by sorry
def dp_fin : Nat → Nat → Bool := fun _ _ => false
def dp_nf : Nat → Nat := fun _ => 0
def dp_lkR : Nat → Nat → Bool := fun _ _ => false
def dp_lkS : Nat → Nat → Option Nat := fun _ _ => none
def dp_tx : Nat → Nat → String := fun _ _ => ""
theorem dp_fin_ok {ci k : Nat} {C : String} {T : u_T} {N : Nat} (h : vwCl[ci]? = some (C, T, N)) (hk : k < N) : (T k).2.2.2 = dp_fin ci k := by sorry
theorem dp_nf_ok {ci : Nat} {C : String} {T : u_T} {N : Nat} (h : vwCl[ci]? = some (C, T, N)) : dp_nf ci = N := by sorry
theorem dp_lkR_ok {o i : Nat} (h : dp_lkR o i = true) : Cond.classLink (dp_own o) i "PortHouse$Rate" ∈ dp_T := by cases h
theorem dp_rate_ok : ∃ T N, vwCl[6]? = some ("PortHouse$Rate", T, N) := by sorry
/-- a method: its name, code, locals, answer; own class, kind (0 static, 1 instance, 2 constructor), parameters, class of the receiver; instructions; handlers -/
abbrev dp_Mi : Type := (MethodName × ByteArray × Nat × Option FieldType) × (Nat × Nat × Nat × Nat) × (Nat → Option Instr) × List (Nat × Nat × Nat × Nat)
def dp_mi : Nat → Option dp_Mi := fun _ => none
def dp_lkM : Nat → Nat → Option Nat := fun _ _ => none
def dp_lkO : Nat → Nat → Bool := fun _ _ => false
/-- own class, class entry, text entry, constructor entry of a 'throw new E("text")': the number of E -/
def dp_lkX : Nat → Nat → Nat → Nat → Option Nat := fun _ _ _ _ => none
def dp_en : Nat → String := fun e => if e = 0 then "java/lang/IllegalArgumentException" else if e = 1 then "java/lang/IllegalStateException" else if e = 2 then "java/lang/IndexOutOfBoundsException" else "java/lang/UnsupportedOperationException"
def dp_xns : List String := ["java/lang/RuntimeException", "java/lang/Exception"]
def dp_cw (mi : dp_Mi) : Cond := match mi.2.2.2 with
  | [] => .code mi.1.1 mi.1.2.1 mi.1.2.2.1 mi.1.2.2.2
  | hh => .codeWith mi.1.1 mi.1.2.1 mi.1.2.2.1 mi.1.2.2.2 hh
/-- what the tables say of a method -/
def dp_Mok (mi : dp_Mi) : Prop := plainName mi.1.1.cls = true ∧ mi.1.1.cls = dp_own mi.2.1.1 ∧ mi.1.2.2.1 ≤ 80 ∧ (mi.1.1.cls ≠ "java/lang/invoke/MethodHandle" ∧ mi.1.1.cls ≠ "java/lang/invoke/VarHandle" ∧ (parseMethodDescriptor mi.1.1.desc).map (fun d => d.parameters.length) = some mi.2.1.2.2.1) ∧
  dp_cw mi ∈ dp_T ∧ Cond.initialized mi.1.1.cls ∈ dp_T ∧ (mi.2.1.2.1 = 0 → Cond.static mi.1.1 ∈ dp_T) ∧ (mi.2.1.2.1 = 1 → Cond.instanceMethod mi.1.1 ∈ dp_T ∧ Cond.selects mi.1.1.cls mi.1.1 mi.1.1 ∈ dp_T ∧ ∃ T N, vwCl[mi.2.1.2.2.2]? = some (mi.1.1.cls, T, N)) ∧
  (mi.2.1.2.1 = 2 → Cond.instanceMethod mi.1.1 ∈ dp_T ∧ mi.1.1.name = "<init>" ∧ mi.1.2.2.2 = none) ∧ (mi.2.1.2.1 ≠ 3 → mi.2.2.2 = []) ∧ (mi.2.1.2.1 = 3 → Cond.static mi.1.1 ∈ dp_T ∧ mi.2.2.2 ≠ [])
theorem dp_mi_ok {j : Nat} {mi : dp_Mi} (h : dp_mi j = some mi) : dp_Mok mi := by cases h
theorem dp_lkM_ok {o i j : Nat} {mi : dp_Mi} (h : dp_lkM o i = some j) (hm : dp_mi j = some mi) : Cond.methodLink (dp_own o) i mi.1.1 ∈ dp_T := by cases h
theorem dp_lkO_ok {o i : Nat} (h : dp_lkO o i = true) : Cond.methodLink (dp_own o) i objectInit ∈ dp_T ∧ Cond.instanceMethod objectInit ∈ dp_T ∧ Cond.code objectInit ⟨#[0xb1]⟩ 1 none ∈ dp_T := by cases h
theorem dp_lkX_ok {o ik is ic e : Nat} (h : dp_lkX o ik is ic = some e) : (e = 0 ∨ e = 1 ∨ e = 2 ∨ e = 3) ∧ Cond.classLink (dp_own o) ik (dp_en e) ∈ dp_T ∧ Cond.initialized (dp_en e) ∈ dp_T ∧ (∃ j, dp_lkS o is = some j) ∧ Cond.methodLink (dp_own o) ic (Bundle.initS (dp_en e)) ∈ dp_T := by cases h
