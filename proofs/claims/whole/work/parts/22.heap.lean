/-! THE DEEP LAYER (3): instructions that read or write the memory -/
def dp_tys (G : dp_G) : List (ClassId × FieldType) := [(G.2 1, .int), (G.2 2, .long), (G.2 3, .boolean), (G.2 4, .char), (G.2 5, .object "PortHouse$Rate")]
/-- words on exceptions that a call does not carry along by itself -/
def dp_xw : List Cond := [.declares (Bundle.initS "java/lang/RuntimeException"), .declares (Bundle.initS "java/lang/Exception"), .declares (Bundle.initS Bundle.tN)] ++ [0, 1, 2, 3].map (fun e => Cond.castable (dp_en e) (dp_en e))
theorem dp_xw_moved {u U : State} (hvm : u.vm.Alike U.vm) {A A' : Array Value} {w : Cond} (hw : w ∈ dp_xw) (h : w.before A u = true) : w.before A' U = true := by
  have hd : ∀ x : MethodName, (Cond.declares x).before A u = true → (Cond.declares x).before A' U = true := fun x h => by
    have h1 : (Cond.declares x).before A (u.setVm U.vm) = true := by
      rw [Cond.declares_setVm hvm]
      exact h
    have e := Cond.onTables_vm (A := A) (A' := A') (U := u) (U' := U) U.vm (Cond.declares x) rfl
    have hU : U.setVm U.vm = U := rfl
    rw [hU] at e
    rw [← e]
    exact h1
  have hc : ∀ a b : String, (Cond.castable a b).before A u = true → (Cond.castable a b).before A' U = true := fun a b h => by
    obtain ⟨c1, t1, h1, h2, h3⟩ := Cond.castable_spec h
    simp [Cond.before, Cond.holds, Cond.value, hvm.findClass, hvm.assignable, h1, h2, h3]
  simp only [dp_xw, List.map_cons, List.map_nil, List.cons_append, List.nil_append, List.mem_cons, List.not_mem_nil, or_false] at hw
  rcases hw with rfl | rfl | rfl | rfl | rfl | rfl | rfl
  · exact hd _ h
  · exact hd _ h
  · exact hd _ h
  · exact hc _ _ h
  · exact hc _ _ h
  · exact hc _ _ h
  · exact hc _ _ h
/-- the words of an exception's making that are the same at every place -/
def dp_xg0 (e : Nat) : List Cond := Bundle.throwableAtoms ++ Bundle.throwableSAtoms ++ Bundle.chainSAtoms (dp_en e) dp_xns
def dp_xg (e : Nat) : List Cond := dp_xg0 e ++ (Bundle.ownAtoms "" 0 (dp_en e) dp_xns).drop ((dp_xg0 e).length + 1)
theorem dp_xg_in {e : Nat} {own : String} {ic : Nat} {w : Cond} (h : w ∈ Bundle.ownAtoms own ic (dp_en e) dp_xns) : w = Cond.methodLink own ic (Bundle.initS (dp_en e)) ∨ w ∈ dp_xg e := by
  have key : ∃ rest : List Cond, ∀ (own : String) (ic : Nat), Bundle.ownAtoms own ic (dp_en e) dp_xns = dp_xg0 e ++ (Cond.methodLink own ic (Bundle.initS (dp_en e)) :: rest) := ⟨_, fun own ic => rfl⟩
  obtain ⟨rest, hr⟩ := key
  have hd : (Bundle.ownAtoms "" 0 (dp_en e) dp_xns).drop ((dp_xg0 e).length + 1) = rest := by
    rw [hr "" 0, List.drop_append]
    simp
  rw [hr own ic] at h
  unfold dp_xg
  rw [hd]
  rcases List.mem_append.mp h with h | h
  · exact Or.inr (List.mem_append_left _ h)
  · rcases List.mem_cons.mp h with h | h
    · exact Or.inl h
    · exact Or.inr (List.mem_append_right _ h)
/-- where these words stand -/
def dp_xp : List (List Nat) := [[271, 1498, 1507, 1512, 1515, 1517, 1499, 1500, 291, 292, 1501, 1506, 1513, 1549, 1488, 1550, 1490, 1551, 1492, 1502, 0, 1504, 0, 1494, 1545, 1546, 1548, 1494, 1536, 1537, 1538, 1539, 0, 1539, 1540, 1541, 1542, 0, 1542, 1543, 1544, 1545, 0, 1477, 0, 1485, 1486, 1487, 1489, 1491, 1493, 0, 0, 1497, 1496, 1495], [271, 1498, 1507, 1512, 1515, 1517, 1499, 1500, 291, 292, 1501, 1506, 1513, 1549, 1488, 1550, 1490, 1551, 1492, 1502, 0, 1504, 0, 1494, 1545, 1546, 1548, 1494, 1581, 1582, 1583, 1539, 0, 1539, 1540, 1541, 1542, 0, 1542, 1543, 1544, 1545, 0, 1571, 0, 1573, 1509, 1574, 1575, 1576, 1577, 0, 0, 1497, 1496, 1578], [271, 1498, 1507, 1512, 1515, 1517, 1499, 1500, 291, 292, 1501, 1506, 1513, 1549, 1488, 1550, 1490, 1551, 1492, 1502, 0, 1504, 0, 1494, 1545, 1546, 1548, 1494, 1671, 1672, 1673, 1539, 0, 1539, 1540, 1541, 1542, 0, 1542, 1543, 1544, 1545, 0, 1661, 0, 1663, 1510, 1664, 1665, 1666, 1667, 0, 0, 1497, 1496, 1668], [271, 1498, 1507, 1512, 1515, 1517, 1499, 1500, 291, 292, 1501, 1506, 1513, 1549, 1488, 1550, 1490, 1551, 1492, 1502, 0, 1504, 0, 1494, 1545, 1546, 1548, 1494, 2473, 2474, 2475, 1539, 0, 1539, 1540, 1541, 1542, 0, 1542, 1543, 1544, 1545, 0, 2463, 0, 2465, 1511, 2466, 2467, 2468, 2469, 0, 0, 1497, 1496, 2470]]
def dp_ckg (e : Nat) : Bool := ((dp_xg e).zip (dp_xp.getD e [])).all (fun q => !(vx_no q.1) || ((dp_is q.2 q.1 || decide (q.1 ∈ dp_xw)) && vx_ot q.1))
set_option maxRecDepth 100000 in
theorem dp_ckg0 : dp_ckg 0 = true ∧ (dp_xg 0).length = (dp_xp.getD 0 []).length := by decide +kernel
set_option maxRecDepth 100000 in
theorem dp_ckg1 : dp_ckg 1 = true ∧ (dp_xg 1).length = (dp_xp.getD 1 []).length := by decide +kernel
set_option maxRecDepth 100000 in
theorem dp_ckg2 : dp_ckg 2 = true ∧ (dp_xg 2).length = (dp_xp.getD 2 []).length := by decide +kernel
set_option maxRecDepth 100000 in
theorem dp_ckg3 : dp_ckg 3 = true ∧ (dp_xg 3).length = (dp_xp.getD 3 []).length := by decide +kernel
theorem dp_xg_ok : ∀ e, e = 0 ∨ e = 1 ∨ e = 2 ∨ e = 3 → ∀ w ∈ dp_xg e, vx_no w = true → (w ∈ dp_T ∨ w ∈ dp_xw) ∧ vx_ot w = true := by
  have key : ∀ e, dp_ckg e = true ∧ (dp_xg e).length = (dp_xp.getD e []).length → ∀ w ∈ dp_xg e, vx_no w = true → (w ∈ dp_T ∨ w ∈ dp_xw) ∧ vx_ot w = true := by
    intro e he w hw
    refine dp_zip (p := fun q => !(vx_no q.1) || ((dp_is q.2 q.1 || decide (q.1 ∈ dp_xw)) && vx_ot q.1)) (P := fun w => vx_no w = true → (w ∈ dp_T ∨ w ∈ dp_xw) ∧ vx_ot w = true) he.2 he.1 ?_ w hw
    intro x y hp hx
    simp only [hx, Bool.not_true, Bool.false_or, Bool.and_eq_true, Bool.or_eq_true, decide_eq_true_eq] at hp
    refine ⟨?_, hp.2⟩
    rcases hp.1 with h | h
    · exact Or.inl (dp_is_ok h)
    · exact Or.inr h
  rintro e (rfl | rfl | rfl | rfl)
  · exact key 0 dp_ckg0
  · exact key 1 dp_ckg1
  · exact key 2 dp_ckg2
  · exact key 3 dp_ckg3
/-- what the tables say, at a state -/
def dp_Kn (G : dp_G) (sa : Nat → Nat) (U : State) : Prop := va_K G.1 vwCl (dp_tys G) U ∧ va_AO "PortHouse$Rate" U ∧ (∀ o i j, dp_lkS o i = some j → vk_R (dp_own o) i (dp_tx o i) (sa j) U) ∧ (∀ w ∈ dp_xw, w.before #[] U = true) ∧ (∀ w ∈ dp_nw, va_Nw w U) ∧ ∀ e f, e < 4 → f < 4 → e ≠ f → va_Nc (dp_en e) (dp_en f) U
def dp_rv : Option Nat → Value
  | none => .null
  | some p => .ref p
theorem dp_rv_cv (b : Nat) (sa : Nat → Nat) (r : Option Nat) : dp_cv b sa (dp_rv r) = va_rf (r.map (b + ·)) := by cases r <;> rfl
/-- a reference field: of a fixed object it is known -/
def dp_rf (md : Bool) (M : dp_M) (a f : Nat) : Option Nat := if md then (if a < dp_K0 then (match dp_sr a f with
  | 0 => dp_R M a f
  | p + 1 => some p) else dp_R M a f) else dp_R M a f
theorem dp_rf_eq {G : dp_G} {b : Nat} {H0 : Heap} {md : Bool} {M : dp_M} {H : Heap} (h : dp_Rep G b H0 md M H) (a f : Nat) : dp_rf md M a f = dp_R M a f := by
  unfold dp_rf
  split
  · rename_i hm
    split
    · rename_i ha
      split
      · rfl
      · rename_i p hp
        have := (h.2.2.2.1 hm).2.2 a f ha (by rw [hp]; omega)
        rw [this, hp]; rfl
    · rfl
  · rfl
def dp_gv (md : Bool) (M : dp_M) (a f : Nat) : Nat → Value
  | 0 => .int (dp_I M a f)
  | 1 => .long (dp_J M a f)
  | _ => dp_rv (dp_rf md M a f)
theorem dp_gv_cv {G : dp_G} {b : Nat} {H0 : Heap} {md : Bool} {M : dp_M} {H : Heap} (h : dp_Rep G b H0 md M H) (sa : Nat → Nat) (a f kd : Nat) : dp_cv b sa (dp_gv md M a f kd) = dp_fv b M a kd f := match kd with
  | 0 => rfl
  | 1 => rfl
  | _ + 2 => by
    show dp_cv b sa (dp_rv (dp_rf md M a f)) = va_rf ((dp_R M a f).map (b + ·))
    rw [dp_rf_eq h, dp_rv_cv]
set_option maxRecDepth 100000 in
theorem dp_sr_arr : (List.range dp_K0).all (fun k => decide (10 ≤ dp_sh k) || ((dp_srd.getD (k / 32) []).getD (k % 32) []).isEmpty) = true := by decide +kernel
theorem dp_sr_5 {md : Bool} {M : dp_M} {a : Nat} (hm : md = true) (ha : a < dp_K0) (ht : dp_t md M a < 10) (i : Nat) : dp_sr a i = 0 := by
  have h1 : dp_t md M a = dp_sh a := by unfold dp_t; rw [if_pos ha, if_pos hm]
  have h2 := List.all_eq_true.mp dp_sr_arr a (List.mem_range.mpr ha)
  rw [Bool.or_eq_true, decide_eq_true_eq] at h2
  rcases h2 with h2 | h2
  · rw [h1] at ht; omega
  · unfold dp_sr
    rw [List.isEmpty_iff.mp h2]
    rfl
/-- what an array store reaches: the place, the index -/
def dp_ix {α : Type} (md : Bool) (M : dp_M) (t : Nat) (j : Int32) (a : Nat) (k : Nat → Option α) : Option α :=
  if dp_t md M a = t then (if j < 0 ∨ dp_ln md M a ≤ j.toNatClampNeg then none else k j.toNatClampNeg) else none
def dp_ald {α : Type} (md : Bool) (xs : Nat → Int32) (xl : Nat) (i : Instr) (st : List Value) (M : dp_M) (k : List Value → Option α) : Option α := match i with
  | .iaload => (match st with
    | .int j :: .ref a :: r => dp_ix md M 1 j a (fun q => k (.int (dp_I M a q) :: r))
    | .int j :: .retAddr x :: r => if x = 0 then (if j < 0 ∨ xl ≤ j.toNatClampNeg then none else k (.int (xs j.toNatClampNeg) :: r)) else none
    | _ => none)
  | .laload => (match st with
    | .int j :: .ref a :: r => dp_ix md M 2 j a (fun q => k (.long (dp_J M a q) :: r))
    | _ => none)
  | .baload => (match st with
    | .int j :: .ref a :: r => dp_ix md M 3 j a (fun q => k (.int (dp_I M a q) :: r))
    | _ => none)
  | .caload => (match st with
    | .int j :: .ref a :: r => dp_ix md M 4 j a (fun q => k (.int (dp_I M a q) :: r))
    | _ => none)
  | .aaload => (match st with
    | .int j :: .ref a :: r => dp_ix md M 5 j a (fun q => k (dp_rv (dp_R M a q) :: r))
    | _ => none)
  | .arraylength => (match st with
    | .ref a :: r => if dp_t md M a = 1 ∨ dp_t md M a = 2 ∨ dp_t md M a = 3 ∨ dp_t md M a = 4 then k (.int (Int32.ofNat (dp_ln md M a)) :: r) else none
    | .retAddr x :: r => if x = 0 then k (.int (Int32.ofNat xl) :: r) else none
    | _ => none)
  | _ => none
def dp_ast {α : Type} (md : Bool) (i : Instr) (st : List Value) (M : dp_M) (k : List Value → dp_M → Option α) : Option α := match i with
  | .iastore => (match st with
    | .int x :: .int j :: .ref a :: r => dp_ix md M 1 j a (fun q => k r (dp_setI M a q x))
    | _ => none)
  | .lastore => (match st with
    | .long x :: .int j :: .ref a :: r => dp_ix md M 2 j a (fun q => k r (dp_setJ M a q x))
    | _ => none)
  | .bastore => (match st with
    | .int x :: .int j :: .ref a :: r => dp_ix md M 3 j a (fun q => k r (dp_setI M a q (x &&& 1)))
    | _ => none)
  | .castore => (match st with
    | .int x :: .int j :: .ref a :: r => dp_ix md M 4 j a (fun q => k r (dp_setI M a q x.toUInt32.toUInt16.toUInt32.toInt32))
    | _ => none)
  | .aastore => (match st with
    | .ref v :: .int j :: .ref a :: r => if dp_t md M v = 16 then dp_ix md M 5 j a (fun q => k r (dp_setR M a q (some v))) else none
    | _ => none)
  | _ => none
def dp_fld {α : Type} (md : Bool) (o : Nat) (ini : Bool) (i : Instr) (st : List Value) (M : dp_M) (k : List Value → dp_M → Option α) : Option α := match i with
  | .getfield ix => (match dp_lkF o ix with
    | some (ci, f) => (match st with
      | .ref a :: r => if dp_t md M a = ci + 10 then k (dp_gv md M a f (dp_fk ci f) :: r) M else none
      | _ => none)
    | none => none)
  | .putfield ix => (match dp_lkF o ix with
    | some (ci, f) => if dp_fin ci f = true ∧ (ini = false ∨ ci ≠ o) then none else (match st with
      | .int x :: .ref a :: r => if dp_t md M a = ci + 10 ∧ dp_fk ci f = 0 then k r (dp_setI M a f x) else none
      | .long x :: .ref a :: r => if dp_t md M a = ci + 10 ∧ dp_fk ci f = 1 then k r (dp_setJ M a f x) else none
      | .ref x :: .ref a :: r => if (dp_t md M a = ci + 10 ∧ dp_fk ci f = 2) ∧ (md = false ∨ dp_K0 ≤ a) then k r (dp_setR M a f (some x)) else none
      | _ => none)
    | none => none)
  | _ => none
/-- may the next place have this tag? -/
def dp_nk {α : Type} (M : dp_M) (t : Nat) (x : Option α) : Option α := if dp_n M < dp_K0 then (if dp_sh (dp_n M) = t then x else none) else x
def dp_mk {α : Type} (o : Nat) (i : Instr) (st : List Value) (M : dp_M) (k : List Value → dp_M → Option α) : Option α := match i with
  | .newarray at_ => (match st with
    | .int c :: r => if c < 0 ∨ 1000000 ≤ c.toNatClampNeg then none else (match at_ with
      | .int => dp_nk M 1 (k (.ref (dp_n M) :: r) (dp_new M c.toNatClampNeg 1 c.toNatClampNeg))
      | .long => dp_nk M 2 (k (.ref (dp_n M) :: r) (dp_new M c.toNatClampNeg 2 c.toNatClampNeg))
      | .boolean => dp_nk M 3 (k (.ref (dp_n M) :: r) (dp_new M c.toNatClampNeg 3 c.toNatClampNeg))
      | .char => dp_nk M 4 (k (.ref (dp_n M) :: r) (dp_new M c.toNatClampNeg 4 c.toNatClampNeg))
      | _ => none)
    | _ => none)
  | .anewarray ix => (match st with
    | .int c :: r => if c < 0 ∨ 1000000 ≤ c.toNatClampNeg then none else (if dp_lkR o ix = true then dp_nk M 5 (k (.ref (dp_n M) :: r) (dp_new M c.toNatClampNeg 5 c.toNatClampNeg)) else none)
    | _ => none)
  | .new ix => (match dp_lkN o ix with
    | some ci => dp_nk M (ci + 10) (k (.ref (dp_n M) :: st) (dp_new M 0 (ci + 10) (dp_nf ci)))
    | none => none)
  | _ => none
def dp_cst (o : Nat) (i : Instr) : Option Value := match i with
  | .ldc ix => (match dp_lkI o ix with
    | some v => some (.int v)
    | none => (match dp_lkS o ix with
      | some j => some (.retAddr j)
      | none => none))
  | .ldc_w ix => (match dp_lkI o ix with
    | some v => some (.int v)
    | none => none)
  | .ldc2_w ix => (match dp_lkJ o ix with
    | some v => some (.long v)
    | none => none)
  | _ => none
theorem dp_ix_s {α : Type} {md : Bool} {M : dp_M} {t : Nat} {j : Int32} {a : Nat} {k : Nat → Option α} {r : α} (h : dp_ix md M t j a k = some r) : dp_t md M a = t ∧ ¬ (j < 0 ∨ dp_ln md M a ≤ j.toNatClampNeg) ∧ k j.toNatClampNeg = some r := by
  unfold dp_ix at h
  split at h
  · split at h
    · cases h
    · rename_i h1 h2; exact ⟨h1, h2, h⟩
  · cases h
theorem dp_nk_s {α : Type} {M : dp_M} {t : Nat} {x : Option α} {r : α} (h : dp_nk M t x = some r) : (dp_n M < dp_K0 → dp_sh (dp_n M) = t) ∧ x = some r := by
  unfold dp_nk at h
  split at h
  · split at h
    · rename_i h1; exact ⟨fun _ => h1, h⟩
    · cases h
  · rename_i h1; exact ⟨fun q => absurd q h1, h⟩
section DPheap
variable {p : Program} {l : Launch} {e : Env} {R : Room} {s : State} {m : MethodId} {args : Array Value} {below : List Frame} {meth : Method} {c : Code} {H : Heap} {locs : List Loc} {cells slots : Nat} {Q : State → Prop}
variable {cc : ByteArray} {pc : Nat} {ls : Array Slot} {b : Nat} {sa : Nat → Nat} {G : dp_G} {H0 : Heap} {md : Bool} {M : dp_M} {o : Nat}
theorem dp_Rep.arr (h : dp_Rep G b H0 md M H) {a t : Nat} (ht : dp_t md M a = t) (h0 : t ≠ 0) : dp_at G b t M a H := by
  have := (h.2.2.1 a (by rw [ht]; exact h0)).2
  rw [ht] at this
  exact this
set_option maxHeartbeats 4000000 in
theorem dp_ald_ok (hx : p.tables.exec = Jvm.exec) (hb : c.code = cc) (hK : dp_Kn G sa s) (hRp : dp_Rep G b H0 md M H) {xs : Nat → Int32} {xl : Nat} (hX : va_X (sa 0) xl xs s H) {i : Instr} {st : List Value} {α : Type} {k : List Value → Option α} {r : α} (h : dp_ald md xs xl i st M k = some r) (hd : decode cc pc = .ok (i, dp_il i))
    (kk : ∀ st', k st' = some r → W p l e R s m args below meth c H locs cells slots Q (F0 m (pc + dp_il i) ls (st'.map (dp_cv b sa)))) :
    W p l e R s m args below meth c H locs cells slots Q (F0 m pc ls (st.map (dp_cv b sa))) := by
  have hKa := hK.1.2
  cases i <;> first | (exfalso; simp only [dp_ald, reduceCtorEq] at h; done) | skip
  case iaload =>
    simp only [dp_ald] at h; split at h
    · obtain ⟨h1, h2, h3⟩ := dp_ix_s h
      rw [dp_ln_eq hRp] at h2
      have hc := hRp.arr h1 (by decide)
      exact W.iald hx hb hc ((hKa 0 _ rfl).1 _ _) (fun q => by cases q) (by rw [arrV_size]; exact h2) (arrV_read _ _ (Nat.not_le.mp fun q => h2 (Or.inr q))) rfl rfl hd (kk _ h3)
    · split at h
      · split at h
        · cases h
        · rename_i hx0 h2
          subst hx0
          obtain ⟨scr, g1, g2, g3, g4, g5⟩ := hX
          exact W.iald hx hb g1 g2 g3 (by rw [g4]; exact h2) (g5 _ (Nat.not_le.mp fun q => h2 (Or.inr q))) rfl rfl hd (kk _ h)
      · cases h
    · cases h
  case laload =>
    simp only [dp_ald] at h; split at h
    · obtain ⟨h1, h2, h3⟩ := dp_ix_s h
      rw [dp_ln_eq hRp] at h2
      have hc := hRp.arr h1 (by decide)
      exact W.lald hx hb hc ((hKa 1 _ rfl).1 _ _) (fun q => by cases q) (by rw [arrV_size]; exact h2) (arrV_read _ _ (Nat.not_le.mp fun q => h2 (Or.inr q))) rfl rfl hd (kk _ h3)
    · cases h
  case baload =>
    simp only [dp_ald] at h; split at h
    · obtain ⟨h1, h2, h3⟩ := dp_ix_s h
      rw [dp_ln_eq hRp] at h2
      have hc := hRp.arr h1 (by decide)
      exact W.zald hx hb hc ((hKa 2 _ rfl).1 _ _) (fun q => by cases q) (by rw [arrV_size]; exact h2) (arrV_read _ _ (Nat.not_le.mp fun q => h2 (Or.inr q))) rfl rfl hd (kk _ h3)
    · cases h
  case caload =>
    simp only [dp_ald] at h; split at h
    · obtain ⟨h1, h2, h3⟩ := dp_ix_s h
      rw [dp_ln_eq hRp] at h2
      have hc := hRp.arr h1 (by decide)
      exact W.cald hx hb hc ((hKa 3 _ rfl).1 _ _) (fun q => by cases q) (by rw [arrV_size]; exact h2) (arrV_read _ _ (Nat.not_le.mp fun q => h2 (Or.inr q))) rfl rfl hd (kk _ h3)
    · cases h
  case aaload =>
    simp only [dp_ald] at h; split at h
    · obtain ⟨h1, h2, h3⟩ := dp_ix_s h
      rw [dp_ln_eq hRp] at h2
      have hc := hRp.arr h1 (by decide)
      have h4 := kk _ h3
      rw [List.map_cons, dp_rv_cv] at h4
      exact W.aald (ty := .object "PortHouse$Rate") hx hb hc ((hKa 4 _ rfl).1 _ _) rfl (fun q => by cases q) (by rw [arrV_size]; exact h2) (arrV_read _ _ (Nat.not_le.mp fun q => h2 (Or.inr q))) rfl rfl hd h4
    · cases h
  case arraylength =>
    simp only [dp_ald] at h; split at h
    · split at h
      · rename_i ht
        have h4 := kk _ h
        rw [dp_ln_eq hRp] at h4
        rcases ht with h1 | h1 | h1 | h1
        · exact W.alen hx hb (hRp.arr h1 (by decide)) ((hKa 0 _ rfl).1 _ _) (by rw [arrV_size]) rfl rfl hd h4
        · exact W.alen hx hb (hRp.arr h1 (by decide)) ((hKa 1 _ rfl).1 _ _) (by rw [arrV_size]) rfl rfl hd h4
        · exact W.alen hx hb (hRp.arr h1 (by decide)) ((hKa 2 _ rfl).1 _ _) (by rw [arrV_size]) rfl rfl hd h4
        · exact W.alen hx hb (hRp.arr h1 (by decide)) ((hKa 3 _ rfl).1 _ _) (by rw [arrV_size]) rfl rfl hd h4
      · cases h
    · split at h
      · rename_i hx0
        subst hx0
        obtain ⟨scr, g1, g2, g3, g4, g5⟩ := hX
        exact W.alen hx hb g1 g2 (by rw [g4]) rfl rfl hd (kk _ h)
      · cases h
    · cases h
theorem dp_locs (hl : ∀ q ∈ locs, b ≤ q.base) (a j : Nat) : ∀ q ∈ locs ++ [(⟨b + a, j⟩ : Loc)], b ≤ q.base := fun q hq => by
  rcases List.mem_append.mp hq with h | h
  · exact hl q h
  · rw [List.mem_singleton.mp h]; exact Nat.le_add_right b a
theorem dp_upI (M : dp_M) (a q : Nat) (x : Int32) : (fun j => Value.int (dp_I (dp_setI M a q x) a j)) = updV (fun j => Value.int (dp_I M a j)) q (.int x) := by
  funext j
  by_cases h : j = q
  · subst h; simp [dp_I, dp_setI, dp_up, updV]
  · simp [dp_I, dp_setI, dp_up, updV, h]
theorem dp_upJ (M : dp_M) (a q : Nat) (x : Int64) : (fun j => Value.long (dp_J (dp_setJ M a q x) a j)) = updV (fun j => Value.long (dp_J M a j)) q (.long x) := by
  funext j
  by_cases h : j = q
  · subst h; simp [dp_J, dp_setJ, dp_up, updV]
  · simp [dp_J, dp_setJ, dp_up, updV, h]
theorem dp_upR (M : dp_M) (a q v : Nat) : (fun j => va_rf ((dp_R (dp_setR M a q (some v)) a j).map (b + ·))) = updV (fun j => va_rf ((dp_R M a j).map (b + ·))) q (.ref (b + v)) := by
  funext j
  by_cases h : j = q
  · subst h; simp [dp_R, dp_setR, dp_up, updV, va_rf]
  · simp [dp_R, dp_setR, dp_up, updV, h]
set_option maxHeartbeats 4000000 in
theorem dp_ast_ok (hx : p.tables.exec = Jvm.exec) (hb : c.code = cc) (hK : dp_Kn G sa s) (hRp : dp_Rep G b H0 md M H) (hl : ∀ q ∈ locs, b ≤ q.base) {i : Instr} {st : List Value} {α : Type} {k : List Value → dp_M → Option α} {r : α} (h : dp_ast md i st M k = some r) (hd : decode cc pc = .ok (i, dp_il i))
    (kk : ∀ st' M' H' locs', k st' M' = some r → dp_n M' = dp_n M → dp_z M' = dp_z M → dp_Rep G b H0 md M' H' → (∀ q ∈ locs', b ≤ q.base) → W p l e R s m args below meth c H' locs' cells slots Q (F0 m (pc + dp_il i) ls (st'.map (dp_cv b sa)))) :
    W p l e R s m args below meth c H locs cells slots Q (F0 m pc ls (st.map (dp_cv b sa))) := by
  have hKa := hK.1.2
  cases i <;> first | (exfalso; simp only [dp_ast, reduceCtorEq] at h; done) | skip
  case iastore =>
    simp only [dp_ast] at h; split at h
    · rename_i x j a r0
      obtain ⟨h1, h2, h3⟩ := dp_ix_s h
      rw [dp_ln_eq hRp] at h2
      have hc := hRp.arr h1 (by decide)
      refine W.iast hx hb hc ((hKa 0 _ rfl).1 _ _) (fun q => by cases q) (by rw [arrV_size]; exact h2) rfl rfl hd (fun H' e1 z1 o1 => kk _ _ H' _ h3 rfl rfl (hRp.wr z1 o1 (dp_same_I M a _ x) ?_ (fun _ _ _ _ => rfl)) (dp_locs hl _ _))
      rw [h1]
      show H'[b + a]? = some (arrV (G.2 1) (dp_len M a) _)
      rw [dp_upI, e1, arrV_store]
    · cases h
  case lastore =>
    simp only [dp_ast] at h; split at h
    · rename_i x j a r0
      obtain ⟨h1, h2, h3⟩ := dp_ix_s h
      rw [dp_ln_eq hRp] at h2
      have hc := hRp.arr h1 (by decide)
      refine W.last hx hb hc ((hKa 1 _ rfl).1 _ _) (fun q => by cases q) (by rw [arrV_size]; exact h2) rfl rfl hd (fun H' e1 z1 o1 => kk _ _ H' _ h3 rfl rfl (hRp.wr z1 o1 (dp_same_J M a _ x) ?_ (fun _ _ _ _ => rfl)) (dp_locs hl _ _))
      rw [h1]
      show H'[b + a]? = some (arrV (G.2 2) (dp_len M a) _)
      rw [dp_upJ, e1, arrV_store]
    · cases h
  case bastore =>
    simp only [dp_ast] at h; split at h
    · rename_i x j a r0
      obtain ⟨h1, h2, h3⟩ := dp_ix_s h
      rw [dp_ln_eq hRp] at h2
      have hc := hRp.arr h1 (by decide)
      refine W.zast hx hb hc ((hKa 2 _ rfl).1 _ _) (fun q => by cases q) (by rw [arrV_size]; exact h2) rfl rfl hd (fun H' e1 z1 o1 => kk _ _ H' _ h3 rfl rfl (hRp.wr z1 o1 (dp_same_I M a _ (x &&& 1)) ?_ (fun _ _ _ _ => rfl)) (dp_locs hl _ _))
      rw [h1]
      show H'[b + a]? = some (arrV (G.2 3) (dp_len M a) _)
      rw [dp_upI, e1, arrV_store]
      rfl
    · cases h
  case castore =>
    simp only [dp_ast] at h; split at h
    · rename_i x j a r0
      obtain ⟨h1, h2, h3⟩ := dp_ix_s h
      rw [dp_ln_eq hRp] at h2
      have hc := hRp.arr h1 (by decide)
      refine W.cast hx hb hc ((hKa 3 _ rfl).1 _ _) (fun q => by cases q) (by rw [arrV_size]; exact h2) rfl rfl hd (fun H' e1 z1 o1 => kk _ _ H' _ h3 rfl rfl (hRp.wr z1 o1 (dp_same_I M a _ x.toUInt32.toUInt16.toUInt32.toInt32) ?_ (fun _ _ _ _ => rfl)) (dp_locs hl _ _))
      rw [h1]
      show H'[b + a]? = some (arrV (G.2 4) (dp_len M a) _)
      rw [dp_upI, e1, arrV_store]
      rfl
    · cases h
  case aastore =>
    simp only [dp_ast] at h; split at h
    · rename_i v j a r0
      split at h
      · rename_i hv
        obtain ⟨h1, h2, h3⟩ := dp_ix_s h
        rw [dp_ln_eq hRp] at h2
        have hc := hRp.arr h1 (by decide)
        have hlt : j.toNatClampNeg < dp_len M a := Nat.not_le.mp fun q => h2 (Or.inr q)
        obtain ⟨r', hr', cellV, g1, g2, g3, -⟩ := hRp.arr hv (by decide)
        obtain ⟨T9, N9, h9⟩ := dp_rate_ok
        cases Option.some.inj (hr'.symm.trans h9)
        have hcls := (hK.1.1 6 _ h9).2
        obtain ⟨kA, comp, k1, k2, k3, -⟩ := (hKa 4 _ rfl).2
        have hcomp : comp = G.1.1 6 := Option.some.inj (k3.symm.trans hcls.1)
        subst hcomp
        obtain ⟨kC, hkC, -⟩ := hcls.2
        refine W.aast hx hb hc (fun q h => by cases h) (fun h => by cases h) k1 k2 rfl hkC ⟨fun q => h2 (Or.inl q), by rw [arrV_size]; exact hlt⟩ g1 (fun q h => by rw [g3] at h; cases h) (by rw [g2]; exact hkC) (by rw [g2]; exact va_assign hcls) rfl rfl hd (fun H' e1 z1 o1 => kk _ _ H' _ h3 rfl rfl (hRp.wr z1 o1 (dp_same_R M a _ (some v)) ?_ (fun hm i ha hi => absurd (dp_sr_5 hm ha (by rw [h1]; decide) i) hi)) (dp_locs hl _ _))
        rw [h1]
        show H'[b + a]? = some (arrV (G.2 5) (dp_len M a) _)
        rw [dp_upR, e1, arrV_store]
      · cases h
    · cases h
end DPheap
