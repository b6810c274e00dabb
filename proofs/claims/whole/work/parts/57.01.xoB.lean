/-! THE JDK (2): floorMod -/
/-- the instructions of a member, by their places -/
def xo_ck (cc : ByteArray) (l : List (Nat × Instr × Nat)) : Bool := l.all (fun q => match decode cc q.1 with
  | .ok (i, len) => decide (i = q.2.1) && decide (len = q.2.2)
  | .error _ => false)
theorem xo_at {cc : ByteArray} {l : List (Nat × Instr × Nat)} (h : xo_ck cc l = true) {k pc n : Nat} {i : Instr} (hk : l[k]? = some (pc, i, n)) : decode cc pc = .ok (i, n) := by
  have h1 := List.all_eq_true.mp h _ (List.mem_of_getElem? hk)
  dsimp only at h1
  split at h1
  · rename_i i' len hd
    rw [Bool.and_eq_true] at h1
    have e1 : i' = i := of_decide_eq_true h1.1
    have e2 : len = n := of_decide_eq_true h1.2
    subst e1
    rw [hd, e2]
  · cases h1
/-- a call that leaves the heap as it is -/
def xo_K (G : dp_G) (b : Nat) (sa : Nat → Nat) (H0 : Heap) (xs : Nat → Int32) (xl : Nat) (U : State) : Prop := dp_Kn G sa U ∧ dp_Ext b sa H0 xs xl U
def xo_P (G : dp_G) (b : Nat) (sa : Nat → Nat) (H0 : Heap) (xs : Nat → Int32) (xl : Nat) (X : State → Prop) (A : List Value) (Hh : Heap) : Array Value → State → Prop := fun v U => v = A.toArray ∧ U.heap = Hh ∧ X U ∧ xo_K G b sa H0 xs xl U
def xo_Q (v : Option Value) (Hh : Heap) : Array Value → State → Outcome → State → Prop := fun _ _ oc t => oc = .returned v ∧ t.heap = Hh
abbrev xo_Met (l : Launch) (y : MethodName) (cc : ByteArray) (maxL : Nat) (ret : Option FieldType) (rm : Room) (G : dp_G) (b : Nat) (sa : Nat → Nat) (H0 : Heap) (xs : Nat → Int32) (xl : Nat) (X : State → Prop) (A : List Value) (v : Option Value) (Hh : Heap) : Prop :=
  Met l y (Cond.code y cc maxL ret :: dp_T) rm (xo_P G b sa H0 xs xl X A Hh) (xo_Q v Hh) 0 0 (fun _ => False)
/-- what is said of a state is said of every one that knows the same classes -/
def xo_X (X : State → Prop) : Prop := ∀ u U : State, u.vm.Alike U.vm → X u → X U
theorem xo_T : xo_X (fun _ => True) := fun _ _ _ _ => trivial
theorem xo_blind {G : dp_G} {b : Nat} {sa : Nat → Nat} {H0 : Heap} {xs : Nat → Int32} {xl : Nat} {X : State → Prop} {A : List Value} {Hh : Heap} (hX : xo_X X) : FrameBlind (xo_P G b sa H0 xs xl X A Hh) := fun a U g mk h =>
  ⟨h.1, h.2.1, hX U (U.calling g mk a) (Vm.Alike.refl _) h.2.2.1, dp_Kn.same (u := U) (U := U.calling g mk a) rfl h.2.2.2.1, dp_Ext.moved (u := U) (U := U.calling g mk a) (State.WarmedH.refl U) h.2.2.2.2⟩
section XOb
variable {p : Program} {l : Launch} {e : Env} {R : Room} {s : State} {m : MethodId} {args : Array Value} {below : List Frame} {meth : Method} {c : Code} {H : Heap} {locs : List Loc} {cells slots : Nat} {Q : State → Prop}
variable {cc : ByteArray} {pc : Nat} {ls : Array Slot} {b : Nat} {sa : Nat → Nat} {G : dp_G} {H0 : Heap} {xs : Nat → Int32} {xl : Nat}
theorem xo_go {rest : List Value} {g : JFrame} {v : Option Value} {Qa : State → Outcome → State → Prop} (hq : ∀ st0 o t, Qa st0 o t → o = .returned v ∧ t.heap = H) (hr : va_Run p l e R s m args below meth c H locs cells slots 0 0 g rest Qa (fun _ => False))
    (kk : W p l e R s m args below meth c H locs cells slots Q { g with pc := g.pc + 3, stack := v.toList ++ rest }) : W p l e R s m args below meth c H locs cells slots Q g := by
  intro T hT X
  obtain ⟨v', st0, t, T', L, h0, X', hL, e1, e2, q, st⟩ := hr T hT X
  obtain ⟨q1, q2⟩ := hq _ _ _ q
  have hv : v' = v := Outcome.returned.inj q1
  subst hv
  have hL0 : L = [] := by
    cases L with
    | nil => rfl
    | cons z L => exact (hL z List.mem_cons_self).elim
  subst hL0
  rw [List.append_nil] at X'
  obtain ⟨t2, a1, b1⟩ := kk T' (by rw [e1]; exact q2) X'
  exact ⟨t2, st t2 a1, b1⟩
/-- the words of a call from a state where the table holds -/
theorem xo_CB {own : String} {ix : Nat} {y : MethodName} {bytes : ByteArray} {maxL n : Nat} {ret : Option FieldType} {rm : Room} (hts : ∀ w ∈ dp_T, w.before args s = true) (hc : Cond.code y bytes maxL ret ∈ dp_T) (hi : Cond.initialized y.cls ∈ dp_T) (hl : Cond.methodLink own ix y ∈ dp_T) (h1 : rm.cells = 0) (h2 : rm.slots = 0) (h3 : rm.frames + 1 ≤ R.frames) (h4 : 8 + (maxL + 11) + rm.locals ≤ R.locals)
    (h5 : y.cls ≠ "java/lang/invoke/MethodHandle" ∧ y.cls ≠ "java/lang/invoke/VarHandle") (h6 : (parseMethodDescriptor y.desc).map (fun d => d.parameters.length) = some n) : CallB R s args own ix y bytes maxL ret (Cond.code y bytes maxL ret :: dp_T) rm 0 0 n := by
  refine ⟨h1, h2, h3, h4, fun w hw a' U hW => ?_, List.mem_cons_self, hts _ hc, hts _ hi, h5, fun sig hs => ?_, hts _ hl⟩
  · have hT : w ∈ dp_T := by
      rcases List.mem_cons.mp hw with rfl | h
      · exact hc
      · exact h
    exact word_at hW (good_of_word (dp_T_good w hT).2) (hts w hT)
  · rw [hs] at h6
    exact (Option.some.inj h6).symm
theorem xo_callS {X : State → Prop} (hX : xo_X X) (hXs : X s) {own : String} {ix : Nat} {y : MethodName} {bytes : ByteArray} {maxL n : Nat} {ret : Option FieldType} {rm : Room} {A rest : List Value} {v : Option Value} (hx : p.tables.exec = Jvm.exec) (hb : c.code = cc) (hml : c.maxLocals = ls.size) (hown : s.vm.findClass own = some m.cls) (hts : ∀ w ∈ dp_T, w.before args s = true) (hK : dp_Kn G sa s) (hE : dp_Ext b sa H0 xs xl s)
    (hM : xo_Met l y bytes maxL ret rm G b sa H0 xs xl X A v H) (cb : CallB R s args own ix y bytes maxL ret (Cond.code y bytes maxL ret :: dp_T) rm 0 0 n) (hst : Cond.static y ∈ dp_T) (hn : A.length = n) (hsum : (rest.map fun v => v.category).sum ≤ 8) (hdg : decode cc pc = .ok (.invokestatic ix, 3)) (hc : cells ≤ R.cells) (hsl : slots ≤ R.slots)
    (kk : W p l e R s m args below meth c H locs cells slots Q (F0 m (pc + 3) ls (v.toList ++ rest))) : W p l e R s m args below meth c H locs cells slots Q (F0 m pc ls (A.reverse ++ rest)) :=
  xo_go (g := F0 m pc ls (A.reverse ++ rest)) (v := v) (Qa := xo_Q v H A.toArray) (fun _ _ _ q => q) (va_runS (Ts := dp_T) ⟨hx, hb, hml, hown, hts⟩ hM ⟨cb, hts _ hst⟩ ⟨xo_blind hX, fun U hU hW => ⟨rfl, hU, hX s U hW.alike hXs, hK.moved hW, hE.moved hW⟩⟩ rfl hn rfl rfl (lv_room hsum) hdg ⟨hc, hsl⟩) kk
theorem xo_callV {X : State → Prop} (hX : xo_X X) (hXs : X s) {own C : String} {ix a : Nat} {y : MethodName} {bytes : ByteArray} {maxL n : Nat} {ret : Option FieldType} {rm : Room} {A rest : List Value} {v : Option Value} (hx : p.tables.exec = Jvm.exec) (hb : c.code = cc) (hml : c.maxLocals = ls.size) (hown : s.vm.findClass own = some m.cls) (hts : ∀ w ∈ dp_T, w.before args s = true) (hK : dp_Kn G sa s) (hE : dp_Ext b sa H0 xs xl s)
    (hM : xo_Met l y bytes maxL ret rm G b sa H0 xs xl X (.ref a :: A) v H) (cb : CallB R s args own ix y bytes maxL ret (Cond.code y bytes maxL ret :: dp_T) rm 0 0 n) (hi : Cond.instanceMethod y ∈ dp_T) (hse : Cond.selects C y y ∈ dp_T) (hr : ∃ cellB : Cell, H[a]? = some cellB ∧ cellB.vm.isStatics = false ∧ s.vm.findClass C = some cellB.cls) (hn : A.length = n) (hsum : (rest.map fun v => v.category).sum ≤ 8) (hdg : decode cc pc = .ok (.invokevirtual ix, 3)) (hc : cells ≤ R.cells) (hsl : slots ≤ R.slots)
    (kk : W p l e R s m args below meth c H locs cells slots Q (F0 m (pc + 3) ls (v.toList ++ rest))) : W p l e R s m args below meth c H locs cells slots Q (F0 m pc ls (A.reverse ++ .ref a :: rest)) :=
  xo_go (g := F0 m pc ls (A.reverse ++ .ref a :: rest)) (v := v) (Qa := xo_Q v H (.ref a :: A).toArray) (fun _ _ _ q => q) (va_runV (Ts := dp_T) (C := C) ⟨hx, hb, hml, hown, hts⟩ hM ⟨cb, hts _ hi, hts _ hse⟩ ⟨xo_blind hX, hr, fun U hU hW => ⟨rfl, hU, hX s U hW.alike hXs, hK.moved hW, hE.moved hW⟩⟩ rfl hn rfl rfl (lv_room hsum) hdg ⟨hc, hsl⟩) kk
end XOb
/-! floorMod -/
theorem xo_sg (a b : Int32) : (a ^^^ b) < 0 ↔ ¬ (a < 0 ↔ b < 0) := by
  have h : ∀ x : Int32, x < 0 ↔ x.toBitVec.msb = true := fun x => by
    rw [Int32.lt_iff_toInt_lt, ← Int32.toInt_toBitVec, BitVec.msb_eq_toInt]; simp
  rw [h, h, h, Int32.toBitVec_xor, BitVec.msb_xor]
  cases a.toBitVec.msb <;> cases b.toBitVec.msb <;> simp
theorem xo_rem (x y : Int32) : (x - x / y * y).toInt = x.toInt.tmod y.toInt := by
  have hx1 := Int32.le_toInt x
  have hx2 := Int32.toInt_lt x
  have hm : x.toInt.tmod y.toInt = x.toInt - x.toInt.tdiv y.toInt * y.toInt := by
    have := Int.tdiv_mul_add_tmod x.toInt y.toInt
    omega
  have hb : (x.toInt.tmod y.toInt).natAbs ≤ x.toInt.natAbs := by
    rw [Int.natAbs_tmod]; exact Nat.mod_le _ _
  have hs : 0 ≤ x.toInt → 0 ≤ x.toInt.tmod y.toInt := Int.tmod_nonneg _
  have hs' : x.toInt ≤ 0 → x.toInt.tmod y.toInt ≤ 0 := fun q => by
    have := Int.tmod_nonneg (a := -x.toInt) y.toInt (by omega)
    rw [Int.neg_tmod] at this; omega
  rw [Int32.toInt_sub, Int32.toInt_mul, Int32.toInt_div, Int.sub_bmod_bmod, ← Int.sub_bmod_bmod (y := Int.bmod _ _ * _), Int.bmod_mul_bmod, Int.sub_bmod_bmod, ← hm]
  refine Int.bmod_eq_of_le ?_ ?_
  · omega
  · omega
theorem xo_fme {x y : Int32} : (if (x ^^^ y) < 0 then (if x - x / y * y = 0 then x - x / y * y else x - x / y * y + y) else x - x / y * y) = dp_fm x y := by
  unfold dp_fm
  obtain ⟨r, er⟩ : ∃ r, r = x - x / y * y := ⟨_, rfl⟩
  have ht := xo_rem x y
  rw [← er] at ht ⊢
  by_cases z : r = 0
  · rw [z]; simp
  · have hr : r.toInt ≠ 0 := fun q => z (Int32.toInt_inj.mp (by rw [q]; rfl))
    have hs : r < 0 ↔ x < 0 := by
      rw [Int32.lt_iff_toInt_lt, Int32.lt_iff_toInt_lt, show (0 : Int32).toInt = 0 from rfl]
      constructor
      · intro q
        refine Int.not_le.mp (fun w => ?_)
        have := Int.tmod_nonneg y.toInt w
        omega
      · intro q
        have := Int.tmod_nonneg (a := -x.toInt) y.toInt (by omega)
        rw [Int.neg_tmod] at this
        omega
    have e : (x ^^^ y) < 0 ↔ (r ^^^ y) < 0 := by rw [xo_sg, xo_sg, hs]
    by_cases w : (x ^^^ y) < 0
    · rw [if_pos w, if_pos (e.mp w)]
    · rw [if_neg w, if_neg (fun q => w (e.mpr q))]
def xo_fml : List (Nat × Instr × Nat) := [(0, .iload_n 0, 1), (1, .iload_n 1, 1), (2, .irem, 1), (3, .istore_n 2, 1), (4, .iload_n 0, 1), (5, .iload_n 1, 1), (6, .ixor, 1), (7, .ifCond .ge 11, 3), (10, .iload_n 2, 1), (11, .ifCond .eq 7, 3), (14, .iload_n 2, 1), (15, .iload_n 1, 1), (16, .iadd, 1), (17, .ireturn, 1), (18, .iload_n 2, 1), (19, .ireturn, 1)]
theorem xo_fmd : xo_ck cJ9_floorMod_7cf53 xo_fml = true := by decide +kernel
theorem xo_fm {l : Launch} {rm : Room} {G : dp_G} {b : Nat} {sa : Nat → Nat} {H0 Hh : Heap} {xs : Nat → Int32} {xl : Nat} {x y : Int32} (hy : ¬ y = 0) : xo_Met l yJ9_floorMod_7cf53 cJ9_floorMod_7cf53 3 (some .int) rm G b sa H0 xs xl (fun _ => True) [.int x, .int y] (some (.int (dp_fm x y))) Hh := by
  have D := @xo_at _ _ xo_fmd
  refine va_MetF (cc := cJ9_floorMod_7cf53) (maxL := 3) (ret := some .int) (by decide +kernel) rfl ?_
  intro p e s m args below meth c s₁ B hml hP
  obtain ⟨rfl, hh, -, hK, hE⟩ := hP
  have hx := B.exec
  have hb := B.bytes
  have hl0 := dp_has_entry b sa [.int x, .int y] (n := 3) (by show 2 ≤ 3; omega)
  rw [lg_entry_eq]
  obtain ⟨ls, els⟩ : ∃ ls, ls = (lg_sl [Value.int x, Value.int y] ++ List.replicate (3 - (lg_sl [Value.int x, Value.int y]).length) Slot.unset).toArray := ⟨_, rfl⟩
  rw [← els]
  have hl : dp_has b sa ls [some (.int x), some (.int y), none] := by rw [els]; exact hl0
  have fin : ∀ (pc : Nat) (ls : Array Slot) (v : Int32), decode cJ9_floorMod_7cf53 pc = .ok (.ireturn, 1) → v = dp_fm x y → W p l e (headSpec (Cond.code yJ9_floorMod_7cf53 cJ9_floorMod_7cf53 3 (some .int) :: dp_T) rm).room s m [Value.int x, Value.int y].toArray below meth c s.heap [] 0 0 (MQ below (xo_Q (some (.int (dp_fm x y))) Hh) [Value.int x, Value.int y].toArray s 0 0 (fun _ => False)) (F0 m pc ls [.int v]) := fun pc ls v hd hv => by
    subst hv
    exact W.iret hx hb B.returns (fun t ht _ => ⟨rfl, ht.trans hh⟩) (fun q hq => by cases hq) hd B.notSynchronized
  refine dp_ld_ok (b := b) (sa := sa) (i := .iload_n 0) (v := .int x) (pc := 0) hx hb hl rfl (D (k := 0) rfl) ?_
  refine dp_ld_ok (b := b) (sa := sa) (i := .iload_n 1) (v := .int y) (pc := 1) hx hb hl rfl (D (k := 1) rfl) ?_
  refine dp_dv_ok (b := b) (sa := sa) (pc := 2) (st := [.int y, .int x]) (k := fun st => some st) (r := [.int (x - x / y * y)]) hx hb (by simp only [dp_dv]; rw [if_neg hy]) (D (k := 2) rfl) (fun st' q => ?_)
  cases q
  refine dp_sto_ok (b := b) (sa := sa) (pc := 3) (i := .istore_n 2) (st := [.int (x - x / y * y)]) (L' := [some (.int x), some (.int y), some (.int (x - x / y * y))]) (st' := []) hx hb hl rfl (D (k := 3) rfl) (fun ls' hl' => ?_)
  refine dp_ld_ok (b := b) (sa := sa) (i := .iload_n 0) (v := .int x) (pc := 4) hx hb hl' rfl (D (k := 4) rfl) ?_
  refine dp_ld_ok (b := b) (sa := sa) (i := .iload_n 1) (v := .int y) (pc := 5) hx hb hl' rfl (D (k := 5) rfl) ?_
  refine dp_pure_ok (b := b) (sa := sa) (pc := 6) (i := .ixor) (st := [.int y, .int x]) (st' := [.int (x ^^^ y)]) hx hb rfl (D (k := 6) rfl) ?_
  have l18 : ∀ v, dp_fm x y = v → v = x - x / y * y → W p l e (headSpec (Cond.code yJ9_floorMod_7cf53 cJ9_floorMod_7cf53 3 (some .int) :: dp_T) rm).room s m [Value.int x, Value.int y].toArray below meth c s.heap [] 0 0 (MQ below (xo_Q (some (.int (dp_fm x y))) Hh) [Value.int x, Value.int y].toArray s 0 0 (fun _ => False)) (F0 m 18 ls' []) := fun v h1 h2 =>
    dp_ld_ok (b := b) (sa := sa) (i := .iload_n 2) (v := .int (x - x / y * y)) (pc := 18) hx hb hl' rfl (D (k := 14) rfl) (fin 19 ls' _ (D (k := 15) rfl) (by rw [h1, h2]))
  have he := @xo_fme x y
  refine dp_br_ok (b := b) (sa := sa) (pc := 7) (i := .ifCond .ge 11) (st := [.int (x ^^^ y)]) (k := fun pc st => some (pc, st)) (r := if (x ^^^ y) < 0 then (10, []) else (18, [])) hx hb ?_ (D (k := 7) rfl) (fun _ => rfl) (fun pc' st' q => ?_)
  · by_cases w : (x ^^^ y) < 0
    · rw [if_pos w]
      show (if (0 : Int32) ≤ (x ^^^ y) then _ else _) = _
      rw [if_neg (Int32.not_le.mpr w)]
    · rw [if_neg w]
      show (if (0 : Int32) ≤ (x ^^^ y) then _ else _) = _
      rw [if_pos (Int32.not_lt.mp w)]
  · by_cases w : (x ^^^ y) < 0
    case neg =>
      rw [if_neg w] at q he
      cases q
      exact l18 _ rfl he.symm
    rw [if_pos w] at q he
    cases q
    refine dp_ld_ok (b := b) (sa := sa) (i := .iload_n 2) (v := .int (x - x / y * y)) (pc := 10) hx hb hl' rfl (D (k := 8) rfl) ?_
    refine dp_br_ok (b := b) (sa := sa) (pc := 11) (i := .ifCond .eq 7) (st := [.int (x - x / y * y)]) (k := fun pc st => some (pc, st)) (r := if x - x / y * y = 0 then (18, []) else (14, [])) hx hb ?_ (D (k := 9) rfl) (fun _ => rfl) (fun pc' st' q => ?_)
    · by_cases v : x - x / y * y = 0
      · rw [if_pos v]
        show (if _ = (0 : Int32) then _ else _) = _
        rw [if_pos v]
      · rw [if_neg v]
        show (if _ = (0 : Int32) then _ else _) = _
        rw [if_neg v]
    · by_cases v : x - x / y * y = 0
      · rw [if_pos v] at q he
        cases q
        exact l18 _ rfl he.symm
      · rw [if_neg v] at q he
        cases q
        refine dp_ld_ok (b := b) (sa := sa) (i := .iload_n 2) (v := .int (x - x / y * y)) (pc := 14) hx hb hl' rfl (D (k := 10) rfl) ?_
        refine dp_ld_ok (b := b) (sa := sa) (i := .iload_n 1) (v := .int y) (pc := 15) hx hb hl' rfl (D (k := 11) rfl) ?_
        refine dp_pure_ok (b := b) (sa := sa) (pc := 16) (i := .iadd) (st := [.int y, .int (x - x / y * y)]) (st' := [.int (x - x / y * y + y)]) hx hb rfl (D (k := 12) rfl) ?_
        exact fin 17 ls' _ (D (k := 13) rfl) he
