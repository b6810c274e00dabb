/-! THE JDK (5): the members of String (2) -/
def xo_isl : List (Nat × Instr × Nat) := [(0, .getstatic 38, 3), (3, .ifCond .eq 14, 3), (6, .aload_n 0, 1), (7, .getfield 15, 3), (10, .ifCond .ne 7, 3), (13, .iconst 1, 1), (14, .goto 4, 3), (18, .ireturn, 1)]
theorem xo_isd : xo_ck cJ0_isLatin1_aae02 xo_isl = true := by decide +kernel
def xo_cdl : List (Nat × Instr × Nat) := [(0, .getstatic 38, 3), (3, .ifCond .eq 10, 3), (6, .aload_n 0, 1), (7, .getfield 15, 3), (10, .goto 4, 3), (14, .ireturn, 1)]
theorem xo_cdd : xo_ck cJ0_coder_7d493 xo_cdl = true := by decide +kernel
def xo_lnl : List (Nat × Instr × Nat) := [(0, .aload_n 0, 1), (1, .getfield 9, 3), (4, .arraylength, 1), (5, .aload_n 0, 1), (6, .invokevirtual 335, 3), (9, .ishr, 1), (10, .ireturn, 1)]
theorem xo_lnd : xo_ck cJ0_length_8abf5 xo_lnl = true := by decide +kernel
def xo_chl : List (Nat × Instr × Nat) := [(0, .aload_n 0, 1), (1, .invokevirtual 492, 3), (4, .ifCond .eq 12, 3), (7, .aload_n 0, 1), (8, .getfield 9, 3), (11, .iload_n 1, 1), (12, .invokestatic 495, 3), (15, .ireturn, 1)]
theorem xo_chd : xo_ck cJ0_charAt_5068e xo_chl = true := by decide +kernel
section XOf
variable {l : Launch} {G : dp_G} {b : Nat} {sa : Nat → Nat} {H0 Hh : Heap} {xs : Nat → Int32} {xl : Nat}
set_option maxRecDepth 100000 in
theorem xo_lat {j : Nat} {rm : Room} (hH : ∀ q : Nat, q < b → Hh[q]? = H0[q]?) (hj : dp_sc j ≠ []) : xo_Met l yJ0_isLatin1_aae02 cJ0_isLatin1_aae02 1 (some .boolean) rm G b sa H0 xs xl (fun _ => True) [.ref (sa j)] (some (.int 1)) Hh := by
  have D := @xo_at _ _ xo_isd
  refine va_MetF (cc := cJ0_isLatin1_aae02) (maxL := 1) (ret := some .boolean) (by decide +kernel) rfl ?_
  intro p e s m args below meth c s₁ B hml hP
  obtain ⟨rfl, hh, -, hK, hE⟩ := hP
  have hx := B.exec
  have hb := B.bytes
  have hts0 := atoms_spec (ws := Cond.code yJ0_isLatin1_aae02 cJ0_isLatin1_aae02 1 (some .boolean) :: dp_T) B.pre
  have hts : ∀ w ∈ dp_T, w.before [Value.ref (sa j)].toArray s = true := fun w hw => hts0 w (List.mem_cons_of_mem _ hw)
  have hown : s.vm.findClass "java/lang/String" = some m.cls := findClass_of_methodNamed B.named
  have hS : va_S (fun q => b ≤ q) s.heap s.heap [] := ⟨Nat.le_refl _, fun _ _ _ => rfl, fun q hq => by cases hq⟩
  have hkp : ∀ a : Nat, a < H0.size → ¬ b ≤ a → s.heap[a]? = H0[a]? := fun a _ h2 => by rw [hh]; exact hH a (by omega)
  obtain ⟨-, -, q2, -⟩ := xo_str hj hK hE
  rw [lg_entry_eq]
  obtain ⟨ls, els⟩ : ∃ ls, ls = (lg_sl [Value.ref (sa j)] ++ List.replicate (1 - (lg_sl [Value.ref (sa j)]).length) Slot.unset).toArray := ⟨_, rfl⟩
  rw [← els]
  have hl : dp_has b sa ls [some (.retAddr j)] := by rw [els]; exact dp_has_entry b sa [.retAddr j] (n := 1) (by show 1 ≤ 1; omega)
  refine va_gets (pc := 0) hx hb ((xo_cs hE).kept hkp) hS hown (hts _ (dp_in_ok (q := 2236) (by decide +kernel) rfl)) (fun _ h => h) (D (k := 0) rfl) ?_
  refine dp_br_ok (b := b) (sa := sa) (pc := 3) (i := .ifCond .eq 14) (st := [.int 1]) (k := fun pc st => some (pc, st)) (r := (6, [])) hx hb rfl (D (k := 1) rfl) (fun _ => rfl) (fun pc' st' q => ?_)
  cases q
  refine dp_ld_ok (b := b) (sa := sa) (i := .aload_n 0) (v := .retAddr j) (pc := 6) hx hb hl rfl (D (k := 2) rfl) ?_
  refine vk_getf (pc := 7) hx hb (q2.kept hkp) hS hown (hts _ (dp_in_ok (q := 4677) (by decide +kernel) rfl)) (fun _ h => h) (D (k := 3) rfl) ?_
  refine dp_br_ok (b := b) (sa := sa) (pc := 10) (i := .ifCond .ne 7) (st := [.int 0]) (k := fun pc st => some (pc, st)) (r := (13, [])) hx hb rfl (D (k := 4) rfl) (fun _ => rfl) (fun pc' st' q => ?_)
  cases q
  refine dp_pure_ok (b := b) (sa := sa) (pc := 13) (i := .iconst 1) (st := []) (st' := [.int 1]) hx hb rfl (D (k := 5) rfl) ?_
  refine dp_br_ok (b := b) (sa := sa) (pc := 14) (i := .goto 4) (st := [.int 1]) (k := fun pc st => some (pc, st)) (r := (18, [.int 1])) hx hb rfl (D (k := 6) rfl) (fun _ => rfl) (fun pc' st' q => ?_)
  cases q
  exact W.zret hx hb B.returns rfl (fun t ht _ => ⟨rfl, ht.trans hh⟩) (fun q hq => by cases hq) (D (k := 7) rfl) B.notSynchronized
set_option maxRecDepth 100000 in
theorem xo_cdr {j : Nat} {rm : Room} (hH : ∀ q : Nat, q < b → Hh[q]? = H0[q]?) (hj : dp_sc j ≠ []) : xo_Met l yJ0_coder_7d493 cJ0_coder_7d493 1 (some .byte) rm G b sa H0 xs xl (fun _ => True) [.ref (sa j)] (some (.int 0)) Hh := by
  have D := @xo_at _ _ xo_cdd
  refine va_MetF (cc := cJ0_coder_7d493) (maxL := 1) (ret := some .byte) (by decide +kernel) rfl ?_
  intro p e s m args below meth c s₁ B hml hP
  obtain ⟨rfl, hh, -, hK, hE⟩ := hP
  have hx := B.exec
  have hb := B.bytes
  have hts0 := atoms_spec (ws := Cond.code yJ0_coder_7d493 cJ0_coder_7d493 1 (some .byte) :: dp_T) B.pre
  have hts : ∀ w ∈ dp_T, w.before [Value.ref (sa j)].toArray s = true := fun w hw => hts0 w (List.mem_cons_of_mem _ hw)
  have hown : s.vm.findClass "java/lang/String" = some m.cls := findClass_of_methodNamed B.named
  have hS : va_S (fun q => b ≤ q) s.heap s.heap [] := ⟨Nat.le_refl _, fun _ _ _ => rfl, fun q hq => by cases hq⟩
  have hkp : ∀ a : Nat, a < H0.size → ¬ b ≤ a → s.heap[a]? = H0[a]? := fun a _ h2 => by rw [hh]; exact hH a (by omega)
  obtain ⟨-, -, q2, -⟩ := xo_str hj hK hE
  rw [lg_entry_eq]
  obtain ⟨ls, els⟩ : ∃ ls, ls = (lg_sl [Value.ref (sa j)] ++ List.replicate (1 - (lg_sl [Value.ref (sa j)]).length) Slot.unset).toArray := ⟨_, rfl⟩
  rw [← els]
  have hl : dp_has b sa ls [some (.retAddr j)] := by rw [els]; exact dp_has_entry b sa [.retAddr j] (n := 1) (by show 1 ≤ 1; omega)
  refine va_gets (pc := 0) hx hb ((xo_cs hE).kept hkp) hS hown (hts _ (dp_in_ok (q := 2236) (by decide +kernel) rfl)) (fun _ h => h) (D (k := 0) rfl) ?_
  refine dp_br_ok (b := b) (sa := sa) (pc := 3) (i := .ifCond .eq 10) (st := [.int 1]) (k := fun pc st => some (pc, st)) (r := (6, [])) hx hb rfl (D (k := 1) rfl) (fun _ => rfl) (fun pc' st' q => ?_)
  cases q
  refine dp_ld_ok (b := b) (sa := sa) (i := .aload_n 0) (v := .retAddr j) (pc := 6) hx hb hl rfl (D (k := 2) rfl) ?_
  refine vk_getf (pc := 7) hx hb (q2.kept hkp) hS hown (hts _ (dp_in_ok (q := 4677) (by decide +kernel) rfl)) (fun _ h => h) (D (k := 3) rfl) ?_
  refine dp_br_ok (b := b) (sa := sa) (pc := 10) (i := .goto 4) (st := [.int 0]) (k := fun pc st => some (pc, st)) (r := (14, [.int 0])) hx hb rfl (D (k := 4) rfl) (fun _ => rfl) (fun pc' st' q => ?_)
  cases q
  exact W.zret hx hb B.returns rfl (fun t ht _ => ⟨rfl, ht.trans hh⟩) (fun q hq => by cases hq) (D (k := 5) rfl) B.notSynchronized
set_option maxRecDepth 100000 in
theorem xo_len {j : Nat} (hH : ∀ q : Nat, q < b → Hh[q]? = H0[q]?) (hj : dp_sc j ≠ []) : xo_Met l yJ0_length_8abf5 cJ0_length_8abf5 1 (some .int) (xo_rm 1 30) G b sa H0 xs xl (fun _ => True) [.ref (sa j)] (some (.int (nI (dp_sc j).length))) Hh := by
  have D := @xo_at _ _ xo_lnd
  refine va_MetF (cc := cJ0_length_8abf5) (maxL := 1) (ret := some .int) (by decide +kernel) rfl ?_
  intro p e s m args below meth c s₁ B hml hP
  obtain ⟨rfl, hh, -, hK, hE⟩ := hP
  have hx := B.exec
  have hb := B.bytes
  have hts0 := atoms_spec (ws := Cond.code yJ0_length_8abf5 cJ0_length_8abf5 1 (some .int) :: dp_T) B.pre
  have hts : ∀ w ∈ dp_T, w.before [Value.ref (sa j)].toArray s = true := fun w hw => hts0 w (List.mem_cons_of_mem _ hw)
  have hown : s.vm.findClass "java/lang/String" = some m.cls := findClass_of_methodNamed B.named
  have hS : va_S (fun q => b ≤ q) s.heap s.heap [] := ⟨Nat.le_refl _, fun _ _ _ => rfl, fun q hq => by cases hq⟩
  have hkp : ∀ a : Nat, a < H0.size → ¬ b ≤ a → s.heap[a]? = H0[a]? := fun a _ h2 => by rw [hh]; exact hH a (by omega)
  obtain ⟨q0, q1, -, av, q3, q4⟩ := xo_str hj hK hE
  obtain ⟨cell, r1, r2, r3, -⟩ := q1.kept hkp
  rw [lg_entry_eq]
  obtain ⟨ls, els⟩ : ∃ ls, ls = (lg_sl [Value.ref (sa j)] ++ List.replicate (1 - (lg_sl [Value.ref (sa j)]).length) Slot.unset).toArray := ⟨_, rfl⟩
  rw [← els]
  have hl : dp_has b sa ls [some (.retAddr j)] := by rw [els]; exact dp_has_entry b sa [.retAddr j] (n := 1) (by show 1 ≤ 1; omega)
  have hsz : c.maxLocals = ls.size := by rw [hml, hl.1]; rfl
  refine dp_ld_ok (b := b) (sa := sa) (i := .aload_n 0) (v := .retAddr j) (pc := 0) hx hb hl rfl (D (k := 0) rfl) ?_
  refine vk_getf (pc := 1) hx hb (q3.kept hkp) hS hown (hts _ (dp_in_ok (q := 4676) (by decide +kernel) rfl)) (fun _ h => h) (D (k := 1) rfl) ?_
  refine va_tlen (pc := 4) hx hb (q4.kept hkp) hS (v := nI (dp_sc j).length) rfl (D (k := 2) rfl) ?_
  refine dp_ld_ok (b := b) (sa := sa) (i := .aload_n 0) (v := .retAddr j) (pc := 5) hx hb hl rfl (D (k := 3) rfl) ?_
  refine xo_callV (pc := 6) (a := sa j) (C := "java/lang/String") (A := []) (rest := [.int (nI (dp_sc j).length)]) (v := some (.int 0)) (n := 0) (rm := xo_rm 0 0) xo_T trivial hx hb hsz hown hts hK hE (by rw [hh]; exact xo_cdr hH hj)
    (xo_CB hts (dp_in_ok (q := 2235) (by decide +kernel) rfl) (dp_in_ok (q := 279) (by decide +kernel) rfl) (dp_in_ok (q := 2232) (by decide +kernel) rfl) rfl rfl (by show 0 + 1 ≤ 1; omega) (by show 8 + (1 + 11) + 0 ≤ 30; omega) (by decide) (by decide +kernel)) (dp_in_ok (q := 2233) (by decide +kernel) rfl) (dp_in_ok (q := 2234) (by decide +kernel) rfl) ⟨cell, r1, r2, r3⟩ rfl (by show 1 ≤ 8; omega) (D (k := 4) rfl) (Nat.zero_le _) (Nat.zero_le _) ?_
  have sh : nI (dp_sc j).length >>> ((0 : Int32) &&& 31) = nI (dp_sc j).length := by
    have key : ∀ n, n < 100 → nI n >>> ((0 : Int32) &&& 31) = nI n := by decide
    exact key _ q0
  refine dp_pure_ok (b := b) (sa := sa) (pc := 9) (i := .ishr) (st := [.int 0, .int (nI (dp_sc j).length)]) (st' := [.int (nI (dp_sc j).length >>> ((0 : Int32) &&& 31))]) hx hb rfl (D (k := 5) rfl) ?_
  rw [sh]
  exact W.iret hx hb B.returns (fun t ht _ => ⟨rfl, ht.trans hh⟩) (fun q hq => by cases hq) (D (k := 6) rfl) B.notSynchronized
def xo_bt : Bool := (List.range 33).all (fun j => (dp_sc j).all (fun x => decide (((x &&& (Int16.ofInt 255).toInt32).toUInt32 % 65536).toInt32 = x) && decide (narrow .char (.int x) = .int x)))
theorem xo_btd : xo_bt = true := by decide +kernel
theorem xo_btt {j k : Nat} (hk : k < (dp_sc j).length) : xo_byte ((dp_sc j).getD k 0) ((dp_sc j).getD k 0) := by
  have hj : j < 33 := by
    refine Nat.lt_of_not_le (fun z => ?_)
    unfold dp_sc at hk
    split at hk
    all_goals first | omega | (exact absurd hk (Nat.not_lt_zero k))
  have h1 := List.all_eq_true.mp (List.all_eq_true.mp xo_btd j (List.mem_range.mpr hj)) ((dp_sc j).getD k 0) (by rw [List.getD_eq_getElem?_getD, List.getElem?_eq_getElem hk]; exact List.getElem_mem hk)
  rw [Bool.and_eq_true] at h1
  exact ⟨of_decide_eq_true h1.1, of_decide_eq_true h1.2⟩
set_option maxRecDepth 100000 in
theorem xo_chr {j k : Nat} (hH : ∀ q : Nat, q < b → Hh[q]? = H0[q]?) (hk : k < (dp_sc j).length) : xo_Met l yJ0_charAt_5068e cJ0_charAt_5068e 2 (some .char) (xo_rm 3 100) G b sa H0 xs xl (fun _ => True) [.ref (sa j), .int (nI k)] (some (.int ((dp_sc j).getD k 0))) Hh := by
  have D := @xo_at _ _ xo_chd
  have hj : dp_sc j ≠ [] := fun q => by rw [q] at hk; exact absurd hk (Nat.not_lt_zero k)
  have hbt := xo_btt hk
  refine va_MetF (cc := cJ0_charAt_5068e) (maxL := 2) (ret := some .char) (by decide +kernel) rfl ?_
  intro p e s m args below meth c s₁ B hml hP
  obtain ⟨rfl, hh, -, hK, hE⟩ := hP
  have hx := B.exec
  have hb := B.bytes
  have hts0 := atoms_spec (ws := Cond.code yJ0_charAt_5068e cJ0_charAt_5068e 2 (some .char) :: dp_T) B.pre
  have hts : ∀ w ∈ dp_T, w.before [Value.ref (sa j), Value.int (nI k)].toArray s = true := fun w hw => hts0 w (List.mem_cons_of_mem _ hw)
  have hown : s.vm.findClass "java/lang/String" = some m.cls := findClass_of_methodNamed B.named
  have hS : va_S (fun q => b ≤ q) s.heap s.heap [] := ⟨Nat.le_refl _, fun _ _ _ => rfl, fun q hq => by cases hq⟩
  have hkp : ∀ a : Nat, a < H0.size → ¬ b ≤ a → s.heap[a]? = H0[a]? := fun a _ h2 => by rw [hh]; exact hH a (by omega)
  obtain ⟨q0, q1, -, av, q3, q4⟩ := xo_str hj hK hE
  obtain ⟨cell, r1, r2, r3, -⟩ := q1.kept hkp
  rw [lg_entry_eq]
  obtain ⟨ls, els⟩ : ∃ ls, ls = (lg_sl [Value.ref (sa j), Value.int (nI k)] ++ List.replicate (2 - (lg_sl [Value.ref (sa j), Value.int (nI k)]).length) Slot.unset).toArray := ⟨_, rfl⟩
  rw [← els]
  have hl : dp_has b sa ls [some (.retAddr j), some (.int (nI k))] := by rw [els]; exact dp_has_entry b sa [.retAddr j, .int (nI k)] (n := 2) (by show 2 ≤ 2; omega)
  have hsz : c.maxLocals = ls.size := by rw [hml, hl.1]; rfl
  refine dp_ld_ok (b := b) (sa := sa) (i := .aload_n 0) (v := .retAddr j) (pc := 0) hx hb hl rfl (D (k := 0) rfl) ?_
  refine xo_callV (pc := 1) (a := sa j) (C := "java/lang/String") (A := []) (rest := []) (v := some (.int 1)) (n := 0) (rm := xo_rm 0 0) xo_T trivial hx hb hsz hown hts hK hE (by rw [hh]; exact xo_lat hH hj)
    (xo_CB hts (dp_in_ok (q := 2245) (by decide +kernel) rfl) (dp_in_ok (q := 279) (by decide +kernel) rfl) (dp_in_ok (q := 2242) (by decide +kernel) rfl) rfl rfl (by show 0 + 1 ≤ 3; omega) (by show 8 + (1 + 11) + 0 ≤ 100; omega) (by decide) (by decide +kernel)) (dp_in_ok (q := 2243) (by decide +kernel) rfl) (dp_in_ok (q := 2244) (by decide +kernel) rfl) ⟨cell, r1, r2, r3⟩ rfl (by decide) (D (k := 1) rfl) (Nat.zero_le _) (Nat.zero_le _) ?_
  refine dp_br_ok (b := b) (sa := sa) (pc := 4) (i := .ifCond .eq 12) (st := [.int 1]) (k := fun pc st => some (pc, st)) (r := (7, [])) hx hb rfl (D (k := 2) rfl) (fun _ => rfl) (fun pc' st' q => ?_)
  cases q
  refine dp_ld_ok (b := b) (sa := sa) (i := .aload_n 0) (v := .retAddr j) (pc := 7) hx hb hl rfl (D (k := 3) rfl) ?_
  refine vk_getf (pc := 8) hx hb (q3.kept hkp) hS hown (hts _ (dp_in_ok (q := 4676) (by decide +kernel) rfl)) (fun _ h => h) (D (k := 4) rfl) ?_
  refine dp_ld_ok (b := b) (sa := sa) (i := .iload_n 1) (v := .int (nI k)) (pc := 11) hx hb hl rfl (D (k := 5) rfl) ?_
  refine xo_callS (pc := 12) (A := [.ref av, .int (nI k)]) (rest := []) (v := some (.int ((dp_sc j).getD k 0))) (n := 2) (rm := xo_rm 2 60) (X := fun U => va_T .byte av (dp_sc j).length (fun i => .int ((dp_sc j).getD i 0)) (fun q => b ≤ q) U H0) (fun u U hv h => va_T.moved hv h) q4 hx hb hsz hown hts hK hE (by rw [hh]; exact xo_l1 (f := fun i => (dp_sc j).getD i 0) hH hk (by omega) hbt)
    (xo_CB hts (dp_in_ok (q := 2248) (by decide +kernel) rfl) (dp_in_ok (q := 280) (by decide +kernel) rfl) (dp_in_ok (q := 2246) (by decide +kernel) rfl) rfl rfl (by show 2 + 1 ≤ 3; omega) (by show 8 + (2 + 11) + 60 ≤ 100; omega) (by decide) (by decide +kernel)) (dp_in_ok (q := 2247) (by decide +kernel) rfl) rfl (by decide) (D (k := 6) rfl) (Nat.zero_le _) (Nat.zero_le _) ?_
  exact W.zret hx hb B.returns hbt.2 (fun t ht _ => ⟨rfl, ht.trans hh⟩) (fun q hq => by cases hq) (D (k := 7) rfl) B.notSynchronized
end XOf
