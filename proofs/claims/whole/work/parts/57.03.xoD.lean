/-! THE JDK (4): the members of String -/
abbrev xo_rm (f n : Nat) : Room := { frames := f, cells := 0, slots := 0, locals := n }
/-! String.checkIndex -/
def xo_cil : List (Nat × Instr × Nat) := [(0, .iload_n 0, 1), (1, .iload_n 1, 1), (2, .getstatic 1053, 3), (5, .invokestatic 1059, 3), (8, .pop, 1), (9, .return_, 1)]
theorem xo_cid : xo_ck cJ0_checkIndex_df160 xo_cil = true := by decide +kernel
section XOd
variable {l : Launch} {G : dp_G} {b : Nat} {sa : Nat → Nat} {H0 Hh : Heap} {xs : Nat → Int32} {xl : Nat}
set_option maxRecDepth 100000 in
theorem xo_ci {i n : Int32} (hH : ∀ q : Nat, q < b → Hh[q]? = H0[q]?) (h0 : ¬ i < 0) (h1 : i < n) : xo_Met l yJ0_checkIndex_df160 cJ0_checkIndex_df160 2 none (xo_rm 1 30) G b sa H0 xs xl (fun _ => True) [.int i, .int n] none Hh := by
  have D := @xo_at _ _ xo_cid
  refine va_MetF (cc := cJ0_checkIndex_df160) (maxL := 2) (ret := none) (by decide +kernel) rfl ?_
  intro p e s m args below meth c s₁ B hml hP
  obtain ⟨rfl, hh, -, hK, hE⟩ := hP
  have hx := B.exec
  have hb := B.bytes
  have hts0 := atoms_spec (ws := Cond.code yJ0_checkIndex_df160 cJ0_checkIndex_df160 2 none :: dp_T) B.pre
  have hts : ∀ w ∈ dp_T, w.before [Value.int i, Value.int n].toArray s = true := fun w hw => hts0 w (List.mem_cons_of_mem _ hw)
  have hown : s.vm.findClass "java/lang/String" = some m.cls := findClass_of_methodNamed B.named
  have hS : va_S (fun q => b ≤ q) s.heap s.heap [] := ⟨Nat.le_refl _, fun _ _ _ => rfl, fun q hq => by cases hq⟩
  have hkp : ∀ a : Nat, a < H0.size → ¬ b ≤ a → s.heap[a]? = H0[a]? := fun a _ h2 => by rw [hh]; exact hH a (by omega)
  rw [lg_entry_eq]
  obtain ⟨ls, els⟩ : ∃ ls, ls = (lg_sl [Value.int i, Value.int n] ++ List.replicate (2 - (lg_sl [Value.int i, Value.int n]).length) Slot.unset).toArray := ⟨_, rfl⟩
  rw [← els]
  have hl : dp_has b sa ls [some (.int i), some (.int n)] := by rw [els]; exact dp_has_entry b sa [.int i, .int n] (n := 2) (by show 2 ≤ 2; omega)
  have hsz : c.maxLocals = ls.size := by rw [hml, hl.1]; rfl
  have go : ∀ w : Value, (w = .null ∨ ∃ t, w = .ref t) → va_Z "jdk/internal/util/Preconditions" "SIOOBE_FORMATTER" "Ljava/util/function/BiFunction;" w (fun q => b ≤ q) s H0 →
      W p l e (headSpec (Cond.code yJ0_checkIndex_df160 cJ0_checkIndex_df160 2 none :: dp_T) (xo_rm 1 30)).room s m [Value.int i, Value.int n].toArray below meth c s.heap [] 0 0 (MQ below (xo_Q none Hh) [Value.int i, Value.int n].toArray s 0 0 (fun _ => False)) (F0 m 0 ls []) := fun w hw hZ => by
    refine dp_ld_ok (b := b) (sa := sa) (i := .iload_n 0) (v := .int i) (pc := 0) hx hb hl rfl (D (k := 0) rfl) ?_
    refine dp_ld_ok (b := b) (sa := sa) (i := .iload_n 1) (v := .int n) (pc := 1) hx hb hl rfl (D (k := 1) rfl) ?_
    refine va_gets (pc := 2) hx hb (hZ.kept hkp) hS hown (hts _ (dp_in_ok (q := 2252) (by decide +kernel) rfl)) (fun _ h => h) (D (k := 2) rfl) ?_
    refine xo_callS (pc := 5) (A := [.int i, .int n, w]) (rest := []) (v := some (.int i)) (n := 3) (rm := xo_rm 0 0) xo_T trivial hx hb hsz hown hts hK hE (by rw [hh]; exact xo_pc hw h0 h1)
      (xo_CB hts (dp_in_ok (q := 2256) (by decide +kernel) rfl) (dp_in_ok (q := 281) (by decide +kernel) rfl) (dp_in_ok (q := 2254) (by decide +kernel) rfl) rfl rfl (by show 0 + 1 ≤ 1; omega) (by show 8 + (3 + 11) + 0 ≤ 30; omega) (by decide) (by decide +kernel)) (dp_in_ok (q := 2255) (by decide +kernel) rfl) rfl (by decide) (D (k := 3) rfl) (Nat.zero_le _) (Nat.zero_le _) ?_
    refine dp_pure_ok (b := b) (sa := sa) (pc := 8) (i := .pop) (st := [.int i]) (st' := []) hx hb rfl (D (k := 4) rfl) ?_
    exact W.vret hx hb B.returns (fun t ht _ => ⟨rfl, ht.trans hh⟩) (fun q hq => by cases hq) (D (k := 5) rfl) B.notSynchronized
  rcases xo_sf hE with hZ | ⟨t, hZ⟩
  · exact go _ (Or.inl rfl) hZ
  · exact go _ (Or.inr ⟨t, rfl⟩) hZ
end XOd
/-! StringLatin1.charAt -/
def xo_lcl : List (Nat × Instr × Nat) := [(0, .iload_n 1, 1), (1, .aload_n 0, 1), (2, .arraylength, 1), (3, .invokestatic 9, 3), (6, .aload_n 0, 1), (7, .iload_n 1, 1), (8, .baload, 1), (9, .sipush 255, 3), (12, .iand, 1), (13, .i2c, 1), (14, .ireturn, 1)]
theorem xo_lcd : xo_ck cJ1_charAt_3b067 xo_lcl = true := by decide +kernel
def xo_byte (x v : Int32) : Prop := ((x &&& (Int16.ofInt 255).toInt32).toUInt32 % 65536).toInt32 = v ∧ narrow .char (.int v) = .int v
section XOe
variable {l : Launch} {G : dp_G} {b : Nat} {sa : Nat → Nat} {H0 Hh : Heap} {xs : Nat → Int32} {xl : Nat}
set_option maxRecDepth 100000 in
theorem xo_l1 {av N k : Nat} {f : Nat → Int32} {v : Int32} (hH : ∀ q : Nat, q < b → Hh[q]? = H0[q]?) (hk : k < N) (hN : N < 1000) (hv : xo_byte (f k) v) : xo_Met l yJ1_charAt_3b067 cJ1_charAt_3b067 2 (some .char) (xo_rm 2 60) G b sa H0 xs xl (fun U => va_T .byte av N (fun i => .int (f i)) (fun q => b ≤ q) U H0) [.ref av, .int (nI k)] (some (.int v)) Hh := by
  have D := @xo_at _ _ xo_lcd
  refine va_MetF (cc := cJ1_charAt_3b067) (maxL := 2) (ret := some .char) (by decide +kernel) rfl ?_
  intro p e s m args below meth c s₁ B hml hP
  obtain ⟨rfl, hh, hT, hK, hE⟩ := hP
  have hx := B.exec
  have hb := B.bytes
  have hts0 := atoms_spec (ws := Cond.code yJ1_charAt_3b067 cJ1_charAt_3b067 2 (some .char) :: dp_T) B.pre
  have hts : ∀ w ∈ dp_T, w.before [Value.ref av, Value.int (nI k)].toArray s = true := fun w hw => hts0 w (List.mem_cons_of_mem _ hw)
  have hown : s.vm.findClass "java/lang/StringLatin1" = some m.cls := findClass_of_methodNamed B.named
  have hS : va_S (fun q => b ≤ q) s.heap s.heap [] := ⟨Nat.le_refl _, fun _ _ _ => rfl, fun q hq => by cases hq⟩
  have hkp : ∀ a : Nat, a < H0.size → ¬ b ≤ a → s.heap[a]? = H0[a]? := fun a _ h2 => by rw [hh]; exact hH a (by omega)
  have hT' := hT.kept hkp
  rw [lg_entry_eq]
  obtain ⟨ls, els⟩ : ∃ ls, ls = (lg_sl [Value.ref av, Value.int (nI k)] ++ List.replicate (2 - (lg_sl [Value.ref av, Value.int (nI k)]).length) Slot.unset).toArray := ⟨_, rfl⟩
  rw [← els]
  have hl : dp_has b (fun _ => av) ls [some (.retAddr 0), some (.int (nI k))] := by rw [els]; exact dp_has_entry b (fun _ => av) [.retAddr 0, .int (nI k)] (n := 2) (by show 2 ≤ 2; omega)
  have hsz : c.maxLocals = ls.size := by rw [hml, hl.1]; rfl
  have hin : vp_in (nI k) N := nI_in hk (by omega)
  have h0 : ¬ nI k < 0 := fun q => hin (Or.inl q)
  have h1 : nI k < nI N := Int32.not_le.mp (nI_ge hk (by omega))
  refine dp_ld_ok (b := b) (sa := fun _ => av) (i := .iload_n 1) (v := .int (nI k)) (pc := 0) hx hb hl rfl (D (k := 0) rfl) ?_
  refine dp_ld_ok (b := b) (sa := fun _ => av) (i := .aload_n 0) (v := .retAddr 0) (pc := 1) hx hb hl rfl (D (k := 1) rfl) ?_
  refine va_tlen (pc := 2) hx hb hT' hS (v := nI N) rfl (D (k := 2) rfl) ?_
  refine xo_callS (pc := 3) (A := [.int (nI k), .int (nI N)]) (rest := []) (v := none) (n := 2) (rm := xo_rm 1 30) xo_T trivial hx hb hsz hown hts hK hE (by rw [hh]; exact xo_ci hH h0 h1)
    (xo_CB hts (dp_in_ok (q := 2251) (by decide +kernel) rfl) (dp_in_ok (q := 279) (by decide +kernel) rfl) (dp_in_ok (q := 2249) (by decide +kernel) rfl) rfl rfl (by show 1 + 1 ≤ 2; omega) (by show 8 + (2 + 11) + 30 ≤ 60; omega) (by decide) (by decide +kernel)) (dp_in_ok (q := 2250) (by decide +kernel) rfl) rfl (by decide) (D (k := 3) rfl) (Nat.zero_le _) (Nat.zero_le _) ?_
  refine dp_ld_ok (b := b) (sa := fun _ => av) (i := .aload_n 0) (v := .retAddr 0) (pc := 6) hx hb hl rfl (D (k := 4) rfl) ?_
  refine dp_ld_ok (b := b) (sa := fun _ => av) (i := .iload_n 1) (v := .int (nI k)) (pc := 7) hx hb hl rfl (D (k := 5) rfl) ?_
  refine va_tb (pc := 8) hx hb hT' hS hin (v := .int (f k)) (by rw [nI_clamp (by omega)]) (D (k := 6) rfl) ?_
  refine dp_pure_ok (b := b) (sa := sa) (pc := 9) (i := .sipush 255) (st := [.int (f k)]) (st' := [.int (Int16.ofInt 255).toInt32, .int (f k)]) hx hb rfl (D (k := 7) rfl) ?_
  refine dp_pure_ok (b := b) (sa := sa) (pc := 12) (i := .iand) (st := [.int (Int16.ofInt 255).toInt32, .int (f k)]) (st' := [.int (f k &&& (Int16.ofInt 255).toInt32)]) hx hb rfl (D (k := 8) rfl) ?_
  refine dp_pure_ok (b := b) (sa := sa) (pc := 13) (i := .i2c) (st := [.int (f k &&& (Int16.ofInt 255).toInt32)]) (st' := [.int ((f k &&& (Int16.ofInt 255).toInt32).toUInt32 % 65536).toInt32]) hx hb rfl (D (k := 9) rfl) ?_
  rw [hv.1]
  exact W.zret hx hb B.returns hv.2 (fun t ht _ => ⟨rfl, ht.trans hh⟩) (fun q hq => by cases hq) (D (k := 10) rfl) B.notSynchronized
end XOe
