/-! THE JDK (8): copyOf (3) -/
def xo_col : List (Nat × Instr × Nat) := [(0, .iload_n 1, 1), (1, .aload_n 0, 1), (2, .arraylength, 1), (3, .if_icmp .ne 11, 3), (6, .aload_n 0, 1), (7, .invokevirtual 316, 3), (10, .checkcast 317, 3), (13, .areturn, 1), (14, .iload_n 1, 1), (15, .newarray .int, 2), (17, .astore_n 2, 1), (18, .aload_n 0, 1), (19, .iconst 0, 1), (20, .aload_n 2, 1), (21, .iconst 0, 1), (22, .aload_n 0, 1), (23, .arraylength, 1), (24, .iload_n 1, 1), (25, .invokestatic 304, 3), (28, .invokestatic 150, 3), (31, .aload_n 2, 1), (32, .areturn, 1)]
theorem xo_cod : xo_ck cJ7_copyOf_59c91 xo_col = true := by decide +kernel
theorem xo_mn {N L : Nat} (hN : N < 1000000) (hL : L < 1000000) : (if nI N < nI L then nI N else nI L) = nI (min N L) := by
  by_cases z : N < L
  · rw [if_pos (Int32.not_le.mp (nI_ge z (by omega))), Nat.min_eq_left (by omega)]
  · rw [if_neg (Int32.not_lt.mpr (nI_le (by omega) (by omega))), Nat.min_eq_right (by omega)]
section XOh
variable {l : Launch} {b : Nat} {sa : Nat → Nat} {G : dp_G} {H0 : Heap} {md : Bool} {M : dp_M} {xs : Nat → Int32} {xl : Nat}
set_option maxRecDepth 100000 in
set_option maxHeartbeats 4000000 in
theorem xo_cpo {a N : Nat} (ht : dp_t md M a = 1) (hN : N < 1000000) (hL : dp_len M a < 1000000) (hnk : dp_n M < dp_K0 → dp_sh (dp_n M) = 1) :
    Met l yJ7_copyOf_59c91 (Cond.code yJ7_copyOf_59c91 cJ7_copyOf_59c91 3 (some (.array .int)) :: dp_T) { frames := 1, cells := 1, slots := N, locals := 150 } (dp_Pc G b sa H0 md xs xl [.ref a, .int (nI N)] M) (dp_Qc G b sa H0 md (.inl (some (.ref (dp_n M))), dp_cpI (dp_new M N 1 N) a 0 (dp_n M) 0 (min N (dp_len M a)))) 1 N (fun q => b ≤ q) := by
  have D := @xo_at _ _ xo_cod
  refine va_MetF (cc := cJ7_copyOf_59c91) (maxL := 3) (ret := some (.array .int)) (by decide +kernel) rfl ?_
  intro p e s m args below meth c s₁ B hml hP
  obtain ⟨rfl, hRp, hK, hE⟩ := hP
  have hx := B.exec
  have hb := B.bytes
  have hts0 := atoms_spec (ws := Cond.code yJ7_copyOf_59c91 cJ7_copyOf_59c91 3 (some (.array .int)) :: dp_T) B.pre
  have hts : ∀ w ∈ dp_T, w.before (([.ref a, .int (nI N)] : List Value).map (dp_cv b sa)).toArray s = true := fun w hw => hts0 w (List.mem_cons_of_mem _ hw)
  have hown : s.vm.findClass "java/util/Arrays" = some m.cls := findClass_of_methodNamed B.named
  have hX : va_X (sa 0) xl xs s s.heap := hE.2.2.1.kept (hRp.2.1 _ hE.2.1)
  have ha : a < dp_n M := (hRp.2.2.1 a (by rw [ht]; decide)).1
  have hln := dp_ln_eq hRp a
  rw [lg_entry_eq]
  obtain ⟨ls, els⟩ : ∃ ls, ls = (lg_sl (([.ref a, .int (nI N)] : List Value).map (dp_cv b sa)) ++ List.replicate (3 - (lg_sl (([.ref a, .int (nI N)] : List Value).map (dp_cv b sa))).length) Slot.unset).toArray := ⟨_, rfl⟩
  rw [← els]
  have hl : dp_has b sa ls [some (.ref a), some (.int (nI N)), none] := by rw [els]; exact dp_has_entry b sa [.ref a, .int (nI N)] (n := 3) (by show 2 ≤ 3; omega)
  have hsz : c.maxLocals = ls.size := by rw [hml, hl.1]; rfl
  have fin : ∀ (H' : Heap) (locs' : List Loc) (pc : Nat) (ls : Array Slot), dp_Rep G b H0 md (dp_cpI (dp_new M N 1 N) a 0 (dp_n M) 0 (min N (dp_len M a))) H' → (∀ q ∈ locs', b ≤ q.base) → decode cJ7_copyOf_59c91 pc = .ok (.areturn, 1) →
      W p l e (headSpec (Cond.code yJ7_copyOf_59c91 cJ7_copyOf_59c91 3 (some (.array .int)) :: dp_T) { frames := 1, cells := 1, slots := N, locals := 150 }).room s m (([.ref a, .int (nI N)] : List Value).map (dp_cv b sa)).toArray below meth c H' locs' 1 N (MQ below (dp_Qc G b sa H0 md (.inl (some (.ref (dp_n M))), dp_cpI (dp_new M N 1 N) a 0 (dp_n M) 0 (min N (dp_len M a)))) (([.ref a, .int (nI N)] : List Value).map (dp_cv b sa)).toArray s 1 N (fun q => b ≤ q)) (F0 m pc ls [.ref (b + dp_n M)]) := fun H' locs' pc ls hR hlo hd =>
    W.aret hx hb B.returns (Or.inr ⟨_, rfl⟩) (Or.inr ⟨_, rfl⟩) (fun t ht _ => ⟨some (.ref (dp_n M)), rfl, rfl, by rw [ht]; exact hR⟩) hlo hd B.notSynchronized
  refine dp_ld_ok (b := b) (sa := sa) (i := .iload_n 1) (v := .int (nI N)) (pc := 0) hx hb hl rfl (D (k := 0) rfl) ?_
  refine dp_ld_ok (b := b) (sa := sa) (i := .aload_n 0) (v := .ref a) (pc := 1) hx hb hl rfl (D (k := 1) rfl) ?_
  refine dp_ald_ok (b := b) (sa := sa) (pc := 2) (i := .arraylength) (st := [.ref a, .int (nI N)]) (k := fun st => some st) (r := [.int (nI (dp_len M a)), .int (nI N)]) hx hb hK hRp hX (by simp only [dp_ald]; rw [if_pos (Or.inl ht), hln]; rfl) (D (k := 2) rfl) (fun st' q => ?_)
  cases q
  by_cases z : N = dp_len M a
  · refine dp_br_ok (b := b) (sa := sa) (pc := 3) (i := .if_icmp .ne 11) (st := [.int (nI (dp_len M a)), .int (nI N)]) (k := fun pc st => some (pc, st)) (r := (6, [])) hx hb ?_ (D (k := 3) rfl) (fun _ => rfl) (fun pc' st' q => ?_)
    · show (if nI N = nI (dp_len M a) then _ else _) = _
      rw [if_pos (by rw [z])]
    cases q
    refine dp_ld_ok (b := b) (sa := sa) (i := .aload_n 0) (v := .ref a) (pc := 6) hx hb hl rfl (D (k := 4) rfl) ?_
    have fin' := fin
    rw [z, Nat.min_self] at fin'
    refine xo_cln (pc := 7) hx hb hsz hown hts hK hE hRp ht hnk (by show 1 ≤ 1; omega) (by show 14 ≤ 150; omega) (by show 0 + 1 ≤ 1; omega) (by show 0 + dp_len M a ≤ N; omega) (D (k := 5) rfl) (fun H' e1 hR => ?_)
    rw [Nat.zero_add, Nat.zero_add]
    refine va_castE (pc := 10) hx hb hown (hts _ (dp_in_ok (q := 2347) (by decide +kernel) rfl)) ⟨_, e1, rfl, va_nm_int (hK.1.2 0 _ rfl).2⟩ (D (k := 6) rfl) ?_
    have := fin' H' [] 13 ls hR (fun q hq => by cases hq) (D (k := 7) rfl)
    rw [← z] at this ⊢
    rw [Nat.min_self]
    exact this
  · refine dp_br_ok (b := b) (sa := sa) (pc := 3) (i := .if_icmp .ne 11) (st := [.int (nI (dp_len M a)), .int (nI N)]) (k := fun pc st => some (pc, st)) (r := (14, [])) hx hb ?_ (D (k := 3) rfl) (fun _ => rfl) (fun pc' st' q => ?_)
    · show (if nI N = nI (dp_len M a) then _ else _) = _
      rw [if_neg (fun q => z ((nI_eq (by omega) (by omega)).mp q))]
    cases q
    refine dp_ld_ok (b := b) (sa := sa) (i := .iload_n 1) (v := .int (nI N)) (pc := 14) hx hb hl rfl (D (k := 8) rfl) ?_
    have hcl : (nI N).toNatClampNeg = N := nI_clamp (by omega)
    have hin : vp_in (nI N) 1000000 := nI_in hN (by omega)
    refine va_newaK (atype := .int) (g := F0 m 15 ls [.int (nI N)]) (N := N) hx hb (hts _ dp_arr_ok.1) rfl (D (k := 9) rfl) rfl (fun q => hin (Or.inl q)) hcl (by show N * 4 ≤ _; omega) (by show 0 + 1 ≤ 1; omega) (by show 0 + N ≤ N; omega) rfl (fun H' cA e1 z1 o1 hAr hNm => ?_)
    have hcA : G.2 1 = cA := Option.some.inj ((show s.vm.findClass _ = some _ from (hK.1.2 0 _ rfl).2).symm.trans hNm)
    subst hcA
    have hR1 : dp_Rep G b H0 md (dp_new M N 1 N) H' := hRp.nw z1 o1 hnk (by
      show H'[b + dp_n M]? = some (arrV (G.2 1) (dp_len _ _) _)
      rw [dp_newL, dp_newI, ← hRp.1]; exact e1)
    rw [hRp.1, Nat.zero_add, Nat.zero_add]
    have n1 := xo_n1 M N (show a ≠ dp_n M by omega)
    have t1 := xo_t1 (md := md) (N := N) hnk
    have t2 := xo_t2 (md := md) (N := N) ha
    have hln1 := dp_ln_eq hR1 a
    have hX1 : va_X (sa 0) xl xs s H' := hE.2.2.1.kept (hR1.2.1 _ hE.2.1)
    refine dp_sto_ok (b := b) (sa := sa) (pc := 17) (i := .astore_n 2) (st := [.ref (dp_n M)]) (L' := [some (.ref a), some (.int (nI N)), some (.ref (dp_n M))]) (st' := []) hx hb hl rfl (D (k := 10) rfl) (fun ls' hl' => ?_)
    have hsz' : c.maxLocals = ls'.size := by rw [hml, hl'.1]; rfl
    refine dp_ld_ok (b := b) (sa := sa) (i := .aload_n 0) (v := .ref a) (pc := 18) hx hb hl' rfl (D (k := 11) rfl) ?_
    refine dp_pure_ok (b := b) (sa := sa) (pc := 19) (i := .iconst 0) (st := [.ref a]) (st' := [.int 0, .ref a]) hx hb rfl (D (k := 12) rfl) ?_
    refine dp_ld_ok (b := b) (sa := sa) (i := .aload_n 2) (v := .ref (dp_n M)) (pc := 20) hx hb hl' rfl (D (k := 13) rfl) ?_
    refine dp_pure_ok (b := b) (sa := sa) (pc := 21) (i := .iconst 0) (st := [.ref (dp_n M), .int 0, .ref a]) (st' := [.int 0, .ref (dp_n M), .int 0, .ref a]) hx hb rfl (D (k := 14) rfl) ?_
    refine dp_ld_ok (b := b) (sa := sa) (i := .aload_n 0) (v := .ref a) (pc := 22) hx hb hl' rfl (D (k := 15) rfl) ?_
    refine dp_ald_ok (b := b) (sa := sa) (pc := 23) (i := .arraylength) (st := [.ref a, .int 0, .ref (dp_n M), .int 0, .ref a]) (k := fun st => some st) (r := [.int (nI (dp_len M a)), .int 0, .ref (dp_n M), .int 0, .ref a]) hx hb hK hR1 hX1 (by simp only [dp_ald]; rw [t2, if_pos (Or.inl ht), hln1, n1.2]; rfl) (D (k := 16) rfl) (fun st' q => ?_)
    cases q
    refine dp_ld_ok (b := b) (sa := sa) (i := .iload_n 1) (v := .int (nI N)) (pc := 24) hx hb hl' rfl (D (k := 17) rfl) ?_
    refine va_mmin (pc := 25) (x := nI (dp_len M a)) (y := nI N) (rest := [.int 0, .ref (b + dp_n M), .int 0, .ref (b + a)]) hx hb hsz' hown (hts _ (dp_in_ok (q := 2348) (by decide +kernel) rfl)) (hts _ (dp_in_ok (q := 299) (by decide +kernel) rfl)) (hts _ dp_hini) (hts _ dp_hc1) (by show 1 ≤ 1; omega) (by show 4 + 13 ≤ 150; omega) (by show 1 ≤ 1; omega) (by show N ≤ N; omega) (D (k := 18) rfl) ?_
    rw [xo_mn hN hL]
    have hmn : (nI (min N (dp_len M a))).toNatClampNeg = min N (dp_len M a) := nI_clamp (by omega)
    have hin2 : vp_in (nI (min N (dp_len M a))) 1000000 := nI_in (by omega) (by omega)
    refine xo_cpI (pc := 28) (a := a) (d := dp_n M) (M := dp_new M N 1 N) (sp := 0) (dp := 0) (n := nI (min N (dp_len M a))) (rest := []) hx hb hsz' hown (hts _ (dp_in_ok (q := 2349) (by decide +kernel) rfl)) hts hK hR1 (fun q hq => by cases hq) (t2.trans ht) t1 (by omega) (by decide) (by decide) (fun q => hin2 (Or.inl q)) (by rw [hmn, n1.2]; show 0 + _ ≤ _; omega) (by rw [hmn, dp_newL]; show 0 + _ ≤ _; omega) (by show 1 ≤ 1; omega) (by show 0 + 111 ≤ 150; omega) (D (k := 19) rfl) (fun H2 locs2 hR2 hlo2 => ?_)
    rw [hmn] at hR2
    refine dp_ld_ok (b := b) (sa := sa) (i := .aload_n 2) (v := .ref (dp_n M)) (pc := 31) hx hb hl' rfl (D (k := 20) rfl) ?_
    exact fin H2 locs2 32 ls' hR2 hlo2 (D (k := 21) rfl)
end XOh
