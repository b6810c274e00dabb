/-! THE JDK (7): copyOf (2) -/
section XOg
variable {p : Program} {l : Launch} {e : Env} {R : Room} {s : State} {m : MethodId} {args : Array Value} {below : List Frame} {meth : Method} {c : Code} {H : Heap} {locs : List Loc} {cells slots : Nat} {Q : State → Prop}
variable {cc : ByteArray} {pc : Nat} {ls : Array Slot} {b : Nat} {sa : Nat → Nat} {G : dp_G} {H0 : Heap} {md : Bool} {M : dp_M} {xs : Nat → Int32} {xl : Nat}
theorem xo_cb (hE : dp_Ext b sa H0 xs xl s) : (Cond.castable "[I" "java/lang/Cloneable").before args s = true := by
  obtain ⟨s0, A0, h1, h2, h3, h4⟩ := hE.2.2.2.2.2
  have h := h4 (Cond.castable "[I" "java/lang/Cloneable") (dp_tbl_in (q := 2346) (by decide +kernel))
  obtain ⟨c1, t1, g1, g2, g3⟩ := Cond.castable_spec h
  simp [Cond.before, Cond.holds, Cond.value, h2.alike.findClass, h2.alike.assignable, g1, g2, g3]
theorem xo_cln {a : Nat} (hx : p.tables.exec = Jvm.exec) (hb : c.code = cc) (hml : c.maxLocals = ls.size) (hown : s.vm.findClass "java/util/Arrays" = some m.cls) (hts : ∀ w ∈ dp_T, w.before args s = true) (hK : dp_Kn G sa s) (hE : dp_Ext b sa H0 xs xl s) (hRp : dp_Rep G b H0 md M H) (ht : dp_t md M a = 1) (hnk : dp_n M < dp_K0 → dp_sh (dp_n M) = 1)
    (hRf : 1 ≤ R.frames) (hRl : 14 ≤ R.locals) (hc : cells + 1 ≤ R.cells) (hs : slots + dp_len M a ≤ R.slots) (hdg : decode cc pc = .ok (.invokevirtual 316, 3))
    (kk : ∀ H', H'[b + dp_n M]? = some (arrV (G.2 1) (dp_len M a) (fun j => .int (dp_I M a j))) → dp_Rep G b H0 md (dp_cpI (dp_new M (dp_len M a) 1 (dp_len M a)) a 0 (dp_n M) 0 (dp_len M a)) H' → W p l e R s m args below meth c H' locs (cells + 1) (slots + dp_len M a) Q (F0 m (pc + 3) ls [.ref (b + dp_n M)])) :
    W p l e R s m args below meth c H locs cells slots Q (F0 m pc ls [.ref (b + a)]) := by
  have hc0 : H[b + a]? = some (arrV (G.2 1) (dp_len M a) (fun j => .int (dp_I M a j))) := hRp.arr ht (by decide)
  have ha : a < dp_n M := (hRp.2.2.1 a (by rw [ht]; decide)).1
  have hsz : (arrV (G.2 1) (dp_len M a) (fun j => Value.int (dp_I M a j))).slots.size = dp_len M a := arrV_size _ _ _
  have hnm : s.vm.findClass "[I" = some (G.2 1) := va_nm_int (hK.1.2 0 _ rfl).2
  obtain ⟨c0, t0', f1, f2, f3⟩ := Cond.castable_spec (xo_cb (args := args) hE)
  cases hnm.symm.trans f1
  intro T hT X
  have hcellT : T.heap[b + a]? = some (arrV (G.2 1) (dp_len M a) (fun j => .int (dp_I M a j))) := by rw [hT]; exact hc0
  obtain ⟨-, kA, hkA, comp, hkind⟩ := State.isArrayOf_alike X.warmed.alike ((hK.1.2 0 _ rfl).1 0 (fun _ => .null))
  obtain ⟨-, kS, hkS, compS, hkindS⟩ := (hK.1.2 0 _ rfl).1 0 (fun _ => .null)
  obtain ⟨vm', X', st⟩ := X.cloneArray (index := 316) hx hown (hts _ (dp_in_ok (q := 2341) (by decide +kernel) rfl)) (hts _ (dp_in_ok (q := 2342) (by decide +kernel) rfl)) (hts _ (dp_in_ok (q := 2343) (by decide +kernel) rfl)) (hts _ (dp_in_ok (q := 2344) (by decide +kernel) rfl)) (hts _ (dp_in_ok (q := 2345) (by decide +kernel) rfl)) (a := b + a) (cell := arrV (G.2 1) (dp_len M a) (fun j => .int (dp_I M a j))) hcellT (fun k h => by cases h) (fun h => by cases h) hnm f2 f3
    (fun i v hv => by
      have hk' : T.vm.classes[G.2 1]? = some kA := hkA
      have hfit : fits .int v = true := by
        have hi : i < dp_len M a := by
          have := (Array.getElem?_eq_some_iff.mp hv).1
          rw [arrV_size] at this; exact this
        rw [arrV_read _ _ hi] at hv
        cases hv; rfl
      show T.fitsSlot (G.2 1) _ i v = true
      simpa [State.fitsSlot, State.slotType?, hk', hkind] using hfit)
    (g := F0 m pc ls [.ref (b + a)]) rfl (by rw [hml]) rfl (by rw [hb]; exact hdg) hRf (by show 2 * 0 + 0 + 14 ≤ _; omega) hc (by rw [hsz]; exact hs) (hloader := Vm.clonesLoader_of_array hkS hkindS)
  rw [hsz] at X'
  have e1 : (H.push (arrV (G.2 1) (dp_len M a) (fun j => Value.int (dp_I M a j))))[b + dp_n M]? = some (arrV (G.2 1) (dp_len M a) (fun j => .int (dp_I M a j))) := by rw [← hRp.1, Array.getElem?_push_size]
  obtain ⟨t, b1, b2⟩ := kk _ e1 (xo_nw hRp ha hnk) ((T.setVm vm').pushCell (arrV (G.2 1) (dp_len M a) (fun j => .int (dp_I M a j)))) (by rw [← hT]; rfl) X'
  refine ⟨t, st t ?_, b2⟩
  rw [hT, hRp.1]
  exact b1
end XOg
