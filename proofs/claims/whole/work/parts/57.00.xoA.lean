/-! THE JDK (1): arraycopy -/
theorem xo_nf : nativeFrameWords "java/lang/System" "arraycopy" 5 ≤ 100 := by decide
section XOc
variable {p : Program} {l : Launch} {e : Env} {R : Room} {s : State} {m : MethodId} {args : Array Value} {below : List Frame} {meth : Method} {c : Code} {H : Heap} {locs : List Loc} {cells slots : Nat} {Q : State → Prop}
variable {cc : ByteArray} {pc : Nat} {ls : Array Slot} {b : Nat} {sa : Nat → Nat} {G : dp_G} {H0 : Heap} {md : Bool} {M : dp_M}
theorem xo_nn (z : Int32) (hz : ¬ z < 0) : z.toInt = (z.toNatClampNeg : Int) := by
  have hz0 : (0 : Int) ≤ z.toInt := by
    have := Int32.not_lt.mp hz
    simpa using Int32.le_iff_toInt_le.mp this
  show z.toInt = ((z.toInt.toNat : Nat) : Int)
  omega
theorem xo_cpI {own : String} {ix : Nat} (hx : p.tables.exec = Jvm.exec) (hb : c.code = cc) (hml : c.maxLocals = ls.size) (hown : s.vm.findClass own = some m.cls) (hlink : (Cond.methodLink own ix arraycopyName).before args s = true) (hts : ∀ w ∈ dp_T, w.before args s = true)
    (hK : dp_Kn G sa s) (hRp : dp_Rep G b H0 md M H) (hl : ∀ q ∈ locs, b ≤ q.base) {a d : Nat} (hs : dp_t md M a = 1) (hd : dp_t md M d = 1) (ne : a ≠ d) {sp dp n : Int32} (h1 : ¬ sp < 0) (h2 : ¬ dp < 0) (h3 : ¬ n < 0) (h4 : sp.toNatClampNeg + n.toNatClampNeg ≤ dp_len M a) (h5 : dp.toNatClampNeg + n.toNatClampNeg ≤ dp_len M d)
    (hRf : 1 ≤ R.frames) {rest : List Value} (hRl : (rest.map fun v => v.category).sum + 111 ≤ R.locals) (hdg : decode cc pc = .ok (.invokestatic ix, 3))
    (kk : ∀ H' locs', dp_Rep G b H0 md (dp_cpI M a sp.toNatClampNeg d dp.toNatClampNeg n.toNatClampNeg) H' → (∀ q ∈ locs', b ≤ q.base) → W p l e R s m args below meth c H' locs' cells slots Q (F0 m (pc + 3) ls rest)) :
    W p l e R s m args below meth c H locs cells slots Q (F0 m pc ls (.int n :: .int dp :: .ref (b + d) :: .int sp :: .ref (b + a) :: rest)) := by
  have nf := xo_nf
  intro T hT X
  have hc0 : H[b + a]? = some (arrV (G.2 1) (dp_len M a) (fun j => .int (dp_I M a j))) := hRp.arr hs (by decide)
  have hc1 : H[b + d]? = some (arrV (G.2 1) (dp_len M d) (fun j => .int (dp_I M d j))) := hRp.arr hd (by decide)
  obtain ⟨-, k0, hk0, cm0, hkk0⟩ := (hK.1.2 0 _ rfl).1 (dp_len M a) (fun j => .int (dp_I M a j))
  obtain ⟨-, k1, hk1, cm1, hkk1⟩ := (hK.1.2 0 _ rfl).1 (dp_len M d) (fun j => .int (dp_I M d j))
  obtain ⟨vm', X', step⟩ := X.arraycopy hx hown hlink (hts _ (dp_in_ok (q := 2144) (by decide +kernel) rfl)) (hts _ (dp_in_ok (q := 2143) (by decide +kernel) rfl)) (hts _ (dp_in_ok (q := 278) (by decide +kernel) rfl)) (src := b + a) (dst := b + d) (cs := arrV (G.2 1) (dp_len M a) (fun j => .int (dp_I M a j))) (cd := arrV (G.2 1) (dp_len M d) (fun j => .int (dp_I M d j))) (srcPos := sp) (destPos := dp) (n := n) (by rw [hT]; exact hc0) (by rw [hT]; exact hc1)
    (fun _ h => by cases h) (fun _ h => by cases h) (fun h => by cases h) (fun h => by cases h) hk0 hk1 hkk0 hkk1 (by simp [refKind]) h1 h2 h3
    (by rw [xo_nn sp h1, xo_nn n h3, arrV_size]; omega)
    (by rw [xo_nn dp h2, xo_nn n h3, arrV_size]; omega)
    (fun vm₁ _ i hi => by
      have e : (arrV (G.2 1) (dp_len M a) (fun j => Value.int (dp_I M a j))).slots.getD (sp.toNatClampNeg + i) .null = .int (dp_I M a (sp.toNatClampNeg + i)) := by
        rw [Array.getD_eq_getD_getElem?, arrV_read _ _ (by omega)]
        rfl
      rw [e]
      exact ⟨rfl, trivial⟩)
    (g := F0 m pc ls (.int n :: .int dp :: .ref (b + d) :: .int sp :: .ref (b + a) :: rest)) rfl (by rw [hml]) (rest := rest) rfl (by rw [hb]; exact hdg) hRf (by show 2 * 0 + _ + _ ≤ _; omega)
  have e1 : copied (arrV (G.2 1) (dp_len M a) (fun j => .int (dp_I M a j))) (arrV (G.2 1) (dp_len M d) (fun j => .int (dp_I M d j))) sp dp n = arrV (G.2 1) (dp_len M d) (fun j => .int (va_cpy (dp_I M a) (dp_I M d) sp.toNatClampNeg dp.toNatClampNeg n.toNatClampNeg j)) := va_copied (fun z => .int z) _ _ _ _ h4
  rw [e1] at X' step
  have hlt : b + d < H.size := (Array.getElem?_eq_some_iff.mp hc1).1
  obtain ⟨H1, eH⟩ : ∃ H1, H1 = H.setIfInBounds (b + d) (arrV (G.2 1) (dp_len M d) (fun j => .int (va_cpy (dp_I M a) (dp_I M d) sp.toNatClampNeg dp.toNatClampNeg n.toNatClampNeg j))) := ⟨_, rfl⟩
  have hheap : ((T.setVm vm').setCell (b + d) (arrV (G.2 1) (dp_len M d) (fun j => .int (va_cpy (dp_I M a) (dp_I M d) sp.toNatClampNeg dp.toNatClampNeg n.toNatClampNeg j)))).heap = H1 := by rw [eH, ← hT]; rfl
  have hz : H1.size = H.size := by rw [eH]; simp
  have oq : ∀ q : Nat, q ≠ b + d → H1[q]? = H[q]? := fun q hq => by rw [eH]; simp [Array.getElem?_setIfInBounds, Ne.symm hq]
  have ed : H1[b + d]? = some (arrV (G.2 1) (dp_len M d) (fun j => .int (va_cpy (dp_I M a) (dp_I M d) sp.toNatClampNeg dp.toNatClampNeg n.toNatClampNeg j))) := by rw [eH]; simp [Array.getElem?_setIfInBounds, hlt]
  have eI : ∀ j, dp_I (dp_cpI M a sp.toNatClampNeg d dp.toNatClampNeg n.toNatClampNeg) d j = va_cpy (dp_I M a) (dp_I M d) sp.toNatClampNeg dp.toNatClampNeg n.toNatClampNeg j := fun j => by
    show (if d = d ∧ dp.toNatClampNeg ≤ j ∧ j < dp.toNatClampNeg + n.toNatClampNeg then _ else _) = _
    unfold va_cpy
    by_cases z : dp.toNatClampNeg ≤ j ∧ j < dp.toNatClampNeg + n.toNatClampNeg
    · rw [if_pos ⟨rfl, z⟩, if_pos z]
    · rw [if_neg (fun q => z q.2), if_neg z]
  have hR : dp_Rep G b H0 md (dp_cpI M a sp.toNatClampNeg d dp.toNatClampNeg n.toNatClampNeg) H1 := by
    refine hRp.wr hz oq ⟨fun j hj => ⟨?_, rfl, rfl⟩, rfl, rfl, rfl⟩ ?_ (fun _ _ _ _ => rfl)
    · funext i
      show (if j = d ∧ _ ∧ _ then _ else dp_I M j i) = _
      rw [if_neg (fun q => hj q.1)]
    · rw [hd]
      show H1[b + d]? = some (arrV (G.2 1) (dp_len M d) (fun j => .int (dp_I (dp_cpI M a sp.toNatClampNeg d dp.toNatClampNeg n.toNatClampNeg) d j)))
      rw [ed]
      simp only [eI]
  obtain ⟨t, q1, q2⟩ := kk H1 _ hR (fun q hq => by
      rcases List.mem_append.mp hq with h | h
      · exact hl q h
      · obtain ⟨z, -, hz⟩ := List.mem_map.mp h
        rw [← hz]
        exact Nat.le_add_right _ _) _ hheap X'
  exact ⟨t, step t q1, q2⟩
theorem xo_cpJ {own : String} {ix : Nat} (hx : p.tables.exec = Jvm.exec) (hb : c.code = cc) (hml : c.maxLocals = ls.size) (hown : s.vm.findClass own = some m.cls) (hlink : (Cond.methodLink own ix arraycopyName).before args s = true) (hts : ∀ w ∈ dp_T, w.before args s = true)
    (hK : dp_Kn G sa s) (hRp : dp_Rep G b H0 md M H) (hl : ∀ q ∈ locs, b ≤ q.base) {a d : Nat} (hs : dp_t md M a = 2) (hd : dp_t md M d = 2) (ne : a ≠ d) {sp dp n : Int32} (h1 : ¬ sp < 0) (h2 : ¬ dp < 0) (h3 : ¬ n < 0) (h4 : sp.toNatClampNeg + n.toNatClampNeg ≤ dp_len M a) (h5 : dp.toNatClampNeg + n.toNatClampNeg ≤ dp_len M d)
    (hRf : 1 ≤ R.frames) {rest : List Value} (hRl : (rest.map fun v => v.category).sum + 111 ≤ R.locals) (hdg : decode cc pc = .ok (.invokestatic ix, 3))
    (kk : ∀ H' locs', dp_Rep G b H0 md (dp_cpJ M a sp.toNatClampNeg d dp.toNatClampNeg n.toNatClampNeg) H' → (∀ q ∈ locs', b ≤ q.base) → W p l e R s m args below meth c H' locs' cells slots Q (F0 m (pc + 3) ls rest)) :
    W p l e R s m args below meth c H locs cells slots Q (F0 m pc ls (.int n :: .int dp :: .ref (b + d) :: .int sp :: .ref (b + a) :: rest)) := by
  have nf := xo_nf
  intro T hT X
  have hc0 : H[b + a]? = some (arrV (G.2 2) (dp_len M a) (fun j => .long (dp_J M a j))) := hRp.arr hs (by decide)
  have hc1 : H[b + d]? = some (arrV (G.2 2) (dp_len M d) (fun j => .long (dp_J M d j))) := hRp.arr hd (by decide)
  obtain ⟨-, k0, hk0, cm0, hkk0⟩ := (hK.1.2 1 _ rfl).1 (dp_len M a) (fun j => .long (dp_J M a j))
  obtain ⟨-, k1, hk1, cm1, hkk1⟩ := (hK.1.2 1 _ rfl).1 (dp_len M d) (fun j => .long (dp_J M d j))
  obtain ⟨vm', X', step⟩ := X.arraycopy hx hown hlink (hts _ (dp_in_ok (q := 2144) (by decide +kernel) rfl)) (hts _ (dp_in_ok (q := 2143) (by decide +kernel) rfl)) (hts _ (dp_in_ok (q := 278) (by decide +kernel) rfl)) (src := b + a) (dst := b + d) (cs := arrV (G.2 2) (dp_len M a) (fun j => .long (dp_J M a j))) (cd := arrV (G.2 2) (dp_len M d) (fun j => .long (dp_J M d j))) (srcPos := sp) (destPos := dp) (n := n) (by rw [hT]; exact hc0) (by rw [hT]; exact hc1)
    (fun _ h => by cases h) (fun _ h => by cases h) (fun h => by cases h) (fun h => by cases h) hk0 hk1 hkk0 hkk1 (by simp [refKind]) h1 h2 h3
    (by rw [xo_nn sp h1, xo_nn n h3, arrV_size]; omega)
    (by rw [xo_nn dp h2, xo_nn n h3, arrV_size]; omega)
    (fun vm₁ _ i hi => by
      have e : (arrV (G.2 2) (dp_len M a) (fun j => Value.long (dp_J M a j))).slots.getD (sp.toNatClampNeg + i) .null = .long (dp_J M a (sp.toNatClampNeg + i)) := by
        rw [Array.getD_eq_getD_getElem?, arrV_read _ _ (by omega)]
        rfl
      rw [e]
      exact ⟨rfl, trivial⟩)
    (g := F0 m pc ls (.int n :: .int dp :: .ref (b + d) :: .int sp :: .ref (b + a) :: rest)) rfl (by rw [hml]) (rest := rest) rfl (by rw [hb]; exact hdg) hRf (by show 2 * 0 + _ + _ ≤ _; omega)
  have e1 : copied (arrV (G.2 2) (dp_len M a) (fun j => .long (dp_J M a j))) (arrV (G.2 2) (dp_len M d) (fun j => .long (dp_J M d j))) sp dp n = arrV (G.2 2) (dp_len M d) (fun j => .long (va_cpy (dp_J M a) (dp_J M d) sp.toNatClampNeg dp.toNatClampNeg n.toNatClampNeg j)) := va_copied (fun z => .long z) _ _ _ _ h4
  rw [e1] at X' step
  have hlt : b + d < H.size := (Array.getElem?_eq_some_iff.mp hc1).1
  obtain ⟨H1, eH⟩ : ∃ H1, H1 = H.setIfInBounds (b + d) (arrV (G.2 2) (dp_len M d) (fun j => .long (va_cpy (dp_J M a) (dp_J M d) sp.toNatClampNeg dp.toNatClampNeg n.toNatClampNeg j))) := ⟨_, rfl⟩
  have hheap : ((T.setVm vm').setCell (b + d) (arrV (G.2 2) (dp_len M d) (fun j => .long (va_cpy (dp_J M a) (dp_J M d) sp.toNatClampNeg dp.toNatClampNeg n.toNatClampNeg j)))).heap = H1 := by rw [eH, ← hT]; rfl
  have hz : H1.size = H.size := by rw [eH]; simp
  have oq : ∀ q : Nat, q ≠ b + d → H1[q]? = H[q]? := fun q hq => by rw [eH]; simp [Array.getElem?_setIfInBounds, Ne.symm hq]
  have ed : H1[b + d]? = some (arrV (G.2 2) (dp_len M d) (fun j => .long (va_cpy (dp_J M a) (dp_J M d) sp.toNatClampNeg dp.toNatClampNeg n.toNatClampNeg j))) := by rw [eH]; simp [Array.getElem?_setIfInBounds, hlt]
  have eI : ∀ j, dp_J (dp_cpJ M a sp.toNatClampNeg d dp.toNatClampNeg n.toNatClampNeg) d j = va_cpy (dp_J M a) (dp_J M d) sp.toNatClampNeg dp.toNatClampNeg n.toNatClampNeg j := fun j => by
    show (if d = d ∧ dp.toNatClampNeg ≤ j ∧ j < dp.toNatClampNeg + n.toNatClampNeg then _ else _) = _
    unfold va_cpy
    by_cases z : dp.toNatClampNeg ≤ j ∧ j < dp.toNatClampNeg + n.toNatClampNeg
    · rw [if_pos ⟨rfl, z⟩, if_pos z]
    · rw [if_neg (fun q => z q.2), if_neg z]
  have hR : dp_Rep G b H0 md (dp_cpJ M a sp.toNatClampNeg d dp.toNatClampNeg n.toNatClampNeg) H1 := by
    refine hRp.wr hz oq ⟨fun j hj => ⟨rfl, ?_, rfl⟩, rfl, rfl, rfl⟩ ?_ (fun _ _ _ _ => rfl)
    · funext i
      show (if j = d ∧ _ ∧ _ then _ else dp_J M j i) = _
      rw [if_neg (fun q => hj q.1)]
    · rw [hd]
      show H1[b + d]? = some (arrV (G.2 2) (dp_len M d) (fun j => .long (dp_J (dp_cpJ M a sp.toNatClampNeg d dp.toNatClampNeg n.toNatClampNeg) d j)))
      rw [ed]
      simp only [eI]
  obtain ⟨t, q1, q2⟩ := kk H1 _ hR (fun q hq => by
      rcases List.mem_append.mp hq with h | h
      · exact hl q h
      · obtain ⟨z, -, hz⟩ := List.mem_map.mp h
        rw [← hz]
        exact Nat.le_add_right _ _) _ hheap X'
  exact ⟨t, step t q1, q2⟩
end XOc
