/-! THE DEEP LAYER (11): a method's runs are the machine's -/
section DPrun
variable {p : Program} {l : Launch} {e : Env} {R : Room} {s : State} {m : MethodId} {args : Array Value} {below : List Frame} {meth : Method} {c : Code} {H : Heap} {locs : List Loc}
variable {cc : ByteArray} {pc : Nat} {ls : Array Slot} {b : Nat} {sa : Nat → Nat} {G : dp_G} {H0 : Heap} {md : Bool} {xs : Nat → Int32} {xl : Nat} {M : dp_M} {n0 z0 : Nat}
set_option maxHeartbeats 4000000 in
theorem dp_end_ok {rt : Option FieldType} (hx : p.tables.exec = Jvm.exec) (hb : c.code = cc) (hr : meth.sig.returnType = rt) (hlocks : meth.locks = false) (hRp : dp_Rep G b H0 md M H) (hl : ∀ q ∈ locs, b ≤ q.base) {i : Instr} {st : List Value} {r : dp_Res} (h : dp_end rt i st M = some r) (hd : decode cc pc = .ok (i, dp_il i)) :
    W p l e R s m args below meth c H locs (dp_n M - n0) (dp_z M - z0) (vx_MQ below (dp_Qc G b sa H0 md r) (dp_XC G b H0 md r) args s (dp_n r.2 - n0) (dp_z r.2 - z0) (fun q => b ≤ q)) (F0 m pc ls (st.map (dp_cv b sa))) := by
  have hM := dp_end_f h
  obtain ⟨oc, M1⟩ := r
  dsimp only at hM
  subst hM
  refine vx_ret ?_
  cases i <;> first | (exfalso; simp only [dp_end, reduceCtorEq] at h; done) | skip
  case ireturn =>
    simp only [dp_end] at h; split at h
    · rename_i v
      split at h
      · cases h
        exact W.iret hx hb hr (fun t ht _ => ⟨some (.int v), rfl, rfl, by rw [ht]; exact hRp⟩) hl hd hlocks
      · split at h
        · rename_i hv
          cases h
          exact W.zret hx hb hr (by rcases hv with rfl | rfl <;> rfl) (fun t ht _ => ⟨some (.int v), rfl, rfl, by rw [ht]; exact hRp⟩) hl hd hlocks
        · cases h
      · cases h
    · cases h
  case lreturn =>
    simp only [dp_end] at h; split at h
    · rename_i v
      split at h
      · rename_i hrt
        cases h
        exact W.lret hx hb (hr.trans hrt) (fun t ht _ => ⟨some (.long v), rfl, rfl, by rw [ht]; exact hRp⟩) hl hd hlocks
      · cases h
    · cases h
  case areturn =>
    simp only [dp_end] at h; split at h
    · split at h
      · rename_i a
        cases h
        exact W.aret hx hb hr (Or.inl ⟨_, rfl⟩) (Or.inr ⟨_, rfl⟩) (fun t ht _ => ⟨some (.ref a), rfl, rfl, by rw [ht]; exact hRp⟩) hl hd hlocks
      · cases h
        exact W.aret hx hb hr (Or.inl ⟨_, rfl⟩) (Or.inl rfl) (fun t ht _ => ⟨some .null, rfl, rfl, by rw [ht]; exact hRp⟩) hl hd hlocks
      · cases h
    · split at h
      · rename_i a
        cases h
        exact W.aret hx hb hr (Or.inr ⟨_, rfl⟩) (Or.inr ⟨_, rfl⟩) (fun t ht _ => ⟨some (.ref a), rfl, rfl, by rw [ht]; exact hRp⟩) hl hd hlocks
      · cases h
        exact W.aret hx hb hr (Or.inr ⟨_, rfl⟩) (Or.inl rfl) (fun t ht _ => ⟨some .null, rfl, rfl, by rw [ht]; exact hRp⟩) hl hd hlocks
      · cases h
    · cases h
  case return_ =>
    simp only [dp_end] at h; split at h
    · split at h
      · rename_i hrt
        cases h
        exact W.vret hx hb (hr.trans hrt) (fun t ht _ => ⟨none, rfl, rfl, by rw [ht]; exact hRp⟩) hl hd hlocks
      · cases h
    · cases h
/-- the words of 'throw new E(..)' at a state -/
theorem dp_xat {o ic ex : Nat} (he : ex = 0 ∨ ex = 1 ∨ ex = 2 ∨ ex = 3) (hts : ∀ w ∈ dp_T, w.before args s = true) (hK : dp_Kn G sa s) (hml : Cond.methodLink (dp_own o) ic (Bundle.initS (dp_en ex)) ∈ dp_T) : (∀ w ∈ vx_atS (dp_own o) ic (dp_en ex) dp_xns, w.before args s = true) ∧ ∀ w ∈ vx_atS (dp_own o) ic (dp_en ex) dp_xns, vx_ot w = true := by
  have hmem : ∀ w ∈ vx_atS (dp_own o) ic (dp_en ex) dp_xns, vx_no w = true ∧ (w = Cond.methodLink (dp_own o) ic (Bundle.initS (dp_en ex)) ∨ w ∈ dp_xg ex) := fun w hw => by
    obtain ⟨h1, h2⟩ := List.mem_filter.mp hw
    exact ⟨h2, dp_xg_in h1⟩
  refine ⟨fun w hw => ?_, fun w hw => ?_⟩
  · obtain ⟨h1, h2⟩ := hmem w hw
    rcases h2 with rfl | h2
    · exact hts _ hml
    · rcases (dp_xg_ok ex he w h2 h1).1 with h3 | h3
      · exact hts _ h3
      · exact dp_xw_moved (Vm.Alike.refl _) h3 (hK.2.2.2.1 w h3)
  · obtain ⟨h1, h2⟩ := hmem w hw
    rcases h2 with rfl | h2
    · rfl
    · exact (dp_xg_ok ex he w h2 h1).2
theorem dp_fit4 : ∀ e : Nat, e = 0 ∨ e = 1 ∨ e = 2 ∨ e = 3 → Bundle.fit (dp_en e) = true := by
  rintro e (rfl | rfl | rfl | rfl) <;> decide +kernel
theorem dp_fitN : ∀ n ∈ dp_xns, Bundle.fit n = true := by decide +kernel
set_option maxHeartbeats 4000000 in
theorem dp_thr_ok {mi : dp_Mi} {d : Nat} (hx : p.tables.exec = Jvm.exec) (hb : c.code = dp_bytes mi) (hst : l.stackTraces = false) (hts : ∀ w ∈ dp_T, w.before args s = true) (hown : s.vm.findClass (dp_own (dp_own1 mi)) = some m.cls) (hK : dp_Kn G sa s) (hE : dp_Ext b sa H0 xs xl s) (hs0 : ∀ q : Nat, q < b → s.heap[q]? = H0[q]?) (hsz : s.heap.size = b + n0)
    (hins : ∀ pc i, dp_ins mi pc = some i → ∃ len, decode (dp_bytes mi) pc = .ok (i, len) ∧ (dp_isSw i = false → len = dp_il i)) (htab : ∀ x ∈ c.exceptionTable.toList, False) (hlocks : meth.locks = false) (hls : ls.size = c.maxLocals)
    (hRf : d + 7 ≤ R.frames) (hRl : 100 * d + 200 ≤ R.locals) (hRp : dp_Rep G b H0 md M H) (hl : ∀ q ∈ locs, b ≤ q.base) (hn0 : n0 ≤ dp_n M) (hz0 : z0 ≤ dp_z M) {ik : Nat} {st : List Value} {r : dp_Res} (h : dp_thr mi pc ik st M = some r) (hd : decode (dp_bytes mi) pc = .ok (.new ik, 3))
    (hroom : dp_n r.2 ≤ n0 + R.cells ∧ dp_z r.2 ≤ z0 + R.slots) :
    W p l e R s m args below meth c H locs (dp_n M - n0) (dp_z M - z0) (vx_MQ below (dp_Qc G b sa H0 md r) (dp_XC G b H0 md r) args s (dp_n r.2 - n0) (dp_z r.2 - z0) (fun q => b ≤ q)) (F0 m pc ls (st.map (dp_cv b sa))) := by
  have hcat : ((st.map (dp_cv b sa)).map fun v => v.category).sum = (st.map fun v => v.category).sum := by
    rw [List.map_map]; congr 1; apply List.map_congr_left; intro v _; exact dp_cv_cat b sa v
  have hS : va_S (fun q => b ≤ q) s.heap H locs := ⟨by rw [hsz, hRp.1]; omega, fun q _ h2 => by
    have hq : q < b := by omega
    rw [hRp.2.1 q hq, hs0 q hq], hl⟩
  have hk9 : ∀ a : Nat, a < H0.size → ¬ b ≤ a → s.heap[a]? = H0[a]? := fun a _ h2 => hs0 a (by omega)
  have hU := hE.2.2.2.1.kept hk9
  have hN := hE.2.2.2.2.1.kept hk9
  have hat : ∀ pc i, dp_ins mi pc = some i → dp_isSw i = false → decode (dp_bytes mi) pc = .ok (i, dp_il i) := fun pc i h1 h2 => by
    obtain ⟨len, h3, h4⟩ := hins pc i h1
    rw [← h4 h2]; exact h3
  unfold dp_thr at h
  split at h
  · rename_i is h3 h4
    split at h
    · rename_i ic h6 h9
      split at h
      · rename_i ex hlx
        split at h
        · rename_i hsum
          obtain ⟨hnk, hr⟩ := dp_nk_s h
          cases hr
          obtain ⟨he, w1, w2, ⟨j, hj⟩, w3⟩ := dp_lkX_ok hlx
          obtain ⟨x1, x2⟩ := dp_xat he hts hK w3
          have e1 : dp_n (dp_new M 0 0 6) = dp_n M + 1 := rfl
          have e2 : dp_z (dp_new M 0 0 6) = dp_z M + 6 := rfl
          have g1 := hroom.1
          have g2 := hroom.2
          dsimp only at g1 g2 ⊢
          rw [e1] at g1 ⊢
          rw [e2] at g2 ⊢
          exact dp_throwS (names := dp_xns) hx hb hst hown (dp_fit4 ex he) dp_fitN (hts _ w1) (hts _ w2) (hK.2.2.1 _ _ _ hj) x1 (fun w hw => by
            rcases List.mem_cons.mp hw with rfl | hw
            · rfl
            · rcases List.mem_cons.mp hw with rfl | hw
              · rfl
              · exact x2 w hw) hU hN hS hls hd (hat _ _ h3 rfl) (hat _ _ h4 rfl) (hat _ _ h6 rfl) (hat _ _ h9 rfl) (fun x hx => (htab x hx).elim) (by show 2 + 3 < R.frames; omega) (by
                rw [hcat]
                show _ + (13 * (2 + 1) + 43) ≤ R.locals
                omega) (by omega) (by omega) hlocks (fun t _ q1 q2 => ⟨ex, rfl, rfl, hRp.gb q1 q2 hnk⟩) hl (by omega) (by omega)
        · cases h
      · cases h
    · cases h
  · rename_i is h3 h4
    split at h
    · rename_i ic h6 h9
      split at h
      · rename_i ex hlx
        split at h
        · rename_i hsum
          obtain ⟨hnk, hr⟩ := dp_nk_s h
          cases hr
          obtain ⟨he, w1, w2, ⟨j, hj⟩, w3⟩ := dp_lkX_ok hlx
          obtain ⟨x1, x2⟩ := dp_xat he hts hK w3
          have e1 : dp_n (dp_new M 0 0 6) = dp_n M + 1 := rfl
          have e2 : dp_z (dp_new M 0 0 6) = dp_z M + 6 := rfl
          have g1 := hroom.1
          have g2 := hroom.2
          dsimp only at g1 g2 ⊢
          rw [e1] at g1 ⊢
          rw [e2] at g2 ⊢
          exact dp_throwSW (names := dp_xns) hx hb hst hown (dp_fit4 ex he) dp_fitN (hts _ w1) (hts _ w2) (hK.2.2.1 _ _ _ hj) x1 (fun w hw => by
            rcases List.mem_cons.mp hw with rfl | hw
            · rfl
            · rcases List.mem_cons.mp hw with rfl | hw
              · rfl
              · exact x2 w hw) hU hN hS hls hd (hat _ _ h3 rfl) (hat _ _ h4 rfl) (hat _ _ h6 rfl) (hat _ _ h9 rfl) (fun x hx => (htab x hx).elim) (by show 2 + 3 < R.frames; omega) (by
                rw [hcat]
                show _ + (13 * (2 + 1) + 43) ≤ R.locals
                omega) (by omega) (by omega) hlocks (fun t _ q1 q2 => ⟨ex, rfl, rfl, hRp.gb q1 q2 hnk⟩) hl (by omega) (by omega)
        · cases h
      · cases h
    · cases h
  · cases h
end DPrun
