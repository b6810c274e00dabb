/-! THE DEEP LAYER (10a): a thrown object into a handler of the method's own -/
theorem dp_hx_link : ∀ ct, dp_hx ct < 4 → ct ≠ 0 ∧ Cond.classLink (dp_own 13) ct (dp_en (dp_hx ct)) ∈ dp_T := by
  intro ct h
  unfold dp_hx at h ⊢
  by_cases h1 : ct = 13
  · subst h1; exact ⟨by decide, dp_is_ok (q := 1469) (by decide +kernel)⟩
  · by_cases h2 : ct = 15
    · subst h2; exact ⟨by decide, dp_is_ok (q := 1470) (by decide +kernel)⟩
    · by_cases h3 : ct = 25
      · subst h3; exact ⟨by decide, dp_is_ok (q := 1655) (by decide +kernel)⟩
      · by_cases h4 : ct = 117
        · subst h4; exact ⟨by decide, dp_is_ok (q := 2456) (by decide +kernel)⟩
        · rw [if_neg h1, if_neg h2, if_neg h3, if_neg h4] at h
          exact absurd h (by decide)
/-- one row of the table whose class is linked, cold or warm -/
theorem dp_go1 {Q : Handler → Pre} {E : CtlPost} {e : Env} {d : Bool} {acts : List Action} {s : State} {f : JFrame} {a : Addr} {x : ExceptionTableEntry} {t : List ExceptionTableEntry} {c : ClassId} {cell : Cell} (hx : covers x f.pc = true) (h0 : x.catchType ≠ 0)
    (hl : s.vm.ClassLinks e.platform f.method.cls x.catchType c) (hcell : s.heap[a]? = some cell) (hobj : ∀ k, cell.vm ≠ .statics k) (hk : ∃ k, s.vm.classes[cell.cls]? = some k) (hc : ∃ k, s.vm.classes[c]? = some k) :
    wp (findHandler.go f a (x :: t)) Q E e d acts s ↔ if s.vm.assignable cell.cls c = true then Q (.found x.handlerPc) d acts (s.setVm (s.vm.noted f.method.cls x.catchType (.cls c))) else wp (findHandler.go f a t) Q E e d acts (s.setVm (s.vm.noted f.method.cls x.catchType (.cls c))) := by
  have hal : s.vm.Alike (s.vm.noted f.method.cls x.catchType (.cls c)) := (Vm.Alike.refl s.vm).noted _ _ _
  obtain ⟨hr1, hr2⟩ := (resolveClass_links e.toSetting hl).op (op := VmOp.resolveClass f.method.cls x.catchType) rfl
  obtain ⟨ka, hka⟩ := hk
  obtain ⟨kc, hkc⟩ := hc
  obtain ⟨ka', hka', -⟩ := hal.2.2 _ _ hka
  obtain ⟨kc', hkc', -⟩ := hal.2.2 _ _ hkc
  have hsame : (s.vm.noted f.method.cls x.catchType (.cls c)).assignable cell.cls c = s.vm.assignable cell.cls c := hal.assignable _ _
  simp only [covers] at hx
  cases hq : s.vm.assignable cell.cls c <;> rw [hq] at hsame <;> simp [findHandler.go, hx, h0, hr1, hr2, hcell, hobj, hka', hkc', hsame, VmOp.dirties, VmOp.acts]
/-- the search through a table of the law: to the first row that names the thrown class -/
theorem dp_srch {e : Env} {s0 : State} {f : JFrame} {a : Addr} {cell : Cell} {ee : Nat} (hobj : ∀ k, cell.vm ≠ .statics k) (hE : s0.vm.findClass (dp_en ee) = some cell.cls) (hself : s0.vm.assignable cell.cls cell.cls = true)
    (hlk : ∀ ct, dp_hx ct < 4 → ct ≠ 0 ∧ ∃ cT, s0.vm.findClass (dp_en (dp_hx ct)) = some cT ∧ s0.vm.ClassLinks e.platform f.method.cls ct cT) (hno : ∀ g, g < 4 → g ≠ ee → ∀ cT, s0.vm.findClass (dp_en g) = some cT → s0.vm.assignable cell.cls cT = false) (he : ee < 4) :
    ∀ (hs : List (Nat × Nat × Nat × Nat)) (h : Nat) (S : State), dp_hf f.pc ee hs = some h → s0.WarmedH S.vm → S.heap[a]? = some cell →
      ∃ vm', s0.WarmedH vm' ∧ ∀ (Q : Handler → Pre) (E : CtlPost) (d : Bool) (acts : List Action), wp (findHandler.go f a (tableOf hs)) Q E e d acts S ↔ Q (.found h) d acts (S.setVm vm')
  | [], h, S, hf, _, _ => by cases hf
  | q :: hs, h, S, hf, hW, hcell => by
    obtain ⟨k0, hk0⟩ := Vm.classAt_of_findClass hE
    obtain ⟨k1, hk1, -⟩ := hW.alike.2.2 _ _ hk0
    have htab : tableOf (q :: hs) = (⟨q.1, q.2.1, q.2.2.1, q.2.2.2⟩ : ExceptionTableEntry) :: tableOf hs := rfl
    unfold dp_hf at hf
    split at hf
    · rename_i hcov
      have hcv : covers (⟨q.1, q.2.1, q.2.2.1, q.2.2.2⟩ : ExceptionTableEntry) f.pc = true := by simp [covers, hcov.1, hcov.2]
      split at hf
      · rename_i hee
        cases hf
        obtain ⟨h0, cT, hcT, hlink⟩ := hlk q.2.2.2 (by rw [hee]; exact he)
        rw [hee] at hcT
        cases Option.some.inj (hcT.symm.trans hE)
        obtain ⟨dk, _, _, kt, hd, _, _, _, _, hkt, _, hopen⟩ := hlink.here
        refine ⟨_, hW.noted hd hopen (State.rightAt_cls hlink), fun Q E d acts => ?_⟩
        rw [htab, dp_go1 hcv h0 (hW.classLinks hlink) hcell hobj ⟨k1, hk1⟩ ⟨k1, hk1⟩, if_pos (by rw [hW.alike.assignable]; exact hself)]
      · rename_i hee
        split at hf
        · rename_i h4
          obtain ⟨h0, cT, hcT, hlink⟩ := hlk q.2.2.2 h4
          obtain ⟨dk, _, _, kt, hd, _, _, _, _, hkt, _, hopen⟩ := hlink.here
          obtain ⟨kt', hkt', -⟩ := hW.alike.2.2 _ _ hkt
          obtain ⟨vm', hW', hq⟩ := dp_srch hobj hE hself hlk hno he hs h (S.setVm (S.vm.noted f.method.cls q.2.2.2 (.cls cT))) hf (hW.noted hd hopen (State.rightAt_cls hlink)) hcell
          refine ⟨vm', hW', fun Q E d acts => ?_⟩
          rw [htab, dp_go1 hcv h0 (hW.classLinks hlink) hcell hobj ⟨k1, hk1⟩ ⟨kt', hkt'⟩, if_neg (by rw [hW.alike.assignable, hno _ h4 hee cT hcT]; decide)]
          exact hq Q E d acts
        · cases hf
    · rename_i hcov
      have hcv : covers (⟨q.1, q.2.1, q.2.2.1, q.2.2.2⟩ : ExceptionTableEntry) f.pc = false := by
        simp only [covers, Bool.and_eq_false_iff, decide_eq_false_iff_not]
        by_cases h9 : q.1 ≤ f.pc
        · exact Or.inr (fun h8 => hcov ⟨h9, h8⟩)
        · exact Or.inl h9
      obtain ⟨vm', hW', hq⟩ := dp_srch hobj hE hself hlk hno he hs h S hf hW hcell
      exact ⟨vm', hW', fun Q E d acts => by rw [htab, W.findHandler_go_skip hcv]; exact hq Q E d acts⟩
section DPcatch
variable {p : Program} {l : Launch} {e : Env} {R : Room} {s : State} {m : MethodId} {args : Array Value} {below : List Frame} {meth : Method} {c : Code} {H : Heap} {locs : List Loc} {cells slots : Nat} {Q : State → Prop}
variable {cc : ByteArray} {pc : Nat} {ls : Array Slot} {b : Nat} {sa : Nat → Nat} {G : dp_G} {rest : List Value}
/-- the step of the unwinding that a search of that kind makes -/
theorem dp_unw {S : State} {a : Addr} {g : JFrame} {r : List Frame} {h : Nat} {vm' : Vm} (hf : ∀ (Q : Handler → Pre) (E : CtlPost) (d : Bool) (acts : List Action), wp (findHandler g a) Q E e d acts S ↔ Q (.found h) d acts (S.setVm vm')) :
    (stepThrowing e S a (.java g :: r)).Is ((S.setVm vm').setFrames (.java { g with pc := h, stack := [.ref a] } :: r)) [] := by
  simp only [stepThrowing, searchFrame, vmDo]
  generalize hr : Sem.go _ e false [] S = res
  obtain ⟨as, rfl, ha⟩ := Sem.eq_ok_of hr (a := Handler.found h) (s' := S.setVm vm') (acts' := []) (by simp [hf _ _ _ _])
  exact ⟨rfl, ha⟩
theorem dp_catch_ok {mi : dp_Mi} {ee h : Nat} {ce : Cell} {q : Addr} (hts : ∀ w ∈ dp_T, w.before args s = true) (hown : s.vm.findClass (dp_own 13) = some m.cls) (hK : dp_Kn G sa s) (htab : c.exceptionTable.toList = tableOf (dp_hh mi)) (hee : ee < 4) (hh : dp_hf pc ee (dp_hh mi) = some h)
    (hcell : H[q]? = some ce) (hv : ce.vm = .none) (hcl : s.vm.findClass (dp_en ee) = some ce.cls)
    (kk : W p l e R s m args below meth c H locs cells slots Q (F0 m h ls [.ref q])) : vx_W p l e R s m args below meth c H locs cells slots Q (F0 m pc ls rest) q := by
  intro T hT X
  have hpl : e.platform.magicAccessors = ({} : Platform).magicAccessors := by rw [X.admits.platform]
  have hself : s.vm.assignable ce.cls ce.cls = true := by
    have h9 : (Cond.castable (dp_en ee) (dp_en ee)).before #[] s = true := hK.2.2.2.1 _ (by
      unfold dp_xw
      refine List.mem_append_right _ (List.mem_map.mpr ⟨ee, ?_, rfl⟩)
      have : ee = 0 ∨ ee = 1 ∨ ee = 2 ∨ ee = 3 := by omega
      rcases this with rfl | rfl | rfl | rfl <;> simp)
    obtain ⟨c3, c4, hc3, hc4, hasg⟩ := Cond.castable_spec h9
    cases Option.some.inj (hc3.symm.trans hcl)
    cases Option.some.inj (hc4.symm.trans hcl)
    exact hasg
  have hlk : ∀ ct, dp_hx ct < 4 → ct ≠ 0 ∧ ∃ cT, s.vm.findClass (dp_en (dp_hx ct)) = some cT ∧ s.vm.ClassLinks e.platform m.cls ct cT := fun ct h4 => by
    obtain ⟨h0, hw⟩ := dp_hx_link ct h4
    obtain ⟨c5, hc5, hcl5⟩ := Cond.classLink_spec hown (hts _ hw) e.platform hpl
    exact ⟨h0, c5, hc5, hcl5⟩
  have hno : ∀ g, g < 4 → g ≠ ee → ∀ cT, s.vm.findClass (dp_en g) = some cT → s.vm.assignable ce.cls cT = false := fun g hg hne cT hcT => by
    obtain ⟨a8, b8, h1, h2, h3⟩ := hK.2.2.2.2.2 ee g hee hg (Ne.symm hne)
    cases Option.some.inj (h1.symm.trans hcl)
    cases Option.some.inj (h2.symm.trans hcT)
    exact h3
  obtain ⟨vm', hW', hq⟩ := dp_srch (e := e) (s0 := s) (f := F0 m pc ls rest) (a := q) (cell := ce) (ee := ee) (fun k => by rw [hv]; exact fun h => by cases h) hcl hself hlk hno hee (dp_hh mi) h ((T.setTop (F0 m pc ls rest)).pushFrame (.throwing q)) hh X.warmed (by show T.heap[q]? = some ce; rw [hT]; exact hcell)
  have hfind : ∀ (Q : Handler → Pre) (E : CtlPost) (d : Bool) (acts : List Action), wp (findHandler (F0 m pc ls rest) q) Q E e d acts ((T.setTop (F0 m pc ls rest)).pushFrame (.throwing q)) ↔ Q (.found h) d acts (((T.setTop (F0 m pc ls rest)).pushFrame (.throwing q)).setVm vm') := fun Q E d acts => by
    rw [W.findHandler_eq (meth := meth) (code := c) X.method' X.code, htab]
    exact hq Q E d acts
  obtain ⟨t, a1, b1⟩ := kk (T.setVm vm') hT (X.noted hW')
  refine ⟨t, ?_, b1⟩
  obtain ⟨hgo, hw⟩ := (show At T (F0 m pc ls rest).method c below from X.here).throwing q
  refine Steps.head hgo hw ?_
  rw [stepThread_throwing (frames_entered X.here.top _), (dp_unw (S := (T.setTop (F0 m pc ls rest)).pushFrame (.throwing q)) hfind).1]
  obtain ⟨g0, hg0⟩ := Option.isSome_iff_exists.mp X.here.top
  obtain ⟨r, hr⟩ := State.topJava?_eq_some.mp hg0
  have hr' : (T.setVm vm').frames = .java g0 :: r := hr
  rw [State.setTop_of_frames _ hr'] at a1
  have hfr : ∀ (u : State) (A B : List Frame), ((u.setFrames A).setVm vm').setFrames B = (u.setVm vm').setFrames B := fun u A B => State.setFrames_setFrames (u.setVm vm') A B
  rw [hr, List.tail_cons, State.pushFrame, hfr, State.setTop_of_frames _ hr, hfr]
  exact a1
/-- .. and its first store: what the local holds is not asked -/
theorem dp_has_un {L : dp_L} {i : Nat} {v : Value}
    (hl : lv_has ls L.length ((i, v) :: (dp_as b sa L).filter (fun q => !(q.1 == i) && !(q.1 + 1 == i && q.2.category == 2)))) : dp_has b sa ls (dp_un L i) := by
  refine ⟨by rw [hl.1]; unfold dp_un; rw [dp_cut_len, List.length_set], hl.2.1, fun j w hj => ?_⟩
  obtain ⟨h1, h2⟩ := dp_cut_get hj
  refine hl.2.2 (j, dp_cv b sa w) ?_
  by_cases hji : i = j
  · subst hji
    rw [List.getElem?_set] at h1
    simp at h1
  · rw [List.getElem?_set_ne hji] at h1
    refine List.mem_cons_of_mem _ (List.mem_filter.mpr ⟨dp_as_mem.mpr ⟨w, h1, rfl⟩, ?_⟩)
    by_cases hn : j + 1 = i
    · have := h2 hn
      rw [dp_isL_cat h1] at this
      simp [dp_cv_cat, Ne.symm hji]
      exact Or.inr (by simpa using this)
    · simp [Ne.symm hji, hn]
theorem dp_un_len (L : dp_L) (k : Nat) : (dp_un L k).length = L.length := by unfold dp_un; rw [dp_cut_len, List.length_set]
theorem dp_hand_ok {mi : dp_Mi} {L : dp_L} {ee h1 a : Nat} {ce : Cell} {q : Addr} (hx : p.tables.exec = Jvm.exec) (hb : c.code = dp_bytes mi) (hts : ∀ w ∈ dp_T, w.before args s = true) (hown : s.vm.findClass (dp_own (dp_own1 mi)) = some m.cls) (hK : dp_Kn G sa s) (htab : c.exceptionTable.toList = tableOf (dp_hh mi))
    (hins : ∀ pc i, dp_ins mi pc = some i → ∃ len, decode (dp_bytes mi) pc = .ok (i, len) ∧ (dp_isSw i = false → len = dp_il i)) (hl : dp_has b sa ls L) (hd : dp_hd mi pc ee = some (h1, a)) (ha : a < L.length)
    (hcell : H[q]? = some ce) (hv : ce.vm = .none) (hcl : s.vm.findClass (dp_en ee) = some ce.cls)
    (kk : ∀ ls', dp_has b sa ls' (dp_un L a) → W p l e R s m args below meth c H locs cells slots Q (F0 m h1 ls' [])) : vx_W p l e R s m args below meth c H locs cells slots Q (F0 m pc ls rest) q := by
  unfold dp_hd at hd
  split at hd
  · rename_i hc
    split at hd
    · rename_i h hf
      rw [hc.2] at hown
      refine dp_catch_ok hts hown hK htab hc.1 hf hcell hv hcl ?_
      have hlv := dp_has_lv hl
      split at hd
      · rename_i a' hi
        cases hd
        obtain ⟨len, hdec, hlen⟩ := hins _ _ hi
        have : len = 1 := hlen rfl
        subst this
        exact lv_astore_n hx hb hdec rfl hlv ha rfl (fun ls' h' => kk ls' (dp_has_un h'))
      · rename_i a' hi
        cases hd
        obtain ⟨len, hdec, hlen⟩ := hins _ _ hi
        have : len = 2 := hlen rfl
        subst this
        exact lv_astore hx hb hdec hlv ha rfl (fun ls' h' => kk ls' (dp_has_un h'))
      · cases hd
    · cases hd
  · cases hd
end DPcatch
