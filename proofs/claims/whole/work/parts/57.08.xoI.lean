/-! THE JDK (9): what the interpreter says of the JDK's members is the machine's -/
theorem xo_E1 {o i : Nat} (h : 1 = dp_lkE o i) : o = 1 ∧ i = 135 := by
  unfold dp_lkE at h
  (repeat' split at h) <;> omega
theorem xo_E4 {o i : Nat} (h : 4 = dp_lkE o i) : (o = 5 ∧ i = 69) ∨ (o = 7 ∧ i = 156) ∨ (o = 9 ∧ i = 127) := by
  unfold dp_lkE at h
  (repeat' split at h) <;> omega
theorem xo_E6 {o i : Nat} (h : 6 = dp_lkE o i) : o = 7 ∧ i = 165 := by
  unfold dp_lkE at h
  (repeat' split at h) <;> omega
theorem xo_Eno {o i : Nat} : dp_lkE o i ≠ 2 ∧ dp_lkE o i ≠ 3 := by
  unfold dp_lkE
  (repeat' split) <;> decide
theorem xo_V2 {o i : Nat} (h : 2 = dp_lkV o i) : o = 7 ∧ i = 125 := by
  unfold dp_lkV at h
  (repeat' split at h) <;> omega
theorem xo_V3 {o i : Nat} (h : 3 = dp_lkV o i) : o = 7 ∧ i = 130 := by
  unfold dp_lkV at h
  (repeat' split at h) <;> omega
theorem xo_Vno {o i : Nat} : dp_lkV o i ≠ 1 ∧ dp_lkV o i ≠ 4 ∧ dp_lkV o i ≠ 6 := by
  unfold dp_lkV
  (repeat' split) <;> decide
theorem xo_CBg {R : Room} {s : State} {args : Array Value} {own : String} {ix : Nat} {y : MethodName} {bytes : ByteArray} {maxL n mc ms : Nat} {ret : Option FieldType} {rm : Room} (hts : ∀ w ∈ dp_T, w.before args s = true) (hc : Cond.code y bytes maxL ret ∈ dp_T) (hi : Cond.initialized y.cls ∈ dp_T) (hl : Cond.methodLink own ix y ∈ dp_T) (h1 : rm.cells = mc) (h2 : rm.slots = ms) (h3 : rm.frames + 1 ≤ R.frames) (h4 : 8 + (maxL + 11) + rm.locals ≤ R.locals)
    (h5 : y.cls ≠ "java/lang/invoke/MethodHandle" ∧ y.cls ≠ "java/lang/invoke/VarHandle") (h6 : (parseMethodDescriptor y.desc).map (fun d => d.parameters.length) = some n) : CallB R s args own ix y bytes maxL ret (Cond.code y bytes maxL ret :: dp_T) rm mc ms n := by
  refine ⟨h1, h2, h3, h4, fun w hw a' U hW => ?_, List.mem_cons_self, hts _ hc, hts _ hi, h5, fun sig hs => ?_, hts _ hl⟩
  · have hT : w ∈ dp_T := by
      rcases List.mem_cons.mp hw with rfl | h
      · exact hc
      · exact h
    exact word_at hW (good_of_word (dp_T_good w hT).2) (hts w hT)
  · rw [hs] at h6
    exact (Option.some.inj h6).symm
set_option maxRecDepth 100000 in
set_option maxHeartbeats 4000000 in
theorem xo_all (l : Launch) : dp_XOk l := by
  intro p e R s m args below meth c H locs cc pc ls b sa G H0 md xs xl M o n0 z0 Q α k r st i ix t hx hb hml hts hown hK hE hRf hRl hRp hl hn0 hz0 hi h hd hroom kk
  have hcat : ∀ rest : List Value, ((rest.map (dp_cv b sa)).map fun v => v.category).sum = (rest.map fun v => v.category).sum := fun rest => by
    rw [List.map_map]; congr 1; apply List.map_congr_left; intro v _; exact dp_cv_cat b sa v
  have hH : ∀ q : Nat, q < b → H[q]? = H0[q]? := hRp.2.1
  have hkp : ∀ a : Nat, a < H0.size → ¬ b ≤ a → H[a]? = H0[a]? := fun a _ h2 => hH a (by omega)
  have rm0 : ∀ st', k st' M = some r → dp_n M - n0 ≤ R.cells ∧ dp_z M - z0 ≤ R.slots := fun st' q => by
    have := hroom st' M q
    omega
  unfold dp_xt at h
  split at h
  · -- floorMod
    rcases hi with ⟨rfl, e1⟩ | ⟨rfl, e1⟩
    case inr => exact absurd e1.symm xo_Vno.1
    obtain ⟨rfl, rfl⟩ := xo_E1 e1
    split at h
    · rename_i y x r0
      split at h
      · rename_i hs
        split at h
        · cases h
        · rename_i hy
          obtain ⟨g1, g2⟩ := rm0 _ h
          refine xo_callS (A := [.int x, .int y]) (rest := r0.map (dp_cv b sa)) (v := some (.int (dp_fm x y))) (n := 2) (rm := xo_rm 0 0) xo_T trivial hx hb hml hown hts hK hE (xo_fm hy)
            (xo_CB hts (dp_in_ok (q := 1127) (by decide +kernel) rfl) dp_hini (dp_in_ok (q := 1125) (by decide +kernel) rfl) rfl rfl (by show 0 + 1 ≤ _; omega) (by show 8 + (3 + 11) + 0 ≤ _; omega) (by decide) (by decide +kernel)) (dp_in_ok (q := 1126) (by decide +kernel) rfl) rfl (by rw [hcat]; exact hs) hd g1 g2 ?_
          exact kk _ _ H locs h hn0 hz0 hRp hl
      · cases h
    · cases h
  · -- length
    rcases hi with ⟨rfl, e1⟩ | ⟨rfl, e1⟩
    case inl => exact absurd e1.symm xo_Eno.1
    obtain ⟨rfl, rfl⟩ := xo_V2 e1
    split at h
    · rename_i j r0
      split at h
      · rename_i hs
        split at h
        · cases h
        · rename_i hj
          obtain ⟨g1, g2⟩ := rm0 _ h
          obtain ⟨cell, r1, r2, r3, -⟩ := (xo_str hj hK hE).2.1.kept hkp
          refine xo_callV (a := sa j) (C := "java/lang/String") (A := []) (rest := r0.map (dp_cv b sa)) (v := some (.int (nI (dp_sc j).length))) (n := 0) (rm := xo_rm 1 30) xo_T trivial hx hb hml hown hts hK hE (xo_len hH hj)
            (xo_CB hts (dp_in_ok (q := 2231) (by decide +kernel) rfl) (dp_in_ok (q := 279) (by decide +kernel) rfl) (dp_in_ok (q := 2228) (by decide +kernel) rfl) rfl rfl (by show 1 + 1 ≤ _; omega) (by show 8 + (1 + 11) + 30 ≤ _; omega) (by decide) (by decide +kernel)) (dp_in_ok (q := 2229) (by decide +kernel) rfl) (dp_in_ok (q := 2230) (by decide +kernel) rfl) ⟨cell, r1, r2, r3⟩ rfl (by rw [hcat]; exact hs) hd g1 g2 ?_
          exact kk _ _ H locs h hn0 hz0 hRp hl
      · cases h
    · cases h
  · -- charAt
    rcases hi with ⟨rfl, e1⟩ | ⟨rfl, e1⟩
    case inl => exact absurd e1.symm xo_Eno.2
    obtain ⟨rfl, rfl⟩ := xo_V3 e1
    split at h
    · rename_i i0 j r0
      split at h
      · rename_i hs
        split at h
        · cases h
        · rename_i hi0
          obtain ⟨g1, g2⟩ := rm0 _ h
          have hj : dp_sc j ≠ [] := fun q => hi0 (Or.inr (by rw [q]; exact Nat.zero_le _))
          have hq := xo_str hj hK hE
          obtain ⟨cell, r1, r2, r3, -⟩ := hq.2.1.kept hkp
          obtain ⟨k0, hk0, rfl⟩ := vp_in_of (n := (dp_sc j).length) hi0 (by have := hq.1; omega)
          rw [nI_clamp (by have := hq.1; omega)] at h
          refine xo_callV (a := sa j) (C := "java/lang/String") (A := [.int (nI k0)]) (rest := r0.map (dp_cv b sa)) (v := some (.int ((dp_sc j).getD k0 0))) (n := 1) (rm := xo_rm 3 100) xo_T trivial hx hb hml hown hts hK hE (xo_chr hH hk0)
            (xo_CB hts (dp_in_ok (q := 2241) (by decide +kernel) rfl) (dp_in_ok (q := 279) (by decide +kernel) rfl) (dp_in_ok (q := 2238) (by decide +kernel) rfl) rfl rfl (by show 3 + 1 ≤ _; omega) (by show 8 + (2 + 11) + 100 ≤ _; omega) (by decide) (by decide +kernel)) (dp_in_ok (q := 2239) (by decide +kernel) rfl) (dp_in_ok (q := 2240) (by decide +kernel) rfl) ⟨cell, r1, r2, r3⟩ rfl (by rw [hcat]; exact hs) hd g1 g2 ?_
          exact kk _ _ H locs h hn0 hz0 hRp hl
      · cases h
    · cases h
  · -- arraycopy
    rcases hi with ⟨rfl, e1⟩ | ⟨rfl, e1⟩
    case inr => exact absurd e1.symm xo_Vno.2.1
    have hlink : (Cond.methodLink (dp_own o) ix arraycopyName).before args s = true := by
      rcases xo_E4 e1 with ⟨rfl, rfl⟩ | ⟨rfl, rfl⟩ | ⟨rfl, rfl⟩
      · exact hts _ (dp_in_ok (q := 2922) (by decide +kernel) rfl)
      · exact hts _ (dp_in_ok (q := 2331) (by decide +kernel) rfl)
      · exact hts _ (dp_in_ok (q := 2142) (by decide +kernel) rfl)
    split at h
    · rename_i n q d p0 s0 r0
      split at h
      · rename_i hs
        split at h
        · cases h
        · rename_i hc
          have c1 : ¬ n < 0 := fun w => hc (Or.inl w)
          have c2 : ¬ q < 0 := fun w => hc (Or.inr (Or.inl w))
          have c3 : ¬ p0 < 0 := fun w => hc (Or.inr (Or.inr (Or.inl w)))
          have c4 : p0.toNatClampNeg + n.toNatClampNeg ≤ dp_len M s0 := by
            rw [← dp_ln_eq hRp]
            exact Nat.not_lt.mp fun w => hc (Or.inr (Or.inr (Or.inr (Or.inl w))))
          have c5 : q.toNatClampNeg + n.toNatClampNeg ≤ dp_len M d := by
            rw [← dp_ln_eq hRp]
            exact Nat.not_lt.mp fun w => hc (Or.inr (Or.inr (Or.inr (Or.inr (Or.inl w)))))
          have c6 : s0 ≠ d := fun w => hc (Or.inr (Or.inr (Or.inr (Or.inr (Or.inr w)))))
          split at h
          · rename_i t1 t2
            exact xo_cpI (a := s0) (d := d) (sp := p0) (dp := q) (n := n) (rest := r0.map (dp_cv b sa)) hx hb hml hown hlink hts hK hRp hl t1 t2 c6 c3 c2 c1 c4 c5 (by omega) (by rw [hcat]; omega) hd (fun H' locs' hR hlo => kk r0 (dp_cpI M s0 p0.toNatClampNeg d q.toNatClampNeg n.toNatClampNeg) H' locs' h hn0 hz0 hR hlo)
          · rename_i t1 t2
            exact xo_cpJ (a := s0) (d := d) (sp := p0) (dp := q) (n := n) (rest := r0.map (dp_cv b sa)) hx hb hml hown hlink hts hK hRp hl t1 t2 c6 c3 c2 c1 c4 c5 (by omega) (by rw [hcat]; omega) hd (fun H' locs' hR hlo => kk r0 (dp_cpJ M s0 p0.toNatClampNeg d q.toNatClampNeg n.toNatClampNeg) H' locs' h hn0 hz0 hR hlo)
          · cases h
      · cases h
    · cases h
  · -- copyOf
    rcases hi with ⟨rfl, e1⟩ | ⟨rfl, e1⟩
    case inr => exact absurd e1.symm xo_Vno.2.2
    obtain ⟨rfl, rfl⟩ := xo_E6 e1
    split at h
    · rename_i n s0 r0
      split at h
      · rename_i hs
        split at h
        · cases h
        · rename_i hc
          have hln := dp_ln_eq hRp s0
          have c3 : dp_len M s0 < 1000000 := by
            rw [← hln]
            exact Nat.not_le.mp fun w => hc (Or.inr (Or.inr w))
          obtain ⟨N, hN, rfl⟩ := vp_in_of (x := n) (n := 1000000) (fun w => hc (w.elim Or.inl (fun w => Or.inr (Or.inl w)))) (by omega)
          rw [nI_clamp (by omega), hln] at h
          split at h
          · rename_i t1
            obtain ⟨hnk, h⟩ := dp_nk_s h
            obtain ⟨M', eM⟩ : ∃ M', M' = dp_cpI (dp_new M N 1 N) s0 0 (dp_n M) 0 (min N (dp_len M s0)) := ⟨_, rfl⟩
            have n1 : dp_n M' = dp_n M + 1 := by rw [eM]; rfl
            have n2 : dp_z M' = dp_z M + N := by rw [eM]; rfl
            rw [← eM] at h
            have g := hroom _ _ h
            have met := xo_cpo (l := l) (b := b) (sa := sa) (G := G) (H0 := H0) (xs := xs) (xl := xl) t1 hN c3 hnk
            rw [← eM] at met
            refine dp_after (G := G) (sa := sa) (H0 := H0) (md := md) (rc := (.inl (some (.ref (dp_n M))), M')) (rest := r0) (a := (([.ref s0, .int (nI N)] : List Value).map (dp_cv b sa)).toArray) hn0 hz0 (by show dp_n M ≤ dp_n M'; omega) (by show dp_z M ≤ dp_z M'; omega) hl ?_ (fun v M'' eq H' locs' q1 q2 => ?_) (fun ee M'' eq => by cases eq)
            · have d1 : dp_n M' - dp_n M = 1 := by omega
              have d2 : dp_z M' - dp_z M = N := by omega
              show vx_Run p l e R s m args below meth c H locs (dp_n M - n0) (dp_z M - z0) (dp_n M' - dp_n M) (dp_z M' - dp_z M) _ _ _ _ _
              rw [d1, d2]
              exact dp_run_of (va_runS (Ts := dp_T) (As := ([.ref s0, .int (nI N)] : List Value).map (dp_cv b sa)) (own := dp_own 7) (n := 2) ⟨hx, hb, hml, hown, hts⟩ met
                ⟨xo_CBg hts (dp_in_ok (q := 2340) (by decide +kernel) rfl) (dp_in_ok (q := 261) (by decide +kernel) rfl) (dp_in_ok (q := 2338) (by decide +kernel) rfl) rfl rfl (by show 1 + 1 ≤ _; omega) (by show 8 + (3 + 11) + 150 ≤ _; omega) (by decide) (by decide +kernel), hts _ (dp_in_ok (q := 2339) (by decide +kernel) rfl)⟩
                ⟨dp_blind, fun U hU hW => ⟨rfl, by rw [hU]; exact hRp, hK.moved hW, hE.moved hW⟩⟩ rfl rfl rfl rfl (lv_room (by rw [hcat]; exact hs)) hd (by omega))
            · cases eq
              exact kk _ _ H' locs' h (by omega) (by omega) q1 q2
          · cases h
      · cases h
    · cases h
  · cases h
