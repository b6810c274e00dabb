/-! THE DEEP LAYER (9): soundness -/
section DPsound
variable {p : Program} {l : Launch} {e : Env} {R : Room} {s : State} {m : MethodId} {args : Array Value} {below : List Frame} {meth : Method} {c : Code} {H : Heap} {locs : List Loc}
variable {cc : ByteArray} {pc : Nat} {ls : Array Slot} {b : Nat} {sa : Nat → Nat} {G : dp_G} {H0 : Heap} {md : Bool} {xs : Nat → Int32} {xl : Nat} {M : dp_M} {o n0 z0 : Nat} {Q : State → Prop}
/-- behind a call -/
theorem dp_after {rc : dp_Res} (hn0 : n0 ≤ dp_n M) (hz0 : z0 ≤ dp_z M) (hgn : dp_n M ≤ dp_n rc.2) (hgz : dp_z M ≤ dp_z rc.2) {st0 rest : List Value} {a : Array Value} (hl : ∀ q ∈ locs, b ≤ q.base)
    (hr : vx_Run p l e R s m args below meth c H locs (dp_n M - n0) (dp_z M - z0) (dp_n rc.2 - dp_n M) (dp_z rc.2 - dp_z M) (F0 m pc ls st0) (rest.map (dp_cv b sa)) (dp_Qc G b sa H0 md rc a) (dp_XC G b H0 md rc) (fun q => b ≤ q))
    (kk : ∀ v M', rc = (.inl v, M') → ∀ H' locs', dp_Rep G b H0 md M' H' → (∀ q ∈ locs', b ≤ q.base) → W p l e R s m args below meth c H' locs' (dp_n M' - n0) (dp_z M' - z0) Q (F0 m (pc + 3) ls ((v.toList ++ rest).map (dp_cv b sa))))
    (kx : ∀ ee M', rc = (.inr ee, M') → ∀ H' locs' q ce, dp_Rep G b H0 md M' H' → (∀ q ∈ locs', b ≤ q.base) → H'[q]? = some ce → ce.vm = .none → s.vm.findClass (dp_en ee) = some ce.cls → vx_W p l e R s m args below meth c H' locs' (dp_n M' - n0) (dp_z M' - z0) Q (F0 m pc ls (rest.map (dp_cv b sa))) q) :
    W p l e R s m args below meth c H locs (dp_n M - n0) (dp_z M - z0) Q (F0 m pc ls st0) := by
  obtain ⟨oc, M'⟩ := rc
  have hc1 : dp_n M - n0 + (dp_n M' - dp_n M) = dp_n M' - n0 := by dsimp only at hgn; omega
  have hc2 : dp_z M - z0 + (dp_z M' - dp_z M) = dp_z M' - z0 := by dsimp only at hgz; omega
  have hlL : ∀ L' : List Loc, (∀ q ∈ L', b ≤ q.base) → ∀ q ∈ locs ++ L', b ≤ q.base := fun L' hL q hq => by
    rcases List.mem_append.mp hq with h | h
    · exact hl q h
    · exact hL q h
  intro T hT X
  rcases hr T hT X with ⟨v', st₀, t, T', L', h0, X', hL, e1, e2, ⟨w, hw, hv, hRep⟩, st⟩ | ⟨q, st₀, t, T', L', E, ce, h0, X', hL, e1, e2, ⟨ee, he, hE, hRep⟩, hce, hcv, hcl, st⟩
  · dsimp only at hw
    subst hw
    cases hv
    dsimp only at X'
    rw [hc1, hc2] at X'
    have hk := kk w M' rfl T'.heap (locs ++ L') (by rw [e1]; exact hRep) (hlL L' hL)
    obtain ⟨t2, a1, b1⟩ := hk T' rfl X'
    refine ⟨t2, st t2 ?_, b1⟩
    have : ((w.toList ++ rest).map (dp_cv b sa)) = (w.map (dp_cv b sa)).toList ++ rest.map (dp_cv b sa) := by cases w <;> simp
    rw [this] at a1
    exact a1
  · dsimp only at he
    subst he
    dsimp only at X'
    rw [hc1, hc2] at X'
    rw [hE] at hcl
    obtain ⟨t2, a1, b1⟩ := kx ee M' rfl T'.heap (locs ++ L') q ce (by rw [e1]; exact hRep) (hlL L' hL) (by rw [e1]; exact hce) hcv hcl T' rfl X'
    exact ⟨t2, st.trans a1, b1⟩
theorem dp_met_of {l : Launch} {y : MethodName} {ws : List Cond} {rm : Room} {Pc : Array Value → State → Prop} {Qc : Array Value → State → Outcome → State → Prop} {XC : String → State → State → Prop} {mc ms : Nat} {free : Addr → Prop} (h : vx_Met l y ws rm Pc Qc XC mc ms free) (hX : ∀ E st t, ¬ XC E st t) : Met l y ws rm Pc Qc mc ms free := by
  intro p e h1 h2 h3 s m args below h4 h5 h6 h7
  obtain ⟨n, oc, a1, a2, a3, a4⟩ := h p e h1 h2 h3 s m args below h4 h5 h6 h7
  refine ⟨n, oc, a1, a2, a3, ?_⟩
  rcases a4 with a4 | ⟨q, -, E, ce, L, hx, -⟩
  · exact a4
  · exact absurd hx (hX _ _ _)
theorem dp_run_of {mc ms : Nat} {g : JFrame} {rest : List Value} {cells slots : Nat} {Qa : State → Outcome → State → Prop} {XC : String → State → State → Prop} {free : Addr → Prop} (h : va_Run p l e R s m args below meth c H locs cells slots mc ms g rest Qa free) : vx_Run p l e R s m args below meth c H locs cells slots mc ms g rest Qa XC free :=
  fun T hT X => Or.inl (h T hT X)
/-- what the JDK's members do is the machine's: shown below, a member each -/
def dp_XOk (l : Launch) : Prop := ∀ (p : Program) (e : Env) (R : Room) (s : State) (m : MethodId) (args : Array Value) (below : List Frame) (meth : Method) (c : Code) (H : Heap) (locs : List Loc) (cc : ByteArray) (pc : Nat) (ls : Array Slot) (b : Nat) (sa : Nat → Nat) (G : dp_G) (H0 : Heap) (md : Bool) (xs : Nat → Int32) (xl : Nat) (M : dp_M) (o n0 z0 : Nat) (Q : State → Prop) (α : Type) (k : List Value → dp_M → Option α) (r : α) (st : List Value) (i : Instr) (ix t : Nat),
  p.tables.exec = Jvm.exec → c.code = cc → c.maxLocals = ls.size → (∀ w ∈ dp_T, w.before args s = true) → s.vm.findClass (dp_own o) = some m.cls → dp_Kn G sa s → dp_Ext b sa H0 xs xl s → 7 ≤ R.frames → 200 ≤ R.locals → dp_Rep G b H0 md M H → (∀ q ∈ locs, b ≤ q.base) → n0 ≤ dp_n M → z0 ≤ dp_z M →
  (i = .invokestatic ix ∧ t = dp_lkE o ix ∨ i = .invokevirtual ix ∧ t = dp_lkV o ix) → dp_xt md t st M k = some r → decode cc pc = .ok (i, 3) → (∀ st' M', k st' M' = some r → dp_n M' ≤ n0 + R.cells ∧ dp_z M' ≤ z0 + R.slots) →
  (∀ st' M' H' locs', k st' M' = some r → n0 ≤ dp_n M' → z0 ≤ dp_z M' → dp_Rep G b H0 md M' H' → (∀ q ∈ locs', b ≤ q.base) → W p l e R s m args below meth c H' locs' (dp_n M' - n0) (dp_z M' - z0) Q (F0 m (pc + 3) ls (st'.map (dp_cv b sa)))) →
  W p l e R s m args below meth c H locs (dp_n M - n0) (dp_z M - z0) Q (F0 m pc ls (st.map (dp_cv b sa)))
set_option maxHeartbeats 4000000 in
theorem dp_cal_ok {mi : dp_Mi} {d : Nat} {F : dp_Phi} (hXO : dp_XOk l) (hx : p.tables.exec = Jvm.exec) (hb : c.code = cc) (hml : c.maxLocals = dp_maxL mi) (hts : ∀ w ∈ dp_T, w.before args s = true) (hown : s.vm.findClass (dp_own o) = some m.cls) (hK : dp_Kn G sa s) (hE : dp_Ext b sa H0 xs xl s)
    (hF : dp_grow F) (hFo : ∀ j mj as M r, dp_mi j = some mj → F j as M = some r → dp_Ok l G b sa H0 md xs xl d mj as M r) (hRf : d + 7 ≤ R.frames) (hRl : 100 * d + 200 ≤ R.locals)
    (hRp : dp_Rep G b H0 md M H) (hl : ∀ q ∈ locs, b ≤ q.base) (hn0 : n0 ≤ dp_n M) (hz0 : z0 ≤ dp_z M) {L : dp_L} (hls : ls.size = dp_maxL mi) {i : Instr} {st : List Value} {k : dp_Cfg → Option dp_Res} {r : dp_Res} (h : dp_cal md F mi o pc L i st M k = some r) (hd : decode cc pc = .ok (i, dp_il i))
    (hroom : ∀ cf, k cf = some r → dp_n cf.2.2.2 ≤ n0 + R.cells ∧ dp_z cf.2.2.2 ≤ z0 + R.slots) (hroomr : dp_n r.2 ≤ n0 + R.cells ∧ dp_z r.2 ≤ z0 + R.slots)
    (ko : ∀ ee M' H' locs' q ce rest, r = (.inr ee, M') → dp_hh mi = [] → n0 ≤ dp_n M' → z0 ≤ dp_z M' → dp_Rep G b H0 md M' H' → (∀ q ∈ locs', b ≤ q.base) → H'[q]? = some ce → ce.vm = .none → s.vm.findClass (dp_en ee) = some ce.cls → vx_W p l e R s m args below meth c H' locs' (dp_n M' - n0) (dp_z M' - z0) Q (F0 m pc ls rest) q)
    (kh : ∀ ee M' h1 a H' locs' q ce rest, dp_hd mi pc ee = some (h1, a) → a < L.length → k (h1, dp_un L a, [], M') = some r → n0 ≤ dp_n M' → z0 ≤ dp_z M' → dp_Rep G b H0 md M' H' → (∀ q ∈ locs', b ≤ q.base) → H'[q]? = some ce → ce.vm = .none → s.vm.findClass (dp_en ee) = some ce.cls → vx_W p l e R s m args below meth c H' locs' (dp_n M' - n0) (dp_z M' - z0) Q (F0 m pc ls rest) q)
    (kk : ∀ st' M' H' locs', k (pc + 3, L, st', M') = some r → n0 ≤ dp_n M' → z0 ≤ dp_z M' → dp_Rep G b H0 md M' H' → (∀ q ∈ locs', b ≤ q.base) → W p l e R s m args below meth c H' locs' (dp_n M' - n0) (dp_z M' - z0) Q (F0 m (pc + 3) ls (st'.map (dp_cv b sa)))) :
    W p l e R s m args below meth c H locs (dp_n M - n0) (dp_z M - z0) Q (F0 m pc ls (st.map (dp_cv b sa))) := by
  have hPc : ∀ as : List Value, ∀ U : State, U.heap = H → s.WarmedH U.vm → dp_Pc G b sa H0 md xs xl as M ((as.map (dp_cv b sa)).toArray) U := fun as U hU hW => ⟨rfl, by rw [hU]; exact hRp, hK.moved hW, hE.moved hW⟩
  have hCB : ∀ (j ix : Nat) (mj : dp_Mi) (rc : dp_Res), Cond.methodLink (dp_own o) ix (dp_y mj) ∈ dp_T → dp_mi j = some mj → dp_kind mj ≠ 3 → CallB R s args (dp_own o) ix (dp_y mj) (dp_bytes mj) (dp_maxL mj) (dp_rt mj) (dp_ws mj) (dp_rm d M rc) (dp_n rc.2 - dp_n M) (dp_z rc.2 - dp_z M) (dp_na mj) := by
    intro j ix mj rc hlk hmj hk3
    have ok := dp_mi_ok hmj
    have hcw : dp_cw mj = .code (dp_y mj) (dp_bytes mj) (dp_maxL mj) (dp_rt mj) := by
      have : mj.2.2.2 = [] := ok.2.2.2.2.2.2.2.2.2.1 hk3
      unfold dp_cw
      rw [this]
    refine ⟨rfl, rfl, hRf, ?_, dp_ws_warm hts ok, by rw [← hcw]; exact List.mem_cons_self, by rw [← hcw]; exact hts _ ok.2.2.2.2.1, hts _ ok.2.2.2.2.2.1, ⟨ok.2.2.2.1.1, ok.2.2.2.1.2.1⟩, fun sig hs => ?_, hts _ hlk⟩
    · have : dp_maxL mj ≤ 80 := ok.2.2.1
      show 8 + (dp_maxL mj + 11) + (100 * d + 100) ≤ R.locals
      omega
    · have h2 := ok.2.2.2.1.2.2
      rw [hs] at h2
      exact (Option.some.inj h2).symm
  have hcat : ∀ rest : List Value, ((rest.map (dp_cv b sa)).map fun v => v.category).sum = (rest.map fun v => v.category).sum := fun rest => by
    rw [List.map_map]; congr 1; apply List.map_congr_left; intro v _; exact dp_cv_cat b sa v
  /- what follows a call that dp_back reads -/
  have hgo : ∀ (x : Option dp_Res) (rest : List Value), dp_back mi pc L rest x k = some r → ∃ rc, x = some rc ∧ (dp_n rc.2 ≤ n0 + R.cells ∧ dp_z rc.2 ≤ z0 + R.slots) ∧
      (dp_n M ≤ dp_n rc.2 → dp_z M ≤ dp_z rc.2 → (∀ v M', rc = (.inl v, M') → ∀ H' locs', dp_Rep G b H0 md M' H' → (∀ q ∈ locs', b ≤ q.base) → W p l e R s m args below meth c H' locs' (dp_n M' - n0) (dp_z M' - z0) Q (F0 m (pc + 3) ls ((v.toList ++ rest).map (dp_cv b sa)))) ∧
      ∀ ee M', rc = (.inr ee, M') → ∀ H' locs' q ce, dp_Rep G b H0 md M' H' → (∀ q ∈ locs', b ≤ q.base) → H'[q]? = some ce → ce.vm = .none → s.vm.findClass (dp_en ee) = some ce.cls → vx_W p l e R s m args below meth c H' locs' (dp_n M' - n0) (dp_z M' - z0) Q (F0 m pc ls (rest.map (dp_cv b sa))) q) := by
    intro x rest hb9
    rcases dp_back_f hb9 with ⟨v, M', e1, e2, -⟩ | ⟨ee, M', e1, hh9, e2, -⟩ | ⟨ee, M', h1, a, e1, -, hd9, ha9, e2, -⟩
    · refine ⟨_, e1, hroom _ e2, fun g1 g2 => ⟨fun v1 M1 q1 H' locs' q2 q3 => ?_, fun ee M1 q1 => by cases q1⟩⟩
      cases q1
      exact kk _ _ H' locs' e2 (by dsimp only at g1; omega) (by dsimp only at g2; omega) q2 q3
    · subst e2
      refine ⟨_, e1, hroomr, fun g1 g2 => ⟨fun v1 M1 q1 => (by cases q1), fun ee1 M1 q1 H' locs' q ce q2 q3 q4 q5 q6 => ?_⟩⟩
      cases q1
      exact ko ee M' H' locs' q ce _ rfl hh9 (by dsimp only at g1; omega) (by dsimp only at g2; omega) q2 q3 q4 q5 q6
    · refine ⟨_, e1, hroom _ e2, fun g1 g2 => ⟨fun v1 M1 q1 => (by cases q1), fun ee1 M1 q1 H' locs' q ce q2 q3 q4 q5 q6 => ?_⟩⟩
      cases q1
      exact kh ee M' h1 a H' locs' q ce _ hd9 ha9 e2 (by dsimp only at g1; omega) (by dsimp only at g2; omega) q2 q3 q4 q5 q6
  cases i <;> first | (exfalso; simp only [dp_cal, reduceCtorEq] at h; done) | skip
  case invokestatic ix =>
    simp only [dp_cal] at h; split at h
    · rename_i hh hlh
      obtain ⟨h5, hlm⟩ := dp_lkH_ok hlh
      have hst5 := hts _ (dp_hst hh h5)
      have hi5 := hts _ dp_hini
      have hm5 := hts _ hlm
      have hml5 : c.maxLocals = ls.size := hml.trans hls.symm
      have hR1 := (hroom _ (dp_hin_f h).choose_spec.1).1
      have hR2 := (hroom _ (dp_hin_f h).choose_spec.1).2
      dsimp only at hR1 hR2
      unfold dp_hin at h
      split at h
      all_goals first | (simp only [reduceCtorEq] at h; done) | skip
      · split at h
        · rename_i hs; exact va_mmax hx hb hml5 hown hm5 hst5 hi5 (hts _ dp_hc0) (by omega) (by rw [hcat]; omega) (by omega) (by omega) hd (kk _ _ H locs h hn0 hz0 hRp hl)
        · cases h
      · split at h
        · rename_i hs; exact va_mmin hx hb hml5 hown hm5 hst5 hi5 (hts _ dp_hc1) (by omega) (by rw [hcat]; omega) (by omega) (by omega) hd (kk _ _ H locs h hn0 hz0 hRp hl)
        · cases h
      · split at h
        · rename_i hs; exact va_mmax_long hx hb hml5 hown hm5 hst5 hi5 (hts _ dp_hc2) (by omega) (by rw [hcat]; omega) (by omega) (by omega) hd (kk _ _ H locs h hn0 hz0 hRp hl)
        · cases h
      · split at h
        · rename_i hs; exact va_mmin_long hx hb hml5 hown hm5 hst5 hi5 (hts _ dp_hc3) (by omega) (by rw [hcat]; omega) (by omega) (by omega) hd (kk _ _ H locs h hn0 hz0 hRp hl)
        · cases h
      · split at h
        · rename_i hs; exact va_mabs_long hx hb hml5 hown hm5 hst5 hi5 (hts _ dp_hc4) (by omega) (by rw [hcat]; omega) (by omega) (by omega) hd (kk _ _ H locs h hn0 hz0 hRp hl)
        · cases h
    split at h
    · rename_i j hlk
      split at h
      · rename_i mj hmj
        split at h
        · rename_i hkind
          split at h
          · rename_i as rest htk
            split at h
            · rename_i hsum
              obtain ⟨rc, e1, hrm, hcont⟩ := hgo _ _ h
              obtain ⟨bs, hbl, hbs, rfl⟩ := dp_tk_s _ _ _ _ _ htk
              rw [List.append_nil] at hbs
              subst hbs
              have hg := hF _ _ _ rc.1 rc.2 e1
              obtain ⟨kk1, kx1⟩ := hcont hg.1 hg.2
              have ok := dp_mi_ok hmj
              have hlk2 : dp_kind mj ≠ 2 → Cond.methodLink (dp_own o) ix (dp_y mj) ∈ dp_T := fun q => (dp_lkM_ok hlk hmj).elim id (fun z => absurd z.1 q)
              refine dp_after (rc := rc) (rest := rest) (a := (as.map (dp_cv b sa)).toArray) hn0 hz0 hg.1 hg.2 hl ?_ kk1 kx1
              have hstk : (F0 m pc ls ((as.reverse ++ rest).map (dp_cv b sa))).stack = (as.map (dp_cv b sa)).reverse ++ rest.map (dp_cv b sa) := by
                show (as.reverse ++ rest).map (dp_cv b sa) = _
                rw [List.map_append, List.map_reverse]
              have hfit : dp_n M - n0 + (dp_n rc.2 - dp_n M) ≤ R.cells ∧ dp_z M - z0 + (dp_z rc.2 - dp_z M) ≤ R.slots := by
                have h1 := hrm.1
                have h2 := hrm.2
                have h3 := hg.1
                have h4 := hg.2
                exact ⟨by omega, by omega⟩
              rcases hkind with hkind | hkind
              · exact vx_runS (As := as.map (dp_cv b sa)) ⟨hx, hb, hml, hown, hts⟩ (hFo _ _ _ _ _ hmj e1) ⟨hCB _ _ _ rc (hlk2 (by rw [hkind]; decide)) hmj (by rw [hkind]; decide), hts _ (ok.2.2.2.2.2.2.1 hkind)⟩ ⟨dp_blind, fun U hU hW => hPc as U hU hW⟩ rfl (by rw [List.length_map]; exact hbl) hls hstk (lv_room (by rw [hcat]; exact hsum)) hd hfit
              · obtain ⟨hst3, hh3⟩ := ok.2.2.2.2.2.2.2.2.2.2 hkind
                have hcw : dp_cw mj = .codeWith (dp_y mj) (dp_bytes mj) (dp_maxL mj) (dp_rt mj) (dp_hh mj) := by
                  unfold dp_cw
                  split
                  · rename_i hq; exact absurd hq hh3
                  · rfl
                have hmx : dp_maxL mj ≤ 80 := ok.2.2.1
                refine vx_runSX (n := dp_na mj) (hh := dp_hh mj) (As := as.map (dp_cv b sa)) (bytes := dp_bytes mj) (maxL := dp_maxL mj) (ret := dp_rt mj) ⟨hx, hb, hml, hown, hts⟩ (hFo _ _ _ _ _ hmj e1) ⟨⟨rfl, rfl, hRf, ?_, dp_ws_warm hts ok, by rw [← hcw]; exact List.mem_cons_self⟩, by rw [← hcw]; exact hts _ ok.2.2.2.2.1, hts _ ok.2.2.2.2.2.1, ⟨ok.2.2.2.1.1, ok.2.2.2.1.2.1⟩, fun sig hs => ?_, hts _ (hlk2 (by rw [hkind]; decide)), hts _ hst3⟩ ⟨dp_blind, fun U hU hW => hPc as U hU hW⟩ rfl (by rw [List.length_map]; exact hbl) hls hstk (lv_room (by rw [hcat]; exact hsum)) hd hfit
                · show 8 + (dp_maxL mj + 11) + (100 * d + 100) ≤ R.locals
                  omega
                · have h2 := ok.2.2.2.1.2.2
                  rw [hs] at h2
                  exact (Option.some.inj h2).symm
            · cases h
          · cases h
        · cases h
      · cases h
    · exact hXO p e R s m args below meth c H locs cc pc ls b sa G H0 md xs xl M o n0 z0 Q _ _ r st _ ix _ hx hb (hml.trans hls.symm) hts hown hK hE (by omega) (by omega) hRp hl hn0 hz0 (Or.inl ⟨rfl, rfl⟩) h hd (fun st' M' hk => hroom _ hk) (fun st' M' H' locs' hk e1 e2 q1 q2 => kk _ _ H' locs' hk e1 e2 q1 q2)
  case invokevirtual ix =>
    simp only [dp_cal] at h; split at h
    · rename_i j hlk
      split at h
      · rename_i mj hmj
        split at h
        · rename_i hkind
          split at h
          · rename_i as a rest htk
            split at h
            · rename_i htag
              split at h
              · rename_i hsum
                obtain ⟨rc, e1, hrm, hcont⟩ := hgo _ _ h
                obtain ⟨bs, hbl, hbs, rfl⟩ := dp_tk_s _ _ _ _ _ htk
                rw [List.append_nil] at hbs
                subst hbs
                have hg := hF _ _ _ rc.1 rc.2 e1
                obtain ⟨kk1, kx1⟩ := hcont hg.1 hg.2
                have ok := dp_mi_ok hmj
                have hlk2 : dp_kind mj ≠ 2 → Cond.methodLink (dp_own o) ix (dp_y mj) ∈ dp_T := fun q => (dp_lkM_ok hlk hmj).elim id (fun z => absurd z.1 q)
                obtain ⟨hi1, hi2, T9, N9, hcl9⟩ := ok.2.2.2.2.2.2.2.1 hkind
                obtain ⟨r9, hr9, cell, q1, q2, q3, -⟩ : dp_ob G b (dp_ci mj) M a H := hRp.arr htag (by omega)
                have hfit : dp_n M - n0 + (dp_n rc.2 - dp_n M) ≤ R.cells ∧ dp_z M - z0 + (dp_z rc.2 - dp_z M) ≤ R.slots := by
                  have h1 := hrm.1
                  have h2 := hrm.2
                  have h3 := hg.1
                  have h4 := hg.2
                  exact ⟨by omega, by omega⟩
                refine dp_after (rc := rc) (rest := rest) hn0 hz0 hg.1 hg.2 hl (vx_runV (b := b + a) (C := (dp_y mj).cls) (As := as.map (dp_cv b sa)) ⟨hx, hb, hml, hown, hts⟩ (hFo _ _ _ _ _ hmj e1) ⟨hCB _ _ _ rc (hlk2 (by rw [hkind]; decide)) hmj (by rw [hkind]; decide), hts _ hi1, hts _ hi2⟩ ⟨dp_blind, ⟨cell, q1, by rw [q3]; rfl, ?_⟩, fun U hU hW => hPc (.ref a :: as) U hU hW⟩ rfl (by rw [List.length_map]; exact hbl) hls ?_ (lv_room (by rw [hcat]; exact hsum)) hd hfit) kk1 kx1
                · rw [q2]; exact (hK.1.1 _ _ hcl9).2.1
                · show (as.reverse ++ .ref a :: rest).map (dp_cv b sa) = _
                  rw [List.map_append, List.map_reverse]; rfl
              · cases h
            · cases h
          · cases h
        · cases h
      · cases h
    · exact hXO p e R s m args below meth c H locs cc pc ls b sa G H0 md xs xl M o n0 z0 Q _ _ r st _ ix _ hx hb (hml.trans hls.symm) hts hown hK hE (by omega) (by omega) hRp hl hn0 hz0 (Or.inr ⟨rfl, rfl⟩) h hd (fun st' M' hk => hroom _ hk) (fun st' M' H' locs' hk e1 e2 q1 q2 => kk _ _ H' locs' hk e1 e2 q1 q2)
  case invokespecial ix =>
    simp only [dp_cal] at h; split at h
    · rename_i ho
      split at h
      · rename_i a rest
        split at h
        · rename_i hsum
          obtain ⟨w1, w2, w3⟩ := dp_lkO_ok ho
          exact W.objInit hx hb hown (hts _ w1) (hts _ w2) (hts _ w3) rfl (hls.trans hml.symm) rfl hd (by omega) (by
            rw [hcat]
            show 2 * 0 + _ + 12 ≤ _
            omega) (kk _ _ H locs h hn0 hz0 hRp hl)
        · cases h
      · cases h
    · split at h
      · rename_i j hlk
        split at h
        · rename_i mj hmj
          split at h
          · rename_i hkind
            split at h
            · rename_i as a rest htk
              split at h
              · rename_i hsum
                obtain ⟨v, M', e1, e2, -⟩ := dp_back0_f h
                obtain ⟨bs, hbl, hbs, rfl⟩ := dp_tk_s _ _ _ _ _ htk
                rw [List.append_nil] at hbs
                subst hbs
                have hg := hF _ _ _ _ _ e1
                have hrm := hroom _ e2
                have ok := dp_mi_ok hmj
                obtain ⟨hi1, hi2, hi3⟩ := ok.2.2.2.2.2.2.2.2.1 hkind
                have hrt : dp_rt mj = none := hi3
                have hstk : (F0 m pc ls ((as.reverse ++ .ref a :: rest).map (dp_cv b sa))).stack = (as.map (dp_cv b sa)).reverse ++ .ref (b + a) :: rest.map (dp_cv b sa) := by
                  show (as.reverse ++ .ref a :: rest).map (dp_cv b sa) = _
                  rw [List.map_append, List.map_reverse]; rfl
                have hfit : dp_n M - n0 + (dp_n M' - dp_n M) ≤ R.cells ∧ dp_z M - z0 + (dp_z M' - dp_z M) ≤ R.slots := by
                  have h1 := hrm.1
                  have h2 := hrm.2
                  dsimp only at h1 h2
                  exact ⟨by omega, by omega⟩
                refine dp_after (rc := (.inl v, M')) (rest := rest) (a := (Value.ref (b + a) :: as.map (dp_cv b sa)).toArray) hn0 hz0 hg.1 hg.2 hl (dp_run_of ?_) (fun v1 M1 q1 H' locs' h1 h2 => by cases q1; exact kk _ _ H' locs' e2 (by omega) (by omega) h1 h2) (fun ee M1 q1 => by cases q1)
                have hMet := dp_met_of (hFo _ _ _ _ _ hmj e1) (fun E st t q => by obtain ⟨_, q, -⟩ := q; cases q)
                rcases dp_lkM_ok hlk hmj with hl1 | ⟨-, hl1⟩
                · have hCB1 := hCB _ _ _ (.inl v, M') hl1 hmj (by rw [hkind]; decide)
                  rw [hrt] at hCB1
                  exact va_runI (b := b + a) (As := as.map (dp_cv b sa)) ⟨hx, hb, hml, hown, hts⟩ hMet ⟨hCB1, hi2, hts _ hi1⟩ ⟨dp_blind, fun U hU hW => hPc (.ref a :: as) U hU hW⟩ rfl (by rw [List.length_map]; exact hbl) hls hstk (lv_room (by rw [hcat]; exact hsum)) hd hfit
                · have hcw : dp_cw mj = .code (dp_y mj) (dp_bytes mj) (dp_maxL mj) none := by
                    have h9 : mj.2.2.2 = [] := ok.2.2.2.2.2.2.2.2.2.1 (by show dp_kind mj ≠ 3; rw [hkind]; decide)
                    unfold dp_cw
                    rw [h9, ← hrt]
                  have hmx : dp_maxL mj ≤ 80 := ok.2.2.1
                  refine va_runIN (n := dp_na mj) (maxL := dp_maxL mj) (bytes := dp_bytes mj) (host := "PortHouse") (b := b + a) (As := as.map (dp_cv b sa)) ⟨hx, hb, hml, hown, hts⟩ hMet ⟨⟨⟨rfl, rfl, hRf, ?_, dp_ws_warm hts ok, by rw [← hcw]; exact List.mem_cons_self⟩, by rw [← hcw]; exact hts _ ok.2.2.2.2.1, hts _ ok.2.2.2.2.2.1, ⟨ok.2.2.2.1.1, ok.2.2.2.1.2.1⟩, fun sig hs => ?_, va_Nw.use rfl (hK.2.2.2.2.1 _ hl1)⟩, hi2, hts _ hi1⟩ ⟨dp_blind, fun U hU hW => hPc (.ref a :: as) U hU hW⟩ rfl (by rw [List.length_map]; exact hbl) hls hstk (lv_room (by rw [hcat]; exact hsum)) hd hfit
                  · show 8 + (dp_maxL mj + 11) + (100 * d + 100) ≤ R.locals
                    omega
                  · have h2 := ok.2.2.2.1.2.2
                    rw [hs] at h2
                    exact (Option.some.inj h2).symm
              · cases h
            · cases h
          · cases h
        · cases h
      · cases h
end DPsound
